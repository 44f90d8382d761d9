section
/-! THE CLAIM OUT OF ONE WALK OF THE LAW'S BODY. Your part is whole_start (and what it stands on); all else here is the same for every law, but numbers. -/
def R_law : String := "PepperPolicyLaw"
def lw_P (b : Addr) (xs : List Int32) (args : Array Value) (s : State) : Prop := args = #[.ref b] ∧ s.IntsAt b xs ∧ xs.length ≤ 3072 ∧ (Jvm.Cond.and given_1 narrow_1).before args s = true
def lw_Q (_ : Array Value) (s : State) (o : Outcome) (t : State) : Prop := o = .returned (some (.int 1)) ∧ Framed s o t [] 600000 7302250
def lw_Z (below : List Frame) (a : Array Value) (s : State) : State → Prop := fun t => ∃ o, t.status = .running ∧ Ended t below o ∧ lw_Q a s o t
/-- the law's own end, with 1 on the stack, nothing written that was there before, its room as the claim has it -/
theorem lw_ret {p : Program} {l : Launch} {e : Env} {s : State} {m : MethodId} {below : List Frame} {meth : Method} {c : Code} {b : Nat} (hx : p.tables.exec = Jvm.exec) (hb : c.code = code) (hr : meth.sig.returnType = ret) (hlocks : meth.locks = false) {pc : Nat} {H : Heap} {ls : Array Slot} (hdg : decode code pc = .ok (.ireturn, 1)) : W p l e room_1 s m #[Value.ref b] below meth c H [] 600000 7302250 (lw_Z below #[Value.ref b] s) (F0 m pc ls [.int 1]) := by
  intro T hT X
  obtain ⟨fs, hret, hrun, hended, hW, hframe⟩ := X.leave (v := some (.int 1)) (hlocks := hlocks) (fun h => by rw [hr] at h; cases h)
  have hmeth' : T.vm.method? m = some meth := X.method'
  refine ⟨T.setFrames fs, ?_, .returned (some (.int 1)), hrun, hended, rfl, ⟨_, rfl⟩, hW, hframe⟩
  jvm_step X.here [X.here.top, hx, hb, hdg, hmeth', hr, ret, narrow_b1]
  (try refine ⟨rfl, ?_⟩); (try refine ⟨rfl, ?_⟩)
  first | (intro acts; rw [hret _ acts rfl rfl rfl]) | rw [hret _ _ rfl rfl rfl]
  exact Steps.refl _
/-- what holds at the law's entry: the machine, the code, the tables' words (any of lw_tbl by 'hts w (by decide +kernel)'), the script of L ints xs at the cell b, what the Statement gives of the start (any of its parts by flat_of_before) -/
def lw_At (p : Program) (s : State) (m : MethodId) (meth : Method) (c : Code) (b L : Nat) (xs : Nat → Int32) : Prop :=
  p.tables.exec = Jvm.exec ∧ c.code = code ∧ meth.sig.returnType = ret ∧ c.maxLocals = 4 ∧ s.vm.findClass R_law = some m.cls ∧ (∀ w ∈ lw_tbl, w.before #[Value.ref b] s = true) ∧ va_X b L xs s s.heap ∧ b < s.heap.size ∧ meth.locks = false ∧ (Jvm.Cond.and given_1 narrow_1).before #[Value.ref b] s = true
section LW
variable {p : Program} {l : Launch} {e : Env} {R : Room} {s : State} {m : MethodId} {args : Array Value} {below : List Frame} {meth : Method} {c : Code} {H : Heap} {cells slots : Nat} {Q : State → Prop}
variable {cc : ByteArray} {pc nL : Nat} {ls : Array Slot} {own : String} {ret : Option FieldType} {D : va_G} {ct : Nat → ClassId} {adX adY : Nat → Nat} {layX layY : List sn_E} {AX AY : Nat → Prop} {σ τ : sn_S}
/-- a call from the law: the one world goes on, the other stays -/
theorem lw_call {index mL n q ci : Nat} {y : MethodName} {cy : ByteArray} {ry : Option FieldType} {rm : Room} {As : (Nat → Nat) → List Value} {v : Option ((Nat → Nat) → Value)} {σ' : sn_S} {st0 : List Value} {fs : List Nat} {kT : u_T} {kN : Nat} (rest : List Value)
    (C : sn_C p s m args meth c own cc nL ret D ct adX layX AX) (hX : ∀ q, AX q → s.heap.size ≤ q) (hdis : ∀ q, AY q → ¬ AX q) (hDY : ∀ σ, va_D AY (sn_W ct adY σ 0 layY)) (h : sn_H s D ct adX layX AX σ H []) (h2 : sn_H s D ct adY layY AY τ H [])
    (hM : sn_M l y cy mL ry rm layX (fun ad => .ref (ad q) :: As ad) σ v σ') (L : sn_LV own index y cy mL ry n) (hq : layX[q]? = some (.inr (ci, fs))) (hc : vwCl[ci]? = some (y.cls, kT, kN)) (hR : sn_fit rm R mL = true) (hn : (As adX).length = n)
    (hst : st0 = (As adX).reverse ++ .ref (adX q) :: rest) (hsum : sn_sum rest ≤ 8) (hd : decode cc pc = .ok (.invokevirtual index, 3)) (hls : ls.size = nL) (hce : cells ≤ R.cells) (hsl : slots ≤ R.slots)
    (kk : ∀ (H : Heap), sn_H s D ct adX layX AX σ' H [] → sn_H s D ct adY layY AY τ H [] → W p l e R s m args below meth c H [] cells slots Q (F0 m (pc + 3) ls ((v.map fun f => f adX).toList ++ rest))) : W p l e R s m args below meth c H [] cells slots Q (F0 m pc ls st0) := by
  obtain ⟨hfit, hc0, hs0⟩ := sn_fit_spec hR
  have C' := C
  obtain ⟨hx, hb, hml, hown, hts, hr, hlk, hK, hD, hG⟩ := C
  have hg := sn_W_get (ct := ct) (ad := adX) (σ := σ) 0 hq
  rw [Nat.zero_add] at hg
  have hrun := va_runV (meth := meth) (l := l) (e := e) (R := R) (below := below) (H := H) (locs := []) (cells := cells) (slots := slots) (g := F0 m pc ls st0) (Ts := sn_gw) (As := As adX) (rest := rest) (n := n) ⟨hx, hb, hml, hown, hts⟩ (hM D ct adX AX) (cwV n hts (sn_good L.1) rfl hc0 hs0 ⟨rfl, L.2⟩ hfit) ⟨(sn_pre C' h _).1, va_recv hK h.1 hc hg, (sn_pre C' h _).2⟩ rfl hn hls hst (lv_room hsum) hd ⟨hce, hsl⟩
  intro T hT X
  obtain ⟨v', st₀, t, T', Lo, h0, X', hL, e1, e2, ⟨hv, hP, hz, hk⟩, st⟩ := hrun T hT X
  cases hv
  rw [h0] at hz hk
  have hold : ∀ x, x < s.heap.size → t.heap[x]? = s.heap[x]? := fun x hx1 => by
    rw [hk x (Nat.lt_of_lt_of_le hx1 h.2.1) (fun z => absurd (hX x z) (by omega))]
    exact h.2.2.1 x hx1 (fun z => absurd (hX x z) (by omega))
  have hsz : s.heap.size ≤ T'.heap.size := Nat.le_trans h.2.1 (by rw [e1]; exact hz)
  obtain ⟨t2, a1, b1⟩ := kk T'.heap ⟨by rw [e1]; exact hP, hsz, fun x h1 _ => by rw [e1]; exact hold x h1, fun x hx1 => by cases hx1⟩
    ⟨by rw [e1]; exact h2.1.kept (fun k x hx1 => hk x.1 ((h2.1 k x hx1).lt) (hdis _ ((hDY τ).2 k x hx1))), hsz, fun x h1 _ => by rw [e1]; exact hold x h1, fun x hx1 => by cases hx1⟩ T' rfl (Stand.forget (locs := []) X' (fun x hx1 => hX _ (hL x hx1)))
  exact ⟨t2, st t2 a1, b1⟩
end LW
def lw_C (p : Program) (s : State) (m : MethodId) (args : Array Value) (meth : Method) (c : Code) (b L : Nat) (xs : Nat → Int32) (D : va_G) (ct : Nat → ClassId) (adC adM : Nat → Nat) (AC AM : Nat → Prop) : Prop :=
  sn_C p s m args meth c RL cL_law 4 (some .boolean) D ct adC layC AC ∧ sn_C p s m args meth c RL cL_law 4 (some .boolean) D ct adM layM AM ∧ (∀ q, AC q → s.heap.size ≤ q) ∧ (∀ q, AM q → s.heap.size ≤ q) ∧ (∀ q, AC q → ¬ AM q) ∧ va_X b L xs s s.heap ∧ b < s.heap.size
def lw_LAt (p : Program) (l : Launch) (e : Env) (s : State) (m : MethodId) (args : Array Value) (below : List Frame) (meth : Method) (c : Code) (Q : State → Prop) (D : va_G) (ct : Nat → ClassId) (adC adM : Nat → Nat) (AC AM : Nat → Prop) (σ τ : sn_S) (pc : Nat) (lv : List (Nat × Value)) (st : List Value) : Prop :=
  ∀ (H : Heap) (ls : Array Slot), sn_H s D ct adC layC AC σ H [] → sn_H s D ct adM layM AM τ H [] → lv_has ls 4 lv → W p l e room_1 s m args below meth c H [] 600000 7302250 Q (F0 m pc ls st)
theorem lw_cmp0 (r : Int64) : lg_cmp r r = 0 := by
  unfold lg_cmp
  simp
def st_0 (J J2 : sn_S → sn_S → Prop) : Prop := ∀ (σ τ : sn_S) (a0 : Int32) (a1 : Int32) (a2 : Int32) (a3 : Int32) (a4 : Int32), J σ τ → ∃ (r r2 : Int32) (σ1 : sn_S) (τ1 : sn_S), fX8_feed σ a0 a1 a2 a3 a4 = some (r, σ1) ∧ fX9_feed τ a0 a1 a2 a3 a4 = some (r2, τ1) ∧ J2 σ1 τ1
def st_1 (J J2 : sn_S → sn_S → Prop) : Prop := ∀ (σ τ : sn_S) (a0 : Int32), J σ τ → ∃ (r r2 : Int32) (σ1 : sn_S) (τ1 : sn_S), fX8_end σ a0 = some (r, σ1) ∧ fX9_end τ a0 = some (r2, τ1) ∧ J2 σ1 τ1
def st_2 (J J2 : sn_S → sn_S → Prop) : Prop := ∀ (σ τ : sn_S), J σ τ → ∃ (r r2 : Int32) (σ1 : sn_S) (τ1 : sn_S), fX8_house σ = some (r, σ1) ∧ fX9_house τ = some (r2, τ1) ∧ J2 σ1 τ1
def st_3 (J J2 : sn_S → sn_S → Prop) : Prop := ∀ (σ τ : sn_S) (a0 : Int32), J σ τ → ∃ (r r2 : Int32), fX8_fault σ a0 = some r ∧ fX9_fault τ a0 = some r2 ∧ J2 σ τ
def st_4 (J J2 : sn_S → sn_S → Prop) : Prop := ∀ (σ τ : sn_S) (a0 : Int32) (a1 : Int32), J σ τ → ∃ (r r2 : Int32), fX8_nose σ a0 a1 = some r ∧ fX9_nose τ a0 a1 = some r2 ∧ J2 σ τ
def st_5 (J J2 : sn_S → sn_S → Prop) : Prop := ∀ (σ τ : sn_S) (a0 : Int32) (a1 : Int32), J σ τ → ∃ (r r2 : Int32), fX8_policy σ a0 a1 = some r ∧ fX9_policy τ a0 a1 = some r2 ∧ J2 σ τ
def st_6 (J J2 : sn_S → sn_S → Prop) : Prop := ∀ (σ τ : sn_S) (a0 : Int32), J σ τ → ∃ (r r2 : Int32) (τ1 : sn_S), fX8_beside σ a0 = some r ∧ fX9_beside τ a0 = some (r2, τ1) ∧ J2 σ τ1
def st_7 (J J2 : sn_S → sn_S → Prop) : Prop := ∀ (σ τ : sn_S) (a0 : Int32), J σ τ → ∃ (r r2 : Int32) (τ1 : sn_S), fX8_dust σ a0 = some r ∧ fX9_dust τ a0 = some (r2, τ1) ∧ J2 σ τ1
def st_8 (J J2 : sn_S → sn_S → Prop) : Prop := ∀ (σ τ : sn_S) (a0 : Int32), J σ τ → ∃ (r r2 : Int32) (τ1 : sn_S), fX8_sneezes σ a0 = some r ∧ fX9_sneezes τ a0 = some (r2, τ1) ∧ J2 σ τ1
def st_9 (J J2 : sn_S → sn_S → Prop) : Prop := ∀ (σ τ : sn_S) (a0 : Int32), J σ τ → ∃ (r r2 : Int32) (τ1 : sn_S), fX8_first σ a0 = some r ∧ fX9_first τ a0 = some (r2, τ1) ∧ J2 σ τ1
def st_10 (J J2 : sn_S → sn_S → Prop) : Prop := ∀ (σ τ : sn_S), J σ τ → ∃ (r r2 : Int32) (τ1 : sn_S), fX8_all σ = some r ∧ fX9_all τ = some (r2, τ1) ∧ J2 σ τ1
def st_11 (J J2 : sn_S → sn_S → Prop) : Prop := ∀ (σ τ : sn_S) (a0 : Int32), J σ τ → ∃ (r r2 : Int32) (τ1 : sn_S), fX8_who σ a0 = some r ∧ fX9_who τ a0 = some (r2, τ1) ∧ J2 σ τ1
def st_12 (J J2 : sn_S → sn_S → Prop) : Prop := ∀ (σ τ : sn_S) (a0 : Int32) (a1 : Int32), J σ τ → ∃ (r r2 : Int32) (τ1 : sn_S), fX8_tickle σ a0 a1 = some r ∧ fX9_tickle τ a0 a1 = some (r2, τ1) ∧ J2 σ τ1
def st_13 (J J2 : sn_S → sn_S → Prop) : Prop := ∀ (σ τ : sn_S) (a0 : Int32), J σ τ → ∃ (r r2 : Int32) (τ1 : sn_S), fX8_itch σ a0 = some r ∧ fX9_itch τ a0 = some (r2, τ1) ∧ J2 σ τ1
def st_14 (J J2 : sn_S → sn_S → Prop) : Prop := ∀ (σ τ : sn_S) (a0 : Int32), J σ τ → ∃ (r r2 : Int32) (τ1 : sn_S), fX8_caught σ a0 = some r ∧ fX9_caught τ a0 = some (r2, τ1) ∧ J2 σ τ1
def st_15 (J J2 : sn_S → sn_S → Prop) : Prop := ∀ (σ τ : sn_S) (a0 : Int32), J σ τ → ∃ (r r2 : Int32) (τ1 : sn_S), fX8_gave σ a0 = some r ∧ fX9_gave τ a0 = some (r2, τ1) ∧ J2 σ τ1
def st_16 (J J2 : sn_S → sn_S → Prop) : Prop := ∀ (σ τ : sn_S), J σ τ → ∃ (r r2 : Int32) (τ1 : sn_S), fX8_worst σ = some r ∧ fX9_worst τ = some (r2, τ1) ∧ J2 σ τ1
def st_17 (J J2 : sn_S → sn_S → Prop) : Prop := ∀ (σ τ : sn_S), J σ τ → ∃ (r r2 : Int32) (τ1 : sn_S), fX8_chorus σ = some r ∧ fX9_chorus τ = some (r2, τ1) ∧ J2 σ τ1
def st_18 (J J2 : sn_S → sn_S → Prop) : Prop := ∀ (σ τ : sn_S), J σ τ → ∃ (r r2 : Int32) (τ1 : sn_S), fX8_calm σ = some r ∧ fX9_calm τ = some (r2, τ1) ∧ J2 σ τ1
def st_19 (J J2 : sn_S → sn_S → Prop) : Prop := ∀ (σ τ : sn_S) (a0 : Int32), J σ τ → ∃ (r r2 : Int32) (τ1 : sn_S), fX8_pause σ a0 = some r ∧ fX9_pause τ a0 = some (r2, τ1) ∧ J2 σ τ1
def st_20 (J J2 : sn_S → sn_S → Prop) : Prop := ∀ (σ τ : sn_S) (a0 : Int32) (a1 : Int32), J σ τ → ∃ (r r2 : Int32) (τ1 : sn_S), fX8_later σ a0 a1 = some r ∧ fX9_later τ a0 a1 = some (r2, τ1) ∧ J2 σ τ1
def st_21 (J J2 : sn_S → sn_S → Prop) : Prop := ∀ (σ τ : sn_S) (a0 : Int32), J σ τ → ∃ (r r2 : Int32) (τ1 : sn_S), fX8_covered σ a0 = some r ∧ fX9_covered τ a0 = some (r2, τ1) ∧ J2 σ τ1
def st_22 (J J2 : sn_S → sn_S → Prop) : Prop := ∀ (σ τ : sn_S), J σ τ → ∃ (r r2 : Int32) (τ1 : sn_S), fX8_naked σ = some r ∧ fX9_naked τ = some (r2, τ1) ∧ J2 σ τ1
def st_23 (J J2 : sn_S → sn_S → Prop) : Prop := ∀ (σ τ : sn_S) (a0 : Int32), J σ τ → ∃ (r r2 : Int32) (τ1 : sn_S), fX8_covers σ a0 = some r ∧ fX9_covers τ a0 = some (r2, τ1) ∧ J2 σ τ1
def st_24 (J J2 : sn_S → sn_S → Prop) : Prop := ∀ (σ τ : sn_S) (a0 : Int32), J σ τ → ∃ (r r2 : Int32) (σ1 : sn_S) (τ1 : sn_S), fX8_profit σ a0 = some (r, σ1) ∧ fX9_profit τ a0 = some (r2, τ1) ∧ J2 σ1 τ1
def st_25 (J J2 : sn_S → sn_S → Prop) : Prop := ∀ (σ τ : sn_S), J σ τ → ∃ (r r2 : Int32) (σ1 : sn_S) (τ1 : sn_S), fX8_lowest σ = some (r, σ1) ∧ fX9_lowest τ = some (r2, τ1) ∧ J2 σ1 τ1
def st_26 (J J2 : sn_S → sn_S → Prop) : Prop := ∀ (σ τ : sn_S) (a0 : Int32), J σ τ → ∃ (r r2 : Int32) (σ1 : sn_S) (τ1 : sn_S), fX8_dull σ a0 = some (r, σ1) ∧ fX9_dull τ a0 = some (r2, τ1) ∧ J2 σ1 τ1
def st_27 (J J2 : sn_S → sn_S → Prop) : Prop := ∀ (σ τ : sn_S) (a0 : Int32), J σ τ → ∃ (r r2 : Int32) (σ1 : sn_S) (τ1 : sn_S), fX8_bears σ a0 = some (r, σ1) ∧ fX9_bears τ a0 = some (r2, τ1) ∧ J2 σ1 τ1
def st_28 (J J2 : sn_S → sn_S → Prop) : Prop := ∀ (σ τ : sn_S), J σ τ → ∃ (r r2 : Int32) (σ1 : sn_S) (τ1 : sn_S), fX8_clean σ = some (r, σ1) ∧ fX9_clean τ = some (r2, τ1) ∧ J2 σ1 τ1
def st_29 (J J2 : sn_S → sn_S → Prop) : Prop := ∀ (σ τ : sn_S) (a0 : Int32), J σ τ → ∃ (r r2 : Int32) (σ1 : sn_S) (τ1 : sn_S), fX8_spreads σ a0 = some (r, σ1) ∧ fX9_spreads τ a0 = some (r2, τ1) ∧ J2 σ1 τ1
def st_30 (J J2 : sn_S → sn_S → Prop) : Prop := ∀ (σ τ : sn_S) (a0 : Int32), J σ τ → ∃ (r r2 : Int32) (τ1 : sn_S), fX8_web σ a0 = some r ∧ fX9_web τ a0 = some (r2, τ1) ∧ J2 σ τ1
def st_31 (J J2 : sn_S → sn_S → Prop) : Prop := ∀ (σ τ : sn_S) (a0 : Int32), J σ τ → ∃ (r r2 : Int32) (σ1 : sn_S) (τ1 : sn_S), fX8_claim σ a0 = some (r, σ1) ∧ fX9_claim τ a0 = some (r2, τ1) ∧ J2 σ1 τ1
def st_32 (J J2 : sn_S → sn_S → Prop) : Prop := ∀ (σ τ : sn_S) (a0 : Int32), J σ τ → ∃ (r r2 : Int32) (σ1 : sn_S) (τ1 : sn_S), fX8_paid σ a0 = some (r, σ1) ∧ fX9_paid τ a0 = some (r2, τ1) ∧ J2 σ1 τ1
def st_33 (J J2 : sn_S → sn_S → Prop) : Prop := ∀ (σ τ : sn_S), J σ τ → ∃ (r r2 : Int32) (σ1 : sn_S) (τ1 : sn_S), fX8_claims σ = some (r, σ1) ∧ fX9_claims τ = some (r2, τ1) ∧ J2 σ1 τ1
def st_34 (J J2 : sn_S → sn_S → Prop) : Prop := ∀ (σ τ : sn_S) (a0 : Int32), J σ τ → ∃ (r r2 : Int32) (σ1 : sn_S) (τ1 : sn_S), fX8_money σ a0 = some (r, σ1) ∧ fX9_money τ a0 = some (r2, τ1) ∧ J2 σ1 τ1
def st_35 (J J2 : sn_S → sn_S → Prop) : Prop := ∀ (σ τ : sn_S), J σ τ → ∃ (r r2 : Int32) (σ1 : sn_S) (τ1 : sn_S), fX8_ruin σ = some (r, σ1) ∧ fX9_ruin τ = some (r2, τ1) ∧ J2 σ1 τ1
def st_36 (J J2 : sn_S → sn_S → Prop) : Prop := ∀ (σ τ : sn_S), J σ τ → ∃ (r r2 : Int32) (σ1 : sn_S) (τ1 : sn_S), fX8_dear σ = some (r, σ1) ∧ fX9_dear τ = some (r2, τ1) ∧ J2 σ1 τ1
def st_37 (J J2 : sn_S → sn_S → Prop) : Prop := ∀ (σ τ : sn_S), J σ τ → ∃ (r r2 : Int32) (σ1 : sn_S) (τ1 : sn_S), fX8_reserve σ = some (r, σ1) ∧ fX9_reserve τ = some (r2, τ1) ∧ J2 σ1 τ1
def st_38 (J J2 : sn_S → sn_S → Prop) : Prop := ∀ (σ τ : sn_S) (a0 : Int32), J σ τ → ∃ (r r2 : Int32) (σ1 : sn_S) (τ1 : sn_S), fX8_by σ a0 = some (r, σ1) ∧ fX9_by τ a0 = some (r2, τ1) ∧ J2 σ1 τ1
def st_39 (J J2 : sn_S → sn_S → Prop) : Prop := ∀ (σ τ : sn_S), J σ τ → ∃ (r r2 : Int32) (σ1 : sn_S) (τ1 : sn_S), fX8_law σ = some (r, σ1) ∧ fX9_law τ = some (r2, τ1) ∧ J2 σ1 τ1
def st_40 (J J2 : sn_S → sn_S → Prop) : Prop := ∀ (σ τ : sn_S) (a0 : Int32), J σ τ → ∃ (r r2 : Int32) (τ1 : sn_S), fX8_takes σ a0 = some r ∧ fX9_takes_ τ a0 = some (r2, τ1) ∧ J2 σ τ1
def st_41 (J J2 : sn_S → sn_S → Prop) : Prop := ∀ (σ τ : sn_S) (a0 : Int32), J σ τ → ∃ (r r2 : Int32) (τ1 : sn_S), fX8_gains σ a0 = some r ∧ fX9_gains τ a0 = some (r2, τ1) ∧ J2 σ τ1
def st_42 (J J2 : sn_S → sn_S → Prop) : Prop := ∀ (σ τ : sn_S) (a0 : Int32), J σ τ → ∃ (r r2 : Int32) (τ1 : sn_S), fX8_price σ a0 = some r ∧ fX9_price τ a0 = some (r2, τ1) ∧ J2 σ τ1
def st_43 (J J2 : sn_S → sn_S → Prop) : Prop := ∀ (σ τ : sn_S) (a0 : Int32), J σ τ → ∃ (r r2 : Int32) (σ1 : sn_S) (τ1 : sn_S), fX8_hold σ a0 = some (r, σ1) ∧ fX9_hold τ a0 = some (r2, τ1) ∧ J2 σ1 τ1
def st_44 (J J2 : sn_S → sn_S → Prop) : Prop := ∀ (σ τ : sn_S) (a0 : Int32), J σ τ → ∃ (r r2 : Int32) (σ1 : sn_S) (τ1 : sn_S), fX8_holds σ a0 = some (r, σ1) ∧ fX9_holds τ a0 = some (r2, τ1) ∧ J2 σ1 τ1
def st_45 (J J2 : sn_S → sn_S → Prop) : Prop := ∀ (σ τ : sn_S) (a0 : Int32), J σ τ → ∃ (r r2 : Int32) (σ1 : sn_S) (τ1 : sn_S), fX8_snuff σ a0 = some (r, σ1) ∧ fX9_snuff τ a0 = some (r2, τ1) ∧ J2 σ1 τ1
def st_46 (J J2 : sn_S → sn_S → Prop) : Prop := ∀ (σ τ : sn_S) (a0 : Int32), J σ τ → ∃ (r r2 : Int32) (σ1 : sn_S) (τ1 : sn_S), fX8_frauds σ a0 = some (r, σ1) ∧ fX9_frauds τ a0 = some (r2, τ1) ∧ J2 σ1 τ1
def st_47 (J J2 : sn_S → sn_S → Prop) : Prop := ∀ (σ τ : sn_S) (a0 : Int32), J σ τ → ∃ (r r2 : Int32) (σ1 : sn_S) (τ1 : sn_S), fX8_which σ a0 = some (r, σ1) ∧ fX9_which τ a0 = some (r2, τ1) ∧ J2 σ1 τ1
def st_48 (J J2 : sn_S → sn_S → Prop) : Prop := ∀ (σ τ : sn_S) (a0 : Int32), J σ τ → ∃ (r r2 : Int32) (σ1 : sn_S) (τ1 : sn_S), fX8_when σ a0 = some (r, σ1) ∧ fX9_when τ a0 = some (r2, τ1) ∧ J2 σ1 τ1
def st_49 (J J2 : sn_S → sn_S → Prop) : Prop := ∀ (σ τ : sn_S) (a0 : Int32), J σ τ → ∃ (r r2 : Int32) (σ1 : sn_S) (τ1 : sn_S), fX8_gust σ a0 = some (r, σ1) ∧ fX9_gust τ a0 = some (r2, τ1) ∧ J2 σ1 τ1
def st_50 (J J2 : sn_S → sn_S → Prop) : Prop := ∀ (σ τ : sn_S) (a0 : Int32), J σ τ → ∃ (r r2 : Int32) (σ1 : sn_S) (τ1 : sn_S), fX8_ask σ a0 = some (r, σ1) ∧ fX9_ask τ a0 = some (r2, τ1) ∧ J2 σ1 τ1
def st_51 (J J2 : sn_S → sn_S → Prop) : Prop := ∀ (σ τ : sn_S) (a0 : Int32), J σ τ → ∃ (r r2 : Int32) (σ1 : sn_S) (τ1 : sn_S), fX8_leaves σ a0 = some (r, σ1) ∧ fX9_leaves τ a0 = some (r2, τ1) ∧ J2 σ1 τ1
def st_52 (J J2 : sn_S → sn_S → Prop) : Prop := ∀ (σ τ : sn_S) (a0 : Int32) (a1 : Int32), J σ τ → ∃ (r r2 : Int32) (σ1 : sn_S) (τ1 : sn_S), fX8_rests σ a0 a1 = some (r, σ1) ∧ fX9_rests τ a0 a1 = some (r2, τ1) ∧ J2 σ1 τ1
def st_53 (J J2 : sn_S → sn_S → Prop) : Prop := ∀ (σ τ : sn_S) (a0 : Int32) (a1 : Int32) (a2 : Int32) (a3 : Int32), J σ τ → ∃ (r r2 : Int32) (σ1 : sn_S) (τ1 : sn_S), fX8_loses σ a0 a1 a2 a3 = some (r, σ1) ∧ fX9_loses τ a0 a1 a2 a3 = some (r2, τ1) ∧ J2 σ1 τ1
def st_54 (J J2 : sn_S → sn_S → Prop) : Prop := ∀ (σ τ : sn_S) (a0 : Int32), J σ τ → ∃ (r r2 : Int32) (σ1 : sn_S) (τ1 : sn_S), fX8_cut σ a0 = some (r, σ1) ∧ fX9_cut τ a0 = some (r2, τ1) ∧ J2 σ1 τ1
def st_55 (J J2 : sn_S → sn_S → Prop) : Prop := ∀ (σ τ : sn_S), J σ τ → ∃ (r r2 : Int32) (σ1 : sn_S) (τ1 : sn_S), fX8_cuts σ = some (r, σ1) ∧ fX9_cuts τ = some (r2, τ1) ∧ J2 σ1 τ1
def st_56 (J J2 : sn_S → sn_S → Prop) : Prop := ∀ (σ τ : sn_S) (a0 : Int32) (a1 : Int32) (a2 : Int32), J σ τ → ∃ (r r2 : Int64) (σ1 : sn_S) (τ1 : sn_S), fX8_chance σ a0 a1 a2 = some (r, σ1) ∧ fX9_chance τ a0 a1 a2 = some (r2, τ1) ∧ J2 σ1 τ1
def st_57 (J J2 : sn_S → sn_S → Prop) : Prop := ∀ (σ τ : sn_S) (a0 : Int32) (a1 : Int32) (a2 : Int32), J σ τ → ∃ (r r2 : Int64) (σ1 : sn_S) (τ1 : sn_S), fX8_fair σ a0 a1 a2 = some (r, σ1) ∧ fX9_fair τ a0 a1 a2 = some (r2, τ1) ∧ J2 σ1 τ1
def st_58 (J J2 : sn_S → sn_S → Prop) : Prop := ∀ (σ τ : sn_S) (a0 : Int32) (a1 : Int32), J σ τ → ∃ (r r2 : Int64) (σ1 : sn_S) (τ1 : sn_S), fX8_risk σ a0 a1 = some (r, σ1) ∧ fX9_risk τ a0 a1 = some (r2, τ1) ∧ J2 σ1 τ1
def st_59 (J J2 : sn_S → sn_S → Prop) : Prop := ∀ (σ τ : sn_S) (a0 : Int32) (a1 : Int32), J σ τ → ∃ (r r2 : Int32) (σ1 : sn_S) (τ1 : sn_S), fX8_stifle σ a0 a1 = some (r, σ1) ∧ fX9_stifle τ a0 a1 = some (r2, τ1) ∧ J2 σ1 τ1
def st_60 (J J2 : sn_S → sn_S → Prop) : Prop := ∀ (σ τ : sn_S) (a0 : Int32) (a1 : Int32), J σ τ → ∃ (r r2 : Int32) (σ1 : sn_S) (τ1 : sn_S), fX8_sniff σ a0 a1 = some (r, σ1) ∧ fX9_sniff τ a0 a1 = some (r2, τ1) ∧ J2 σ1 τ1
def st_61 (J J2 : sn_S → sn_S → Prop) : Prop := ∀ (σ τ : sn_S), J σ τ → ∃ (r r2 : Int32) (σ1 : sn_S) (τ1 : sn_S), fX8_undo σ = some (r, σ1) ∧ fX9_undo τ = some (r2, τ1) ∧ J2 σ1 τ1
def st_62 (J J2 : sn_S → sn_S → Prop) : Prop := ∀ (σ τ : sn_S), J σ τ → ∃ (r r2 : Int32) (σ1 : sn_S) (τ1 : sn_S), fX8_anew σ = some (r, σ1) ∧ fX9_anew τ = some (r2, τ1) ∧ J2 σ1 τ1
def st_63 (J J2 : sn_S → sn_S → Prop) : Prop := ∀ (σ τ : sn_S) (a0 : Int32) (a1 : Int32), J σ τ → ∃ (r r2 : Int32) (σ1 : sn_S) (τ1 : sn_S), fX8_drawn σ a0 a1 = some (r, σ1) ∧ fX9_drawn τ a0 a1 = some (r2, τ1) ∧ J2 σ1 τ1
def st_64 (J J2 : sn_S → sn_S → Prop) : Prop := ∀ (σ τ : sn_S) (a0 : Int32) (a1 : Int32) (a2 : Int32), J σ τ → ∃ (r r2 : Int32) (σ1 : sn_S) (τ1 : sn_S), fX8_luck σ a0 a1 a2 = some (r, σ1) ∧ fX9_luck τ a0 a1 a2 = some (r2, τ1) ∧ J2 σ1 τ1
def st_65 (J J2 : sn_S → sn_S → Prop) : Prop := ∀ (σ τ : sn_S) (a0 : Int32) (a1 : Int32), J σ τ → ∃ (r r2 : Int32) (σ1 : sn_S) (τ1 : sn_S), fX8_rate σ a0 a1 = some (r, σ1) ∧ fX9_rate τ a0 a1 = some (r2, τ1) ∧ J2 σ1 τ1
def st_66 (J J2 : sn_S → sn_S → Prop) : Prop := ∀ (σ τ : sn_S) (a0 : Int32), J σ τ → ∃ (r r2 : Int32), fX8_count σ a0 = some r ∧ fX9_count τ a0 = some r2 ∧ J2 σ τ
def st_67 (J J2 : sn_S → sn_S → Prop) : Prop := ∀ (σ τ : sn_S) (a0 : Int32), J σ τ → ∃ (r r2 : Int32) (σ1 : sn_S) (τ1 : sn_S), fX8_image σ a0 = some (r, σ1) ∧ fX9_image τ a0 = some (r2, τ1) ∧ J2 σ1 τ1
def st_68 (J J2 : sn_S → sn_S → Prop) : Prop := ∀ (σ τ : sn_S) (a0 : Int32), J σ τ → ∃ (r r2 : Int32) (σ1 : sn_S) (τ1 : sn_S), fX8_back σ a0 = some (r, σ1) ∧ fX9_back τ a0 = some (r2, τ1) ∧ J2 σ1 τ1
def st_69 (J J2 : sn_S → sn_S → Prop) : Prop := ∀ (σ τ : sn_S) (a0 : Int32) (a1 : Int32) (a2 : Int32), J σ τ → ∃ (r r2 : Int32) (σ1 : sn_S) (τ1 : sn_S), fX8_row σ a0 a1 a2 = some (r, σ1) ∧ fX9_row τ a0 a1 a2 = some (r2, τ1) ∧ J2 σ1 τ1
def st_70 (J J2 : sn_S → sn_S → Prop) : Prop := ∀ (σ τ : sn_S) (a0 : Int32) (a1 : Int32) (a2 : Int64), J σ τ → ∃ (r r2 : Int32) (σ1 : sn_S) (τ1 : sn_S), fX8_write σ a0 a1 a2 = some (r, σ1) ∧ fX9_write τ a0 a1 a2 = some (r2, τ1) ∧ J2 σ1 τ1
def st_71 (J J2 : sn_S → sn_S → Prop) : Prop := ∀ (σ τ : sn_S) (a0 : Int32) (a1 : Int32) (a2 : Int32) (a3 : Int32) (a4 : Int32), J σ τ → ∃ (r : Int32) (σ1 : sn_S) (τ1 : sn_S), fX8_paste σ a0 a1 a2 a3 a4 = some (r, σ1) ∧ fX9_paste τ a0 a1 a2 a3 a4 = some (r, τ1) ∧ J2 σ1 τ1
section
variable {p : Program} {l : Launch} {e : Env} {s : State} {m : MethodId} {args : Array Value} {below : List Frame} {meth : Method} {c : Code} {Q : State → Prop} {D : va_G} {ct : Nat → ClassId} {adC adM : Nat → Nat} {AC AM : Nat → Prop} {b L : Nat} {xs : Nat → Int32}
theorem lw_case_0 (C : lw_C p s m args meth c b L xs D ct adC adM AC AM) {J J2 : sn_S → sn_S → Prop} (hs : st_0 J J2) {σ τ : sn_S} (hJ : J σ τ) {i : Int32} (g1 : vp_in (i + 1) L) (g2 : vp_in (i + 2) L) (g3 : vp_in (i + 3) L) (g4 : vp_in (i + 4) L) (g5 : vp_in (i + 5) L) (kk : ∀ σ τ, J2 σ τ → lw_LAt p l e s m args below meth c Q D ct adC adM AC AM σ τ 2172 [(0, .ref b), (1, .ref (adC 0)), (2, .ref (adM 0)), (3, .int i)] []) : lw_LAt p l e s m args below meth c Q D ct adC adM AC AM σ τ 336 [(0, .ref b), (1, .ref (adC 0)), (2, .ref (adM 0)), (3, .int i)] [] := by
  intro H ls hC hM hl
  have hx := C.1.1
  have hb := C.1.2.1
  have hX := C.2.2.2.2.2.1
  have hbl := C.2.2.2.2.2.2
  have hbA : ¬ AC b := fun z => absurd (C.2.2.1 b z) (by omega)
  refine lv_aload_n hx hb dL_law_336 rfl (lv_at hl 1 rfl) ?_
  refine lv_aload_n hx hb dL_law_337 rfl (lv_at hl 0 rfl) ?_
  refine lv_iload_n hx hb dL_law_338 rfl (lv_at hl 3 rfl) ?_
  refine lv_iconst (v := 1) hx hb dL_law_339 rfl ?_
  refine lv_iadd hx hb dL_law_340 ?_
  refine va_sld hx hb hX hbl hbA hC.2 g1 dL_law_341 ?_
  refine lv_aload_n hx hb dL_law_342 rfl (lv_at hl 0 rfl) ?_
  refine lv_iload_n hx hb dL_law_343 rfl (lv_at hl 3 rfl) ?_
  refine lv_iconst (v := 2) hx hb dL_law_344 rfl ?_
  refine lv_iadd hx hb dL_law_345 ?_
  refine va_sld hx hb hX hbl hbA hC.2 g2 dL_law_346 ?_
  refine lv_aload_n hx hb dL_law_347 rfl (lv_at hl 0 rfl) ?_
  refine lv_iload_n hx hb dL_law_348 rfl (lv_at hl 3 rfl) ?_
  refine lv_iconst (v := 3) hx hb dL_law_349 rfl ?_
  refine lv_iadd hx hb dL_law_350 ?_
  refine va_sld hx hb hX hbl hbA hC.2 g3 dL_law_351 ?_
  refine lv_aload_n hx hb dL_law_352 rfl (lv_at hl 0 rfl) ?_
  refine lv_iload_n hx hb dL_law_353 rfl (lv_at hl 3 rfl) ?_
  refine lv_iconst (v := 4) hx hb dL_law_354 rfl ?_
  refine lv_iadd hx hb dL_law_355 ?_
  refine va_sld hx hb hX hbl hbA hC.2 g4 dL_law_356 ?_
  refine lv_aload_n hx hb dL_law_357 rfl (lv_at hl 0 rfl) ?_
  refine lv_iload_n hx hb dL_law_358 rfl (lv_at hl 3 rfl) ?_
  refine lv_iconst (v := 5) hx hb dL_law_359 rfl ?_
  refine lv_iadd hx hb dL_law_360 ?_
  refine va_sld hx hb hX hbl hbA hC.2 g5 dL_law_361 ?_
  obtain ⟨r, r2, σ1, τ1, hf1, hf2, hJ1⟩ := hs σ τ (xs (i + 1).toNatClampNeg) (xs (i + 2).toNatClampNeg) (xs (i + 3).toNatClampNeg) (xs (i + 4).toNatClampNeg) (xs (i + 5).toNatClampNeg) hJ
  refine lw_call (rest := []) C.1 C.2.2.1 (fun q z1 z2 => C.2.2.2.2.1 q z2 z1) C.2.1.2.2.2.2.2.2.2.2.1 hC hM (ctX8_feed l hf1) kl_RL_13 layC_0 rfl rfl rfl rfl (Nat.le_of_ble_eq_true rfl) dL_law_362 hl.1 (Nat.le_refl _) (Nat.le_refl _) (fun H hC hM => ?_)
  refine lv_pop hx hb dL_law_365 rfl ?_
  refine lv_aload_n hx hb dL_law_366 rfl (lv_at hl 2 rfl) ?_
  refine lv_aload_n hx hb dL_law_367 rfl (lv_at hl 0 rfl) ?_
  refine lv_iload_n hx hb dL_law_368 rfl (lv_at hl 3 rfl) ?_
  refine lv_iconst (v := 1) hx hb dL_law_369 rfl ?_
  refine lv_iadd hx hb dL_law_370 ?_
  refine va_sld hx hb hX hbl hbA hC.2 g1 dL_law_371 ?_
  refine lv_aload_n hx hb dL_law_372 rfl (lv_at hl 0 rfl) ?_
  refine lv_iload_n hx hb dL_law_373 rfl (lv_at hl 3 rfl) ?_
  refine lv_iconst (v := 2) hx hb dL_law_374 rfl ?_
  refine lv_iadd hx hb dL_law_375 ?_
  refine va_sld hx hb hX hbl hbA hC.2 g2 dL_law_376 ?_
  refine lv_aload_n hx hb dL_law_377 rfl (lv_at hl 0 rfl) ?_
  refine lv_iload_n hx hb dL_law_378 rfl (lv_at hl 3 rfl) ?_
  refine lv_iconst (v := 3) hx hb dL_law_379 rfl ?_
  refine lv_iadd hx hb dL_law_380 ?_
  refine va_sld hx hb hX hbl hbA hC.2 g3 dL_law_381 ?_
  refine lv_aload_n hx hb dL_law_382 rfl (lv_at hl 0 rfl) ?_
  refine lv_iload_n hx hb dL_law_383 rfl (lv_at hl 3 rfl) ?_
  refine lv_iconst (v := 4) hx hb dL_law_384 rfl ?_
  refine lv_iadd hx hb dL_law_385 ?_
  refine va_sld hx hb hX hbl hbA hC.2 g4 dL_law_386 ?_
  refine lv_aload_n hx hb dL_law_387 rfl (lv_at hl 0 rfl) ?_
  refine lv_iload_n hx hb dL_law_388 rfl (lv_at hl 3 rfl) ?_
  refine lv_iconst (v := 5) hx hb dL_law_389 rfl ?_
  refine lv_iadd hx hb dL_law_390 ?_
  refine va_sld hx hb hX hbl hbA hC.2 g5 dL_law_391 ?_
  refine lw_call (rest := []) C.2.1 C.2.2.2.1 C.2.2.2.2.1 C.1.2.2.2.2.2.2.2.2.1 hM hC (ctX9_feed l hf2) kl_RL_17 layM_0 rfl rfl rfl rfl (Nat.le_of_ble_eq_true rfl) dL_law_392 hl.1 (Nat.le_refl _) (Nat.le_refl _) (fun H hM hC => ?_)
  refine lv_pop hx hb dL_law_395 rfl ?_
  refine lv_goto (tgt := 2172) hx hb dL_law_396 (by decide) ?_
  exact kk σ1 τ1 hJ1 H ls hC hM (lv_sub hl [0, 1, 2, 3] rfl)
theorem lw_case_1 (C : lw_C p s m args meth c b L xs D ct adC adM AC AM) {J J2 : sn_S → sn_S → Prop} (hs : st_1 J J2) {σ τ : sn_S} (hJ : J σ τ) {i : Int32} (g1 : vp_in (i + 1) L) (g2 : vp_in (i + 2) L) (g3 : vp_in (i + 3) L) (g4 : vp_in (i + 4) L) (g5 : vp_in (i + 5) L) (kk : ∀ σ τ, J2 σ τ → lw_LAt p l e s m args below meth c Q D ct adC adM AC AM σ τ 2172 [(0, .ref b), (1, .ref (adC 0)), (2, .ref (adM 0)), (3, .int i)] []) : lw_LAt p l e s m args below meth c Q D ct adC adM AC AM σ τ 399 [(0, .ref b), (1, .ref (adC 0)), (2, .ref (adM 0)), (3, .int i)] [] := by
  intro H ls hC hM hl
  have hx := C.1.1
  have hb := C.1.2.1
  have hX := C.2.2.2.2.2.1
  have hbl := C.2.2.2.2.2.2
  have hbA : ¬ AC b := fun z => absurd (C.2.2.1 b z) (by omega)
  refine lv_aload_n hx hb dL_law_399 rfl (lv_at hl 1 rfl) ?_
  refine lv_aload_n hx hb dL_law_400 rfl (lv_at hl 0 rfl) ?_
  refine lv_iload_n hx hb dL_law_401 rfl (lv_at hl 3 rfl) ?_
  refine lv_iconst (v := 1) hx hb dL_law_402 rfl ?_
  refine lv_iadd hx hb dL_law_403 ?_
  refine va_sld hx hb hX hbl hbA hC.2 g1 dL_law_404 ?_
  obtain ⟨r, r2, σ1, τ1, hf1, hf2, hJ1⟩ := hs σ τ (xs (i + 1).toNatClampNeg) hJ
  refine lw_call (rest := []) C.1 C.2.2.1 (fun q z1 z2 => C.2.2.2.2.1 q z2 z1) C.2.1.2.2.2.2.2.2.2.2.1 hC hM (ctX8_end l hf1) kl_RL_18 layC_0 rfl rfl rfl rfl (Nat.le_of_ble_eq_true rfl) dL_law_405 hl.1 (Nat.le_refl _) (Nat.le_refl _) (fun H hC hM => ?_)
  refine lv_pop hx hb dL_law_408 rfl ?_
  refine lv_aload_n hx hb dL_law_409 rfl (lv_at hl 2 rfl) ?_
  refine lv_aload_n hx hb dL_law_410 rfl (lv_at hl 0 rfl) ?_
  refine lv_iload_n hx hb dL_law_411 rfl (lv_at hl 3 rfl) ?_
  refine lv_iconst (v := 1) hx hb dL_law_412 rfl ?_
  refine lv_iadd hx hb dL_law_413 ?_
  refine va_sld hx hb hX hbl hbA hC.2 g1 dL_law_414 ?_
  refine lw_call (rest := []) C.2.1 C.2.2.2.1 C.2.2.2.2.1 C.1.2.2.2.2.2.2.2.2.1 hM hC (ctX9_end l hf2) kl_RL_22 layM_0 rfl rfl rfl rfl (Nat.le_of_ble_eq_true rfl) dL_law_415 hl.1 (Nat.le_refl _) (Nat.le_refl _) (fun H hM hC => ?_)
  refine lv_pop hx hb dL_law_418 rfl ?_
  refine lv_goto (tgt := 2172) hx hb dL_law_419 (by decide) ?_
  exact kk σ1 τ1 hJ1 H ls hC hM (lv_sub hl [0, 1, 2, 3] rfl)
theorem lw_case_2 (C : lw_C p s m args meth c b L xs D ct adC adM AC AM) {J J2 : sn_S → sn_S → Prop} (hs : st_2 J J2) {σ τ : sn_S} (hJ : J σ τ) {i : Int32} (g1 : vp_in (i + 1) L) (g2 : vp_in (i + 2) L) (g3 : vp_in (i + 3) L) (g4 : vp_in (i + 4) L) (g5 : vp_in (i + 5) L) (kk : ∀ σ τ, J2 σ τ → lw_LAt p l e s m args below meth c Q D ct adC adM AC AM σ τ 2172 [(0, .ref b), (1, .ref (adC 0)), (2, .ref (adM 0)), (3, .int i)] []) : lw_LAt p l e s m args below meth c Q D ct adC adM AC AM σ τ 422 [(0, .ref b), (1, .ref (adC 0)), (2, .ref (adM 0)), (3, .int i)] [] := by
  intro H ls hC hM hl
  have hx := C.1.1
  have hb := C.1.2.1
  have hX := C.2.2.2.2.2.1
  have hbl := C.2.2.2.2.2.2
  have hbA : ¬ AC b := fun z => absurd (C.2.2.1 b z) (by omega)
  refine lv_aload_n hx hb dL_law_422 rfl (lv_at hl 1 rfl) ?_
  obtain ⟨r, r2, σ1, τ1, hf1, hf2, hJ1⟩ := hs σ τ  hJ
  refine lw_call (rest := []) C.1 C.2.2.1 (fun q z1 z2 => C.2.2.2.2.1 q z2 z1) C.2.1.2.2.2.2.2.2.2.2.1 hC hM (ctX8_house l hf1) kl_RL_23 layC_0 rfl rfl rfl rfl (Nat.le_of_ble_eq_true rfl) dL_law_423 hl.1 (Nat.le_refl _) (Nat.le_refl _) (fun H hC hM => ?_)
  refine lv_pop hx hb dL_law_426 rfl ?_
  refine lv_aload_n hx hb dL_law_427 rfl (lv_at hl 2 rfl) ?_
  refine lw_call (rest := []) C.2.1 C.2.2.2.1 C.2.2.2.2.1 C.1.2.2.2.2.2.2.2.2.1 hM hC (ctX9_house l hf2) kl_RL_27 layM_0 rfl rfl rfl rfl (Nat.le_of_ble_eq_true rfl) dL_law_428 hl.1 (Nat.le_refl _) (Nat.le_refl _) (fun H hM hC => ?_)
  refine lv_pop hx hb dL_law_431 rfl ?_
  refine lv_goto (tgt := 2172) hx hb dL_law_432 (by decide) ?_
  exact kk σ1 τ1 hJ1 H ls hC hM (lv_sub hl [0, 1, 2, 3] rfl)
theorem lw_case_3 (C : lw_C p s m args meth c b L xs D ct adC adM AC AM) {J J2 : sn_S → sn_S → Prop} (hs : st_3 J J2) {σ τ : sn_S} (hJ : J σ τ) {i : Int32} (g1 : vp_in (i + 1) L) (g2 : vp_in (i + 2) L) (g3 : vp_in (i + 3) L) (g4 : vp_in (i + 4) L) (g5 : vp_in (i + 5) L) (kk : ∀ σ τ, J2 σ τ → lw_LAt p l e s m args below meth c Q D ct adC adM AC AM σ τ 2172 [(0, .ref b), (1, .ref (adC 0)), (2, .ref (adM 0)), (3, .int i)] []) : lw_LAt p l e s m args below meth c Q D ct adC adM AC AM σ τ 435 [(0, .ref b), (1, .ref (adC 0)), (2, .ref (adM 0)), (3, .int i)] [] := by
  intro H ls hC hM hl
  have hx := C.1.1
  have hb := C.1.2.1
  have hX := C.2.2.2.2.2.1
  have hbl := C.2.2.2.2.2.2
  have hbA : ¬ AC b := fun z => absurd (C.2.2.1 b z) (by omega)
  refine lv_aload_n hx hb dL_law_435 rfl (lv_at hl 1 rfl) ?_
  refine lv_aload_n hx hb dL_law_436 rfl (lv_at hl 0 rfl) ?_
  refine lv_iload_n hx hb dL_law_437 rfl (lv_at hl 3 rfl) ?_
  refine lv_iconst (v := 1) hx hb dL_law_438 rfl ?_
  refine lv_iadd hx hb dL_law_439 ?_
  refine va_sld hx hb hX hbl hbA hC.2 g1 dL_law_440 ?_
  obtain ⟨r, r2, hf1, hf2, hJ1⟩ := hs σ τ (xs (i + 1).toNatClampNeg) hJ
  refine lw_call (rest := []) C.1 C.2.2.1 (fun q z1 z2 => C.2.2.2.2.1 q z2 z1) C.2.1.2.2.2.2.2.2.2.2.1 hC hM (ctX8_fault l hf1) kl_RL_28 layC_0 rfl rfl rfl rfl (Nat.le_of_ble_eq_true rfl) dL_law_441 hl.1 (Nat.le_refl _) (Nat.le_refl _) (fun H hC hM => ?_)
  refine lv_pop hx hb dL_law_444 rfl ?_
  refine lv_aload_n hx hb dL_law_445 rfl (lv_at hl 2 rfl) ?_
  refine lv_aload_n hx hb dL_law_446 rfl (lv_at hl 0 rfl) ?_
  refine lv_iload_n hx hb dL_law_447 rfl (lv_at hl 3 rfl) ?_
  refine lv_iconst (v := 1) hx hb dL_law_448 rfl ?_
  refine lv_iadd hx hb dL_law_449 ?_
  refine va_sld hx hb hX hbl hbA hC.2 g1 dL_law_450 ?_
  refine lw_call (rest := []) C.2.1 C.2.2.2.1 C.2.2.2.2.1 C.1.2.2.2.2.2.2.2.2.1 hM hC (ctX9_fault l hf2) kl_RL_31 layM_0 rfl rfl rfl rfl (Nat.le_of_ble_eq_true rfl) dL_law_451 hl.1 (Nat.le_refl _) (Nat.le_refl _) (fun H hM hC => ?_)
  refine lv_pop hx hb dL_law_454 rfl ?_
  refine lv_goto (tgt := 2172) hx hb dL_law_455 (by decide) ?_
  exact kk σ τ hJ1 H ls hC hM (lv_sub hl [0, 1, 2, 3] rfl)
theorem lw_case_4 (C : lw_C p s m args meth c b L xs D ct adC adM AC AM) {J J2 : sn_S → sn_S → Prop} (hs : st_4 J J2) {σ τ : sn_S} (hJ : J σ τ) {i : Int32} (g1 : vp_in (i + 1) L) (g2 : vp_in (i + 2) L) (g3 : vp_in (i + 3) L) (g4 : vp_in (i + 4) L) (g5 : vp_in (i + 5) L) (kk : ∀ σ τ, J2 σ τ → lw_LAt p l e s m args below meth c Q D ct adC adM AC AM σ τ 2172 [(0, .ref b), (1, .ref (adC 0)), (2, .ref (adM 0)), (3, .int i)] []) : lw_LAt p l e s m args below meth c Q D ct adC adM AC AM σ τ 458 [(0, .ref b), (1, .ref (adC 0)), (2, .ref (adM 0)), (3, .int i)] [] := by
  intro H ls hC hM hl
  have hx := C.1.1
  have hb := C.1.2.1
  have hX := C.2.2.2.2.2.1
  have hbl := C.2.2.2.2.2.2
  have hbA : ¬ AC b := fun z => absurd (C.2.2.1 b z) (by omega)
  refine lv_aload_n hx hb dL_law_458 rfl (lv_at hl 1 rfl) ?_
  refine lv_aload_n hx hb dL_law_459 rfl (lv_at hl 0 rfl) ?_
  refine lv_iload_n hx hb dL_law_460 rfl (lv_at hl 3 rfl) ?_
  refine lv_iconst (v := 1) hx hb dL_law_461 rfl ?_
  refine lv_iadd hx hb dL_law_462 ?_
  refine va_sld hx hb hX hbl hbA hC.2 g1 dL_law_463 ?_
  refine lv_aload_n hx hb dL_law_464 rfl (lv_at hl 0 rfl) ?_
  refine lv_iload_n hx hb dL_law_465 rfl (lv_at hl 3 rfl) ?_
  refine lv_iconst (v := 2) hx hb dL_law_466 rfl ?_
  refine lv_iadd hx hb dL_law_467 ?_
  refine va_sld hx hb hX hbl hbA hC.2 g2 dL_law_468 ?_
  obtain ⟨r, r2, hf1, hf2, hJ1⟩ := hs σ τ (xs (i + 1).toNatClampNeg) (xs (i + 2).toNatClampNeg) hJ
  refine lw_call (rest := []) C.1 C.2.2.1 (fun q z1 z2 => C.2.2.2.2.1 q z2 z1) C.2.1.2.2.2.2.2.2.2.2.1 hC hM (ctX8_nose l hf1) kl_RL_32 layC_0 rfl rfl rfl rfl (Nat.le_of_ble_eq_true rfl) dL_law_469 hl.1 (Nat.le_refl _) (Nat.le_refl _) (fun H hC hM => ?_)
  refine lv_pop hx hb dL_law_472 rfl ?_
  refine lv_aload_n hx hb dL_law_473 rfl (lv_at hl 2 rfl) ?_
  refine lv_aload_n hx hb dL_law_474 rfl (lv_at hl 0 rfl) ?_
  refine lv_iload_n hx hb dL_law_475 rfl (lv_at hl 3 rfl) ?_
  refine lv_iconst (v := 1) hx hb dL_law_476 rfl ?_
  refine lv_iadd hx hb dL_law_477 ?_
  refine va_sld hx hb hX hbl hbA hC.2 g1 dL_law_478 ?_
  refine lv_aload_n hx hb dL_law_479 rfl (lv_at hl 0 rfl) ?_
  refine lv_iload_n hx hb dL_law_480 rfl (lv_at hl 3 rfl) ?_
  refine lv_iconst (v := 2) hx hb dL_law_481 rfl ?_
  refine lv_iadd hx hb dL_law_482 ?_
  refine va_sld hx hb hX hbl hbA hC.2 g2 dL_law_483 ?_
  refine lw_call (rest := []) C.2.1 C.2.2.2.1 C.2.2.2.2.1 C.1.2.2.2.2.2.2.2.2.1 hM hC (ctX9_nose l hf2) kl_RL_36 layM_0 rfl rfl rfl rfl (Nat.le_of_ble_eq_true rfl) dL_law_484 hl.1 (Nat.le_refl _) (Nat.le_refl _) (fun H hM hC => ?_)
  refine lv_pop hx hb dL_law_487 rfl ?_
  refine lv_goto (tgt := 2172) hx hb dL_law_488 (by decide) ?_
  exact kk σ τ hJ1 H ls hC hM (lv_sub hl [0, 1, 2, 3] rfl)
theorem lw_case_5 (C : lw_C p s m args meth c b L xs D ct adC adM AC AM) {J J2 : sn_S → sn_S → Prop} (hs : st_5 J J2) {σ τ : sn_S} (hJ : J σ τ) {i : Int32} (g1 : vp_in (i + 1) L) (g2 : vp_in (i + 2) L) (g3 : vp_in (i + 3) L) (g4 : vp_in (i + 4) L) (g5 : vp_in (i + 5) L) (kk : ∀ σ τ, J2 σ τ → lw_LAt p l e s m args below meth c Q D ct adC adM AC AM σ τ 2172 [(0, .ref b), (1, .ref (adC 0)), (2, .ref (adM 0)), (3, .int i)] []) : lw_LAt p l e s m args below meth c Q D ct adC adM AC AM σ τ 491 [(0, .ref b), (1, .ref (adC 0)), (2, .ref (adM 0)), (3, .int i)] [] := by
  intro H ls hC hM hl
  have hx := C.1.1
  have hb := C.1.2.1
  have hX := C.2.2.2.2.2.1
  have hbl := C.2.2.2.2.2.2
  have hbA : ¬ AC b := fun z => absurd (C.2.2.1 b z) (by omega)
  refine lv_aload_n hx hb dL_law_491 rfl (lv_at hl 1 rfl) ?_
  refine lv_aload_n hx hb dL_law_492 rfl (lv_at hl 0 rfl) ?_
  refine lv_iload_n hx hb dL_law_493 rfl (lv_at hl 3 rfl) ?_
  refine lv_iconst (v := 1) hx hb dL_law_494 rfl ?_
  refine lv_iadd hx hb dL_law_495 ?_
  refine va_sld hx hb hX hbl hbA hC.2 g1 dL_law_496 ?_
  refine lv_aload_n hx hb dL_law_497 rfl (lv_at hl 0 rfl) ?_
  refine lv_iload_n hx hb dL_law_498 rfl (lv_at hl 3 rfl) ?_
  refine lv_iconst (v := 2) hx hb dL_law_499 rfl ?_
  refine lv_iadd hx hb dL_law_500 ?_
  refine va_sld hx hb hX hbl hbA hC.2 g2 dL_law_501 ?_
  obtain ⟨r, r2, hf1, hf2, hJ1⟩ := hs σ τ (xs (i + 1).toNatClampNeg) (xs (i + 2).toNatClampNeg) hJ
  refine lw_call (rest := []) C.1 C.2.2.1 (fun q z1 z2 => C.2.2.2.2.1 q z2 z1) C.2.1.2.2.2.2.2.2.2.2.1 hC hM (ctX8_policy l hf1) kl_RL_37 layC_0 rfl rfl rfl rfl (Nat.le_of_ble_eq_true rfl) dL_law_502 hl.1 (Nat.le_refl _) (Nat.le_refl _) (fun H hC hM => ?_)
  refine lv_pop hx hb dL_law_505 rfl ?_
  refine lv_aload_n hx hb dL_law_506 rfl (lv_at hl 2 rfl) ?_
  refine lv_aload_n hx hb dL_law_507 rfl (lv_at hl 0 rfl) ?_
  refine lv_iload_n hx hb dL_law_508 rfl (lv_at hl 3 rfl) ?_
  refine lv_iconst (v := 1) hx hb dL_law_509 rfl ?_
  refine lv_iadd hx hb dL_law_510 ?_
  refine va_sld hx hb hX hbl hbA hC.2 g1 dL_law_511 ?_
  refine lv_aload_n hx hb dL_law_512 rfl (lv_at hl 0 rfl) ?_
  refine lv_iload_n hx hb dL_law_513 rfl (lv_at hl 3 rfl) ?_
  refine lv_iconst (v := 2) hx hb dL_law_514 rfl ?_
  refine lv_iadd hx hb dL_law_515 ?_
  refine va_sld hx hb hX hbl hbA hC.2 g2 dL_law_516 ?_
  refine lw_call (rest := []) C.2.1 C.2.2.2.1 C.2.2.2.2.1 C.1.2.2.2.2.2.2.2.2.1 hM hC (ctX9_policy l hf2) kl_RL_40 layM_0 rfl rfl rfl rfl (Nat.le_of_ble_eq_true rfl) dL_law_517 hl.1 (Nat.le_refl _) (Nat.le_refl _) (fun H hM hC => ?_)
  refine lv_pop hx hb dL_law_520 rfl ?_
  refine lv_goto (tgt := 2172) hx hb dL_law_521 (by decide) ?_
  exact kk σ τ hJ1 H ls hC hM (lv_sub hl [0, 1, 2, 3] rfl)
theorem lw_case_6 (C : lw_C p s m args meth c b L xs D ct adC adM AC AM) {J J2 : sn_S → sn_S → Prop} (hs : st_6 J J2) {σ τ : sn_S} (hJ : J σ τ) {i : Int32} (g1 : vp_in (i + 1) L) (g2 : vp_in (i + 2) L) (g3 : vp_in (i + 3) L) (g4 : vp_in (i + 4) L) (g5 : vp_in (i + 5) L) (kk : ∀ σ τ, J2 σ τ → lw_LAt p l e s m args below meth c Q D ct adC adM AC AM σ τ 2172 [(0, .ref b), (1, .ref (adC 0)), (2, .ref (adM 0)), (3, .int i)] []) : lw_LAt p l e s m args below meth c Q D ct adC adM AC AM σ τ 524 [(0, .ref b), (1, .ref (adC 0)), (2, .ref (adM 0)), (3, .int i)] [] := by
  intro H ls hC hM hl
  have hx := C.1.1
  have hb := C.1.2.1
  have hX := C.2.2.2.2.2.1
  have hbl := C.2.2.2.2.2.2
  have hbA : ¬ AC b := fun z => absurd (C.2.2.1 b z) (by omega)
  refine lv_aload_n hx hb dL_law_524 rfl (lv_at hl 1 rfl) ?_
  refine lv_aload_n hx hb dL_law_525 rfl (lv_at hl 0 rfl) ?_
  refine lv_iload_n hx hb dL_law_526 rfl (lv_at hl 3 rfl) ?_
  refine lv_iconst (v := 1) hx hb dL_law_527 rfl ?_
  refine lv_iadd hx hb dL_law_528 ?_
  refine va_sld hx hb hX hbl hbA hC.2 g1 dL_law_529 ?_
  obtain ⟨r, r2, τ1, hf1, hf2, hJ1⟩ := hs σ τ (xs (i + 1).toNatClampNeg) hJ
  refine lw_call (rest := []) C.1 C.2.2.1 (fun q z1 z2 => C.2.2.2.2.1 q z2 z1) C.2.1.2.2.2.2.2.2.2.2.1 hC hM (ctX8_beside l hf1) kl_RL_41 layC_0 rfl rfl rfl rfl (Nat.le_of_ble_eq_true rfl) dL_law_530 hl.1 (Nat.le_refl _) (Nat.le_refl _) (fun H hC hM => ?_)
  refine lv_pop hx hb dL_law_533 rfl ?_
  refine lv_aload_n hx hb dL_law_534 rfl (lv_at hl 2 rfl) ?_
  refine lv_aload_n hx hb dL_law_535 rfl (lv_at hl 0 rfl) ?_
  refine lv_iload_n hx hb dL_law_536 rfl (lv_at hl 3 rfl) ?_
  refine lv_iconst (v := 1) hx hb dL_law_537 rfl ?_
  refine lv_iadd hx hb dL_law_538 ?_
  refine va_sld hx hb hX hbl hbA hC.2 g1 dL_law_539 ?_
  refine lw_call (rest := []) C.2.1 C.2.2.2.1 C.2.2.2.2.1 C.1.2.2.2.2.2.2.2.2.1 hM hC (ctX9_beside l hf2) kl_RL_44 layM_0 rfl rfl rfl rfl (Nat.le_of_ble_eq_true rfl) dL_law_540 hl.1 (Nat.le_refl _) (Nat.le_refl _) (fun H hM hC => ?_)
  refine lv_pop hx hb dL_law_543 rfl ?_
  refine lv_goto (tgt := 2172) hx hb dL_law_544 (by decide) ?_
  exact kk σ τ1 hJ1 H ls hC hM (lv_sub hl [0, 1, 2, 3] rfl)
theorem lw_case_7 (C : lw_C p s m args meth c b L xs D ct adC adM AC AM) {J J2 : sn_S → sn_S → Prop} (hs : st_7 J J2) {σ τ : sn_S} (hJ : J σ τ) {i : Int32} (g1 : vp_in (i + 1) L) (g2 : vp_in (i + 2) L) (g3 : vp_in (i + 3) L) (g4 : vp_in (i + 4) L) (g5 : vp_in (i + 5) L) (kk : ∀ σ τ, J2 σ τ → lw_LAt p l e s m args below meth c Q D ct adC adM AC AM σ τ 2172 [(0, .ref b), (1, .ref (adC 0)), (2, .ref (adM 0)), (3, .int i)] []) : lw_LAt p l e s m args below meth c Q D ct adC adM AC AM σ τ 547 [(0, .ref b), (1, .ref (adC 0)), (2, .ref (adM 0)), (3, .int i)] [] := by
  intro H ls hC hM hl
  have hx := C.1.1
  have hb := C.1.2.1
  have hX := C.2.2.2.2.2.1
  have hbl := C.2.2.2.2.2.2
  have hbA : ¬ AC b := fun z => absurd (C.2.2.1 b z) (by omega)
  refine lv_aload_n hx hb dL_law_547 rfl (lv_at hl 1 rfl) ?_
  refine lv_aload_n hx hb dL_law_548 rfl (lv_at hl 0 rfl) ?_
  refine lv_iload_n hx hb dL_law_549 rfl (lv_at hl 3 rfl) ?_
  refine lv_iconst (v := 1) hx hb dL_law_550 rfl ?_
  refine lv_iadd hx hb dL_law_551 ?_
  refine va_sld hx hb hX hbl hbA hC.2 g1 dL_law_552 ?_
  obtain ⟨r, r2, τ1, hf1, hf2, hJ1⟩ := hs σ τ (xs (i + 1).toNatClampNeg) hJ
  refine lw_call (rest := []) C.1 C.2.2.1 (fun q z1 z2 => C.2.2.2.2.1 q z2 z1) C.2.1.2.2.2.2.2.2.2.2.1 hC hM (ctX8_dust l hf1) kl_RL_45 layC_0 rfl rfl rfl rfl (Nat.le_of_ble_eq_true rfl) dL_law_553 hl.1 (Nat.le_refl _) (Nat.le_refl _) (fun H hC hM => ?_)
  refine lv_pop hx hb dL_law_556 rfl ?_
  refine lv_aload_n hx hb dL_law_557 rfl (lv_at hl 2 rfl) ?_
  refine lv_aload_n hx hb dL_law_558 rfl (lv_at hl 0 rfl) ?_
  refine lv_iload_n hx hb dL_law_559 rfl (lv_at hl 3 rfl) ?_
  refine lv_iconst (v := 1) hx hb dL_law_560 rfl ?_
  refine lv_iadd hx hb dL_law_561 ?_
  refine va_sld hx hb hX hbl hbA hC.2 g1 dL_law_562 ?_
  refine lw_call (rest := []) C.2.1 C.2.2.2.1 C.2.2.2.2.1 C.1.2.2.2.2.2.2.2.2.1 hM hC (ctX9_dust l hf2) kl_RL_48 layM_0 rfl rfl rfl rfl (Nat.le_of_ble_eq_true rfl) dL_law_563 hl.1 (Nat.le_refl _) (Nat.le_refl _) (fun H hM hC => ?_)
  refine lv_pop hx hb dL_law_566 rfl ?_
  refine lv_goto (tgt := 2172) hx hb dL_law_567 (by decide) ?_
  exact kk σ τ1 hJ1 H ls hC hM (lv_sub hl [0, 1, 2, 3] rfl)
theorem lw_case_8 (C : lw_C p s m args meth c b L xs D ct adC adM AC AM) {J J2 : sn_S → sn_S → Prop} (hs : st_8 J J2) {σ τ : sn_S} (hJ : J σ τ) {i : Int32} (g1 : vp_in (i + 1) L) (g2 : vp_in (i + 2) L) (g3 : vp_in (i + 3) L) (g4 : vp_in (i + 4) L) (g5 : vp_in (i + 5) L) (kk : ∀ σ τ, J2 σ τ → lw_LAt p l e s m args below meth c Q D ct adC adM AC AM σ τ 2172 [(0, .ref b), (1, .ref (adC 0)), (2, .ref (adM 0)), (3, .int i)] []) : lw_LAt p l e s m args below meth c Q D ct adC adM AC AM σ τ 570 [(0, .ref b), (1, .ref (adC 0)), (2, .ref (adM 0)), (3, .int i)] [] := by
  intro H ls hC hM hl
  have hx := C.1.1
  have hb := C.1.2.1
  have hX := C.2.2.2.2.2.1
  have hbl := C.2.2.2.2.2.2
  have hbA : ¬ AC b := fun z => absurd (C.2.2.1 b z) (by omega)
  refine lv_aload_n hx hb dL_law_570 rfl (lv_at hl 1 rfl) ?_
  refine lv_aload_n hx hb dL_law_571 rfl (lv_at hl 0 rfl) ?_
  refine lv_iload_n hx hb dL_law_572 rfl (lv_at hl 3 rfl) ?_
  refine lv_iconst (v := 1) hx hb dL_law_573 rfl ?_
  refine lv_iadd hx hb dL_law_574 ?_
  refine va_sld hx hb hX hbl hbA hC.2 g1 dL_law_575 ?_
  obtain ⟨r, r2, τ1, hf1, hf2, hJ1⟩ := hs σ τ (xs (i + 1).toNatClampNeg) hJ
  refine lw_call (rest := []) C.1 C.2.2.1 (fun q z1 z2 => C.2.2.2.2.1 q z2 z1) C.2.1.2.2.2.2.2.2.2.2.1 hC hM (ctX8_sneezes l hf1) kl_RL_49 layC_0 rfl rfl rfl rfl (Nat.le_of_ble_eq_true rfl) dL_law_576 hl.1 (Nat.le_refl _) (Nat.le_refl _) (fun H hC hM => ?_)
  refine lv_pop hx hb dL_law_579 rfl ?_
  refine lv_aload_n hx hb dL_law_580 rfl (lv_at hl 2 rfl) ?_
  refine lv_aload_n hx hb dL_law_581 rfl (lv_at hl 0 rfl) ?_
  refine lv_iload_n hx hb dL_law_582 rfl (lv_at hl 3 rfl) ?_
  refine lv_iconst (v := 1) hx hb dL_law_583 rfl ?_
  refine lv_iadd hx hb dL_law_584 ?_
  refine va_sld hx hb hX hbl hbA hC.2 g1 dL_law_585 ?_
  refine lw_call (rest := []) C.2.1 C.2.2.2.1 C.2.2.2.2.1 C.1.2.2.2.2.2.2.2.2.1 hM hC (ctX9_sneezes l hf2) kl_RL_52 layM_0 rfl rfl rfl rfl (Nat.le_of_ble_eq_true rfl) dL_law_586 hl.1 (Nat.le_refl _) (Nat.le_refl _) (fun H hM hC => ?_)
  refine lv_pop hx hb dL_law_589 rfl ?_
  refine lv_goto (tgt := 2172) hx hb dL_law_590 (by decide) ?_
  exact kk σ τ1 hJ1 H ls hC hM (lv_sub hl [0, 1, 2, 3] rfl)
theorem lw_case_9 (C : lw_C p s m args meth c b L xs D ct adC adM AC AM) {J J2 : sn_S → sn_S → Prop} (hs : st_9 J J2) {σ τ : sn_S} (hJ : J σ τ) {i : Int32} (g1 : vp_in (i + 1) L) (g2 : vp_in (i + 2) L) (g3 : vp_in (i + 3) L) (g4 : vp_in (i + 4) L) (g5 : vp_in (i + 5) L) (kk : ∀ σ τ, J2 σ τ → lw_LAt p l e s m args below meth c Q D ct adC adM AC AM σ τ 2172 [(0, .ref b), (1, .ref (adC 0)), (2, .ref (adM 0)), (3, .int i)] []) : lw_LAt p l e s m args below meth c Q D ct adC adM AC AM σ τ 593 [(0, .ref b), (1, .ref (adC 0)), (2, .ref (adM 0)), (3, .int i)] [] := by
  intro H ls hC hM hl
  have hx := C.1.1
  have hb := C.1.2.1
  have hX := C.2.2.2.2.2.1
  have hbl := C.2.2.2.2.2.2
  have hbA : ¬ AC b := fun z => absurd (C.2.2.1 b z) (by omega)
  refine lv_aload_n hx hb dL_law_593 rfl (lv_at hl 1 rfl) ?_
  refine lv_aload_n hx hb dL_law_594 rfl (lv_at hl 0 rfl) ?_
  refine lv_iload_n hx hb dL_law_595 rfl (lv_at hl 3 rfl) ?_
  refine lv_iconst (v := 1) hx hb dL_law_596 rfl ?_
  refine lv_iadd hx hb dL_law_597 ?_
  refine va_sld hx hb hX hbl hbA hC.2 g1 dL_law_598 ?_
  obtain ⟨r, r2, τ1, hf1, hf2, hJ1⟩ := hs σ τ (xs (i + 1).toNatClampNeg) hJ
  refine lw_call (rest := []) C.1 C.2.2.1 (fun q z1 z2 => C.2.2.2.2.1 q z2 z1) C.2.1.2.2.2.2.2.2.2.2.1 hC hM (ctX8_first l hf1) kl_RL_53 layC_0 rfl rfl rfl rfl (Nat.le_of_ble_eq_true rfl) dL_law_599 hl.1 (Nat.le_refl _) (Nat.le_refl _) (fun H hC hM => ?_)
  refine lv_pop hx hb dL_law_602 rfl ?_
  refine lv_aload_n hx hb dL_law_603 rfl (lv_at hl 2 rfl) ?_
  refine lv_aload_n hx hb dL_law_604 rfl (lv_at hl 0 rfl) ?_
  refine lv_iload_n hx hb dL_law_605 rfl (lv_at hl 3 rfl) ?_
  refine lv_iconst (v := 1) hx hb dL_law_606 rfl ?_
  refine lv_iadd hx hb dL_law_607 ?_
  refine va_sld hx hb hX hbl hbA hC.2 g1 dL_law_608 ?_
  refine lw_call (rest := []) C.2.1 C.2.2.2.1 C.2.2.2.2.1 C.1.2.2.2.2.2.2.2.2.1 hM hC (ctX9_first l hf2) kl_RL_56 layM_0 rfl rfl rfl rfl (Nat.le_of_ble_eq_true rfl) dL_law_609 hl.1 (Nat.le_refl _) (Nat.le_refl _) (fun H hM hC => ?_)
  refine lv_pop hx hb dL_law_612 rfl ?_
  refine lv_goto (tgt := 2172) hx hb dL_law_613 (by decide) ?_
  exact kk σ τ1 hJ1 H ls hC hM (lv_sub hl [0, 1, 2, 3] rfl)
theorem lw_case_10 (C : lw_C p s m args meth c b L xs D ct adC adM AC AM) {J J2 : sn_S → sn_S → Prop} (hs : st_10 J J2) {σ τ : sn_S} (hJ : J σ τ) {i : Int32} (g1 : vp_in (i + 1) L) (g2 : vp_in (i + 2) L) (g3 : vp_in (i + 3) L) (g4 : vp_in (i + 4) L) (g5 : vp_in (i + 5) L) (kk : ∀ σ τ, J2 σ τ → lw_LAt p l e s m args below meth c Q D ct adC adM AC AM σ τ 2172 [(0, .ref b), (1, .ref (adC 0)), (2, .ref (adM 0)), (3, .int i)] []) : lw_LAt p l e s m args below meth c Q D ct adC adM AC AM σ τ 616 [(0, .ref b), (1, .ref (adC 0)), (2, .ref (adM 0)), (3, .int i)] [] := by
  intro H ls hC hM hl
  have hx := C.1.1
  have hb := C.1.2.1
  have hX := C.2.2.2.2.2.1
  have hbl := C.2.2.2.2.2.2
  have hbA : ¬ AC b := fun z => absurd (C.2.2.1 b z) (by omega)
  refine lv_aload_n hx hb dL_law_616 rfl (lv_at hl 1 rfl) ?_
  obtain ⟨r, r2, τ1, hf1, hf2, hJ1⟩ := hs σ τ  hJ
  refine lw_call (rest := []) C.1 C.2.2.1 (fun q z1 z2 => C.2.2.2.2.1 q z2 z1) C.2.1.2.2.2.2.2.2.2.2.1 hC hM (ctX8_all l hf1) kl_RL_57 layC_0 rfl rfl rfl rfl (Nat.le_of_ble_eq_true rfl) dL_law_617 hl.1 (Nat.le_refl _) (Nat.le_refl _) (fun H hC hM => ?_)
  refine lv_pop hx hb dL_law_620 rfl ?_
  refine lv_aload_n hx hb dL_law_621 rfl (lv_at hl 2 rfl) ?_
  refine lw_call (rest := []) C.2.1 C.2.2.2.1 C.2.2.2.2.1 C.1.2.2.2.2.2.2.2.2.1 hM hC (ctX9_all l hf2) kl_RL_60 layM_0 rfl rfl rfl rfl (Nat.le_of_ble_eq_true rfl) dL_law_622 hl.1 (Nat.le_refl _) (Nat.le_refl _) (fun H hM hC => ?_)
  refine lv_pop hx hb dL_law_625 rfl ?_
  refine lv_goto (tgt := 2172) hx hb dL_law_626 (by decide) ?_
  exact kk σ τ1 hJ1 H ls hC hM (lv_sub hl [0, 1, 2, 3] rfl)
theorem lw_case_11 (C : lw_C p s m args meth c b L xs D ct adC adM AC AM) {J J2 : sn_S → sn_S → Prop} (hs : st_11 J J2) {σ τ : sn_S} (hJ : J σ τ) {i : Int32} (g1 : vp_in (i + 1) L) (g2 : vp_in (i + 2) L) (g3 : vp_in (i + 3) L) (g4 : vp_in (i + 4) L) (g5 : vp_in (i + 5) L) (kk : ∀ σ τ, J2 σ τ → lw_LAt p l e s m args below meth c Q D ct adC adM AC AM σ τ 2172 [(0, .ref b), (1, .ref (adC 0)), (2, .ref (adM 0)), (3, .int i)] []) : lw_LAt p l e s m args below meth c Q D ct adC adM AC AM σ τ 629 [(0, .ref b), (1, .ref (adC 0)), (2, .ref (adM 0)), (3, .int i)] [] := by
  intro H ls hC hM hl
  have hx := C.1.1
  have hb := C.1.2.1
  have hX := C.2.2.2.2.2.1
  have hbl := C.2.2.2.2.2.2
  have hbA : ¬ AC b := fun z => absurd (C.2.2.1 b z) (by omega)
  refine lv_aload_n hx hb dL_law_629 rfl (lv_at hl 1 rfl) ?_
  refine lv_aload_n hx hb dL_law_630 rfl (lv_at hl 0 rfl) ?_
  refine lv_iload_n hx hb dL_law_631 rfl (lv_at hl 3 rfl) ?_
  refine lv_iconst (v := 1) hx hb dL_law_632 rfl ?_
  refine lv_iadd hx hb dL_law_633 ?_
  refine va_sld hx hb hX hbl hbA hC.2 g1 dL_law_634 ?_
  obtain ⟨r, r2, τ1, hf1, hf2, hJ1⟩ := hs σ τ (xs (i + 1).toNatClampNeg) hJ
  refine lw_call (rest := []) C.1 C.2.2.1 (fun q z1 z2 => C.2.2.2.2.1 q z2 z1) C.2.1.2.2.2.2.2.2.2.2.1 hC hM (ctX8_who l hf1) kl_RL_61 layC_0 rfl rfl rfl rfl (Nat.le_of_ble_eq_true rfl) dL_law_635 hl.1 (Nat.le_refl _) (Nat.le_refl _) (fun H hC hM => ?_)
  refine lv_pop hx hb dL_law_638 rfl ?_
  refine lv_aload_n hx hb dL_law_639 rfl (lv_at hl 2 rfl) ?_
  refine lv_aload_n hx hb dL_law_640 rfl (lv_at hl 0 rfl) ?_
  refine lv_iload_n hx hb dL_law_641 rfl (lv_at hl 3 rfl) ?_
  refine lv_iconst (v := 1) hx hb dL_law_642 rfl ?_
  refine lv_iadd hx hb dL_law_643 ?_
  refine va_sld hx hb hX hbl hbA hC.2 g1 dL_law_644 ?_
  refine lw_call (rest := []) C.2.1 C.2.2.2.1 C.2.2.2.2.1 C.1.2.2.2.2.2.2.2.2.1 hM hC (ctX9_who l hf2) kl_RL_64 layM_0 rfl rfl rfl rfl (Nat.le_of_ble_eq_true rfl) dL_law_645 hl.1 (Nat.le_refl _) (Nat.le_refl _) (fun H hM hC => ?_)
  refine lv_pop hx hb dL_law_648 rfl ?_
  refine lv_goto (tgt := 2172) hx hb dL_law_649 (by decide) ?_
  exact kk σ τ1 hJ1 H ls hC hM (lv_sub hl [0, 1, 2, 3] rfl)
theorem lw_case_12 (C : lw_C p s m args meth c b L xs D ct adC adM AC AM) {J J2 : sn_S → sn_S → Prop} (hs : st_12 J J2) {σ τ : sn_S} (hJ : J σ τ) {i : Int32} (g1 : vp_in (i + 1) L) (g2 : vp_in (i + 2) L) (g3 : vp_in (i + 3) L) (g4 : vp_in (i + 4) L) (g5 : vp_in (i + 5) L) (kk : ∀ σ τ, J2 σ τ → lw_LAt p l e s m args below meth c Q D ct adC adM AC AM σ τ 2172 [(0, .ref b), (1, .ref (adC 0)), (2, .ref (adM 0)), (3, .int i)] []) : lw_LAt p l e s m args below meth c Q D ct adC adM AC AM σ τ 652 [(0, .ref b), (1, .ref (adC 0)), (2, .ref (adM 0)), (3, .int i)] [] := by
  intro H ls hC hM hl
  have hx := C.1.1
  have hb := C.1.2.1
  have hX := C.2.2.2.2.2.1
  have hbl := C.2.2.2.2.2.2
  have hbA : ¬ AC b := fun z => absurd (C.2.2.1 b z) (by omega)
  refine lv_aload_n hx hb dL_law_652 rfl (lv_at hl 1 rfl) ?_
  refine lv_aload_n hx hb dL_law_653 rfl (lv_at hl 0 rfl) ?_
  refine lv_iload_n hx hb dL_law_654 rfl (lv_at hl 3 rfl) ?_
  refine lv_iconst (v := 1) hx hb dL_law_655 rfl ?_
  refine lv_iadd hx hb dL_law_656 ?_
  refine va_sld hx hb hX hbl hbA hC.2 g1 dL_law_657 ?_
  refine lv_aload_n hx hb dL_law_658 rfl (lv_at hl 0 rfl) ?_
  refine lv_iload_n hx hb dL_law_659 rfl (lv_at hl 3 rfl) ?_
  refine lv_iconst (v := 2) hx hb dL_law_660 rfl ?_
  refine lv_iadd hx hb dL_law_661 ?_
  refine va_sld hx hb hX hbl hbA hC.2 g2 dL_law_662 ?_
  obtain ⟨r, r2, τ1, hf1, hf2, hJ1⟩ := hs σ τ (xs (i + 1).toNatClampNeg) (xs (i + 2).toNatClampNeg) hJ
  refine lw_call (rest := []) C.1 C.2.2.1 (fun q z1 z2 => C.2.2.2.2.1 q z2 z1) C.2.1.2.2.2.2.2.2.2.2.1 hC hM (ctX8_tickle l hf1) kl_RL_65 layC_0 rfl rfl rfl rfl (Nat.le_of_ble_eq_true rfl) dL_law_663 hl.1 (Nat.le_refl _) (Nat.le_refl _) (fun H hC hM => ?_)
  refine lv_pop hx hb dL_law_666 rfl ?_
  refine lv_aload_n hx hb dL_law_667 rfl (lv_at hl 2 rfl) ?_
  refine lv_aload_n hx hb dL_law_668 rfl (lv_at hl 0 rfl) ?_
  refine lv_iload_n hx hb dL_law_669 rfl (lv_at hl 3 rfl) ?_
  refine lv_iconst (v := 1) hx hb dL_law_670 rfl ?_
  refine lv_iadd hx hb dL_law_671 ?_
  refine va_sld hx hb hX hbl hbA hC.2 g1 dL_law_672 ?_
  refine lv_aload_n hx hb dL_law_673 rfl (lv_at hl 0 rfl) ?_
  refine lv_iload_n hx hb dL_law_674 rfl (lv_at hl 3 rfl) ?_
  refine lv_iconst (v := 2) hx hb dL_law_675 rfl ?_
  refine lv_iadd hx hb dL_law_676 ?_
  refine va_sld hx hb hX hbl hbA hC.2 g2 dL_law_677 ?_
  refine lw_call (rest := []) C.2.1 C.2.2.2.1 C.2.2.2.2.1 C.1.2.2.2.2.2.2.2.2.1 hM hC (ctX9_tickle l hf2) kl_RL_68 layM_0 rfl rfl rfl rfl (Nat.le_of_ble_eq_true rfl) dL_law_678 hl.1 (Nat.le_refl _) (Nat.le_refl _) (fun H hM hC => ?_)
  refine lv_pop hx hb dL_law_681 rfl ?_
  refine lv_goto (tgt := 2172) hx hb dL_law_682 (by decide) ?_
  exact kk σ τ1 hJ1 H ls hC hM (lv_sub hl [0, 1, 2, 3] rfl)
theorem lw_case_13 (C : lw_C p s m args meth c b L xs D ct adC adM AC AM) {J J2 : sn_S → sn_S → Prop} (hs : st_13 J J2) {σ τ : sn_S} (hJ : J σ τ) {i : Int32} (g1 : vp_in (i + 1) L) (g2 : vp_in (i + 2) L) (g3 : vp_in (i + 3) L) (g4 : vp_in (i + 4) L) (g5 : vp_in (i + 5) L) (kk : ∀ σ τ, J2 σ τ → lw_LAt p l e s m args below meth c Q D ct adC adM AC AM σ τ 2172 [(0, .ref b), (1, .ref (adC 0)), (2, .ref (adM 0)), (3, .int i)] []) : lw_LAt p l e s m args below meth c Q D ct adC adM AC AM σ τ 685 [(0, .ref b), (1, .ref (adC 0)), (2, .ref (adM 0)), (3, .int i)] [] := by
  intro H ls hC hM hl
  have hx := C.1.1
  have hb := C.1.2.1
  have hX := C.2.2.2.2.2.1
  have hbl := C.2.2.2.2.2.2
  have hbA : ¬ AC b := fun z => absurd (C.2.2.1 b z) (by omega)
  refine lv_aload_n hx hb dL_law_685 rfl (lv_at hl 1 rfl) ?_
  refine lv_aload_n hx hb dL_law_686 rfl (lv_at hl 0 rfl) ?_
  refine lv_iload_n hx hb dL_law_687 rfl (lv_at hl 3 rfl) ?_
  refine lv_iconst (v := 1) hx hb dL_law_688 rfl ?_
  refine lv_iadd hx hb dL_law_689 ?_
  refine va_sld hx hb hX hbl hbA hC.2 g1 dL_law_690 ?_
  obtain ⟨r, r2, τ1, hf1, hf2, hJ1⟩ := hs σ τ (xs (i + 1).toNatClampNeg) hJ
  refine lw_call (rest := []) C.1 C.2.2.1 (fun q z1 z2 => C.2.2.2.2.1 q z2 z1) C.2.1.2.2.2.2.2.2.2.2.1 hC hM (ctX8_itch l hf1) kl_RL_69 layC_0 rfl rfl rfl rfl (Nat.le_of_ble_eq_true rfl) dL_law_691 hl.1 (Nat.le_refl _) (Nat.le_refl _) (fun H hC hM => ?_)
  refine lv_pop hx hb dL_law_694 rfl ?_
  refine lv_aload_n hx hb dL_law_695 rfl (lv_at hl 2 rfl) ?_
  refine lv_aload_n hx hb dL_law_696 rfl (lv_at hl 0 rfl) ?_
  refine lv_iload_n hx hb dL_law_697 rfl (lv_at hl 3 rfl) ?_
  refine lv_iconst (v := 1) hx hb dL_law_698 rfl ?_
  refine lv_iadd hx hb dL_law_699 ?_
  refine va_sld hx hb hX hbl hbA hC.2 g1 dL_law_700 ?_
  refine lw_call (rest := []) C.2.1 C.2.2.2.1 C.2.2.2.2.1 C.1.2.2.2.2.2.2.2.2.1 hM hC (ctX9_itch l hf2) kl_RL_72 layM_0 rfl rfl rfl rfl (Nat.le_of_ble_eq_true rfl) dL_law_701 hl.1 (Nat.le_refl _) (Nat.le_refl _) (fun H hM hC => ?_)
  refine lv_pop hx hb dL_law_704 rfl ?_
  refine lv_goto (tgt := 2172) hx hb dL_law_705 (by decide) ?_
  exact kk σ τ1 hJ1 H ls hC hM (lv_sub hl [0, 1, 2, 3] rfl)
theorem lw_case_14 (C : lw_C p s m args meth c b L xs D ct adC adM AC AM) {J J2 : sn_S → sn_S → Prop} (hs : st_14 J J2) {σ τ : sn_S} (hJ : J σ τ) {i : Int32} (g1 : vp_in (i + 1) L) (g2 : vp_in (i + 2) L) (g3 : vp_in (i + 3) L) (g4 : vp_in (i + 4) L) (g5 : vp_in (i + 5) L) (kk : ∀ σ τ, J2 σ τ → lw_LAt p l e s m args below meth c Q D ct adC adM AC AM σ τ 2172 [(0, .ref b), (1, .ref (adC 0)), (2, .ref (adM 0)), (3, .int i)] []) : lw_LAt p l e s m args below meth c Q D ct adC adM AC AM σ τ 708 [(0, .ref b), (1, .ref (adC 0)), (2, .ref (adM 0)), (3, .int i)] [] := by
  intro H ls hC hM hl
  have hx := C.1.1
  have hb := C.1.2.1
  have hX := C.2.2.2.2.2.1
  have hbl := C.2.2.2.2.2.2
  have hbA : ¬ AC b := fun z => absurd (C.2.2.1 b z) (by omega)
  refine lv_aload_n hx hb dL_law_708 rfl (lv_at hl 1 rfl) ?_
  refine lv_aload_n hx hb dL_law_709 rfl (lv_at hl 0 rfl) ?_
  refine lv_iload_n hx hb dL_law_710 rfl (lv_at hl 3 rfl) ?_
  refine lv_iconst (v := 1) hx hb dL_law_711 rfl ?_
  refine lv_iadd hx hb dL_law_712 ?_
  refine va_sld hx hb hX hbl hbA hC.2 g1 dL_law_713 ?_
  obtain ⟨r, r2, τ1, hf1, hf2, hJ1⟩ := hs σ τ (xs (i + 1).toNatClampNeg) hJ
  refine lw_call (rest := []) C.1 C.2.2.1 (fun q z1 z2 => C.2.2.2.2.1 q z2 z1) C.2.1.2.2.2.2.2.2.2.2.1 hC hM (ctX8_caught l hf1) kl_RL_73 layC_0 rfl rfl rfl rfl (Nat.le_of_ble_eq_true rfl) dL_law_714 hl.1 (Nat.le_refl _) (Nat.le_refl _) (fun H hC hM => ?_)
  refine lv_pop hx hb dL_law_717 rfl ?_
  refine lv_aload_n hx hb dL_law_718 rfl (lv_at hl 2 rfl) ?_
  refine lv_aload_n hx hb dL_law_719 rfl (lv_at hl 0 rfl) ?_
  refine lv_iload_n hx hb dL_law_720 rfl (lv_at hl 3 rfl) ?_
  refine lv_iconst (v := 1) hx hb dL_law_721 rfl ?_
  refine lv_iadd hx hb dL_law_722 ?_
  refine va_sld hx hb hX hbl hbA hC.2 g1 dL_law_723 ?_
  refine lw_call (rest := []) C.2.1 C.2.2.2.1 C.2.2.2.2.1 C.1.2.2.2.2.2.2.2.2.1 hM hC (ctX9_caught l hf2) kl_RL_76 layM_0 rfl rfl rfl rfl (Nat.le_of_ble_eq_true rfl) dL_law_724 hl.1 (Nat.le_refl _) (Nat.le_refl _) (fun H hM hC => ?_)
  refine lv_pop hx hb dL_law_727 rfl ?_
  refine lv_goto (tgt := 2172) hx hb dL_law_728 (by decide) ?_
  exact kk σ τ1 hJ1 H ls hC hM (lv_sub hl [0, 1, 2, 3] rfl)
theorem lw_case_15 (C : lw_C p s m args meth c b L xs D ct adC adM AC AM) {J J2 : sn_S → sn_S → Prop} (hs : st_15 J J2) {σ τ : sn_S} (hJ : J σ τ) {i : Int32} (g1 : vp_in (i + 1) L) (g2 : vp_in (i + 2) L) (g3 : vp_in (i + 3) L) (g4 : vp_in (i + 4) L) (g5 : vp_in (i + 5) L) (kk : ∀ σ τ, J2 σ τ → lw_LAt p l e s m args below meth c Q D ct adC adM AC AM σ τ 2172 [(0, .ref b), (1, .ref (adC 0)), (2, .ref (adM 0)), (3, .int i)] []) : lw_LAt p l e s m args below meth c Q D ct adC adM AC AM σ τ 731 [(0, .ref b), (1, .ref (adC 0)), (2, .ref (adM 0)), (3, .int i)] [] := by
  intro H ls hC hM hl
  have hx := C.1.1
  have hb := C.1.2.1
  have hX := C.2.2.2.2.2.1
  have hbl := C.2.2.2.2.2.2
  have hbA : ¬ AC b := fun z => absurd (C.2.2.1 b z) (by omega)
  refine lv_aload_n hx hb dL_law_731 rfl (lv_at hl 1 rfl) ?_
  refine lv_aload_n hx hb dL_law_732 rfl (lv_at hl 0 rfl) ?_
  refine lv_iload_n hx hb dL_law_733 rfl (lv_at hl 3 rfl) ?_
  refine lv_iconst (v := 1) hx hb dL_law_734 rfl ?_
  refine lv_iadd hx hb dL_law_735 ?_
  refine va_sld hx hb hX hbl hbA hC.2 g1 dL_law_736 ?_
  obtain ⟨r, r2, τ1, hf1, hf2, hJ1⟩ := hs σ τ (xs (i + 1).toNatClampNeg) hJ
  refine lw_call (rest := []) C.1 C.2.2.1 (fun q z1 z2 => C.2.2.2.2.1 q z2 z1) C.2.1.2.2.2.2.2.2.2.2.1 hC hM (ctX8_gave l hf1) kl_RL_77 layC_0 rfl rfl rfl rfl (Nat.le_of_ble_eq_true rfl) dL_law_737 hl.1 (Nat.le_refl _) (Nat.le_refl _) (fun H hC hM => ?_)
  refine lv_pop hx hb dL_law_740 rfl ?_
  refine lv_aload_n hx hb dL_law_741 rfl (lv_at hl 2 rfl) ?_
  refine lv_aload_n hx hb dL_law_742 rfl (lv_at hl 0 rfl) ?_
  refine lv_iload_n hx hb dL_law_743 rfl (lv_at hl 3 rfl) ?_
  refine lv_iconst (v := 1) hx hb dL_law_744 rfl ?_
  refine lv_iadd hx hb dL_law_745 ?_
  refine va_sld hx hb hX hbl hbA hC.2 g1 dL_law_746 ?_
  refine lw_call (rest := []) C.2.1 C.2.2.2.1 C.2.2.2.2.1 C.1.2.2.2.2.2.2.2.2.1 hM hC (ctX9_gave l hf2) kl_RL_80 layM_0 rfl rfl rfl rfl (Nat.le_of_ble_eq_true rfl) dL_law_747 hl.1 (Nat.le_refl _) (Nat.le_refl _) (fun H hM hC => ?_)
  refine lv_pop hx hb dL_law_750 rfl ?_
  refine lv_goto (tgt := 2172) hx hb dL_law_751 (by decide) ?_
  exact kk σ τ1 hJ1 H ls hC hM (lv_sub hl [0, 1, 2, 3] rfl)
theorem lw_case_16 (C : lw_C p s m args meth c b L xs D ct adC adM AC AM) {J J2 : sn_S → sn_S → Prop} (hs : st_16 J J2) {σ τ : sn_S} (hJ : J σ τ) {i : Int32} (g1 : vp_in (i + 1) L) (g2 : vp_in (i + 2) L) (g3 : vp_in (i + 3) L) (g4 : vp_in (i + 4) L) (g5 : vp_in (i + 5) L) (kk : ∀ σ τ, J2 σ τ → lw_LAt p l e s m args below meth c Q D ct adC adM AC AM σ τ 2172 [(0, .ref b), (1, .ref (adC 0)), (2, .ref (adM 0)), (3, .int i)] []) : lw_LAt p l e s m args below meth c Q D ct adC adM AC AM σ τ 754 [(0, .ref b), (1, .ref (adC 0)), (2, .ref (adM 0)), (3, .int i)] [] := by
  intro H ls hC hM hl
  have hx := C.1.1
  have hb := C.1.2.1
  have hX := C.2.2.2.2.2.1
  have hbl := C.2.2.2.2.2.2
  have hbA : ¬ AC b := fun z => absurd (C.2.2.1 b z) (by omega)
  refine lv_aload_n hx hb dL_law_754 rfl (lv_at hl 1 rfl) ?_
  obtain ⟨r, r2, τ1, hf1, hf2, hJ1⟩ := hs σ τ  hJ
  refine lw_call (rest := []) C.1 C.2.2.1 (fun q z1 z2 => C.2.2.2.2.1 q z2 z1) C.2.1.2.2.2.2.2.2.2.2.1 hC hM (ctX8_worst l hf1) kl_RL_81 layC_0 rfl rfl rfl rfl (Nat.le_of_ble_eq_true rfl) dL_law_755 hl.1 (Nat.le_refl _) (Nat.le_refl _) (fun H hC hM => ?_)
  refine lv_pop hx hb dL_law_758 rfl ?_
  refine lv_aload_n hx hb dL_law_759 rfl (lv_at hl 2 rfl) ?_
  refine lw_call (rest := []) C.2.1 C.2.2.2.1 C.2.2.2.2.1 C.1.2.2.2.2.2.2.2.2.1 hM hC (ctX9_worst l hf2) kl_RL_84 layM_0 rfl rfl rfl rfl (Nat.le_of_ble_eq_true rfl) dL_law_760 hl.1 (Nat.le_refl _) (Nat.le_refl _) (fun H hM hC => ?_)
  refine lv_pop hx hb dL_law_763 rfl ?_
  refine lv_goto (tgt := 2172) hx hb dL_law_764 (by decide) ?_
  exact kk σ τ1 hJ1 H ls hC hM (lv_sub hl [0, 1, 2, 3] rfl)
theorem lw_case_17 (C : lw_C p s m args meth c b L xs D ct adC adM AC AM) {J J2 : sn_S → sn_S → Prop} (hs : st_17 J J2) {σ τ : sn_S} (hJ : J σ τ) {i : Int32} (g1 : vp_in (i + 1) L) (g2 : vp_in (i + 2) L) (g3 : vp_in (i + 3) L) (g4 : vp_in (i + 4) L) (g5 : vp_in (i + 5) L) (kk : ∀ σ τ, J2 σ τ → lw_LAt p l e s m args below meth c Q D ct adC adM AC AM σ τ 2172 [(0, .ref b), (1, .ref (adC 0)), (2, .ref (adM 0)), (3, .int i)] []) : lw_LAt p l e s m args below meth c Q D ct adC adM AC AM σ τ 767 [(0, .ref b), (1, .ref (adC 0)), (2, .ref (adM 0)), (3, .int i)] [] := by
  intro H ls hC hM hl
  have hx := C.1.1
  have hb := C.1.2.1
  have hX := C.2.2.2.2.2.1
  have hbl := C.2.2.2.2.2.2
  have hbA : ¬ AC b := fun z => absurd (C.2.2.1 b z) (by omega)
  refine lv_aload_n hx hb dL_law_767 rfl (lv_at hl 1 rfl) ?_
  obtain ⟨r, r2, τ1, hf1, hf2, hJ1⟩ := hs σ τ  hJ
  refine lw_call (rest := []) C.1 C.2.2.1 (fun q z1 z2 => C.2.2.2.2.1 q z2 z1) C.2.1.2.2.2.2.2.2.2.2.1 hC hM (ctX8_chorus l hf1) kl_RL_85 layC_0 rfl rfl rfl rfl (Nat.le_of_ble_eq_true rfl) dL_law_768 hl.1 (Nat.le_refl _) (Nat.le_refl _) (fun H hC hM => ?_)
  refine lv_pop hx hb dL_law_771 rfl ?_
  refine lv_aload_n hx hb dL_law_772 rfl (lv_at hl 2 rfl) ?_
  refine lw_call (rest := []) C.2.1 C.2.2.2.1 C.2.2.2.2.1 C.1.2.2.2.2.2.2.2.2.1 hM hC (ctX9_chorus l hf2) kl_RL_88 layM_0 rfl rfl rfl rfl (Nat.le_of_ble_eq_true rfl) dL_law_773 hl.1 (Nat.le_refl _) (Nat.le_refl _) (fun H hM hC => ?_)
  refine lv_pop hx hb dL_law_776 rfl ?_
  refine lv_goto (tgt := 2172) hx hb dL_law_777 (by decide) ?_
  exact kk σ τ1 hJ1 H ls hC hM (lv_sub hl [0, 1, 2, 3] rfl)
theorem lw_case_18 (C : lw_C p s m args meth c b L xs D ct adC adM AC AM) {J J2 : sn_S → sn_S → Prop} (hs : st_18 J J2) {σ τ : sn_S} (hJ : J σ τ) {i : Int32} (g1 : vp_in (i + 1) L) (g2 : vp_in (i + 2) L) (g3 : vp_in (i + 3) L) (g4 : vp_in (i + 4) L) (g5 : vp_in (i + 5) L) (kk : ∀ σ τ, J2 σ τ → lw_LAt p l e s m args below meth c Q D ct adC adM AC AM σ τ 2172 [(0, .ref b), (1, .ref (adC 0)), (2, .ref (adM 0)), (3, .int i)] []) : lw_LAt p l e s m args below meth c Q D ct adC adM AC AM σ τ 780 [(0, .ref b), (1, .ref (adC 0)), (2, .ref (adM 0)), (3, .int i)] [] := by
  intro H ls hC hM hl
  have hx := C.1.1
  have hb := C.1.2.1
  have hX := C.2.2.2.2.2.1
  have hbl := C.2.2.2.2.2.2
  have hbA : ¬ AC b := fun z => absurd (C.2.2.1 b z) (by omega)
  refine lv_aload_n hx hb dL_law_780 rfl (lv_at hl 1 rfl) ?_
  obtain ⟨r, r2, τ1, hf1, hf2, hJ1⟩ := hs σ τ  hJ
  refine lw_call (rest := []) C.1 C.2.2.1 (fun q z1 z2 => C.2.2.2.2.1 q z2 z1) C.2.1.2.2.2.2.2.2.2.2.1 hC hM (ctX8_calm l hf1) kl_RL_89 layC_0 rfl rfl rfl rfl (Nat.le_of_ble_eq_true rfl) dL_law_781 hl.1 (Nat.le_refl _) (Nat.le_refl _) (fun H hC hM => ?_)
  refine lv_pop hx hb dL_law_784 rfl ?_
  refine lv_aload_n hx hb dL_law_785 rfl (lv_at hl 2 rfl) ?_
  refine lw_call (rest := []) C.2.1 C.2.2.2.1 C.2.2.2.2.1 C.1.2.2.2.2.2.2.2.2.1 hM hC (ctX9_calm l hf2) kl_RL_92 layM_0 rfl rfl rfl rfl (Nat.le_of_ble_eq_true rfl) dL_law_786 hl.1 (Nat.le_refl _) (Nat.le_refl _) (fun H hM hC => ?_)
  refine lv_pop hx hb dL_law_789 rfl ?_
  refine lv_goto (tgt := 2172) hx hb dL_law_790 (by decide) ?_
  exact kk σ τ1 hJ1 H ls hC hM (lv_sub hl [0, 1, 2, 3] rfl)
theorem lw_case_19 (C : lw_C p s m args meth c b L xs D ct adC adM AC AM) {J J2 : sn_S → sn_S → Prop} (hs : st_19 J J2) {σ τ : sn_S} (hJ : J σ τ) {i : Int32} (g1 : vp_in (i + 1) L) (g2 : vp_in (i + 2) L) (g3 : vp_in (i + 3) L) (g4 : vp_in (i + 4) L) (g5 : vp_in (i + 5) L) (kk : ∀ σ τ, J2 σ τ → lw_LAt p l e s m args below meth c Q D ct adC adM AC AM σ τ 2172 [(0, .ref b), (1, .ref (adC 0)), (2, .ref (adM 0)), (3, .int i)] []) : lw_LAt p l e s m args below meth c Q D ct adC adM AC AM σ τ 793 [(0, .ref b), (1, .ref (adC 0)), (2, .ref (adM 0)), (3, .int i)] [] := by
  intro H ls hC hM hl
  have hx := C.1.1
  have hb := C.1.2.1
  have hX := C.2.2.2.2.2.1
  have hbl := C.2.2.2.2.2.2
  have hbA : ¬ AC b := fun z => absurd (C.2.2.1 b z) (by omega)
  refine lv_aload_n hx hb dL_law_793 rfl (lv_at hl 1 rfl) ?_
  refine lv_aload_n hx hb dL_law_794 rfl (lv_at hl 0 rfl) ?_
  refine lv_iload_n hx hb dL_law_795 rfl (lv_at hl 3 rfl) ?_
  refine lv_iconst (v := 1) hx hb dL_law_796 rfl ?_
  refine lv_iadd hx hb dL_law_797 ?_
  refine va_sld hx hb hX hbl hbA hC.2 g1 dL_law_798 ?_
  obtain ⟨r, r2, τ1, hf1, hf2, hJ1⟩ := hs σ τ (xs (i + 1).toNatClampNeg) hJ
  refine lw_call (rest := []) C.1 C.2.2.1 (fun q z1 z2 => C.2.2.2.2.1 q z2 z1) C.2.1.2.2.2.2.2.2.2.2.1 hC hM (ctX8_pause l hf1) kl_RL_93 layC_0 rfl rfl rfl rfl (Nat.le_of_ble_eq_true rfl) dL_law_799 hl.1 (Nat.le_refl _) (Nat.le_refl _) (fun H hC hM => ?_)
  refine lv_pop hx hb dL_law_802 rfl ?_
  refine lv_aload_n hx hb dL_law_803 rfl (lv_at hl 2 rfl) ?_
  refine lv_aload_n hx hb dL_law_804 rfl (lv_at hl 0 rfl) ?_
  refine lv_iload_n hx hb dL_law_805 rfl (lv_at hl 3 rfl) ?_
  refine lv_iconst (v := 1) hx hb dL_law_806 rfl ?_
  refine lv_iadd hx hb dL_law_807 ?_
  refine va_sld hx hb hX hbl hbA hC.2 g1 dL_law_808 ?_
  refine lw_call (rest := []) C.2.1 C.2.2.2.1 C.2.2.2.2.1 C.1.2.2.2.2.2.2.2.2.1 hM hC (ctX9_pause l hf2) kl_RL_96 layM_0 rfl rfl rfl rfl (Nat.le_of_ble_eq_true rfl) dL_law_809 hl.1 (Nat.le_refl _) (Nat.le_refl _) (fun H hM hC => ?_)
  refine lv_pop hx hb dL_law_812 rfl ?_
  refine lv_goto (tgt := 2172) hx hb dL_law_813 (by decide) ?_
  exact kk σ τ1 hJ1 H ls hC hM (lv_sub hl [0, 1, 2, 3] rfl)
theorem lw_case_20 (C : lw_C p s m args meth c b L xs D ct adC adM AC AM) {J J2 : sn_S → sn_S → Prop} (hs : st_20 J J2) {σ τ : sn_S} (hJ : J σ τ) {i : Int32} (g1 : vp_in (i + 1) L) (g2 : vp_in (i + 2) L) (g3 : vp_in (i + 3) L) (g4 : vp_in (i + 4) L) (g5 : vp_in (i + 5) L) (kk : ∀ σ τ, J2 σ τ → lw_LAt p l e s m args below meth c Q D ct adC adM AC AM σ τ 2172 [(0, .ref b), (1, .ref (adC 0)), (2, .ref (adM 0)), (3, .int i)] []) : lw_LAt p l e s m args below meth c Q D ct adC adM AC AM σ τ 816 [(0, .ref b), (1, .ref (adC 0)), (2, .ref (adM 0)), (3, .int i)] [] := by
  intro H ls hC hM hl
  have hx := C.1.1
  have hb := C.1.2.1
  have hX := C.2.2.2.2.2.1
  have hbl := C.2.2.2.2.2.2
  have hbA : ¬ AC b := fun z => absurd (C.2.2.1 b z) (by omega)
  refine lv_aload_n hx hb dL_law_816 rfl (lv_at hl 1 rfl) ?_
  refine lv_aload_n hx hb dL_law_817 rfl (lv_at hl 0 rfl) ?_
  refine lv_iload_n hx hb dL_law_818 rfl (lv_at hl 3 rfl) ?_
  refine lv_iconst (v := 1) hx hb dL_law_819 rfl ?_
  refine lv_iadd hx hb dL_law_820 ?_
  refine va_sld hx hb hX hbl hbA hC.2 g1 dL_law_821 ?_
  refine lv_aload_n hx hb dL_law_822 rfl (lv_at hl 0 rfl) ?_
  refine lv_iload_n hx hb dL_law_823 rfl (lv_at hl 3 rfl) ?_
  refine lv_iconst (v := 2) hx hb dL_law_824 rfl ?_
  refine lv_iadd hx hb dL_law_825 ?_
  refine va_sld hx hb hX hbl hbA hC.2 g2 dL_law_826 ?_
  obtain ⟨r, r2, τ1, hf1, hf2, hJ1⟩ := hs σ τ (xs (i + 1).toNatClampNeg) (xs (i + 2).toNatClampNeg) hJ
  refine lw_call (rest := []) C.1 C.2.2.1 (fun q z1 z2 => C.2.2.2.2.1 q z2 z1) C.2.1.2.2.2.2.2.2.2.2.1 hC hM (ctX8_later l hf1) kl_RL_97 layC_0 rfl rfl rfl rfl (Nat.le_of_ble_eq_true rfl) dL_law_827 hl.1 (Nat.le_refl _) (Nat.le_refl _) (fun H hC hM => ?_)
  refine lv_pop hx hb dL_law_830 rfl ?_
  refine lv_aload_n hx hb dL_law_831 rfl (lv_at hl 2 rfl) ?_
  refine lv_aload_n hx hb dL_law_832 rfl (lv_at hl 0 rfl) ?_
  refine lv_iload_n hx hb dL_law_833 rfl (lv_at hl 3 rfl) ?_
  refine lv_iconst (v := 1) hx hb dL_law_834 rfl ?_
  refine lv_iadd hx hb dL_law_835 ?_
  refine va_sld hx hb hX hbl hbA hC.2 g1 dL_law_836 ?_
  refine lv_aload_n hx hb dL_law_837 rfl (lv_at hl 0 rfl) ?_
  refine lv_iload_n hx hb dL_law_838 rfl (lv_at hl 3 rfl) ?_
  refine lv_iconst (v := 2) hx hb dL_law_839 rfl ?_
  refine lv_iadd hx hb dL_law_840 ?_
  refine va_sld hx hb hX hbl hbA hC.2 g2 dL_law_841 ?_
  refine lw_call (rest := []) C.2.1 C.2.2.2.1 C.2.2.2.2.1 C.1.2.2.2.2.2.2.2.2.1 hM hC (ctX9_later l hf2) kl_RL_100 layM_0 rfl rfl rfl rfl (Nat.le_of_ble_eq_true rfl) dL_law_842 hl.1 (Nat.le_refl _) (Nat.le_refl _) (fun H hM hC => ?_)
  refine lv_pop hx hb dL_law_845 rfl ?_
  refine lv_goto (tgt := 2172) hx hb dL_law_846 (by decide) ?_
  exact kk σ τ1 hJ1 H ls hC hM (lv_sub hl [0, 1, 2, 3] rfl)
theorem lw_case_21 (C : lw_C p s m args meth c b L xs D ct adC adM AC AM) {J J2 : sn_S → sn_S → Prop} (hs : st_21 J J2) {σ τ : sn_S} (hJ : J σ τ) {i : Int32} (g1 : vp_in (i + 1) L) (g2 : vp_in (i + 2) L) (g3 : vp_in (i + 3) L) (g4 : vp_in (i + 4) L) (g5 : vp_in (i + 5) L) (kk : ∀ σ τ, J2 σ τ → lw_LAt p l e s m args below meth c Q D ct adC adM AC AM σ τ 2172 [(0, .ref b), (1, .ref (adC 0)), (2, .ref (adM 0)), (3, .int i)] []) : lw_LAt p l e s m args below meth c Q D ct adC adM AC AM σ τ 849 [(0, .ref b), (1, .ref (adC 0)), (2, .ref (adM 0)), (3, .int i)] [] := by
  intro H ls hC hM hl
  have hx := C.1.1
  have hb := C.1.2.1
  have hX := C.2.2.2.2.2.1
  have hbl := C.2.2.2.2.2.2
  have hbA : ¬ AC b := fun z => absurd (C.2.2.1 b z) (by omega)
  refine lv_aload_n hx hb dL_law_849 rfl (lv_at hl 1 rfl) ?_
  refine lv_aload_n hx hb dL_law_850 rfl (lv_at hl 0 rfl) ?_
  refine lv_iload_n hx hb dL_law_851 rfl (lv_at hl 3 rfl) ?_
  refine lv_iconst (v := 1) hx hb dL_law_852 rfl ?_
  refine lv_iadd hx hb dL_law_853 ?_
  refine va_sld hx hb hX hbl hbA hC.2 g1 dL_law_854 ?_
  obtain ⟨r, r2, τ1, hf1, hf2, hJ1⟩ := hs σ τ (xs (i + 1).toNatClampNeg) hJ
  refine lw_call (rest := []) C.1 C.2.2.1 (fun q z1 z2 => C.2.2.2.2.1 q z2 z1) C.2.1.2.2.2.2.2.2.2.2.1 hC hM (ctX8_covered l hf1) kl_RL_101 layC_0 rfl rfl rfl rfl (Nat.le_of_ble_eq_true rfl) dL_law_855 hl.1 (Nat.le_refl _) (Nat.le_refl _) (fun H hC hM => ?_)
  refine lv_pop hx hb dL_law_858 rfl ?_
  refine lv_aload_n hx hb dL_law_859 rfl (lv_at hl 2 rfl) ?_
  refine lv_aload_n hx hb dL_law_860 rfl (lv_at hl 0 rfl) ?_
  refine lv_iload_n hx hb dL_law_861 rfl (lv_at hl 3 rfl) ?_
  refine lv_iconst (v := 1) hx hb dL_law_862 rfl ?_
  refine lv_iadd hx hb dL_law_863 ?_
  refine va_sld hx hb hX hbl hbA hC.2 g1 dL_law_864 ?_
  refine lw_call (rest := []) C.2.1 C.2.2.2.1 C.2.2.2.2.1 C.1.2.2.2.2.2.2.2.2.1 hM hC (ctX9_covered l hf2) kl_RL_104 layM_0 rfl rfl rfl rfl (Nat.le_of_ble_eq_true rfl) dL_law_865 hl.1 (Nat.le_refl _) (Nat.le_refl _) (fun H hM hC => ?_)
  refine lv_pop hx hb dL_law_868 rfl ?_
  refine lv_goto (tgt := 2172) hx hb dL_law_869 (by decide) ?_
  exact kk σ τ1 hJ1 H ls hC hM (lv_sub hl [0, 1, 2, 3] rfl)
theorem lw_case_22 (C : lw_C p s m args meth c b L xs D ct adC adM AC AM) {J J2 : sn_S → sn_S → Prop} (hs : st_22 J J2) {σ τ : sn_S} (hJ : J σ τ) {i : Int32} (g1 : vp_in (i + 1) L) (g2 : vp_in (i + 2) L) (g3 : vp_in (i + 3) L) (g4 : vp_in (i + 4) L) (g5 : vp_in (i + 5) L) (kk : ∀ σ τ, J2 σ τ → lw_LAt p l e s m args below meth c Q D ct adC adM AC AM σ τ 2172 [(0, .ref b), (1, .ref (adC 0)), (2, .ref (adM 0)), (3, .int i)] []) : lw_LAt p l e s m args below meth c Q D ct adC adM AC AM σ τ 872 [(0, .ref b), (1, .ref (adC 0)), (2, .ref (adM 0)), (3, .int i)] [] := by
  intro H ls hC hM hl
  have hx := C.1.1
  have hb := C.1.2.1
  have hX := C.2.2.2.2.2.1
  have hbl := C.2.2.2.2.2.2
  have hbA : ¬ AC b := fun z => absurd (C.2.2.1 b z) (by omega)
  refine lv_aload_n hx hb dL_law_872 rfl (lv_at hl 1 rfl) ?_
  obtain ⟨r, r2, τ1, hf1, hf2, hJ1⟩ := hs σ τ  hJ
  refine lw_call (rest := []) C.1 C.2.2.1 (fun q z1 z2 => C.2.2.2.2.1 q z2 z1) C.2.1.2.2.2.2.2.2.2.2.1 hC hM (ctX8_naked l hf1) kl_RL_105 layC_0 rfl rfl rfl rfl (Nat.le_of_ble_eq_true rfl) dL_law_873 hl.1 (Nat.le_refl _) (Nat.le_refl _) (fun H hC hM => ?_)
  refine lv_pop hx hb dL_law_876 rfl ?_
  refine lv_aload_n hx hb dL_law_877 rfl (lv_at hl 2 rfl) ?_
  refine lw_call (rest := []) C.2.1 C.2.2.2.1 C.2.2.2.2.1 C.1.2.2.2.2.2.2.2.2.1 hM hC (ctX9_naked l hf2) kl_RL_108 layM_0 rfl rfl rfl rfl (Nat.le_of_ble_eq_true rfl) dL_law_878 hl.1 (Nat.le_refl _) (Nat.le_refl _) (fun H hM hC => ?_)
  refine lv_pop hx hb dL_law_881 rfl ?_
  refine lv_goto (tgt := 2172) hx hb dL_law_882 (by decide) ?_
  exact kk σ τ1 hJ1 H ls hC hM (lv_sub hl [0, 1, 2, 3] rfl)
theorem lw_case_23 (C : lw_C p s m args meth c b L xs D ct adC adM AC AM) {J J2 : sn_S → sn_S → Prop} (hs : st_23 J J2) {σ τ : sn_S} (hJ : J σ τ) {i : Int32} (g1 : vp_in (i + 1) L) (g2 : vp_in (i + 2) L) (g3 : vp_in (i + 3) L) (g4 : vp_in (i + 4) L) (g5 : vp_in (i + 5) L) (kk : ∀ σ τ, J2 σ τ → lw_LAt p l e s m args below meth c Q D ct adC adM AC AM σ τ 2172 [(0, .ref b), (1, .ref (adC 0)), (2, .ref (adM 0)), (3, .int i)] []) : lw_LAt p l e s m args below meth c Q D ct adC adM AC AM σ τ 885 [(0, .ref b), (1, .ref (adC 0)), (2, .ref (adM 0)), (3, .int i)] [] := by
  intro H ls hC hM hl
  have hx := C.1.1
  have hb := C.1.2.1
  have hX := C.2.2.2.2.2.1
  have hbl := C.2.2.2.2.2.2
  have hbA : ¬ AC b := fun z => absurd (C.2.2.1 b z) (by omega)
  refine lv_aload_n hx hb dL_law_885 rfl (lv_at hl 1 rfl) ?_
  refine lv_aload_n hx hb dL_law_886 rfl (lv_at hl 0 rfl) ?_
  refine lv_iload_n hx hb dL_law_887 rfl (lv_at hl 3 rfl) ?_
  refine lv_iconst (v := 1) hx hb dL_law_888 rfl ?_
  refine lv_iadd hx hb dL_law_889 ?_
  refine va_sld hx hb hX hbl hbA hC.2 g1 dL_law_890 ?_
  obtain ⟨r, r2, τ1, hf1, hf2, hJ1⟩ := hs σ τ (xs (i + 1).toNatClampNeg) hJ
  refine lw_call (rest := []) C.1 C.2.2.1 (fun q z1 z2 => C.2.2.2.2.1 q z2 z1) C.2.1.2.2.2.2.2.2.2.2.1 hC hM (ctX8_covers l hf1) kl_RL_109 layC_0 rfl rfl rfl rfl (Nat.le_of_ble_eq_true rfl) dL_law_891 hl.1 (Nat.le_refl _) (Nat.le_refl _) (fun H hC hM => ?_)
  refine lv_pop hx hb dL_law_894 rfl ?_
  refine lv_aload_n hx hb dL_law_895 rfl (lv_at hl 2 rfl) ?_
  refine lv_aload_n hx hb dL_law_896 rfl (lv_at hl 0 rfl) ?_
  refine lv_iload_n hx hb dL_law_897 rfl (lv_at hl 3 rfl) ?_
  refine lv_iconst (v := 1) hx hb dL_law_898 rfl ?_
  refine lv_iadd hx hb dL_law_899 ?_
  refine va_sld hx hb hX hbl hbA hC.2 g1 dL_law_900 ?_
  refine lw_call (rest := []) C.2.1 C.2.2.2.1 C.2.2.2.2.1 C.1.2.2.2.2.2.2.2.2.1 hM hC (ctX9_covers l hf2) kl_RL_112 layM_0 rfl rfl rfl rfl (Nat.le_of_ble_eq_true rfl) dL_law_901 hl.1 (Nat.le_refl _) (Nat.le_refl _) (fun H hM hC => ?_)
  refine lv_pop hx hb dL_law_904 rfl ?_
  refine lv_goto (tgt := 2172) hx hb dL_law_905 (by decide) ?_
  exact kk σ τ1 hJ1 H ls hC hM (lv_sub hl [0, 1, 2, 3] rfl)
theorem lw_case_24 (C : lw_C p s m args meth c b L xs D ct adC adM AC AM) {J J2 : sn_S → sn_S → Prop} (hs : st_24 J J2) {σ τ : sn_S} (hJ : J σ τ) {i : Int32} (g1 : vp_in (i + 1) L) (g2 : vp_in (i + 2) L) (g3 : vp_in (i + 3) L) (g4 : vp_in (i + 4) L) (g5 : vp_in (i + 5) L) (kk : ∀ σ τ, J2 σ τ → lw_LAt p l e s m args below meth c Q D ct adC adM AC AM σ τ 2172 [(0, .ref b), (1, .ref (adC 0)), (2, .ref (adM 0)), (3, .int i)] []) : lw_LAt p l e s m args below meth c Q D ct adC adM AC AM σ τ 908 [(0, .ref b), (1, .ref (adC 0)), (2, .ref (adM 0)), (3, .int i)] [] := by
  intro H ls hC hM hl
  have hx := C.1.1
  have hb := C.1.2.1
  have hX := C.2.2.2.2.2.1
  have hbl := C.2.2.2.2.2.2
  have hbA : ¬ AC b := fun z => absurd (C.2.2.1 b z) (by omega)
  refine lv_aload_n hx hb dL_law_908 rfl (lv_at hl 1 rfl) ?_
  refine lv_aload_n hx hb dL_law_909 rfl (lv_at hl 0 rfl) ?_
  refine lv_iload_n hx hb dL_law_910 rfl (lv_at hl 3 rfl) ?_
  refine lv_iconst (v := 1) hx hb dL_law_911 rfl ?_
  refine lv_iadd hx hb dL_law_912 ?_
  refine va_sld hx hb hX hbl hbA hC.2 g1 dL_law_913 ?_
  obtain ⟨r, r2, σ1, τ1, hf1, hf2, hJ1⟩ := hs σ τ (xs (i + 1).toNatClampNeg) hJ
  refine lw_call (rest := []) C.1 C.2.2.1 (fun q z1 z2 => C.2.2.2.2.1 q z2 z1) C.2.1.2.2.2.2.2.2.2.2.1 hC hM (ctX8_profit l hf1) kl_RL_113 layC_0 rfl rfl rfl rfl (Nat.le_of_ble_eq_true rfl) dL_law_914 hl.1 (Nat.le_refl _) (Nat.le_refl _) (fun H hC hM => ?_)
  refine lv_pop hx hb dL_law_917 rfl ?_
  refine lv_aload_n hx hb dL_law_918 rfl (lv_at hl 2 rfl) ?_
  refine lv_aload_n hx hb dL_law_919 rfl (lv_at hl 0 rfl) ?_
  refine lv_iload_n hx hb dL_law_920 rfl (lv_at hl 3 rfl) ?_
  refine lv_iconst (v := 1) hx hb dL_law_921 rfl ?_
  refine lv_iadd hx hb dL_law_922 ?_
  refine va_sld hx hb hX hbl hbA hC.2 g1 dL_law_923 ?_
  refine lw_call (rest := []) C.2.1 C.2.2.2.1 C.2.2.2.2.1 C.1.2.2.2.2.2.2.2.2.1 hM hC (ctX9_profit l hf2) kl_RL_116 layM_0 rfl rfl rfl rfl (Nat.le_of_ble_eq_true rfl) dL_law_924 hl.1 (Nat.le_refl _) (Nat.le_refl _) (fun H hM hC => ?_)
  refine lv_pop hx hb dL_law_927 rfl ?_
  refine lv_goto (tgt := 2172) hx hb dL_law_928 (by decide) ?_
  exact kk σ1 τ1 hJ1 H ls hC hM (lv_sub hl [0, 1, 2, 3] rfl)
theorem lw_case_25 (C : lw_C p s m args meth c b L xs D ct adC adM AC AM) {J J2 : sn_S → sn_S → Prop} (hs : st_25 J J2) {σ τ : sn_S} (hJ : J σ τ) {i : Int32} (g1 : vp_in (i + 1) L) (g2 : vp_in (i + 2) L) (g3 : vp_in (i + 3) L) (g4 : vp_in (i + 4) L) (g5 : vp_in (i + 5) L) (kk : ∀ σ τ, J2 σ τ → lw_LAt p l e s m args below meth c Q D ct adC adM AC AM σ τ 2172 [(0, .ref b), (1, .ref (adC 0)), (2, .ref (adM 0)), (3, .int i)] []) : lw_LAt p l e s m args below meth c Q D ct adC adM AC AM σ τ 931 [(0, .ref b), (1, .ref (adC 0)), (2, .ref (adM 0)), (3, .int i)] [] := by
  intro H ls hC hM hl
  have hx := C.1.1
  have hb := C.1.2.1
  have hX := C.2.2.2.2.2.1
  have hbl := C.2.2.2.2.2.2
  have hbA : ¬ AC b := fun z => absurd (C.2.2.1 b z) (by omega)
  refine lv_aload_n hx hb dL_law_931 rfl (lv_at hl 1 rfl) ?_
  obtain ⟨r, r2, σ1, τ1, hf1, hf2, hJ1⟩ := hs σ τ  hJ
  refine lw_call (rest := []) C.1 C.2.2.1 (fun q z1 z2 => C.2.2.2.2.1 q z2 z1) C.2.1.2.2.2.2.2.2.2.2.1 hC hM (ctX8_lowest l hf1) kl_RL_117 layC_0 rfl rfl rfl rfl (Nat.le_of_ble_eq_true rfl) dL_law_932 hl.1 (Nat.le_refl _) (Nat.le_refl _) (fun H hC hM => ?_)
  refine lv_pop hx hb dL_law_935 rfl ?_
  refine lv_aload_n hx hb dL_law_936 rfl (lv_at hl 2 rfl) ?_
  refine lw_call (rest := []) C.2.1 C.2.2.2.1 C.2.2.2.2.1 C.1.2.2.2.2.2.2.2.2.1 hM hC (ctX9_lowest l hf2) kl_RL_120 layM_0 rfl rfl rfl rfl (Nat.le_of_ble_eq_true rfl) dL_law_937 hl.1 (Nat.le_refl _) (Nat.le_refl _) (fun H hM hC => ?_)
  refine lv_pop hx hb dL_law_940 rfl ?_
  refine lv_goto (tgt := 2172) hx hb dL_law_941 (by decide) ?_
  exact kk σ1 τ1 hJ1 H ls hC hM (lv_sub hl [0, 1, 2, 3] rfl)
theorem lw_case_26 (C : lw_C p s m args meth c b L xs D ct adC adM AC AM) {J J2 : sn_S → sn_S → Prop} (hs : st_26 J J2) {σ τ : sn_S} (hJ : J σ τ) {i : Int32} (g1 : vp_in (i + 1) L) (g2 : vp_in (i + 2) L) (g3 : vp_in (i + 3) L) (g4 : vp_in (i + 4) L) (g5 : vp_in (i + 5) L) (kk : ∀ σ τ, J2 σ τ → lw_LAt p l e s m args below meth c Q D ct adC adM AC AM σ τ 2172 [(0, .ref b), (1, .ref (adC 0)), (2, .ref (adM 0)), (3, .int i)] []) : lw_LAt p l e s m args below meth c Q D ct adC adM AC AM σ τ 944 [(0, .ref b), (1, .ref (adC 0)), (2, .ref (adM 0)), (3, .int i)] [] := by
  intro H ls hC hM hl
  have hx := C.1.1
  have hb := C.1.2.1
  have hX := C.2.2.2.2.2.1
  have hbl := C.2.2.2.2.2.2
  have hbA : ¬ AC b := fun z => absurd (C.2.2.1 b z) (by omega)
  refine lv_aload_n hx hb dL_law_944 rfl (lv_at hl 1 rfl) ?_
  refine lv_aload_n hx hb dL_law_945 rfl (lv_at hl 0 rfl) ?_
  refine lv_iload_n hx hb dL_law_946 rfl (lv_at hl 3 rfl) ?_
  refine lv_iconst (v := 1) hx hb dL_law_947 rfl ?_
  refine lv_iadd hx hb dL_law_948 ?_
  refine va_sld hx hb hX hbl hbA hC.2 g1 dL_law_949 ?_
  obtain ⟨r, r2, σ1, τ1, hf1, hf2, hJ1⟩ := hs σ τ (xs (i + 1).toNatClampNeg) hJ
  refine lw_call (rest := []) C.1 C.2.2.1 (fun q z1 z2 => C.2.2.2.2.1 q z2 z1) C.2.1.2.2.2.2.2.2.2.2.1 hC hM (ctX8_dull l hf1) kl_RL_121 layC_0 rfl rfl rfl rfl (Nat.le_of_ble_eq_true rfl) dL_law_950 hl.1 (Nat.le_refl _) (Nat.le_refl _) (fun H hC hM => ?_)
  refine lv_pop hx hb dL_law_953 rfl ?_
  refine lv_aload_n hx hb dL_law_954 rfl (lv_at hl 2 rfl) ?_
  refine lv_aload_n hx hb dL_law_955 rfl (lv_at hl 0 rfl) ?_
  refine lv_iload_n hx hb dL_law_956 rfl (lv_at hl 3 rfl) ?_
  refine lv_iconst (v := 1) hx hb dL_law_957 rfl ?_
  refine lv_iadd hx hb dL_law_958 ?_
  refine va_sld hx hb hX hbl hbA hC.2 g1 dL_law_959 ?_
  refine lw_call (rest := []) C.2.1 C.2.2.2.1 C.2.2.2.2.1 C.1.2.2.2.2.2.2.2.2.1 hM hC (ctX9_dull l hf2) kl_RL_124 layM_0 rfl rfl rfl rfl (Nat.le_of_ble_eq_true rfl) dL_law_960 hl.1 (Nat.le_refl _) (Nat.le_refl _) (fun H hM hC => ?_)
  refine lv_pop hx hb dL_law_963 rfl ?_
  refine lv_goto (tgt := 2172) hx hb dL_law_964 (by decide) ?_
  exact kk σ1 τ1 hJ1 H ls hC hM (lv_sub hl [0, 1, 2, 3] rfl)
theorem lw_case_27 (C : lw_C p s m args meth c b L xs D ct adC adM AC AM) {J J2 : sn_S → sn_S → Prop} (hs : st_27 J J2) {σ τ : sn_S} (hJ : J σ τ) {i : Int32} (g1 : vp_in (i + 1) L) (g2 : vp_in (i + 2) L) (g3 : vp_in (i + 3) L) (g4 : vp_in (i + 4) L) (g5 : vp_in (i + 5) L) (kk : ∀ σ τ, J2 σ τ → lw_LAt p l e s m args below meth c Q D ct adC adM AC AM σ τ 2172 [(0, .ref b), (1, .ref (adC 0)), (2, .ref (adM 0)), (3, .int i)] []) : lw_LAt p l e s m args below meth c Q D ct adC adM AC AM σ τ 967 [(0, .ref b), (1, .ref (adC 0)), (2, .ref (adM 0)), (3, .int i)] [] := by
  intro H ls hC hM hl
  have hx := C.1.1
  have hb := C.1.2.1
  have hX := C.2.2.2.2.2.1
  have hbl := C.2.2.2.2.2.2
  have hbA : ¬ AC b := fun z => absurd (C.2.2.1 b z) (by omega)
  refine lv_aload_n hx hb dL_law_967 rfl (lv_at hl 1 rfl) ?_
  refine lv_aload_n hx hb dL_law_968 rfl (lv_at hl 0 rfl) ?_
  refine lv_iload_n hx hb dL_law_969 rfl (lv_at hl 3 rfl) ?_
  refine lv_iconst (v := 1) hx hb dL_law_970 rfl ?_
  refine lv_iadd hx hb dL_law_971 ?_
  refine va_sld hx hb hX hbl hbA hC.2 g1 dL_law_972 ?_
  obtain ⟨r, r2, σ1, τ1, hf1, hf2, hJ1⟩ := hs σ τ (xs (i + 1).toNatClampNeg) hJ
  refine lw_call (rest := []) C.1 C.2.2.1 (fun q z1 z2 => C.2.2.2.2.1 q z2 z1) C.2.1.2.2.2.2.2.2.2.2.1 hC hM (ctX8_bears l hf1) kl_RL_125 layC_0 rfl rfl rfl rfl (Nat.le_of_ble_eq_true rfl) dL_law_973 hl.1 (Nat.le_refl _) (Nat.le_refl _) (fun H hC hM => ?_)
  refine lv_pop hx hb dL_law_976 rfl ?_
  refine lv_aload_n hx hb dL_law_977 rfl (lv_at hl 2 rfl) ?_
  refine lv_aload_n hx hb dL_law_978 rfl (lv_at hl 0 rfl) ?_
  refine lv_iload_n hx hb dL_law_979 rfl (lv_at hl 3 rfl) ?_
  refine lv_iconst (v := 1) hx hb dL_law_980 rfl ?_
  refine lv_iadd hx hb dL_law_981 ?_
  refine va_sld hx hb hX hbl hbA hC.2 g1 dL_law_982 ?_
  refine lw_call (rest := []) C.2.1 C.2.2.2.1 C.2.2.2.2.1 C.1.2.2.2.2.2.2.2.2.1 hM hC (ctX9_bears l hf2) kl_RL_128 layM_0 rfl rfl rfl rfl (Nat.le_of_ble_eq_true rfl) dL_law_983 hl.1 (Nat.le_refl _) (Nat.le_refl _) (fun H hM hC => ?_)
  refine lv_pop hx hb dL_law_986 rfl ?_
  refine lv_goto (tgt := 2172) hx hb dL_law_987 (by decide) ?_
  exact kk σ1 τ1 hJ1 H ls hC hM (lv_sub hl [0, 1, 2, 3] rfl)
theorem lw_case_28 (C : lw_C p s m args meth c b L xs D ct adC adM AC AM) {J J2 : sn_S → sn_S → Prop} (hs : st_28 J J2) {σ τ : sn_S} (hJ : J σ τ) {i : Int32} (g1 : vp_in (i + 1) L) (g2 : vp_in (i + 2) L) (g3 : vp_in (i + 3) L) (g4 : vp_in (i + 4) L) (g5 : vp_in (i + 5) L) (kk : ∀ σ τ, J2 σ τ → lw_LAt p l e s m args below meth c Q D ct adC adM AC AM σ τ 2172 [(0, .ref b), (1, .ref (adC 0)), (2, .ref (adM 0)), (3, .int i)] []) : lw_LAt p l e s m args below meth c Q D ct adC adM AC AM σ τ 990 [(0, .ref b), (1, .ref (adC 0)), (2, .ref (adM 0)), (3, .int i)] [] := by
  intro H ls hC hM hl
  have hx := C.1.1
  have hb := C.1.2.1
  have hX := C.2.2.2.2.2.1
  have hbl := C.2.2.2.2.2.2
  have hbA : ¬ AC b := fun z => absurd (C.2.2.1 b z) (by omega)
  refine lv_aload_n hx hb dL_law_990 rfl (lv_at hl 1 rfl) ?_
  obtain ⟨r, r2, σ1, τ1, hf1, hf2, hJ1⟩ := hs σ τ  hJ
  refine lw_call (rest := []) C.1 C.2.2.1 (fun q z1 z2 => C.2.2.2.2.1 q z2 z1) C.2.1.2.2.2.2.2.2.2.2.1 hC hM (ctX8_clean l hf1) kl_RL_129 layC_0 rfl rfl rfl rfl (Nat.le_of_ble_eq_true rfl) dL_law_991 hl.1 (Nat.le_refl _) (Nat.le_refl _) (fun H hC hM => ?_)
  refine lv_pop hx hb dL_law_994 rfl ?_
  refine lv_aload_n hx hb dL_law_995 rfl (lv_at hl 2 rfl) ?_
  refine lw_call (rest := []) C.2.1 C.2.2.2.1 C.2.2.2.2.1 C.1.2.2.2.2.2.2.2.2.1 hM hC (ctX9_clean l hf2) kl_RL_132 layM_0 rfl rfl rfl rfl (Nat.le_of_ble_eq_true rfl) dL_law_996 hl.1 (Nat.le_refl _) (Nat.le_refl _) (fun H hM hC => ?_)
  refine lv_pop hx hb dL_law_999 rfl ?_
  refine lv_goto (tgt := 2172) hx hb dL_law_1000 (by decide) ?_
  exact kk σ1 τ1 hJ1 H ls hC hM (lv_sub hl [0, 1, 2, 3] rfl)
theorem lw_case_29 (C : lw_C p s m args meth c b L xs D ct adC adM AC AM) {J J2 : sn_S → sn_S → Prop} (hs : st_29 J J2) {σ τ : sn_S} (hJ : J σ τ) {i : Int32} (g1 : vp_in (i + 1) L) (g2 : vp_in (i + 2) L) (g3 : vp_in (i + 3) L) (g4 : vp_in (i + 4) L) (g5 : vp_in (i + 5) L) (kk : ∀ σ τ, J2 σ τ → lw_LAt p l e s m args below meth c Q D ct adC adM AC AM σ τ 2172 [(0, .ref b), (1, .ref (adC 0)), (2, .ref (adM 0)), (3, .int i)] []) : lw_LAt p l e s m args below meth c Q D ct adC adM AC AM σ τ 1003 [(0, .ref b), (1, .ref (adC 0)), (2, .ref (adM 0)), (3, .int i)] [] := by
  intro H ls hC hM hl
  have hx := C.1.1
  have hb := C.1.2.1
  have hX := C.2.2.2.2.2.1
  have hbl := C.2.2.2.2.2.2
  have hbA : ¬ AC b := fun z => absurd (C.2.2.1 b z) (by omega)
  refine lv_aload_n hx hb dL_law_1003 rfl (lv_at hl 1 rfl) ?_
  refine lv_aload_n hx hb dL_law_1004 rfl (lv_at hl 0 rfl) ?_
  refine lv_iload_n hx hb dL_law_1005 rfl (lv_at hl 3 rfl) ?_
  refine lv_iconst (v := 1) hx hb dL_law_1006 rfl ?_
  refine lv_iadd hx hb dL_law_1007 ?_
  refine va_sld hx hb hX hbl hbA hC.2 g1 dL_law_1008 ?_
  obtain ⟨r, r2, σ1, τ1, hf1, hf2, hJ1⟩ := hs σ τ (xs (i + 1).toNatClampNeg) hJ
  refine lw_call (rest := []) C.1 C.2.2.1 (fun q z1 z2 => C.2.2.2.2.1 q z2 z1) C.2.1.2.2.2.2.2.2.2.2.1 hC hM (ctX8_spreads l hf1) kl_RL_133 layC_0 rfl rfl rfl rfl (Nat.le_of_ble_eq_true rfl) dL_law_1009 hl.1 (Nat.le_refl _) (Nat.le_refl _) (fun H hC hM => ?_)
  refine lv_pop hx hb dL_law_1012 rfl ?_
  refine lv_aload_n hx hb dL_law_1013 rfl (lv_at hl 2 rfl) ?_
  refine lv_aload_n hx hb dL_law_1014 rfl (lv_at hl 0 rfl) ?_
  refine lv_iload_n hx hb dL_law_1015 rfl (lv_at hl 3 rfl) ?_
  refine lv_iconst (v := 1) hx hb dL_law_1016 rfl ?_
  refine lv_iadd hx hb dL_law_1017 ?_
  refine va_sld hx hb hX hbl hbA hC.2 g1 dL_law_1018 ?_
  refine lw_call (rest := []) C.2.1 C.2.2.2.1 C.2.2.2.2.1 C.1.2.2.2.2.2.2.2.2.1 hM hC (ctX9_spreads l hf2) kl_RL_136 layM_0 rfl rfl rfl rfl (Nat.le_of_ble_eq_true rfl) dL_law_1019 hl.1 (Nat.le_refl _) (Nat.le_refl _) (fun H hM hC => ?_)
  refine lv_pop hx hb dL_law_1022 rfl ?_
  refine lv_goto (tgt := 2172) hx hb dL_law_1023 (by decide) ?_
  exact kk σ1 τ1 hJ1 H ls hC hM (lv_sub hl [0, 1, 2, 3] rfl)
theorem lw_case_30 (C : lw_C p s m args meth c b L xs D ct adC adM AC AM) {J J2 : sn_S → sn_S → Prop} (hs : st_30 J J2) {σ τ : sn_S} (hJ : J σ τ) {i : Int32} (g1 : vp_in (i + 1) L) (g2 : vp_in (i + 2) L) (g3 : vp_in (i + 3) L) (g4 : vp_in (i + 4) L) (g5 : vp_in (i + 5) L) (kk : ∀ σ τ, J2 σ τ → lw_LAt p l e s m args below meth c Q D ct adC adM AC AM σ τ 2172 [(0, .ref b), (1, .ref (adC 0)), (2, .ref (adM 0)), (3, .int i)] []) : lw_LAt p l e s m args below meth c Q D ct adC adM AC AM σ τ 1026 [(0, .ref b), (1, .ref (adC 0)), (2, .ref (adM 0)), (3, .int i)] [] := by
  intro H ls hC hM hl
  have hx := C.1.1
  have hb := C.1.2.1
  have hX := C.2.2.2.2.2.1
  have hbl := C.2.2.2.2.2.2
  have hbA : ¬ AC b := fun z => absurd (C.2.2.1 b z) (by omega)
  refine lv_aload_n hx hb dL_law_1026 rfl (lv_at hl 1 rfl) ?_
  refine lv_aload_n hx hb dL_law_1027 rfl (lv_at hl 0 rfl) ?_
  refine lv_iload_n hx hb dL_law_1028 rfl (lv_at hl 3 rfl) ?_
  refine lv_iconst (v := 1) hx hb dL_law_1029 rfl ?_
  refine lv_iadd hx hb dL_law_1030 ?_
  refine va_sld hx hb hX hbl hbA hC.2 g1 dL_law_1031 ?_
  obtain ⟨r, r2, τ1, hf1, hf2, hJ1⟩ := hs σ τ (xs (i + 1).toNatClampNeg) hJ
  refine lw_call (rest := []) C.1 C.2.2.1 (fun q z1 z2 => C.2.2.2.2.1 q z2 z1) C.2.1.2.2.2.2.2.2.2.2.1 hC hM (ctX8_web l hf1) kl_RL_137 layC_0 rfl rfl rfl rfl (Nat.le_of_ble_eq_true rfl) dL_law_1032 hl.1 (Nat.le_refl _) (Nat.le_refl _) (fun H hC hM => ?_)
  refine lv_pop hx hb dL_law_1035 rfl ?_
  refine lv_aload_n hx hb dL_law_1036 rfl (lv_at hl 2 rfl) ?_
  refine lv_aload_n hx hb dL_law_1037 rfl (lv_at hl 0 rfl) ?_
  refine lv_iload_n hx hb dL_law_1038 rfl (lv_at hl 3 rfl) ?_
  refine lv_iconst (v := 1) hx hb dL_law_1039 rfl ?_
  refine lv_iadd hx hb dL_law_1040 ?_
  refine va_sld hx hb hX hbl hbA hC.2 g1 dL_law_1041 ?_
  refine lw_call (rest := []) C.2.1 C.2.2.2.1 C.2.2.2.2.1 C.1.2.2.2.2.2.2.2.2.1 hM hC (ctX9_web l hf2) kl_RL_140 layM_0 rfl rfl rfl rfl (Nat.le_of_ble_eq_true rfl) dL_law_1042 hl.1 (Nat.le_refl _) (Nat.le_refl _) (fun H hM hC => ?_)
  refine lv_pop hx hb dL_law_1045 rfl ?_
  refine lv_goto (tgt := 2172) hx hb dL_law_1046 (by decide) ?_
  exact kk σ τ1 hJ1 H ls hC hM (lv_sub hl [0, 1, 2, 3] rfl)
theorem lw_case_31 (C : lw_C p s m args meth c b L xs D ct adC adM AC AM) {J J2 : sn_S → sn_S → Prop} (hs : st_31 J J2) {σ τ : sn_S} (hJ : J σ τ) {i : Int32} (g1 : vp_in (i + 1) L) (g2 : vp_in (i + 2) L) (g3 : vp_in (i + 3) L) (g4 : vp_in (i + 4) L) (g5 : vp_in (i + 5) L) (kk : ∀ σ τ, J2 σ τ → lw_LAt p l e s m args below meth c Q D ct adC adM AC AM σ τ 2172 [(0, .ref b), (1, .ref (adC 0)), (2, .ref (adM 0)), (3, .int i)] []) : lw_LAt p l e s m args below meth c Q D ct adC adM AC AM σ τ 1049 [(0, .ref b), (1, .ref (adC 0)), (2, .ref (adM 0)), (3, .int i)] [] := by
  intro H ls hC hM hl
  have hx := C.1.1
  have hb := C.1.2.1
  have hX := C.2.2.2.2.2.1
  have hbl := C.2.2.2.2.2.2
  have hbA : ¬ AC b := fun z => absurd (C.2.2.1 b z) (by omega)
  refine lv_aload_n hx hb dL_law_1049 rfl (lv_at hl 1 rfl) ?_
  refine lv_aload_n hx hb dL_law_1050 rfl (lv_at hl 0 rfl) ?_
  refine lv_iload_n hx hb dL_law_1051 rfl (lv_at hl 3 rfl) ?_
  refine lv_iconst (v := 1) hx hb dL_law_1052 rfl ?_
  refine lv_iadd hx hb dL_law_1053 ?_
  refine va_sld hx hb hX hbl hbA hC.2 g1 dL_law_1054 ?_
  obtain ⟨r, r2, σ1, τ1, hf1, hf2, hJ1⟩ := hs σ τ (xs (i + 1).toNatClampNeg) hJ
  refine lw_call (rest := []) C.1 C.2.2.1 (fun q z1 z2 => C.2.2.2.2.1 q z2 z1) C.2.1.2.2.2.2.2.2.2.2.1 hC hM (ctX8_claim l hf1) kl_RL_141 layC_0 rfl rfl rfl rfl (Nat.le_of_ble_eq_true rfl) dL_law_1055 hl.1 (Nat.le_refl _) (Nat.le_refl _) (fun H hC hM => ?_)
  refine lv_pop hx hb dL_law_1058 rfl ?_
  refine lv_aload_n hx hb dL_law_1059 rfl (lv_at hl 2 rfl) ?_
  refine lv_aload_n hx hb dL_law_1060 rfl (lv_at hl 0 rfl) ?_
  refine lv_iload_n hx hb dL_law_1061 rfl (lv_at hl 3 rfl) ?_
  refine lv_iconst (v := 1) hx hb dL_law_1062 rfl ?_
  refine lv_iadd hx hb dL_law_1063 ?_
  refine va_sld hx hb hX hbl hbA hC.2 g1 dL_law_1064 ?_
  refine lw_call (rest := []) C.2.1 C.2.2.2.1 C.2.2.2.2.1 C.1.2.2.2.2.2.2.2.2.1 hM hC (ctX9_claim l hf2) kl_RL_144 layM_0 rfl rfl rfl rfl (Nat.le_of_ble_eq_true rfl) dL_law_1065 hl.1 (Nat.le_refl _) (Nat.le_refl _) (fun H hM hC => ?_)
  refine lv_pop hx hb dL_law_1068 rfl ?_
  refine lv_goto (tgt := 2172) hx hb dL_law_1069 (by decide) ?_
  exact kk σ1 τ1 hJ1 H ls hC hM (lv_sub hl [0, 1, 2, 3] rfl)
theorem lw_case_32 (C : lw_C p s m args meth c b L xs D ct adC adM AC AM) {J J2 : sn_S → sn_S → Prop} (hs : st_32 J J2) {σ τ : sn_S} (hJ : J σ τ) {i : Int32} (g1 : vp_in (i + 1) L) (g2 : vp_in (i + 2) L) (g3 : vp_in (i + 3) L) (g4 : vp_in (i + 4) L) (g5 : vp_in (i + 5) L) (kk : ∀ σ τ, J2 σ τ → lw_LAt p l e s m args below meth c Q D ct adC adM AC AM σ τ 2172 [(0, .ref b), (1, .ref (adC 0)), (2, .ref (adM 0)), (3, .int i)] []) : lw_LAt p l e s m args below meth c Q D ct adC adM AC AM σ τ 1072 [(0, .ref b), (1, .ref (adC 0)), (2, .ref (adM 0)), (3, .int i)] [] := by
  intro H ls hC hM hl
  have hx := C.1.1
  have hb := C.1.2.1
  have hX := C.2.2.2.2.2.1
  have hbl := C.2.2.2.2.2.2
  have hbA : ¬ AC b := fun z => absurd (C.2.2.1 b z) (by omega)
  refine lv_aload_n hx hb dL_law_1072 rfl (lv_at hl 1 rfl) ?_
  refine lv_aload_n hx hb dL_law_1073 rfl (lv_at hl 0 rfl) ?_
  refine lv_iload_n hx hb dL_law_1074 rfl (lv_at hl 3 rfl) ?_
  refine lv_iconst (v := 1) hx hb dL_law_1075 rfl ?_
  refine lv_iadd hx hb dL_law_1076 ?_
  refine va_sld hx hb hX hbl hbA hC.2 g1 dL_law_1077 ?_
  obtain ⟨r, r2, σ1, τ1, hf1, hf2, hJ1⟩ := hs σ τ (xs (i + 1).toNatClampNeg) hJ
  refine lw_call (rest := []) C.1 C.2.2.1 (fun q z1 z2 => C.2.2.2.2.1 q z2 z1) C.2.1.2.2.2.2.2.2.2.2.1 hC hM (ctX8_paid l hf1) kl_RL_145 layC_0 rfl rfl rfl rfl (Nat.le_of_ble_eq_true rfl) dL_law_1078 hl.1 (Nat.le_refl _) (Nat.le_refl _) (fun H hC hM => ?_)
  refine lv_pop hx hb dL_law_1081 rfl ?_
  refine lv_aload_n hx hb dL_law_1082 rfl (lv_at hl 2 rfl) ?_
  refine lv_aload_n hx hb dL_law_1083 rfl (lv_at hl 0 rfl) ?_
  refine lv_iload_n hx hb dL_law_1084 rfl (lv_at hl 3 rfl) ?_
  refine lv_iconst (v := 1) hx hb dL_law_1085 rfl ?_
  refine lv_iadd hx hb dL_law_1086 ?_
  refine va_sld hx hb hX hbl hbA hC.2 g1 dL_law_1087 ?_
  refine lw_call (rest := []) C.2.1 C.2.2.2.1 C.2.2.2.2.1 C.1.2.2.2.2.2.2.2.2.1 hM hC (ctX9_paid l hf2) kl_RL_148 layM_0 rfl rfl rfl rfl (Nat.le_of_ble_eq_true rfl) dL_law_1088 hl.1 (Nat.le_refl _) (Nat.le_refl _) (fun H hM hC => ?_)
  refine lv_pop hx hb dL_law_1091 rfl ?_
  refine lv_goto (tgt := 2172) hx hb dL_law_1092 (by decide) ?_
  exact kk σ1 τ1 hJ1 H ls hC hM (lv_sub hl [0, 1, 2, 3] rfl)
theorem lw_case_33 (C : lw_C p s m args meth c b L xs D ct adC adM AC AM) {J J2 : sn_S → sn_S → Prop} (hs : st_33 J J2) {σ τ : sn_S} (hJ : J σ τ) {i : Int32} (g1 : vp_in (i + 1) L) (g2 : vp_in (i + 2) L) (g3 : vp_in (i + 3) L) (g4 : vp_in (i + 4) L) (g5 : vp_in (i + 5) L) (kk : ∀ σ τ, J2 σ τ → lw_LAt p l e s m args below meth c Q D ct adC adM AC AM σ τ 2172 [(0, .ref b), (1, .ref (adC 0)), (2, .ref (adM 0)), (3, .int i)] []) : lw_LAt p l e s m args below meth c Q D ct adC adM AC AM σ τ 1095 [(0, .ref b), (1, .ref (adC 0)), (2, .ref (adM 0)), (3, .int i)] [] := by
  intro H ls hC hM hl
  have hx := C.1.1
  have hb := C.1.2.1
  have hX := C.2.2.2.2.2.1
  have hbl := C.2.2.2.2.2.2
  have hbA : ¬ AC b := fun z => absurd (C.2.2.1 b z) (by omega)
  refine lv_aload_n hx hb dL_law_1095 rfl (lv_at hl 1 rfl) ?_
  obtain ⟨r, r2, σ1, τ1, hf1, hf2, hJ1⟩ := hs σ τ  hJ
  refine lw_call (rest := []) C.1 C.2.2.1 (fun q z1 z2 => C.2.2.2.2.1 q z2 z1) C.2.1.2.2.2.2.2.2.2.2.1 hC hM (ctX8_claims l hf1) kl_RL_149 layC_0 rfl rfl rfl rfl (Nat.le_of_ble_eq_true rfl) dL_law_1096 hl.1 (Nat.le_refl _) (Nat.le_refl _) (fun H hC hM => ?_)
  refine lv_pop hx hb dL_law_1099 rfl ?_
  refine lv_aload_n hx hb dL_law_1100 rfl (lv_at hl 2 rfl) ?_
  refine lw_call (rest := []) C.2.1 C.2.2.2.1 C.2.2.2.2.1 C.1.2.2.2.2.2.2.2.2.1 hM hC (ctX9_claims l hf2) kl_RL_152 layM_0 rfl rfl rfl rfl (Nat.le_of_ble_eq_true rfl) dL_law_1101 hl.1 (Nat.le_refl _) (Nat.le_refl _) (fun H hM hC => ?_)
  refine lv_pop hx hb dL_law_1104 rfl ?_
  refine lv_goto (tgt := 2172) hx hb dL_law_1105 (by decide) ?_
  exact kk σ1 τ1 hJ1 H ls hC hM (lv_sub hl [0, 1, 2, 3] rfl)
theorem lw_case_34 (C : lw_C p s m args meth c b L xs D ct adC adM AC AM) {J J2 : sn_S → sn_S → Prop} (hs : st_34 J J2) {σ τ : sn_S} (hJ : J σ τ) {i : Int32} (g1 : vp_in (i + 1) L) (g2 : vp_in (i + 2) L) (g3 : vp_in (i + 3) L) (g4 : vp_in (i + 4) L) (g5 : vp_in (i + 5) L) (kk : ∀ σ τ, J2 σ τ → lw_LAt p l e s m args below meth c Q D ct adC adM AC AM σ τ 2172 [(0, .ref b), (1, .ref (adC 0)), (2, .ref (adM 0)), (3, .int i)] []) : lw_LAt p l e s m args below meth c Q D ct adC adM AC AM σ τ 1108 [(0, .ref b), (1, .ref (adC 0)), (2, .ref (adM 0)), (3, .int i)] [] := by
  intro H ls hC hM hl
  have hx := C.1.1
  have hb := C.1.2.1
  have hX := C.2.2.2.2.2.1
  have hbl := C.2.2.2.2.2.2
  have hbA : ¬ AC b := fun z => absurd (C.2.2.1 b z) (by omega)
  refine lv_aload_n hx hb dL_law_1108 rfl (lv_at hl 1 rfl) ?_
  refine lv_aload_n hx hb dL_law_1109 rfl (lv_at hl 0 rfl) ?_
  refine lv_iload_n hx hb dL_law_1110 rfl (lv_at hl 3 rfl) ?_
  refine lv_iconst (v := 1) hx hb dL_law_1111 rfl ?_
  refine lv_iadd hx hb dL_law_1112 ?_
  refine va_sld hx hb hX hbl hbA hC.2 g1 dL_law_1113 ?_
  obtain ⟨r, r2, σ1, τ1, hf1, hf2, hJ1⟩ := hs σ τ (xs (i + 1).toNatClampNeg) hJ
  refine lw_call (rest := []) C.1 C.2.2.1 (fun q z1 z2 => C.2.2.2.2.1 q z2 z1) C.2.1.2.2.2.2.2.2.2.2.1 hC hM (ctX8_money l hf1) kl_RL_153 layC_0 rfl rfl rfl rfl (Nat.le_of_ble_eq_true rfl) dL_law_1114 hl.1 (Nat.le_refl _) (Nat.le_refl _) (fun H hC hM => ?_)
  refine lv_pop hx hb dL_law_1117 rfl ?_
  refine lv_aload_n hx hb dL_law_1118 rfl (lv_at hl 2 rfl) ?_
  refine lv_aload_n hx hb dL_law_1119 rfl (lv_at hl 0 rfl) ?_
  refine lv_iload_n hx hb dL_law_1120 rfl (lv_at hl 3 rfl) ?_
  refine lv_iconst (v := 1) hx hb dL_law_1121 rfl ?_
  refine lv_iadd hx hb dL_law_1122 ?_
  refine va_sld hx hb hX hbl hbA hC.2 g1 dL_law_1123 ?_
  refine lw_call (rest := []) C.2.1 C.2.2.2.1 C.2.2.2.2.1 C.1.2.2.2.2.2.2.2.2.1 hM hC (ctX9_money l hf2) kl_RL_156 layM_0 rfl rfl rfl rfl (Nat.le_of_ble_eq_true rfl) dL_law_1124 hl.1 (Nat.le_refl _) (Nat.le_refl _) (fun H hM hC => ?_)
  refine lv_pop hx hb dL_law_1127 rfl ?_
  refine lv_goto (tgt := 2172) hx hb dL_law_1128 (by decide) ?_
  exact kk σ1 τ1 hJ1 H ls hC hM (lv_sub hl [0, 1, 2, 3] rfl)
theorem lw_case_35 (C : lw_C p s m args meth c b L xs D ct adC adM AC AM) {J J2 : sn_S → sn_S → Prop} (hs : st_35 J J2) {σ τ : sn_S} (hJ : J σ τ) {i : Int32} (g1 : vp_in (i + 1) L) (g2 : vp_in (i + 2) L) (g3 : vp_in (i + 3) L) (g4 : vp_in (i + 4) L) (g5 : vp_in (i + 5) L) (kk : ∀ σ τ, J2 σ τ → lw_LAt p l e s m args below meth c Q D ct adC adM AC AM σ τ 2172 [(0, .ref b), (1, .ref (adC 0)), (2, .ref (adM 0)), (3, .int i)] []) : lw_LAt p l e s m args below meth c Q D ct adC adM AC AM σ τ 1131 [(0, .ref b), (1, .ref (adC 0)), (2, .ref (adM 0)), (3, .int i)] [] := by
  intro H ls hC hM hl
  have hx := C.1.1
  have hb := C.1.2.1
  have hX := C.2.2.2.2.2.1
  have hbl := C.2.2.2.2.2.2
  have hbA : ¬ AC b := fun z => absurd (C.2.2.1 b z) (by omega)
  refine lv_aload_n hx hb dL_law_1131 rfl (lv_at hl 1 rfl) ?_
  obtain ⟨r, r2, σ1, τ1, hf1, hf2, hJ1⟩ := hs σ τ  hJ
  refine lw_call (rest := []) C.1 C.2.2.1 (fun q z1 z2 => C.2.2.2.2.1 q z2 z1) C.2.1.2.2.2.2.2.2.2.2.1 hC hM (ctX8_ruin l hf1) kl_RL_157 layC_0 rfl rfl rfl rfl (Nat.le_of_ble_eq_true rfl) dL_law_1132 hl.1 (Nat.le_refl _) (Nat.le_refl _) (fun H hC hM => ?_)
  refine lv_pop hx hb dL_law_1135 rfl ?_
  refine lv_aload_n hx hb dL_law_1136 rfl (lv_at hl 2 rfl) ?_
  refine lw_call (rest := []) C.2.1 C.2.2.2.1 C.2.2.2.2.1 C.1.2.2.2.2.2.2.2.2.1 hM hC (ctX9_ruin l hf2) kl_RL_160 layM_0 rfl rfl rfl rfl (Nat.le_of_ble_eq_true rfl) dL_law_1137 hl.1 (Nat.le_refl _) (Nat.le_refl _) (fun H hM hC => ?_)
  refine lv_pop hx hb dL_law_1140 rfl ?_
  refine lv_goto (tgt := 2172) hx hb dL_law_1141 (by decide) ?_
  exact kk σ1 τ1 hJ1 H ls hC hM (lv_sub hl [0, 1, 2, 3] rfl)
theorem lw_case_36 (C : lw_C p s m args meth c b L xs D ct adC adM AC AM) {J J2 : sn_S → sn_S → Prop} (hs : st_36 J J2) {σ τ : sn_S} (hJ : J σ τ) {i : Int32} (g1 : vp_in (i + 1) L) (g2 : vp_in (i + 2) L) (g3 : vp_in (i + 3) L) (g4 : vp_in (i + 4) L) (g5 : vp_in (i + 5) L) (kk : ∀ σ τ, J2 σ τ → lw_LAt p l e s m args below meth c Q D ct adC adM AC AM σ τ 2172 [(0, .ref b), (1, .ref (adC 0)), (2, .ref (adM 0)), (3, .int i)] []) : lw_LAt p l e s m args below meth c Q D ct adC adM AC AM σ τ 1144 [(0, .ref b), (1, .ref (adC 0)), (2, .ref (adM 0)), (3, .int i)] [] := by
  intro H ls hC hM hl
  have hx := C.1.1
  have hb := C.1.2.1
  have hX := C.2.2.2.2.2.1
  have hbl := C.2.2.2.2.2.2
  have hbA : ¬ AC b := fun z => absurd (C.2.2.1 b z) (by omega)
  refine lv_aload_n hx hb dL_law_1144 rfl (lv_at hl 1 rfl) ?_
  obtain ⟨r, r2, σ1, τ1, hf1, hf2, hJ1⟩ := hs σ τ  hJ
  refine lw_call (rest := []) C.1 C.2.2.1 (fun q z1 z2 => C.2.2.2.2.1 q z2 z1) C.2.1.2.2.2.2.2.2.2.2.1 hC hM (ctX8_dear l hf1) kl_RL_161 layC_0 rfl rfl rfl rfl (Nat.le_of_ble_eq_true rfl) dL_law_1145 hl.1 (Nat.le_refl _) (Nat.le_refl _) (fun H hC hM => ?_)
  refine lv_pop hx hb dL_law_1148 rfl ?_
  refine lv_aload_n hx hb dL_law_1149 rfl (lv_at hl 2 rfl) ?_
  refine lw_call (rest := []) C.2.1 C.2.2.2.1 C.2.2.2.2.1 C.1.2.2.2.2.2.2.2.2.1 hM hC (ctX9_dear l hf2) kl_RL_164 layM_0 rfl rfl rfl rfl (Nat.le_of_ble_eq_true rfl) dL_law_1150 hl.1 (Nat.le_refl _) (Nat.le_refl _) (fun H hM hC => ?_)
  refine lv_pop hx hb dL_law_1153 rfl ?_
  refine lv_goto (tgt := 2172) hx hb dL_law_1154 (by decide) ?_
  exact kk σ1 τ1 hJ1 H ls hC hM (lv_sub hl [0, 1, 2, 3] rfl)
theorem lw_case_37 (C : lw_C p s m args meth c b L xs D ct adC adM AC AM) {J J2 : sn_S → sn_S → Prop} (hs : st_37 J J2) {σ τ : sn_S} (hJ : J σ τ) {i : Int32} (g1 : vp_in (i + 1) L) (g2 : vp_in (i + 2) L) (g3 : vp_in (i + 3) L) (g4 : vp_in (i + 4) L) (g5 : vp_in (i + 5) L) (kk : ∀ σ τ, J2 σ τ → lw_LAt p l e s m args below meth c Q D ct adC adM AC AM σ τ 2172 [(0, .ref b), (1, .ref (adC 0)), (2, .ref (adM 0)), (3, .int i)] []) : lw_LAt p l e s m args below meth c Q D ct adC adM AC AM σ τ 1157 [(0, .ref b), (1, .ref (adC 0)), (2, .ref (adM 0)), (3, .int i)] [] := by
  intro H ls hC hM hl
  have hx := C.1.1
  have hb := C.1.2.1
  have hX := C.2.2.2.2.2.1
  have hbl := C.2.2.2.2.2.2
  have hbA : ¬ AC b := fun z => absurd (C.2.2.1 b z) (by omega)
  refine lv_aload_n hx hb dL_law_1157 rfl (lv_at hl 1 rfl) ?_
  obtain ⟨r, r2, σ1, τ1, hf1, hf2, hJ1⟩ := hs σ τ  hJ
  refine lw_call (rest := []) C.1 C.2.2.1 (fun q z1 z2 => C.2.2.2.2.1 q z2 z1) C.2.1.2.2.2.2.2.2.2.2.1 hC hM (ctX8_reserve l hf1) kl_RL_165 layC_0 rfl rfl rfl rfl (Nat.le_of_ble_eq_true rfl) dL_law_1158 hl.1 (Nat.le_refl _) (Nat.le_refl _) (fun H hC hM => ?_)
  refine lv_pop hx hb dL_law_1161 rfl ?_
  refine lv_aload_n hx hb dL_law_1162 rfl (lv_at hl 2 rfl) ?_
  refine lw_call (rest := []) C.2.1 C.2.2.2.1 C.2.2.2.2.1 C.1.2.2.2.2.2.2.2.2.1 hM hC (ctX9_reserve l hf2) kl_RL_168 layM_0 rfl rfl rfl rfl (Nat.le_of_ble_eq_true rfl) dL_law_1163 hl.1 (Nat.le_refl _) (Nat.le_refl _) (fun H hM hC => ?_)
  refine lv_pop hx hb dL_law_1166 rfl ?_
  refine lv_goto (tgt := 2172) hx hb dL_law_1167 (by decide) ?_
  exact kk σ1 τ1 hJ1 H ls hC hM (lv_sub hl [0, 1, 2, 3] rfl)
theorem lw_case_38 (C : lw_C p s m args meth c b L xs D ct adC adM AC AM) {J J2 : sn_S → sn_S → Prop} (hs : st_38 J J2) {σ τ : sn_S} (hJ : J σ τ) {i : Int32} (g1 : vp_in (i + 1) L) (g2 : vp_in (i + 2) L) (g3 : vp_in (i + 3) L) (g4 : vp_in (i + 4) L) (g5 : vp_in (i + 5) L) (kk : ∀ σ τ, J2 σ τ → lw_LAt p l e s m args below meth c Q D ct adC adM AC AM σ τ 2172 [(0, .ref b), (1, .ref (adC 0)), (2, .ref (adM 0)), (3, .int i)] []) : lw_LAt p l e s m args below meth c Q D ct adC adM AC AM σ τ 1170 [(0, .ref b), (1, .ref (adC 0)), (2, .ref (adM 0)), (3, .int i)] [] := by
  intro H ls hC hM hl
  have hx := C.1.1
  have hb := C.1.2.1
  have hX := C.2.2.2.2.2.1
  have hbl := C.2.2.2.2.2.2
  have hbA : ¬ AC b := fun z => absurd (C.2.2.1 b z) (by omega)
  refine lv_aload_n hx hb dL_law_1170 rfl (lv_at hl 1 rfl) ?_
  refine lv_aload_n hx hb dL_law_1171 rfl (lv_at hl 0 rfl) ?_
  refine lv_iload_n hx hb dL_law_1172 rfl (lv_at hl 3 rfl) ?_
  refine lv_iconst (v := 1) hx hb dL_law_1173 rfl ?_
  refine lv_iadd hx hb dL_law_1174 ?_
  refine va_sld hx hb hX hbl hbA hC.2 g1 dL_law_1175 ?_
  obtain ⟨r, r2, σ1, τ1, hf1, hf2, hJ1⟩ := hs σ τ (xs (i + 1).toNatClampNeg) hJ
  refine lw_call (rest := []) C.1 C.2.2.1 (fun q z1 z2 => C.2.2.2.2.1 q z2 z1) C.2.1.2.2.2.2.2.2.2.2.1 hC hM (ctX8_by l hf1) kl_RL_169 layC_0 rfl rfl rfl rfl (Nat.le_of_ble_eq_true rfl) dL_law_1176 hl.1 (Nat.le_refl _) (Nat.le_refl _) (fun H hC hM => ?_)
  refine lv_pop hx hb dL_law_1179 rfl ?_
  refine lv_aload_n hx hb dL_law_1180 rfl (lv_at hl 2 rfl) ?_
  refine lv_aload_n hx hb dL_law_1181 rfl (lv_at hl 0 rfl) ?_
  refine lv_iload_n hx hb dL_law_1182 rfl (lv_at hl 3 rfl) ?_
  refine lv_iconst (v := 1) hx hb dL_law_1183 rfl ?_
  refine lv_iadd hx hb dL_law_1184 ?_
  refine va_sld hx hb hX hbl hbA hC.2 g1 dL_law_1185 ?_
  refine lw_call (rest := []) C.2.1 C.2.2.2.1 C.2.2.2.2.1 C.1.2.2.2.2.2.2.2.2.1 hM hC (ctX9_by l hf2) kl_RL_172 layM_0 rfl rfl rfl rfl (Nat.le_of_ble_eq_true rfl) dL_law_1186 hl.1 (Nat.le_refl _) (Nat.le_refl _) (fun H hM hC => ?_)
  refine lv_pop hx hb dL_law_1189 rfl ?_
  refine lv_goto (tgt := 2172) hx hb dL_law_1190 (by decide) ?_
  exact kk σ1 τ1 hJ1 H ls hC hM (lv_sub hl [0, 1, 2, 3] rfl)
theorem lw_case_39 (C : lw_C p s m args meth c b L xs D ct adC adM AC AM) {J J2 : sn_S → sn_S → Prop} (hs : st_39 J J2) {σ τ : sn_S} (hJ : J σ τ) {i : Int32} (g1 : vp_in (i + 1) L) (g2 : vp_in (i + 2) L) (g3 : vp_in (i + 3) L) (g4 : vp_in (i + 4) L) (g5 : vp_in (i + 5) L) (kk : ∀ σ τ, J2 σ τ → lw_LAt p l e s m args below meth c Q D ct adC adM AC AM σ τ 2172 [(0, .ref b), (1, .ref (adC 0)), (2, .ref (adM 0)), (3, .int i)] []) : lw_LAt p l e s m args below meth c Q D ct adC adM AC AM σ τ 1193 [(0, .ref b), (1, .ref (adC 0)), (2, .ref (adM 0)), (3, .int i)] [] := by
  intro H ls hC hM hl
  have hx := C.1.1
  have hb := C.1.2.1
  have hX := C.2.2.2.2.2.1
  have hbl := C.2.2.2.2.2.2
  have hbA : ¬ AC b := fun z => absurd (C.2.2.1 b z) (by omega)
  refine lv_aload_n hx hb dL_law_1193 rfl (lv_at hl 1 rfl) ?_
  obtain ⟨r, r2, σ1, τ1, hf1, hf2, hJ1⟩ := hs σ τ  hJ
  refine lw_call (rest := []) C.1 C.2.2.1 (fun q z1 z2 => C.2.2.2.2.1 q z2 z1) C.2.1.2.2.2.2.2.2.2.2.1 hC hM (ctX8_law l hf1) kl_RL_173 layC_0 rfl rfl rfl rfl (Nat.le_of_ble_eq_true rfl) dL_law_1194 hl.1 (Nat.le_refl _) (Nat.le_refl _) (fun H hC hM => ?_)
  refine lv_pop hx hb dL_law_1197 rfl ?_
  refine lv_aload_n hx hb dL_law_1198 rfl (lv_at hl 2 rfl) ?_
  refine lw_call (rest := []) C.2.1 C.2.2.2.1 C.2.2.2.2.1 C.1.2.2.2.2.2.2.2.2.1 hM hC (ctX9_law l hf2) kl_RL_176 layM_0 rfl rfl rfl rfl (Nat.le_of_ble_eq_true rfl) dL_law_1199 hl.1 (Nat.le_refl _) (Nat.le_refl _) (fun H hM hC => ?_)
  refine lv_pop hx hb dL_law_1202 rfl ?_
  refine lv_goto (tgt := 2172) hx hb dL_law_1203 (by decide) ?_
  exact kk σ1 τ1 hJ1 H ls hC hM (lv_sub hl [0, 1, 2, 3] rfl)
theorem lw_case_40 (C : lw_C p s m args meth c b L xs D ct adC adM AC AM) {J J2 : sn_S → sn_S → Prop} (hs : st_40 J J2) {σ τ : sn_S} (hJ : J σ τ) {i : Int32} (g1 : vp_in (i + 1) L) (g2 : vp_in (i + 2) L) (g3 : vp_in (i + 3) L) (g4 : vp_in (i + 4) L) (g5 : vp_in (i + 5) L) (kk : ∀ σ τ, J2 σ τ → lw_LAt p l e s m args below meth c Q D ct adC adM AC AM σ τ 2172 [(0, .ref b), (1, .ref (adC 0)), (2, .ref (adM 0)), (3, .int i)] []) : lw_LAt p l e s m args below meth c Q D ct adC adM AC AM σ τ 1206 [(0, .ref b), (1, .ref (adC 0)), (2, .ref (adM 0)), (3, .int i)] [] := by
  intro H ls hC hM hl
  have hx := C.1.1
  have hb := C.1.2.1
  have hX := C.2.2.2.2.2.1
  have hbl := C.2.2.2.2.2.2
  have hbA : ¬ AC b := fun z => absurd (C.2.2.1 b z) (by omega)
  refine lv_aload_n hx hb dL_law_1206 rfl (lv_at hl 1 rfl) ?_
  refine lv_aload_n hx hb dL_law_1207 rfl (lv_at hl 0 rfl) ?_
  refine lv_iload_n hx hb dL_law_1208 rfl (lv_at hl 3 rfl) ?_
  refine lv_iconst (v := 1) hx hb dL_law_1209 rfl ?_
  refine lv_iadd hx hb dL_law_1210 ?_
  refine va_sld hx hb hX hbl hbA hC.2 g1 dL_law_1211 ?_
  obtain ⟨r, r2, τ1, hf1, hf2, hJ1⟩ := hs σ τ (xs (i + 1).toNatClampNeg) hJ
  refine lw_call (rest := []) C.1 C.2.2.1 (fun q z1 z2 => C.2.2.2.2.1 q z2 z1) C.2.1.2.2.2.2.2.2.2.2.1 hC hM (ctX8_takes l hf1) kl_RL_177 layC_0 rfl rfl rfl rfl (Nat.le_of_ble_eq_true rfl) dL_law_1212 hl.1 (Nat.le_refl _) (Nat.le_refl _) (fun H hC hM => ?_)
  refine lv_pop hx hb dL_law_1215 rfl ?_
  refine lv_aload_n hx hb dL_law_1216 rfl (lv_at hl 2 rfl) ?_
  refine lv_aload_n hx hb dL_law_1217 rfl (lv_at hl 0 rfl) ?_
  refine lv_iload_n hx hb dL_law_1218 rfl (lv_at hl 3 rfl) ?_
  refine lv_iconst (v := 1) hx hb dL_law_1219 rfl ?_
  refine lv_iadd hx hb dL_law_1220 ?_
  refine va_sld hx hb hX hbl hbA hC.2 g1 dL_law_1221 ?_
  refine lw_call (rest := []) C.2.1 C.2.2.2.1 C.2.2.2.2.1 C.1.2.2.2.2.2.2.2.2.1 hM hC (ctX9_takes_ l hf2) kl_RL_180 layM_0 rfl rfl rfl rfl (Nat.le_of_ble_eq_true rfl) dL_law_1222 hl.1 (Nat.le_refl _) (Nat.le_refl _) (fun H hM hC => ?_)
  refine lv_pop hx hb dL_law_1225 rfl ?_
  refine lv_goto (tgt := 2172) hx hb dL_law_1226 (by decide) ?_
  exact kk σ τ1 hJ1 H ls hC hM (lv_sub hl [0, 1, 2, 3] rfl)
theorem lw_case_41 (C : lw_C p s m args meth c b L xs D ct adC adM AC AM) {J J2 : sn_S → sn_S → Prop} (hs : st_41 J J2) {σ τ : sn_S} (hJ : J σ τ) {i : Int32} (g1 : vp_in (i + 1) L) (g2 : vp_in (i + 2) L) (g3 : vp_in (i + 3) L) (g4 : vp_in (i + 4) L) (g5 : vp_in (i + 5) L) (kk : ∀ σ τ, J2 σ τ → lw_LAt p l e s m args below meth c Q D ct adC adM AC AM σ τ 2172 [(0, .ref b), (1, .ref (adC 0)), (2, .ref (adM 0)), (3, .int i)] []) : lw_LAt p l e s m args below meth c Q D ct adC adM AC AM σ τ 1229 [(0, .ref b), (1, .ref (adC 0)), (2, .ref (adM 0)), (3, .int i)] [] := by
  intro H ls hC hM hl
  have hx := C.1.1
  have hb := C.1.2.1
  have hX := C.2.2.2.2.2.1
  have hbl := C.2.2.2.2.2.2
  have hbA : ¬ AC b := fun z => absurd (C.2.2.1 b z) (by omega)
  refine lv_aload_n hx hb dL_law_1229 rfl (lv_at hl 1 rfl) ?_
  refine lv_aload_n hx hb dL_law_1230 rfl (lv_at hl 0 rfl) ?_
  refine lv_iload_n hx hb dL_law_1231 rfl (lv_at hl 3 rfl) ?_
  refine lv_iconst (v := 1) hx hb dL_law_1232 rfl ?_
  refine lv_iadd hx hb dL_law_1233 ?_
  refine va_sld hx hb hX hbl hbA hC.2 g1 dL_law_1234 ?_
  obtain ⟨r, r2, τ1, hf1, hf2, hJ1⟩ := hs σ τ (xs (i + 1).toNatClampNeg) hJ
  refine lw_call (rest := []) C.1 C.2.2.1 (fun q z1 z2 => C.2.2.2.2.1 q z2 z1) C.2.1.2.2.2.2.2.2.2.2.1 hC hM (ctX8_gains l hf1) kl_RL_181 layC_0 rfl rfl rfl rfl (Nat.le_of_ble_eq_true rfl) dL_law_1235 hl.1 (Nat.le_refl _) (Nat.le_refl _) (fun H hC hM => ?_)
  refine lv_pop hx hb dL_law_1238 rfl ?_
  refine lv_aload_n hx hb dL_law_1239 rfl (lv_at hl 2 rfl) ?_
  refine lv_aload_n hx hb dL_law_1240 rfl (lv_at hl 0 rfl) ?_
  refine lv_iload_n hx hb dL_law_1241 rfl (lv_at hl 3 rfl) ?_
  refine lv_iconst (v := 1) hx hb dL_law_1242 rfl ?_
  refine lv_iadd hx hb dL_law_1243 ?_
  refine va_sld hx hb hX hbl hbA hC.2 g1 dL_law_1244 ?_
  refine lw_call (rest := []) C.2.1 C.2.2.2.1 C.2.2.2.2.1 C.1.2.2.2.2.2.2.2.2.1 hM hC (ctX9_gains l hf2) kl_RL_184 layM_0 rfl rfl rfl rfl (Nat.le_of_ble_eq_true rfl) dL_law_1245 hl.1 (Nat.le_refl _) (Nat.le_refl _) (fun H hM hC => ?_)
  refine lv_pop hx hb dL_law_1248 rfl ?_
  refine lv_goto (tgt := 2172) hx hb dL_law_1249 (by decide) ?_
  exact kk σ τ1 hJ1 H ls hC hM (lv_sub hl [0, 1, 2, 3] rfl)
theorem lw_case_42 (C : lw_C p s m args meth c b L xs D ct adC adM AC AM) {J J2 : sn_S → sn_S → Prop} (hs : st_42 J J2) {σ τ : sn_S} (hJ : J σ τ) {i : Int32} (g1 : vp_in (i + 1) L) (g2 : vp_in (i + 2) L) (g3 : vp_in (i + 3) L) (g4 : vp_in (i + 4) L) (g5 : vp_in (i + 5) L) (kk : ∀ σ τ, J2 σ τ → lw_LAt p l e s m args below meth c Q D ct adC adM AC AM σ τ 2172 [(0, .ref b), (1, .ref (adC 0)), (2, .ref (adM 0)), (3, .int i)] []) : lw_LAt p l e s m args below meth c Q D ct adC adM AC AM σ τ 1252 [(0, .ref b), (1, .ref (adC 0)), (2, .ref (adM 0)), (3, .int i)] [] := by
  intro H ls hC hM hl
  have hx := C.1.1
  have hb := C.1.2.1
  have hX := C.2.2.2.2.2.1
  have hbl := C.2.2.2.2.2.2
  have hbA : ¬ AC b := fun z => absurd (C.2.2.1 b z) (by omega)
  refine lv_aload_n hx hb dL_law_1252 rfl (lv_at hl 1 rfl) ?_
  refine lv_aload_n hx hb dL_law_1253 rfl (lv_at hl 0 rfl) ?_
  refine lv_iload_n hx hb dL_law_1254 rfl (lv_at hl 3 rfl) ?_
  refine lv_iconst (v := 1) hx hb dL_law_1255 rfl ?_
  refine lv_iadd hx hb dL_law_1256 ?_
  refine va_sld hx hb hX hbl hbA hC.2 g1 dL_law_1257 ?_
  obtain ⟨r, r2, τ1, hf1, hf2, hJ1⟩ := hs σ τ (xs (i + 1).toNatClampNeg) hJ
  refine lw_call (rest := []) C.1 C.2.2.1 (fun q z1 z2 => C.2.2.2.2.1 q z2 z1) C.2.1.2.2.2.2.2.2.2.2.1 hC hM (ctX8_price l hf1) kl_RL_185 layC_0 rfl rfl rfl rfl (Nat.le_of_ble_eq_true rfl) dL_law_1258 hl.1 (Nat.le_refl _) (Nat.le_refl _) (fun H hC hM => ?_)
  refine lv_pop hx hb dL_law_1261 rfl ?_
  refine lv_aload_n hx hb dL_law_1262 rfl (lv_at hl 2 rfl) ?_
  refine lv_aload_n hx hb dL_law_1263 rfl (lv_at hl 0 rfl) ?_
  refine lv_iload_n hx hb dL_law_1264 rfl (lv_at hl 3 rfl) ?_
  refine lv_iconst (v := 1) hx hb dL_law_1265 rfl ?_
  refine lv_iadd hx hb dL_law_1266 ?_
  refine va_sld hx hb hX hbl hbA hC.2 g1 dL_law_1267 ?_
  refine lw_call (rest := []) C.2.1 C.2.2.2.1 C.2.2.2.2.1 C.1.2.2.2.2.2.2.2.2.1 hM hC (ctX9_price l hf2) kl_RL_188 layM_0 rfl rfl rfl rfl (Nat.le_of_ble_eq_true rfl) dL_law_1268 hl.1 (Nat.le_refl _) (Nat.le_refl _) (fun H hM hC => ?_)
  refine lv_pop hx hb dL_law_1271 rfl ?_
  refine lv_goto (tgt := 2172) hx hb dL_law_1272 (by decide) ?_
  exact kk σ τ1 hJ1 H ls hC hM (lv_sub hl [0, 1, 2, 3] rfl)
theorem lw_case_43 (C : lw_C p s m args meth c b L xs D ct adC adM AC AM) {J J2 : sn_S → sn_S → Prop} (hs : st_43 J J2) {σ τ : sn_S} (hJ : J σ τ) {i : Int32} (g1 : vp_in (i + 1) L) (g2 : vp_in (i + 2) L) (g3 : vp_in (i + 3) L) (g4 : vp_in (i + 4) L) (g5 : vp_in (i + 5) L) (kk : ∀ σ τ, J2 σ τ → lw_LAt p l e s m args below meth c Q D ct adC adM AC AM σ τ 2172 [(0, .ref b), (1, .ref (adC 0)), (2, .ref (adM 0)), (3, .int i)] []) : lw_LAt p l e s m args below meth c Q D ct adC adM AC AM σ τ 1275 [(0, .ref b), (1, .ref (adC 0)), (2, .ref (adM 0)), (3, .int i)] [] := by
  intro H ls hC hM hl
  have hx := C.1.1
  have hb := C.1.2.1
  have hX := C.2.2.2.2.2.1
  have hbl := C.2.2.2.2.2.2
  have hbA : ¬ AC b := fun z => absurd (C.2.2.1 b z) (by omega)
  refine lv_aload_n hx hb dL_law_1275 rfl (lv_at hl 1 rfl) ?_
  refine lv_aload_n hx hb dL_law_1276 rfl (lv_at hl 0 rfl) ?_
  refine lv_iload_n hx hb dL_law_1277 rfl (lv_at hl 3 rfl) ?_
  refine lv_iconst (v := 1) hx hb dL_law_1278 rfl ?_
  refine lv_iadd hx hb dL_law_1279 ?_
  refine va_sld hx hb hX hbl hbA hC.2 g1 dL_law_1280 ?_
  obtain ⟨r, r2, σ1, τ1, hf1, hf2, hJ1⟩ := hs σ τ (xs (i + 1).toNatClampNeg) hJ
  refine lw_call (rest := []) C.1 C.2.2.1 (fun q z1 z2 => C.2.2.2.2.1 q z2 z1) C.2.1.2.2.2.2.2.2.2.2.1 hC hM (ctX8_hold l hf1) kl_RL_189 layC_0 rfl rfl rfl rfl (Nat.le_of_ble_eq_true rfl) dL_law_1281 hl.1 (Nat.le_refl _) (Nat.le_refl _) (fun H hC hM => ?_)
  refine lv_pop hx hb dL_law_1284 rfl ?_
  refine lv_aload_n hx hb dL_law_1285 rfl (lv_at hl 2 rfl) ?_
  refine lv_aload_n hx hb dL_law_1286 rfl (lv_at hl 0 rfl) ?_
  refine lv_iload_n hx hb dL_law_1287 rfl (lv_at hl 3 rfl) ?_
  refine lv_iconst (v := 1) hx hb dL_law_1288 rfl ?_
  refine lv_iadd hx hb dL_law_1289 ?_
  refine va_sld hx hb hX hbl hbA hC.2 g1 dL_law_1290 ?_
  refine lw_call (rest := []) C.2.1 C.2.2.2.1 C.2.2.2.2.1 C.1.2.2.2.2.2.2.2.2.1 hM hC (ctX9_hold l hf2) kl_RL_192 layM_0 rfl rfl rfl rfl (Nat.le_of_ble_eq_true rfl) dL_law_1291 hl.1 (Nat.le_refl _) (Nat.le_refl _) (fun H hM hC => ?_)
  refine lv_pop hx hb dL_law_1294 rfl ?_
  refine lv_goto (tgt := 2172) hx hb dL_law_1295 (by decide) ?_
  exact kk σ1 τ1 hJ1 H ls hC hM (lv_sub hl [0, 1, 2, 3] rfl)
theorem lw_case_44 (C : lw_C p s m args meth c b L xs D ct adC adM AC AM) {J J2 : sn_S → sn_S → Prop} (hs : st_44 J J2) {σ τ : sn_S} (hJ : J σ τ) {i : Int32} (g1 : vp_in (i + 1) L) (g2 : vp_in (i + 2) L) (g3 : vp_in (i + 3) L) (g4 : vp_in (i + 4) L) (g5 : vp_in (i + 5) L) (kk : ∀ σ τ, J2 σ τ → lw_LAt p l e s m args below meth c Q D ct adC adM AC AM σ τ 2172 [(0, .ref b), (1, .ref (adC 0)), (2, .ref (adM 0)), (3, .int i)] []) : lw_LAt p l e s m args below meth c Q D ct adC adM AC AM σ τ 1298 [(0, .ref b), (1, .ref (adC 0)), (2, .ref (adM 0)), (3, .int i)] [] := by
  intro H ls hC hM hl
  have hx := C.1.1
  have hb := C.1.2.1
  have hX := C.2.2.2.2.2.1
  have hbl := C.2.2.2.2.2.2
  have hbA : ¬ AC b := fun z => absurd (C.2.2.1 b z) (by omega)
  refine lv_aload_n hx hb dL_law_1298 rfl (lv_at hl 1 rfl) ?_
  refine lv_aload_n hx hb dL_law_1299 rfl (lv_at hl 0 rfl) ?_
  refine lv_iload_n hx hb dL_law_1300 rfl (lv_at hl 3 rfl) ?_
  refine lv_iconst (v := 1) hx hb dL_law_1301 rfl ?_
  refine lv_iadd hx hb dL_law_1302 ?_
  refine va_sld hx hb hX hbl hbA hC.2 g1 dL_law_1303 ?_
  obtain ⟨r, r2, σ1, τ1, hf1, hf2, hJ1⟩ := hs σ τ (xs (i + 1).toNatClampNeg) hJ
  refine lw_call (rest := []) C.1 C.2.2.1 (fun q z1 z2 => C.2.2.2.2.1 q z2 z1) C.2.1.2.2.2.2.2.2.2.2.1 hC hM (ctX8_holds l hf1) kl_RL_193 layC_0 rfl rfl rfl rfl (Nat.le_of_ble_eq_true rfl) dL_law_1304 hl.1 (Nat.le_refl _) (Nat.le_refl _) (fun H hC hM => ?_)
  refine lv_pop hx hb dL_law_1307 rfl ?_
  refine lv_aload_n hx hb dL_law_1308 rfl (lv_at hl 2 rfl) ?_
  refine lv_aload_n hx hb dL_law_1309 rfl (lv_at hl 0 rfl) ?_
  refine lv_iload_n hx hb dL_law_1310 rfl (lv_at hl 3 rfl) ?_
  refine lv_iconst (v := 1) hx hb dL_law_1311 rfl ?_
  refine lv_iadd hx hb dL_law_1312 ?_
  refine va_sld hx hb hX hbl hbA hC.2 g1 dL_law_1313 ?_
  refine lw_call (rest := []) C.2.1 C.2.2.2.1 C.2.2.2.2.1 C.1.2.2.2.2.2.2.2.2.1 hM hC (ctX9_holds l hf2) kl_RL_196 layM_0 rfl rfl rfl rfl (Nat.le_of_ble_eq_true rfl) dL_law_1314 hl.1 (Nat.le_refl _) (Nat.le_refl _) (fun H hM hC => ?_)
  refine lv_pop hx hb dL_law_1317 rfl ?_
  refine lv_goto (tgt := 2172) hx hb dL_law_1318 (by decide) ?_
  exact kk σ1 τ1 hJ1 H ls hC hM (lv_sub hl [0, 1, 2, 3] rfl)
theorem lw_case_45 (C : lw_C p s m args meth c b L xs D ct adC adM AC AM) {J J2 : sn_S → sn_S → Prop} (hs : st_45 J J2) {σ τ : sn_S} (hJ : J σ τ) {i : Int32} (g1 : vp_in (i + 1) L) (g2 : vp_in (i + 2) L) (g3 : vp_in (i + 3) L) (g4 : vp_in (i + 4) L) (g5 : vp_in (i + 5) L) (kk : ∀ σ τ, J2 σ τ → lw_LAt p l e s m args below meth c Q D ct adC adM AC AM σ τ 2172 [(0, .ref b), (1, .ref (adC 0)), (2, .ref (adM 0)), (3, .int i)] []) : lw_LAt p l e s m args below meth c Q D ct adC adM AC AM σ τ 1321 [(0, .ref b), (1, .ref (adC 0)), (2, .ref (adM 0)), (3, .int i)] [] := by
  intro H ls hC hM hl
  have hx := C.1.1
  have hb := C.1.2.1
  have hX := C.2.2.2.2.2.1
  have hbl := C.2.2.2.2.2.2
  have hbA : ¬ AC b := fun z => absurd (C.2.2.1 b z) (by omega)
  refine lv_aload_n hx hb dL_law_1321 rfl (lv_at hl 1 rfl) ?_
  refine lv_aload_n hx hb dL_law_1322 rfl (lv_at hl 0 rfl) ?_
  refine lv_iload_n hx hb dL_law_1323 rfl (lv_at hl 3 rfl) ?_
  refine lv_iconst (v := 1) hx hb dL_law_1324 rfl ?_
  refine lv_iadd hx hb dL_law_1325 ?_
  refine va_sld hx hb hX hbl hbA hC.2 g1 dL_law_1326 ?_
  obtain ⟨r, r2, σ1, τ1, hf1, hf2, hJ1⟩ := hs σ τ (xs (i + 1).toNatClampNeg) hJ
  refine lw_call (rest := []) C.1 C.2.2.1 (fun q z1 z2 => C.2.2.2.2.1 q z2 z1) C.2.1.2.2.2.2.2.2.2.2.1 hC hM (ctX8_snuff l hf1) kl_RL_197 layC_0 rfl rfl rfl rfl (Nat.le_of_ble_eq_true rfl) dL_law_1327 hl.1 (Nat.le_refl _) (Nat.le_refl _) (fun H hC hM => ?_)
  refine lv_pop hx hb dL_law_1330 rfl ?_
  refine lv_aload_n hx hb dL_law_1331 rfl (lv_at hl 2 rfl) ?_
  refine lv_aload_n hx hb dL_law_1332 rfl (lv_at hl 0 rfl) ?_
  refine lv_iload_n hx hb dL_law_1333 rfl (lv_at hl 3 rfl) ?_
  refine lv_iconst (v := 1) hx hb dL_law_1334 rfl ?_
  refine lv_iadd hx hb dL_law_1335 ?_
  refine va_sld hx hb hX hbl hbA hC.2 g1 dL_law_1336 ?_
  refine lw_call (rest := []) C.2.1 C.2.2.2.1 C.2.2.2.2.1 C.1.2.2.2.2.2.2.2.2.1 hM hC (ctX9_snuff l hf2) kl_RL_200 layM_0 rfl rfl rfl rfl (Nat.le_of_ble_eq_true rfl) dL_law_1337 hl.1 (Nat.le_refl _) (Nat.le_refl _) (fun H hM hC => ?_)
  refine lv_pop hx hb dL_law_1340 rfl ?_
  refine lv_goto (tgt := 2172) hx hb dL_law_1341 (by decide) ?_
  exact kk σ1 τ1 hJ1 H ls hC hM (lv_sub hl [0, 1, 2, 3] rfl)
theorem lw_case_46 (C : lw_C p s m args meth c b L xs D ct adC adM AC AM) {J J2 : sn_S → sn_S → Prop} (hs : st_46 J J2) {σ τ : sn_S} (hJ : J σ τ) {i : Int32} (g1 : vp_in (i + 1) L) (g2 : vp_in (i + 2) L) (g3 : vp_in (i + 3) L) (g4 : vp_in (i + 4) L) (g5 : vp_in (i + 5) L) (kk : ∀ σ τ, J2 σ τ → lw_LAt p l e s m args below meth c Q D ct adC adM AC AM σ τ 2172 [(0, .ref b), (1, .ref (adC 0)), (2, .ref (adM 0)), (3, .int i)] []) : lw_LAt p l e s m args below meth c Q D ct adC adM AC AM σ τ 1344 [(0, .ref b), (1, .ref (adC 0)), (2, .ref (adM 0)), (3, .int i)] [] := by
  intro H ls hC hM hl
  have hx := C.1.1
  have hb := C.1.2.1
  have hX := C.2.2.2.2.2.1
  have hbl := C.2.2.2.2.2.2
  have hbA : ¬ AC b := fun z => absurd (C.2.2.1 b z) (by omega)
  refine lv_aload_n hx hb dL_law_1344 rfl (lv_at hl 1 rfl) ?_
  refine lv_aload_n hx hb dL_law_1345 rfl (lv_at hl 0 rfl) ?_
  refine lv_iload_n hx hb dL_law_1346 rfl (lv_at hl 3 rfl) ?_
  refine lv_iconst (v := 1) hx hb dL_law_1347 rfl ?_
  refine lv_iadd hx hb dL_law_1348 ?_
  refine va_sld hx hb hX hbl hbA hC.2 g1 dL_law_1349 ?_
  obtain ⟨r, r2, σ1, τ1, hf1, hf2, hJ1⟩ := hs σ τ (xs (i + 1).toNatClampNeg) hJ
  refine lw_call (rest := []) C.1 C.2.2.1 (fun q z1 z2 => C.2.2.2.2.1 q z2 z1) C.2.1.2.2.2.2.2.2.2.2.1 hC hM (ctX8_frauds l hf1) kl_RL_201 layC_0 rfl rfl rfl rfl (Nat.le_of_ble_eq_true rfl) dL_law_1350 hl.1 (Nat.le_refl _) (Nat.le_refl _) (fun H hC hM => ?_)
  refine lv_pop hx hb dL_law_1353 rfl ?_
  refine lv_aload_n hx hb dL_law_1354 rfl (lv_at hl 2 rfl) ?_
  refine lv_aload_n hx hb dL_law_1355 rfl (lv_at hl 0 rfl) ?_
  refine lv_iload_n hx hb dL_law_1356 rfl (lv_at hl 3 rfl) ?_
  refine lv_iconst (v := 1) hx hb dL_law_1357 rfl ?_
  refine lv_iadd hx hb dL_law_1358 ?_
  refine va_sld hx hb hX hbl hbA hC.2 g1 dL_law_1359 ?_
  refine lw_call (rest := []) C.2.1 C.2.2.2.1 C.2.2.2.2.1 C.1.2.2.2.2.2.2.2.2.1 hM hC (ctX9_frauds l hf2) kl_RL_204 layM_0 rfl rfl rfl rfl (Nat.le_of_ble_eq_true rfl) dL_law_1360 hl.1 (Nat.le_refl _) (Nat.le_refl _) (fun H hM hC => ?_)
  refine lv_pop hx hb dL_law_1363 rfl ?_
  refine lv_goto (tgt := 2172) hx hb dL_law_1364 (by decide) ?_
  exact kk σ1 τ1 hJ1 H ls hC hM (lv_sub hl [0, 1, 2, 3] rfl)
theorem lw_case_47 (C : lw_C p s m args meth c b L xs D ct adC adM AC AM) {J J2 : sn_S → sn_S → Prop} (hs : st_47 J J2) {σ τ : sn_S} (hJ : J σ τ) {i : Int32} (g1 : vp_in (i + 1) L) (g2 : vp_in (i + 2) L) (g3 : vp_in (i + 3) L) (g4 : vp_in (i + 4) L) (g5 : vp_in (i + 5) L) (kk : ∀ σ τ, J2 σ τ → lw_LAt p l e s m args below meth c Q D ct adC adM AC AM σ τ 2172 [(0, .ref b), (1, .ref (adC 0)), (2, .ref (adM 0)), (3, .int i)] []) : lw_LAt p l e s m args below meth c Q D ct adC adM AC AM σ τ 1367 [(0, .ref b), (1, .ref (adC 0)), (2, .ref (adM 0)), (3, .int i)] [] := by
  intro H ls hC hM hl
  have hx := C.1.1
  have hb := C.1.2.1
  have hX := C.2.2.2.2.2.1
  have hbl := C.2.2.2.2.2.2
  have hbA : ¬ AC b := fun z => absurd (C.2.2.1 b z) (by omega)
  refine lv_aload_n hx hb dL_law_1367 rfl (lv_at hl 1 rfl) ?_
  refine lv_aload_n hx hb dL_law_1368 rfl (lv_at hl 0 rfl) ?_
  refine lv_iload_n hx hb dL_law_1369 rfl (lv_at hl 3 rfl) ?_
  refine lv_iconst (v := 1) hx hb dL_law_1370 rfl ?_
  refine lv_iadd hx hb dL_law_1371 ?_
  refine va_sld hx hb hX hbl hbA hC.2 g1 dL_law_1372 ?_
  obtain ⟨r, r2, σ1, τ1, hf1, hf2, hJ1⟩ := hs σ τ (xs (i + 1).toNatClampNeg) hJ
  refine lw_call (rest := []) C.1 C.2.2.1 (fun q z1 z2 => C.2.2.2.2.1 q z2 z1) C.2.1.2.2.2.2.2.2.2.2.1 hC hM (ctX8_which l hf1) kl_RL_205 layC_0 rfl rfl rfl rfl (Nat.le_of_ble_eq_true rfl) dL_law_1373 hl.1 (Nat.le_refl _) (Nat.le_refl _) (fun H hC hM => ?_)
  refine lv_pop hx hb dL_law_1376 rfl ?_
  refine lv_aload_n hx hb dL_law_1377 rfl (lv_at hl 2 rfl) ?_
  refine lv_aload_n hx hb dL_law_1378 rfl (lv_at hl 0 rfl) ?_
  refine lv_iload_n hx hb dL_law_1379 rfl (lv_at hl 3 rfl) ?_
  refine lv_iconst (v := 1) hx hb dL_law_1380 rfl ?_
  refine lv_iadd hx hb dL_law_1381 ?_
  refine va_sld hx hb hX hbl hbA hC.2 g1 dL_law_1382 ?_
  refine lw_call (rest := []) C.2.1 C.2.2.2.1 C.2.2.2.2.1 C.1.2.2.2.2.2.2.2.2.1 hM hC (ctX9_which l hf2) kl_RL_208 layM_0 rfl rfl rfl rfl (Nat.le_of_ble_eq_true rfl) dL_law_1383 hl.1 (Nat.le_refl _) (Nat.le_refl _) (fun H hM hC => ?_)
  refine lv_pop hx hb dL_law_1386 rfl ?_
  refine lv_goto (tgt := 2172) hx hb dL_law_1387 (by decide) ?_
  exact kk σ1 τ1 hJ1 H ls hC hM (lv_sub hl [0, 1, 2, 3] rfl)
theorem lw_case_48 (C : lw_C p s m args meth c b L xs D ct adC adM AC AM) {J J2 : sn_S → sn_S → Prop} (hs : st_48 J J2) {σ τ : sn_S} (hJ : J σ τ) {i : Int32} (g1 : vp_in (i + 1) L) (g2 : vp_in (i + 2) L) (g3 : vp_in (i + 3) L) (g4 : vp_in (i + 4) L) (g5 : vp_in (i + 5) L) (kk : ∀ σ τ, J2 σ τ → lw_LAt p l e s m args below meth c Q D ct adC adM AC AM σ τ 2172 [(0, .ref b), (1, .ref (adC 0)), (2, .ref (adM 0)), (3, .int i)] []) : lw_LAt p l e s m args below meth c Q D ct adC adM AC AM σ τ 1390 [(0, .ref b), (1, .ref (adC 0)), (2, .ref (adM 0)), (3, .int i)] [] := by
  intro H ls hC hM hl
  have hx := C.1.1
  have hb := C.1.2.1
  have hX := C.2.2.2.2.2.1
  have hbl := C.2.2.2.2.2.2
  have hbA : ¬ AC b := fun z => absurd (C.2.2.1 b z) (by omega)
  refine lv_aload_n hx hb dL_law_1390 rfl (lv_at hl 1 rfl) ?_
  refine lv_aload_n hx hb dL_law_1391 rfl (lv_at hl 0 rfl) ?_
  refine lv_iload_n hx hb dL_law_1392 rfl (lv_at hl 3 rfl) ?_
  refine lv_iconst (v := 1) hx hb dL_law_1393 rfl ?_
  refine lv_iadd hx hb dL_law_1394 ?_
  refine va_sld hx hb hX hbl hbA hC.2 g1 dL_law_1395 ?_
  obtain ⟨r, r2, σ1, τ1, hf1, hf2, hJ1⟩ := hs σ τ (xs (i + 1).toNatClampNeg) hJ
  refine lw_call (rest := []) C.1 C.2.2.1 (fun q z1 z2 => C.2.2.2.2.1 q z2 z1) C.2.1.2.2.2.2.2.2.2.2.1 hC hM (ctX8_when l hf1) kl_RL_209 layC_0 rfl rfl rfl rfl (Nat.le_of_ble_eq_true rfl) dL_law_1396 hl.1 (Nat.le_refl _) (Nat.le_refl _) (fun H hC hM => ?_)
  refine lv_pop hx hb dL_law_1399 rfl ?_
  refine lv_aload_n hx hb dL_law_1400 rfl (lv_at hl 2 rfl) ?_
  refine lv_aload_n hx hb dL_law_1401 rfl (lv_at hl 0 rfl) ?_
  refine lv_iload_n hx hb dL_law_1402 rfl (lv_at hl 3 rfl) ?_
  refine lv_iconst (v := 1) hx hb dL_law_1403 rfl ?_
  refine lv_iadd hx hb dL_law_1404 ?_
  refine va_sld hx hb hX hbl hbA hC.2 g1 dL_law_1405 ?_
  refine lw_call (rest := []) C.2.1 C.2.2.2.1 C.2.2.2.2.1 C.1.2.2.2.2.2.2.2.2.1 hM hC (ctX9_when l hf2) kl_RL_212 layM_0 rfl rfl rfl rfl (Nat.le_of_ble_eq_true rfl) dL_law_1406 hl.1 (Nat.le_refl _) (Nat.le_refl _) (fun H hM hC => ?_)
  refine lv_pop hx hb dL_law_1409 rfl ?_
  refine lv_goto (tgt := 2172) hx hb dL_law_1410 (by decide) ?_
  exact kk σ1 τ1 hJ1 H ls hC hM (lv_sub hl [0, 1, 2, 3] rfl)
theorem lw_case_49 (C : lw_C p s m args meth c b L xs D ct adC adM AC AM) {J J2 : sn_S → sn_S → Prop} (hs : st_49 J J2) {σ τ : sn_S} (hJ : J σ τ) {i : Int32} (g1 : vp_in (i + 1) L) (g2 : vp_in (i + 2) L) (g3 : vp_in (i + 3) L) (g4 : vp_in (i + 4) L) (g5 : vp_in (i + 5) L) (kk : ∀ σ τ, J2 σ τ → lw_LAt p l e s m args below meth c Q D ct adC adM AC AM σ τ 2172 [(0, .ref b), (1, .ref (adC 0)), (2, .ref (adM 0)), (3, .int i)] []) : lw_LAt p l e s m args below meth c Q D ct adC adM AC AM σ τ 1413 [(0, .ref b), (1, .ref (adC 0)), (2, .ref (adM 0)), (3, .int i)] [] := by
  intro H ls hC hM hl
  have hx := C.1.1
  have hb := C.1.2.1
  have hX := C.2.2.2.2.2.1
  have hbl := C.2.2.2.2.2.2
  have hbA : ¬ AC b := fun z => absurd (C.2.2.1 b z) (by omega)
  refine lv_aload_n hx hb dL_law_1413 rfl (lv_at hl 1 rfl) ?_
  refine lv_aload_n hx hb dL_law_1414 rfl (lv_at hl 0 rfl) ?_
  refine lv_iload_n hx hb dL_law_1415 rfl (lv_at hl 3 rfl) ?_
  refine lv_iconst (v := 1) hx hb dL_law_1416 rfl ?_
  refine lv_iadd hx hb dL_law_1417 ?_
  refine va_sld hx hb hX hbl hbA hC.2 g1 dL_law_1418 ?_
  obtain ⟨r, r2, σ1, τ1, hf1, hf2, hJ1⟩ := hs σ τ (xs (i + 1).toNatClampNeg) hJ
  refine lw_call (rest := []) C.1 C.2.2.1 (fun q z1 z2 => C.2.2.2.2.1 q z2 z1) C.2.1.2.2.2.2.2.2.2.2.1 hC hM (ctX8_gust l hf1) kl_RL_213 layC_0 rfl rfl rfl rfl (Nat.le_of_ble_eq_true rfl) dL_law_1419 hl.1 (Nat.le_refl _) (Nat.le_refl _) (fun H hC hM => ?_)
  refine lv_pop hx hb dL_law_1422 rfl ?_
  refine lv_aload_n hx hb dL_law_1423 rfl (lv_at hl 2 rfl) ?_
  refine lv_aload_n hx hb dL_law_1424 rfl (lv_at hl 0 rfl) ?_
  refine lv_iload_n hx hb dL_law_1425 rfl (lv_at hl 3 rfl) ?_
  refine lv_iconst (v := 1) hx hb dL_law_1426 rfl ?_
  refine lv_iadd hx hb dL_law_1427 ?_
  refine va_sld hx hb hX hbl hbA hC.2 g1 dL_law_1428 ?_
  refine lw_call (rest := []) C.2.1 C.2.2.2.1 C.2.2.2.2.1 C.1.2.2.2.2.2.2.2.2.1 hM hC (ctX9_gust l hf2) kl_RL_216 layM_0 rfl rfl rfl rfl (Nat.le_of_ble_eq_true rfl) dL_law_1429 hl.1 (Nat.le_refl _) (Nat.le_refl _) (fun H hM hC => ?_)
  refine lv_pop hx hb dL_law_1432 rfl ?_
  refine lv_goto (tgt := 2172) hx hb dL_law_1433 (by decide) ?_
  exact kk σ1 τ1 hJ1 H ls hC hM (lv_sub hl [0, 1, 2, 3] rfl)
theorem lw_case_50 (C : lw_C p s m args meth c b L xs D ct adC adM AC AM) {J J2 : sn_S → sn_S → Prop} (hs : st_50 J J2) {σ τ : sn_S} (hJ : J σ τ) {i : Int32} (g1 : vp_in (i + 1) L) (g2 : vp_in (i + 2) L) (g3 : vp_in (i + 3) L) (g4 : vp_in (i + 4) L) (g5 : vp_in (i + 5) L) (kk : ∀ σ τ, J2 σ τ → lw_LAt p l e s m args below meth c Q D ct adC adM AC AM σ τ 2172 [(0, .ref b), (1, .ref (adC 0)), (2, .ref (adM 0)), (3, .int i)] []) : lw_LAt p l e s m args below meth c Q D ct adC adM AC AM σ τ 1436 [(0, .ref b), (1, .ref (adC 0)), (2, .ref (adM 0)), (3, .int i)] [] := by
  intro H ls hC hM hl
  have hx := C.1.1
  have hb := C.1.2.1
  have hX := C.2.2.2.2.2.1
  have hbl := C.2.2.2.2.2.2
  have hbA : ¬ AC b := fun z => absurd (C.2.2.1 b z) (by omega)
  refine lv_aload_n hx hb dL_law_1436 rfl (lv_at hl 1 rfl) ?_
  refine lv_aload_n hx hb dL_law_1437 rfl (lv_at hl 0 rfl) ?_
  refine lv_iload_n hx hb dL_law_1438 rfl (lv_at hl 3 rfl) ?_
  refine lv_iconst (v := 1) hx hb dL_law_1439 rfl ?_
  refine lv_iadd hx hb dL_law_1440 ?_
  refine va_sld hx hb hX hbl hbA hC.2 g1 dL_law_1441 ?_
  obtain ⟨r, r2, σ1, τ1, hf1, hf2, hJ1⟩ := hs σ τ (xs (i + 1).toNatClampNeg) hJ
  refine lw_call (rest := []) C.1 C.2.2.1 (fun q z1 z2 => C.2.2.2.2.1 q z2 z1) C.2.1.2.2.2.2.2.2.2.2.1 hC hM (ctX8_ask l hf1) kl_RL_217 layC_0 rfl rfl rfl rfl (Nat.le_of_ble_eq_true rfl) dL_law_1442 hl.1 (Nat.le_refl _) (Nat.le_refl _) (fun H hC hM => ?_)
  refine lv_pop hx hb dL_law_1445 rfl ?_
  refine lv_aload_n hx hb dL_law_1446 rfl (lv_at hl 2 rfl) ?_
  refine lv_aload_n hx hb dL_law_1447 rfl (lv_at hl 0 rfl) ?_
  refine lv_iload_n hx hb dL_law_1448 rfl (lv_at hl 3 rfl) ?_
  refine lv_iconst (v := 1) hx hb dL_law_1449 rfl ?_
  refine lv_iadd hx hb dL_law_1450 ?_
  refine va_sld hx hb hX hbl hbA hC.2 g1 dL_law_1451 ?_
  refine lw_call (rest := []) C.2.1 C.2.2.2.1 C.2.2.2.2.1 C.1.2.2.2.2.2.2.2.2.1 hM hC (ctX9_ask l hf2) kl_RL_220 layM_0 rfl rfl rfl rfl (Nat.le_of_ble_eq_true rfl) dL_law_1452 hl.1 (Nat.le_refl _) (Nat.le_refl _) (fun H hM hC => ?_)
  refine lv_pop hx hb dL_law_1455 rfl ?_
  refine lv_goto (tgt := 2172) hx hb dL_law_1456 (by decide) ?_
  exact kk σ1 τ1 hJ1 H ls hC hM (lv_sub hl [0, 1, 2, 3] rfl)
theorem lw_case_51 (C : lw_C p s m args meth c b L xs D ct adC adM AC AM) {J J2 : sn_S → sn_S → Prop} (hs : st_51 J J2) {σ τ : sn_S} (hJ : J σ τ) {i : Int32} (g1 : vp_in (i + 1) L) (g2 : vp_in (i + 2) L) (g3 : vp_in (i + 3) L) (g4 : vp_in (i + 4) L) (g5 : vp_in (i + 5) L) (kk : ∀ σ τ, J2 σ τ → lw_LAt p l e s m args below meth c Q D ct adC adM AC AM σ τ 2172 [(0, .ref b), (1, .ref (adC 0)), (2, .ref (adM 0)), (3, .int i)] []) : lw_LAt p l e s m args below meth c Q D ct adC adM AC AM σ τ 1459 [(0, .ref b), (1, .ref (adC 0)), (2, .ref (adM 0)), (3, .int i)] [] := by
  intro H ls hC hM hl
  have hx := C.1.1
  have hb := C.1.2.1
  have hX := C.2.2.2.2.2.1
  have hbl := C.2.2.2.2.2.2
  have hbA : ¬ AC b := fun z => absurd (C.2.2.1 b z) (by omega)
  refine lv_aload_n hx hb dL_law_1459 rfl (lv_at hl 1 rfl) ?_
  refine lv_aload_n hx hb dL_law_1460 rfl (lv_at hl 0 rfl) ?_
  refine lv_iload_n hx hb dL_law_1461 rfl (lv_at hl 3 rfl) ?_
  refine lv_iconst (v := 1) hx hb dL_law_1462 rfl ?_
  refine lv_iadd hx hb dL_law_1463 ?_
  refine va_sld hx hb hX hbl hbA hC.2 g1 dL_law_1464 ?_
  obtain ⟨r, r2, σ1, τ1, hf1, hf2, hJ1⟩ := hs σ τ (xs (i + 1).toNatClampNeg) hJ
  refine lw_call (rest := []) C.1 C.2.2.1 (fun q z1 z2 => C.2.2.2.2.1 q z2 z1) C.2.1.2.2.2.2.2.2.2.2.1 hC hM (ctX8_leaves l hf1) kl_RL_221 layC_0 rfl rfl rfl rfl (Nat.le_of_ble_eq_true rfl) dL_law_1465 hl.1 (Nat.le_refl _) (Nat.le_refl _) (fun H hC hM => ?_)
  refine lv_pop hx hb dL_law_1468 rfl ?_
  refine lv_aload_n hx hb dL_law_1469 rfl (lv_at hl 2 rfl) ?_
  refine lv_aload_n hx hb dL_law_1470 rfl (lv_at hl 0 rfl) ?_
  refine lv_iload_n hx hb dL_law_1471 rfl (lv_at hl 3 rfl) ?_
  refine lv_iconst (v := 1) hx hb dL_law_1472 rfl ?_
  refine lv_iadd hx hb dL_law_1473 ?_
  refine va_sld hx hb hX hbl hbA hC.2 g1 dL_law_1474 ?_
  refine lw_call (rest := []) C.2.1 C.2.2.2.1 C.2.2.2.2.1 C.1.2.2.2.2.2.2.2.2.1 hM hC (ctX9_leaves l hf2) kl_RL_224 layM_0 rfl rfl rfl rfl (Nat.le_of_ble_eq_true rfl) dL_law_1475 hl.1 (Nat.le_refl _) (Nat.le_refl _) (fun H hM hC => ?_)
  refine lv_pop hx hb dL_law_1478 rfl ?_
  refine lv_goto (tgt := 2172) hx hb dL_law_1479 (by decide) ?_
  exact kk σ1 τ1 hJ1 H ls hC hM (lv_sub hl [0, 1, 2, 3] rfl)
theorem lw_case_52 (C : lw_C p s m args meth c b L xs D ct adC adM AC AM) {J J2 : sn_S → sn_S → Prop} (hs : st_52 J J2) {σ τ : sn_S} (hJ : J σ τ) {i : Int32} (g1 : vp_in (i + 1) L) (g2 : vp_in (i + 2) L) (g3 : vp_in (i + 3) L) (g4 : vp_in (i + 4) L) (g5 : vp_in (i + 5) L) (kk : ∀ σ τ, J2 σ τ → lw_LAt p l e s m args below meth c Q D ct adC adM AC AM σ τ 2172 [(0, .ref b), (1, .ref (adC 0)), (2, .ref (adM 0)), (3, .int i)] []) : lw_LAt p l e s m args below meth c Q D ct adC adM AC AM σ τ 1482 [(0, .ref b), (1, .ref (adC 0)), (2, .ref (adM 0)), (3, .int i)] [] := by
  intro H ls hC hM hl
  have hx := C.1.1
  have hb := C.1.2.1
  have hX := C.2.2.2.2.2.1
  have hbl := C.2.2.2.2.2.2
  have hbA : ¬ AC b := fun z => absurd (C.2.2.1 b z) (by omega)
  refine lv_aload_n hx hb dL_law_1482 rfl (lv_at hl 1 rfl) ?_
  refine lv_aload_n hx hb dL_law_1483 rfl (lv_at hl 0 rfl) ?_
  refine lv_iload_n hx hb dL_law_1484 rfl (lv_at hl 3 rfl) ?_
  refine lv_iconst (v := 1) hx hb dL_law_1485 rfl ?_
  refine lv_iadd hx hb dL_law_1486 ?_
  refine va_sld hx hb hX hbl hbA hC.2 g1 dL_law_1487 ?_
  refine lv_aload_n hx hb dL_law_1488 rfl (lv_at hl 0 rfl) ?_
  refine lv_iload_n hx hb dL_law_1489 rfl (lv_at hl 3 rfl) ?_
  refine lv_iconst (v := 2) hx hb dL_law_1490 rfl ?_
  refine lv_iadd hx hb dL_law_1491 ?_
  refine va_sld hx hb hX hbl hbA hC.2 g2 dL_law_1492 ?_
  obtain ⟨r, r2, σ1, τ1, hf1, hf2, hJ1⟩ := hs σ τ (xs (i + 1).toNatClampNeg) (xs (i + 2).toNatClampNeg) hJ
  refine lw_call (rest := []) C.1 C.2.2.1 (fun q z1 z2 => C.2.2.2.2.1 q z2 z1) C.2.1.2.2.2.2.2.2.2.2.1 hC hM (ctX8_rests l hf1) kl_RL_225 layC_0 rfl rfl rfl rfl (Nat.le_of_ble_eq_true rfl) dL_law_1493 hl.1 (Nat.le_refl _) (Nat.le_refl _) (fun H hC hM => ?_)
  refine lv_pop hx hb dL_law_1496 rfl ?_
  refine lv_aload_n hx hb dL_law_1497 rfl (lv_at hl 2 rfl) ?_
  refine lv_aload_n hx hb dL_law_1498 rfl (lv_at hl 0 rfl) ?_
  refine lv_iload_n hx hb dL_law_1499 rfl (lv_at hl 3 rfl) ?_
  refine lv_iconst (v := 1) hx hb dL_law_1500 rfl ?_
  refine lv_iadd hx hb dL_law_1501 ?_
  refine va_sld hx hb hX hbl hbA hC.2 g1 dL_law_1502 ?_
  refine lv_aload_n hx hb dL_law_1503 rfl (lv_at hl 0 rfl) ?_
  refine lv_iload_n hx hb dL_law_1504 rfl (lv_at hl 3 rfl) ?_
  refine lv_iconst (v := 2) hx hb dL_law_1505 rfl ?_
  refine lv_iadd hx hb dL_law_1506 ?_
  refine va_sld hx hb hX hbl hbA hC.2 g2 dL_law_1507 ?_
  refine lw_call (rest := []) C.2.1 C.2.2.2.1 C.2.2.2.2.1 C.1.2.2.2.2.2.2.2.2.1 hM hC (ctX9_rests l hf2) kl_RL_228 layM_0 rfl rfl rfl rfl (Nat.le_of_ble_eq_true rfl) dL_law_1508 hl.1 (Nat.le_refl _) (Nat.le_refl _) (fun H hM hC => ?_)
  refine lv_pop hx hb dL_law_1511 rfl ?_
  refine lv_goto (tgt := 2172) hx hb dL_law_1512 (by decide) ?_
  exact kk σ1 τ1 hJ1 H ls hC hM (lv_sub hl [0, 1, 2, 3] rfl)
theorem lw_case_53 (C : lw_C p s m args meth c b L xs D ct adC adM AC AM) {J J2 : sn_S → sn_S → Prop} (hs : st_53 J J2) {σ τ : sn_S} (hJ : J σ τ) {i : Int32} (g1 : vp_in (i + 1) L) (g2 : vp_in (i + 2) L) (g3 : vp_in (i + 3) L) (g4 : vp_in (i + 4) L) (g5 : vp_in (i + 5) L) (kk : ∀ σ τ, J2 σ τ → lw_LAt p l e s m args below meth c Q D ct adC adM AC AM σ τ 2172 [(0, .ref b), (1, .ref (adC 0)), (2, .ref (adM 0)), (3, .int i)] []) : lw_LAt p l e s m args below meth c Q D ct adC adM AC AM σ τ 1515 [(0, .ref b), (1, .ref (adC 0)), (2, .ref (adM 0)), (3, .int i)] [] := by
  intro H ls hC hM hl
  have hx := C.1.1
  have hb := C.1.2.1
  have hX := C.2.2.2.2.2.1
  have hbl := C.2.2.2.2.2.2
  have hbA : ¬ AC b := fun z => absurd (C.2.2.1 b z) (by omega)
  refine lv_aload_n hx hb dL_law_1515 rfl (lv_at hl 1 rfl) ?_
  refine lv_aload_n hx hb dL_law_1516 rfl (lv_at hl 0 rfl) ?_
  refine lv_iload_n hx hb dL_law_1517 rfl (lv_at hl 3 rfl) ?_
  refine lv_iconst (v := 1) hx hb dL_law_1518 rfl ?_
  refine lv_iadd hx hb dL_law_1519 ?_
  refine va_sld hx hb hX hbl hbA hC.2 g1 dL_law_1520 ?_
  refine lv_aload_n hx hb dL_law_1521 rfl (lv_at hl 0 rfl) ?_
  refine lv_iload_n hx hb dL_law_1522 rfl (lv_at hl 3 rfl) ?_
  refine lv_iconst (v := 2) hx hb dL_law_1523 rfl ?_
  refine lv_iadd hx hb dL_law_1524 ?_
  refine va_sld hx hb hX hbl hbA hC.2 g2 dL_law_1525 ?_
  refine lv_aload_n hx hb dL_law_1526 rfl (lv_at hl 0 rfl) ?_
  refine lv_iload_n hx hb dL_law_1527 rfl (lv_at hl 3 rfl) ?_
  refine lv_iconst (v := 3) hx hb dL_law_1528 rfl ?_
  refine lv_iadd hx hb dL_law_1529 ?_
  refine va_sld hx hb hX hbl hbA hC.2 g3 dL_law_1530 ?_
  refine lv_aload_n hx hb dL_law_1531 rfl (lv_at hl 0 rfl) ?_
  refine lv_iload_n hx hb dL_law_1532 rfl (lv_at hl 3 rfl) ?_
  refine lv_iconst (v := 4) hx hb dL_law_1533 rfl ?_
  refine lv_iadd hx hb dL_law_1534 ?_
  refine va_sld hx hb hX hbl hbA hC.2 g4 dL_law_1535 ?_
  obtain ⟨r, r2, σ1, τ1, hf1, hf2, hJ1⟩ := hs σ τ (xs (i + 1).toNatClampNeg) (xs (i + 2).toNatClampNeg) (xs (i + 3).toNatClampNeg) (xs (i + 4).toNatClampNeg) hJ
  refine lw_call (rest := []) C.1 C.2.2.1 (fun q z1 z2 => C.2.2.2.2.1 q z2 z1) C.2.1.2.2.2.2.2.2.2.2.1 hC hM (ctX8_loses l hf1) kl_RL_229 layC_0 rfl rfl rfl rfl (Nat.le_of_ble_eq_true rfl) dL_law_1536 hl.1 (Nat.le_refl _) (Nat.le_refl _) (fun H hC hM => ?_)
  refine lv_pop hx hb dL_law_1539 rfl ?_
  refine lv_aload_n hx hb dL_law_1540 rfl (lv_at hl 2 rfl) ?_
  refine lv_aload_n hx hb dL_law_1541 rfl (lv_at hl 0 rfl) ?_
  refine lv_iload_n hx hb dL_law_1542 rfl (lv_at hl 3 rfl) ?_
  refine lv_iconst (v := 1) hx hb dL_law_1543 rfl ?_
  refine lv_iadd hx hb dL_law_1544 ?_
  refine va_sld hx hb hX hbl hbA hC.2 g1 dL_law_1545 ?_
  refine lv_aload_n hx hb dL_law_1546 rfl (lv_at hl 0 rfl) ?_
  refine lv_iload_n hx hb dL_law_1547 rfl (lv_at hl 3 rfl) ?_
  refine lv_iconst (v := 2) hx hb dL_law_1548 rfl ?_
  refine lv_iadd hx hb dL_law_1549 ?_
  refine va_sld hx hb hX hbl hbA hC.2 g2 dL_law_1550 ?_
  refine lv_aload_n hx hb dL_law_1551 rfl (lv_at hl 0 rfl) ?_
  refine lv_iload_n hx hb dL_law_1552 rfl (lv_at hl 3 rfl) ?_
  refine lv_iconst (v := 3) hx hb dL_law_1553 rfl ?_
  refine lv_iadd hx hb dL_law_1554 ?_
  refine va_sld hx hb hX hbl hbA hC.2 g3 dL_law_1555 ?_
  refine lv_aload_n hx hb dL_law_1556 rfl (lv_at hl 0 rfl) ?_
  refine lv_iload_n hx hb dL_law_1557 rfl (lv_at hl 3 rfl) ?_
  refine lv_iconst (v := 4) hx hb dL_law_1558 rfl ?_
  refine lv_iadd hx hb dL_law_1559 ?_
  refine va_sld hx hb hX hbl hbA hC.2 g4 dL_law_1560 ?_
  refine lw_call (rest := []) C.2.1 C.2.2.2.1 C.2.2.2.2.1 C.1.2.2.2.2.2.2.2.2.1 hM hC (ctX9_loses l hf2) kl_RL_233 layM_0 rfl rfl rfl rfl (Nat.le_of_ble_eq_true rfl) dL_law_1561 hl.1 (Nat.le_refl _) (Nat.le_refl _) (fun H hM hC => ?_)
  refine lv_pop hx hb dL_law_1564 rfl ?_
  refine lv_goto (tgt := 2172) hx hb dL_law_1565 (by decide) ?_
  exact kk σ1 τ1 hJ1 H ls hC hM (lv_sub hl [0, 1, 2, 3] rfl)
theorem lw_case_54 (C : lw_C p s m args meth c b L xs D ct adC adM AC AM) {J J2 : sn_S → sn_S → Prop} (hs : st_54 J J2) {σ τ : sn_S} (hJ : J σ τ) {i : Int32} (g1 : vp_in (i + 1) L) (g2 : vp_in (i + 2) L) (g3 : vp_in (i + 3) L) (g4 : vp_in (i + 4) L) (g5 : vp_in (i + 5) L) (kk : ∀ σ τ, J2 σ τ → lw_LAt p l e s m args below meth c Q D ct adC adM AC AM σ τ 2172 [(0, .ref b), (1, .ref (adC 0)), (2, .ref (adM 0)), (3, .int i)] []) : lw_LAt p l e s m args below meth c Q D ct adC adM AC AM σ τ 1568 [(0, .ref b), (1, .ref (adC 0)), (2, .ref (adM 0)), (3, .int i)] [] := by
  intro H ls hC hM hl
  have hx := C.1.1
  have hb := C.1.2.1
  have hX := C.2.2.2.2.2.1
  have hbl := C.2.2.2.2.2.2
  have hbA : ¬ AC b := fun z => absurd (C.2.2.1 b z) (by omega)
  refine lv_aload_n hx hb dL_law_1568 rfl (lv_at hl 1 rfl) ?_
  refine lv_aload_n hx hb dL_law_1569 rfl (lv_at hl 0 rfl) ?_
  refine lv_iload_n hx hb dL_law_1570 rfl (lv_at hl 3 rfl) ?_
  refine lv_iconst (v := 1) hx hb dL_law_1571 rfl ?_
  refine lv_iadd hx hb dL_law_1572 ?_
  refine va_sld hx hb hX hbl hbA hC.2 g1 dL_law_1573 ?_
  obtain ⟨r, r2, σ1, τ1, hf1, hf2, hJ1⟩ := hs σ τ (xs (i + 1).toNatClampNeg) hJ
  refine lw_call (rest := []) C.1 C.2.2.1 (fun q z1 z2 => C.2.2.2.2.1 q z2 z1) C.2.1.2.2.2.2.2.2.2.2.1 hC hM (ctX8_cut l hf1) kl_RL_234 layC_0 rfl rfl rfl rfl (Nat.le_of_ble_eq_true rfl) dL_law_1574 hl.1 (Nat.le_refl _) (Nat.le_refl _) (fun H hC hM => ?_)
  refine lv_pop hx hb dL_law_1577 rfl ?_
  refine lv_aload_n hx hb dL_law_1578 rfl (lv_at hl 2 rfl) ?_
  refine lv_aload_n hx hb dL_law_1579 rfl (lv_at hl 0 rfl) ?_
  refine lv_iload_n hx hb dL_law_1580 rfl (lv_at hl 3 rfl) ?_
  refine lv_iconst (v := 1) hx hb dL_law_1581 rfl ?_
  refine lv_iadd hx hb dL_law_1582 ?_
  refine va_sld hx hb hX hbl hbA hC.2 g1 dL_law_1583 ?_
  refine lw_call (rest := []) C.2.1 C.2.2.2.1 C.2.2.2.2.1 C.1.2.2.2.2.2.2.2.2.1 hM hC (ctX9_cut l hf2) kl_RL_237 layM_0 rfl rfl rfl rfl (Nat.le_of_ble_eq_true rfl) dL_law_1584 hl.1 (Nat.le_refl _) (Nat.le_refl _) (fun H hM hC => ?_)
  refine lv_pop hx hb dL_law_1587 rfl ?_
  refine lv_goto (tgt := 2172) hx hb dL_law_1588 (by decide) ?_
  exact kk σ1 τ1 hJ1 H ls hC hM (lv_sub hl [0, 1, 2, 3] rfl)
theorem lw_case_55 (C : lw_C p s m args meth c b L xs D ct adC adM AC AM) {J J2 : sn_S → sn_S → Prop} (hs : st_55 J J2) {σ τ : sn_S} (hJ : J σ τ) {i : Int32} (g1 : vp_in (i + 1) L) (g2 : vp_in (i + 2) L) (g3 : vp_in (i + 3) L) (g4 : vp_in (i + 4) L) (g5 : vp_in (i + 5) L) (kk : ∀ σ τ, J2 σ τ → lw_LAt p l e s m args below meth c Q D ct adC adM AC AM σ τ 2172 [(0, .ref b), (1, .ref (adC 0)), (2, .ref (adM 0)), (3, .int i)] []) : lw_LAt p l e s m args below meth c Q D ct adC adM AC AM σ τ 1591 [(0, .ref b), (1, .ref (adC 0)), (2, .ref (adM 0)), (3, .int i)] [] := by
  intro H ls hC hM hl
  have hx := C.1.1
  have hb := C.1.2.1
  have hX := C.2.2.2.2.2.1
  have hbl := C.2.2.2.2.2.2
  have hbA : ¬ AC b := fun z => absurd (C.2.2.1 b z) (by omega)
  refine lv_aload_n hx hb dL_law_1591 rfl (lv_at hl 1 rfl) ?_
  obtain ⟨r, r2, σ1, τ1, hf1, hf2, hJ1⟩ := hs σ τ  hJ
  refine lw_call (rest := []) C.1 C.2.2.1 (fun q z1 z2 => C.2.2.2.2.1 q z2 z1) C.2.1.2.2.2.2.2.2.2.2.1 hC hM (ctX8_cuts l hf1) kl_RL_238 layC_0 rfl rfl rfl rfl (Nat.le_of_ble_eq_true rfl) dL_law_1592 hl.1 (Nat.le_refl _) (Nat.le_refl _) (fun H hC hM => ?_)
  refine lv_pop hx hb dL_law_1595 rfl ?_
  refine lv_aload_n hx hb dL_law_1596 rfl (lv_at hl 2 rfl) ?_
  refine lw_call (rest := []) C.2.1 C.2.2.2.1 C.2.2.2.2.1 C.1.2.2.2.2.2.2.2.2.1 hM hC (ctX9_cuts l hf2) kl_RL_241 layM_0 rfl rfl rfl rfl (Nat.le_of_ble_eq_true rfl) dL_law_1597 hl.1 (Nat.le_refl _) (Nat.le_refl _) (fun H hM hC => ?_)
  refine lv_pop hx hb dL_law_1600 rfl ?_
  refine lv_goto (tgt := 2172) hx hb dL_law_1601 (by decide) ?_
  exact kk σ1 τ1 hJ1 H ls hC hM (lv_sub hl [0, 1, 2, 3] rfl)
theorem lw_case_56 (C : lw_C p s m args meth c b L xs D ct adC adM AC AM) {J J2 : sn_S → sn_S → Prop} (hs : st_56 J J2) {σ τ : sn_S} (hJ : J σ τ) {i : Int32} (g1 : vp_in (i + 1) L) (g2 : vp_in (i + 2) L) (g3 : vp_in (i + 3) L) (g4 : vp_in (i + 4) L) (g5 : vp_in (i + 5) L) (kk : ∀ σ τ, J2 σ τ → lw_LAt p l e s m args below meth c Q D ct adC adM AC AM σ τ 2172 [(0, .ref b), (1, .ref (adC 0)), (2, .ref (adM 0)), (3, .int i)] []) : lw_LAt p l e s m args below meth c Q D ct adC adM AC AM σ τ 1604 [(0, .ref b), (1, .ref (adC 0)), (2, .ref (adM 0)), (3, .int i)] [] := by
  intro H ls hC hM hl
  have hx := C.1.1
  have hb := C.1.2.1
  have hX := C.2.2.2.2.2.1
  have hbl := C.2.2.2.2.2.2
  have hbA : ¬ AC b := fun z => absurd (C.2.2.1 b z) (by omega)
  refine lv_aload_n hx hb dL_law_1604 rfl (lv_at hl 1 rfl) ?_
  refine lv_aload_n hx hb dL_law_1605 rfl (lv_at hl 0 rfl) ?_
  refine lv_iload_n hx hb dL_law_1606 rfl (lv_at hl 3 rfl) ?_
  refine lv_iconst (v := 1) hx hb dL_law_1607 rfl ?_
  refine lv_iadd hx hb dL_law_1608 ?_
  refine va_sld hx hb hX hbl hbA hC.2 g1 dL_law_1609 ?_
  refine lv_aload_n hx hb dL_law_1610 rfl (lv_at hl 0 rfl) ?_
  refine lv_iload_n hx hb dL_law_1611 rfl (lv_at hl 3 rfl) ?_
  refine lv_iconst (v := 2) hx hb dL_law_1612 rfl ?_
  refine lv_iadd hx hb dL_law_1613 ?_
  refine va_sld hx hb hX hbl hbA hC.2 g2 dL_law_1614 ?_
  refine lv_aload_n hx hb dL_law_1615 rfl (lv_at hl 0 rfl) ?_
  refine lv_iload_n hx hb dL_law_1616 rfl (lv_at hl 3 rfl) ?_
  refine lv_iconst (v := 3) hx hb dL_law_1617 rfl ?_
  refine lv_iadd hx hb dL_law_1618 ?_
  refine va_sld hx hb hX hbl hbA hC.2 g3 dL_law_1619 ?_
  obtain ⟨r, r2, σ1, τ1, hf1, hf2, hJ1⟩ := hs σ τ (xs (i + 1).toNatClampNeg) (xs (i + 2).toNatClampNeg) (xs (i + 3).toNatClampNeg) hJ
  refine lw_call (rest := []) C.1 C.2.2.1 (fun q z1 z2 => C.2.2.2.2.1 q z2 z1) C.2.1.2.2.2.2.2.2.2.2.1 hC hM (ctX8_chance l hf1) kl_RL_242 layC_0 rfl rfl rfl rfl (Nat.le_of_ble_eq_true rfl) dL_law_1620 hl.1 (Nat.le_refl _) (Nat.le_refl _) (fun H hC hM => ?_)
  refine lv_pop2_2 hx hb dL_law_1623 rfl ?_
  refine lv_aload_n hx hb dL_law_1624 rfl (lv_at hl 2 rfl) ?_
  refine lv_aload_n hx hb dL_law_1625 rfl (lv_at hl 0 rfl) ?_
  refine lv_iload_n hx hb dL_law_1626 rfl (lv_at hl 3 rfl) ?_
  refine lv_iconst (v := 1) hx hb dL_law_1627 rfl ?_
  refine lv_iadd hx hb dL_law_1628 ?_
  refine va_sld hx hb hX hbl hbA hC.2 g1 dL_law_1629 ?_
  refine lv_aload_n hx hb dL_law_1630 rfl (lv_at hl 0 rfl) ?_
  refine lv_iload_n hx hb dL_law_1631 rfl (lv_at hl 3 rfl) ?_
  refine lv_iconst (v := 2) hx hb dL_law_1632 rfl ?_
  refine lv_iadd hx hb dL_law_1633 ?_
  refine va_sld hx hb hX hbl hbA hC.2 g2 dL_law_1634 ?_
  refine lv_aload_n hx hb dL_law_1635 rfl (lv_at hl 0 rfl) ?_
  refine lv_iload_n hx hb dL_law_1636 rfl (lv_at hl 3 rfl) ?_
  refine lv_iconst (v := 3) hx hb dL_law_1637 rfl ?_
  refine lv_iadd hx hb dL_law_1638 ?_
  refine va_sld hx hb hX hbl hbA hC.2 g3 dL_law_1639 ?_
  refine lw_call (rest := []) C.2.1 C.2.2.2.1 C.2.2.2.2.1 C.1.2.2.2.2.2.2.2.2.1 hM hC (ctX9_chance l hf2) kl_RL_246 layM_0 rfl rfl rfl rfl (Nat.le_of_ble_eq_true rfl) dL_law_1640 hl.1 (Nat.le_refl _) (Nat.le_refl _) (fun H hM hC => ?_)
  refine lv_pop2_2 hx hb dL_law_1643 rfl ?_
  refine lv_goto (tgt := 2172) hx hb dL_law_1644 (by decide) ?_
  exact kk σ1 τ1 hJ1 H ls hC hM (lv_sub hl [0, 1, 2, 3] rfl)
theorem lw_case_57 (C : lw_C p s m args meth c b L xs D ct adC adM AC AM) {J J2 : sn_S → sn_S → Prop} (hs : st_57 J J2) {σ τ : sn_S} (hJ : J σ τ) {i : Int32} (g1 : vp_in (i + 1) L) (g2 : vp_in (i + 2) L) (g3 : vp_in (i + 3) L) (g4 : vp_in (i + 4) L) (g5 : vp_in (i + 5) L) (kk : ∀ σ τ, J2 σ τ → lw_LAt p l e s m args below meth c Q D ct adC adM AC AM σ τ 2172 [(0, .ref b), (1, .ref (adC 0)), (2, .ref (adM 0)), (3, .int i)] []) : lw_LAt p l e s m args below meth c Q D ct adC adM AC AM σ τ 1647 [(0, .ref b), (1, .ref (adC 0)), (2, .ref (adM 0)), (3, .int i)] [] := by
  intro H ls hC hM hl
  have hx := C.1.1
  have hb := C.1.2.1
  have hX := C.2.2.2.2.2.1
  have hbl := C.2.2.2.2.2.2
  have hbA : ¬ AC b := fun z => absurd (C.2.2.1 b z) (by omega)
  refine lv_aload_n hx hb dL_law_1647 rfl (lv_at hl 1 rfl) ?_
  refine lv_aload_n hx hb dL_law_1648 rfl (lv_at hl 0 rfl) ?_
  refine lv_iload_n hx hb dL_law_1649 rfl (lv_at hl 3 rfl) ?_
  refine lv_iconst (v := 1) hx hb dL_law_1650 rfl ?_
  refine lv_iadd hx hb dL_law_1651 ?_
  refine va_sld hx hb hX hbl hbA hC.2 g1 dL_law_1652 ?_
  refine lv_aload_n hx hb dL_law_1653 rfl (lv_at hl 0 rfl) ?_
  refine lv_iload_n hx hb dL_law_1654 rfl (lv_at hl 3 rfl) ?_
  refine lv_iconst (v := 2) hx hb dL_law_1655 rfl ?_
  refine lv_iadd hx hb dL_law_1656 ?_
  refine va_sld hx hb hX hbl hbA hC.2 g2 dL_law_1657 ?_
  refine lv_aload_n hx hb dL_law_1658 rfl (lv_at hl 0 rfl) ?_
  refine lv_iload_n hx hb dL_law_1659 rfl (lv_at hl 3 rfl) ?_
  refine lv_iconst (v := 3) hx hb dL_law_1660 rfl ?_
  refine lv_iadd hx hb dL_law_1661 ?_
  refine va_sld hx hb hX hbl hbA hC.2 g3 dL_law_1662 ?_
  obtain ⟨r, r2, σ1, τ1, hf1, hf2, hJ1⟩ := hs σ τ (xs (i + 1).toNatClampNeg) (xs (i + 2).toNatClampNeg) (xs (i + 3).toNatClampNeg) hJ
  refine lw_call (rest := []) C.1 C.2.2.1 (fun q z1 z2 => C.2.2.2.2.1 q z2 z1) C.2.1.2.2.2.2.2.2.2.2.1 hC hM (ctX8_fair l hf1) kl_RL_247 layC_0 rfl rfl rfl rfl (Nat.le_of_ble_eq_true rfl) dL_law_1663 hl.1 (Nat.le_refl _) (Nat.le_refl _) (fun H hC hM => ?_)
  refine lv_pop2_2 hx hb dL_law_1666 rfl ?_
  refine lv_aload_n hx hb dL_law_1667 rfl (lv_at hl 2 rfl) ?_
  refine lv_aload_n hx hb dL_law_1668 rfl (lv_at hl 0 rfl) ?_
  refine lv_iload_n hx hb dL_law_1669 rfl (lv_at hl 3 rfl) ?_
  refine lv_iconst (v := 1) hx hb dL_law_1670 rfl ?_
  refine lv_iadd hx hb dL_law_1671 ?_
  refine va_sld hx hb hX hbl hbA hC.2 g1 dL_law_1672 ?_
  refine lv_aload_n hx hb dL_law_1673 rfl (lv_at hl 0 rfl) ?_
  refine lv_iload_n hx hb dL_law_1674 rfl (lv_at hl 3 rfl) ?_
  refine lv_iconst (v := 2) hx hb dL_law_1675 rfl ?_
  refine lv_iadd hx hb dL_law_1676 ?_
  refine va_sld hx hb hX hbl hbA hC.2 g2 dL_law_1677 ?_
  refine lv_aload_n hx hb dL_law_1678 rfl (lv_at hl 0 rfl) ?_
  refine lv_iload_n hx hb dL_law_1679 rfl (lv_at hl 3 rfl) ?_
  refine lv_iconst (v := 3) hx hb dL_law_1680 rfl ?_
  refine lv_iadd hx hb dL_law_1681 ?_
  refine va_sld hx hb hX hbl hbA hC.2 g3 dL_law_1682 ?_
  refine lw_call (rest := []) C.2.1 C.2.2.2.1 C.2.2.2.2.1 C.1.2.2.2.2.2.2.2.2.1 hM hC (ctX9_fair l hf2) kl_RL_250 layM_0 rfl rfl rfl rfl (Nat.le_of_ble_eq_true rfl) dL_law_1683 hl.1 (Nat.le_refl _) (Nat.le_refl _) (fun H hM hC => ?_)
  refine lv_pop2_2 hx hb dL_law_1686 rfl ?_
  refine lv_goto (tgt := 2172) hx hb dL_law_1687 (by decide) ?_
  exact kk σ1 τ1 hJ1 H ls hC hM (lv_sub hl [0, 1, 2, 3] rfl)
theorem lw_case_58 (C : lw_C p s m args meth c b L xs D ct adC adM AC AM) {J J2 : sn_S → sn_S → Prop} (hs : st_58 J J2) {σ τ : sn_S} (hJ : J σ τ) {i : Int32} (g1 : vp_in (i + 1) L) (g2 : vp_in (i + 2) L) (g3 : vp_in (i + 3) L) (g4 : vp_in (i + 4) L) (g5 : vp_in (i + 5) L) (kk : ∀ σ τ, J2 σ τ → lw_LAt p l e s m args below meth c Q D ct adC adM AC AM σ τ 2172 [(0, .ref b), (1, .ref (adC 0)), (2, .ref (adM 0)), (3, .int i)] []) : lw_LAt p l e s m args below meth c Q D ct adC adM AC AM σ τ 1690 [(0, .ref b), (1, .ref (adC 0)), (2, .ref (adM 0)), (3, .int i)] [] := by
  intro H ls hC hM hl
  have hx := C.1.1
  have hb := C.1.2.1
  have hX := C.2.2.2.2.2.1
  have hbl := C.2.2.2.2.2.2
  have hbA : ¬ AC b := fun z => absurd (C.2.2.1 b z) (by omega)
  refine lv_aload_n hx hb dL_law_1690 rfl (lv_at hl 1 rfl) ?_
  refine lv_aload_n hx hb dL_law_1691 rfl (lv_at hl 0 rfl) ?_
  refine lv_iload_n hx hb dL_law_1692 rfl (lv_at hl 3 rfl) ?_
  refine lv_iconst (v := 1) hx hb dL_law_1693 rfl ?_
  refine lv_iadd hx hb dL_law_1694 ?_
  refine va_sld hx hb hX hbl hbA hC.2 g1 dL_law_1695 ?_
  refine lv_aload_n hx hb dL_law_1696 rfl (lv_at hl 0 rfl) ?_
  refine lv_iload_n hx hb dL_law_1697 rfl (lv_at hl 3 rfl) ?_
  refine lv_iconst (v := 2) hx hb dL_law_1698 rfl ?_
  refine lv_iadd hx hb dL_law_1699 ?_
  refine va_sld hx hb hX hbl hbA hC.2 g2 dL_law_1700 ?_
  obtain ⟨r, r2, σ1, τ1, hf1, hf2, hJ1⟩ := hs σ τ (xs (i + 1).toNatClampNeg) (xs (i + 2).toNatClampNeg) hJ
  refine lw_call (rest := []) C.1 C.2.2.1 (fun q z1 z2 => C.2.2.2.2.1 q z2 z1) C.2.1.2.2.2.2.2.2.2.2.1 hC hM (ctX8_risk l hf1) kl_RL_251 layC_0 rfl rfl rfl rfl (Nat.le_of_ble_eq_true rfl) dL_law_1701 hl.1 (Nat.le_refl _) (Nat.le_refl _) (fun H hC hM => ?_)
  refine lv_pop2_2 hx hb dL_law_1704 rfl ?_
  refine lv_aload_n hx hb dL_law_1705 rfl (lv_at hl 2 rfl) ?_
  refine lv_aload_n hx hb dL_law_1706 rfl (lv_at hl 0 rfl) ?_
  refine lv_iload_n hx hb dL_law_1707 rfl (lv_at hl 3 rfl) ?_
  refine lv_iconst (v := 1) hx hb dL_law_1708 rfl ?_
  refine lv_iadd hx hb dL_law_1709 ?_
  refine va_sld hx hb hX hbl hbA hC.2 g1 dL_law_1710 ?_
  refine lv_aload_n hx hb dL_law_1711 rfl (lv_at hl 0 rfl) ?_
  refine lv_iload_n hx hb dL_law_1712 rfl (lv_at hl 3 rfl) ?_
  refine lv_iconst (v := 2) hx hb dL_law_1713 rfl ?_
  refine lv_iadd hx hb dL_law_1714 ?_
  refine va_sld hx hb hX hbl hbA hC.2 g2 dL_law_1715 ?_
  refine lw_call (rest := []) C.2.1 C.2.2.2.1 C.2.2.2.2.1 C.1.2.2.2.2.2.2.2.2.1 hM hC (ctX9_risk l hf2) kl_RL_255 layM_0 rfl rfl rfl rfl (Nat.le_of_ble_eq_true rfl) dL_law_1716 hl.1 (Nat.le_refl _) (Nat.le_refl _) (fun H hM hC => ?_)
  refine lv_pop2_2 hx hb dL_law_1719 rfl ?_
  refine lv_goto (tgt := 2172) hx hb dL_law_1720 (by decide) ?_
  exact kk σ1 τ1 hJ1 H ls hC hM (lv_sub hl [0, 1, 2, 3] rfl)
theorem lw_case_59 (C : lw_C p s m args meth c b L xs D ct adC adM AC AM) {J J2 : sn_S → sn_S → Prop} (hs : st_59 J J2) {σ τ : sn_S} (hJ : J σ τ) {i : Int32} (g1 : vp_in (i + 1) L) (g2 : vp_in (i + 2) L) (g3 : vp_in (i + 3) L) (g4 : vp_in (i + 4) L) (g5 : vp_in (i + 5) L) (kk : ∀ σ τ, J2 σ τ → lw_LAt p l e s m args below meth c Q D ct adC adM AC AM σ τ 2172 [(0, .ref b), (1, .ref (adC 0)), (2, .ref (adM 0)), (3, .int i)] []) : lw_LAt p l e s m args below meth c Q D ct adC adM AC AM σ τ 1723 [(0, .ref b), (1, .ref (adC 0)), (2, .ref (adM 0)), (3, .int i)] [] := by
  intro H ls hC hM hl
  have hx := C.1.1
  have hb := C.1.2.1
  have hX := C.2.2.2.2.2.1
  have hbl := C.2.2.2.2.2.2
  have hbA : ¬ AC b := fun z => absurd (C.2.2.1 b z) (by omega)
  refine lv_aload_n hx hb dL_law_1723 rfl (lv_at hl 1 rfl) ?_
  refine lv_aload_n hx hb dL_law_1724 rfl (lv_at hl 0 rfl) ?_
  refine lv_iload_n hx hb dL_law_1725 rfl (lv_at hl 3 rfl) ?_
  refine lv_iconst (v := 1) hx hb dL_law_1726 rfl ?_
  refine lv_iadd hx hb dL_law_1727 ?_
  refine va_sld hx hb hX hbl hbA hC.2 g1 dL_law_1728 ?_
  refine lv_aload_n hx hb dL_law_1729 rfl (lv_at hl 0 rfl) ?_
  refine lv_iload_n hx hb dL_law_1730 rfl (lv_at hl 3 rfl) ?_
  refine lv_iconst (v := 2) hx hb dL_law_1731 rfl ?_
  refine lv_iadd hx hb dL_law_1732 ?_
  refine va_sld hx hb hX hbl hbA hC.2 g2 dL_law_1733 ?_
  obtain ⟨r, r2, σ1, τ1, hf1, hf2, hJ1⟩ := hs σ τ (xs (i + 1).toNatClampNeg) (xs (i + 2).toNatClampNeg) hJ
  refine lw_call (rest := []) C.1 C.2.2.1 (fun q z1 z2 => C.2.2.2.2.1 q z2 z1) C.2.1.2.2.2.2.2.2.2.2.1 hC hM (ctX8_stifle l hf1) kl_RL_256 layC_0 rfl rfl rfl rfl (Nat.le_of_ble_eq_true rfl) dL_law_1734 hl.1 (Nat.le_refl _) (Nat.le_refl _) (fun H hC hM => ?_)
  refine lv_pop hx hb dL_law_1737 rfl ?_
  refine lv_aload_n hx hb dL_law_1738 rfl (lv_at hl 2 rfl) ?_
  refine lv_aload_n hx hb dL_law_1739 rfl (lv_at hl 0 rfl) ?_
  refine lv_iload_n hx hb dL_law_1740 rfl (lv_at hl 3 rfl) ?_
  refine lv_iconst (v := 1) hx hb dL_law_1741 rfl ?_
  refine lv_iadd hx hb dL_law_1742 ?_
  refine va_sld hx hb hX hbl hbA hC.2 g1 dL_law_1743 ?_
  refine lv_aload_n hx hb dL_law_1744 rfl (lv_at hl 0 rfl) ?_
  refine lv_iload_n hx hb dL_law_1745 rfl (lv_at hl 3 rfl) ?_
  refine lv_iconst (v := 2) hx hb dL_law_1746 rfl ?_
  refine lv_iadd hx hb dL_law_1747 ?_
  refine va_sld hx hb hX hbl hbA hC.2 g2 dL_law_1748 ?_
  refine lw_call (rest := []) C.2.1 C.2.2.2.1 C.2.2.2.2.1 C.1.2.2.2.2.2.2.2.2.1 hM hC (ctX9_stifle l hf2) kl_RL_259 layM_0 rfl rfl rfl rfl (Nat.le_of_ble_eq_true rfl) dL_law_1749 hl.1 (Nat.le_refl _) (Nat.le_refl _) (fun H hM hC => ?_)
  refine lv_pop hx hb dL_law_1752 rfl ?_
  refine lv_goto (tgt := 2172) hx hb dL_law_1753 (by decide) ?_
  exact kk σ1 τ1 hJ1 H ls hC hM (lv_sub hl [0, 1, 2, 3] rfl)
theorem lw_case_60 (C : lw_C p s m args meth c b L xs D ct adC adM AC AM) {J J2 : sn_S → sn_S → Prop} (hs : st_60 J J2) {σ τ : sn_S} (hJ : J σ τ) {i : Int32} (g1 : vp_in (i + 1) L) (g2 : vp_in (i + 2) L) (g3 : vp_in (i + 3) L) (g4 : vp_in (i + 4) L) (g5 : vp_in (i + 5) L) (kk : ∀ σ τ, J2 σ τ → lw_LAt p l e s m args below meth c Q D ct adC adM AC AM σ τ 2172 [(0, .ref b), (1, .ref (adC 0)), (2, .ref (adM 0)), (3, .int i)] []) : lw_LAt p l e s m args below meth c Q D ct adC adM AC AM σ τ 1756 [(0, .ref b), (1, .ref (adC 0)), (2, .ref (adM 0)), (3, .int i)] [] := by
  intro H ls hC hM hl
  have hx := C.1.1
  have hb := C.1.2.1
  have hX := C.2.2.2.2.2.1
  have hbl := C.2.2.2.2.2.2
  have hbA : ¬ AC b := fun z => absurd (C.2.2.1 b z) (by omega)
  refine lv_aload_n hx hb dL_law_1756 rfl (lv_at hl 1 rfl) ?_
  refine lv_aload_n hx hb dL_law_1757 rfl (lv_at hl 0 rfl) ?_
  refine lv_iload_n hx hb dL_law_1758 rfl (lv_at hl 3 rfl) ?_
  refine lv_iconst (v := 1) hx hb dL_law_1759 rfl ?_
  refine lv_iadd hx hb dL_law_1760 ?_
  refine va_sld hx hb hX hbl hbA hC.2 g1 dL_law_1761 ?_
  refine lv_aload_n hx hb dL_law_1762 rfl (lv_at hl 0 rfl) ?_
  refine lv_iload_n hx hb dL_law_1763 rfl (lv_at hl 3 rfl) ?_
  refine lv_iconst (v := 2) hx hb dL_law_1764 rfl ?_
  refine lv_iadd hx hb dL_law_1765 ?_
  refine va_sld hx hb hX hbl hbA hC.2 g2 dL_law_1766 ?_
  obtain ⟨r, r2, σ1, τ1, hf1, hf2, hJ1⟩ := hs σ τ (xs (i + 1).toNatClampNeg) (xs (i + 2).toNatClampNeg) hJ
  refine lw_call (rest := []) C.1 C.2.2.1 (fun q z1 z2 => C.2.2.2.2.1 q z2 z1) C.2.1.2.2.2.2.2.2.2.2.1 hC hM (ctX8_sniff l hf1) kl_RL_260 layC_0 rfl rfl rfl rfl (Nat.le_of_ble_eq_true rfl) dL_law_1767 hl.1 (Nat.le_refl _) (Nat.le_refl _) (fun H hC hM => ?_)
  refine lv_pop hx hb dL_law_1770 rfl ?_
  refine lv_aload_n hx hb dL_law_1771 rfl (lv_at hl 2 rfl) ?_
  refine lv_aload_n hx hb dL_law_1772 rfl (lv_at hl 0 rfl) ?_
  refine lv_iload_n hx hb dL_law_1773 rfl (lv_at hl 3 rfl) ?_
  refine lv_iconst (v := 1) hx hb dL_law_1774 rfl ?_
  refine lv_iadd hx hb dL_law_1775 ?_
  refine va_sld hx hb hX hbl hbA hC.2 g1 dL_law_1776 ?_
  refine lv_aload_n hx hb dL_law_1777 rfl (lv_at hl 0 rfl) ?_
  refine lv_iload_n hx hb dL_law_1778 rfl (lv_at hl 3 rfl) ?_
  refine lv_iconst (v := 2) hx hb dL_law_1779 rfl ?_
  refine lv_iadd hx hb dL_law_1780 ?_
  refine va_sld hx hb hX hbl hbA hC.2 g2 dL_law_1781 ?_
  refine lw_call (rest := []) C.2.1 C.2.2.2.1 C.2.2.2.2.1 C.1.2.2.2.2.2.2.2.2.1 hM hC (ctX9_sniff l hf2) kl_RL_263 layM_0 rfl rfl rfl rfl (Nat.le_of_ble_eq_true rfl) dL_law_1782 hl.1 (Nat.le_refl _) (Nat.le_refl _) (fun H hM hC => ?_)
  refine lv_pop hx hb dL_law_1785 rfl ?_
  refine lv_goto (tgt := 2172) hx hb dL_law_1786 (by decide) ?_
  exact kk σ1 τ1 hJ1 H ls hC hM (lv_sub hl [0, 1, 2, 3] rfl)
theorem lw_case_61 (C : lw_C p s m args meth c b L xs D ct adC adM AC AM) {J J2 : sn_S → sn_S → Prop} (hs : st_61 J J2) {σ τ : sn_S} (hJ : J σ τ) {i : Int32} (g1 : vp_in (i + 1) L) (g2 : vp_in (i + 2) L) (g3 : vp_in (i + 3) L) (g4 : vp_in (i + 4) L) (g5 : vp_in (i + 5) L) (kk : ∀ σ τ, J2 σ τ → lw_LAt p l e s m args below meth c Q D ct adC adM AC AM σ τ 2172 [(0, .ref b), (1, .ref (adC 0)), (2, .ref (adM 0)), (3, .int i)] []) : lw_LAt p l e s m args below meth c Q D ct adC adM AC AM σ τ 1789 [(0, .ref b), (1, .ref (adC 0)), (2, .ref (adM 0)), (3, .int i)] [] := by
  intro H ls hC hM hl
  have hx := C.1.1
  have hb := C.1.2.1
  have hX := C.2.2.2.2.2.1
  have hbl := C.2.2.2.2.2.2
  have hbA : ¬ AC b := fun z => absurd (C.2.2.1 b z) (by omega)
  refine lv_aload_n hx hb dL_law_1789 rfl (lv_at hl 1 rfl) ?_
  obtain ⟨r, r2, σ1, τ1, hf1, hf2, hJ1⟩ := hs σ τ  hJ
  refine lw_call (rest := []) C.1 C.2.2.1 (fun q z1 z2 => C.2.2.2.2.1 q z2 z1) C.2.1.2.2.2.2.2.2.2.2.1 hC hM (ctX8_undo l hf1) kl_RL_264 layC_0 rfl rfl rfl rfl (Nat.le_of_ble_eq_true rfl) dL_law_1790 hl.1 (Nat.le_refl _) (Nat.le_refl _) (fun H hC hM => ?_)
  refine lv_pop hx hb dL_law_1793 rfl ?_
  refine lv_aload_n hx hb dL_law_1794 rfl (lv_at hl 2 rfl) ?_
  refine lw_call (rest := []) C.2.1 C.2.2.2.1 C.2.2.2.2.1 C.1.2.2.2.2.2.2.2.2.1 hM hC (ctX9_undo l hf2) kl_RL_267 layM_0 rfl rfl rfl rfl (Nat.le_of_ble_eq_true rfl) dL_law_1795 hl.1 (Nat.le_refl _) (Nat.le_refl _) (fun H hM hC => ?_)
  refine lv_pop hx hb dL_law_1798 rfl ?_
  refine lv_goto (tgt := 2172) hx hb dL_law_1799 (by decide) ?_
  exact kk σ1 τ1 hJ1 H ls hC hM (lv_sub hl [0, 1, 2, 3] rfl)
theorem lw_case_62 (C : lw_C p s m args meth c b L xs D ct adC adM AC AM) {J J2 : sn_S → sn_S → Prop} (hs : st_62 J J2) {σ τ : sn_S} (hJ : J σ τ) {i : Int32} (g1 : vp_in (i + 1) L) (g2 : vp_in (i + 2) L) (g3 : vp_in (i + 3) L) (g4 : vp_in (i + 4) L) (g5 : vp_in (i + 5) L) (kk : ∀ σ τ, J2 σ τ → lw_LAt p l e s m args below meth c Q D ct adC adM AC AM σ τ 2172 [(0, .ref b), (1, .ref (adC 0)), (2, .ref (adM 0)), (3, .int i)] []) : lw_LAt p l e s m args below meth c Q D ct adC adM AC AM σ τ 1802 [(0, .ref b), (1, .ref (adC 0)), (2, .ref (adM 0)), (3, .int i)] [] := by
  intro H ls hC hM hl
  have hx := C.1.1
  have hb := C.1.2.1
  have hX := C.2.2.2.2.2.1
  have hbl := C.2.2.2.2.2.2
  have hbA : ¬ AC b := fun z => absurd (C.2.2.1 b z) (by omega)
  refine lv_aload_n hx hb dL_law_1802 rfl (lv_at hl 1 rfl) ?_
  obtain ⟨r, r2, σ1, τ1, hf1, hf2, hJ1⟩ := hs σ τ  hJ
  refine lw_call (rest := []) C.1 C.2.2.1 (fun q z1 z2 => C.2.2.2.2.1 q z2 z1) C.2.1.2.2.2.2.2.2.2.2.1 hC hM (ctX8_anew l hf1) kl_RL_268 layC_0 rfl rfl rfl rfl (Nat.le_of_ble_eq_true rfl) dL_law_1803 hl.1 (Nat.le_refl _) (Nat.le_refl _) (fun H hC hM => ?_)
  refine lv_pop hx hb dL_law_1806 rfl ?_
  refine lv_aload_n hx hb dL_law_1807 rfl (lv_at hl 2 rfl) ?_
  refine lw_call (rest := []) C.2.1 C.2.2.2.1 C.2.2.2.2.1 C.1.2.2.2.2.2.2.2.2.1 hM hC (ctX9_anew l hf2) kl_RL_271 layM_0 rfl rfl rfl rfl (Nat.le_of_ble_eq_true rfl) dL_law_1808 hl.1 (Nat.le_refl _) (Nat.le_refl _) (fun H hM hC => ?_)
  refine lv_pop hx hb dL_law_1811 rfl ?_
  refine lv_goto (tgt := 2172) hx hb dL_law_1812 (by decide) ?_
  exact kk σ1 τ1 hJ1 H ls hC hM (lv_sub hl [0, 1, 2, 3] rfl)
theorem lw_case_63 (C : lw_C p s m args meth c b L xs D ct adC adM AC AM) {J J2 : sn_S → sn_S → Prop} (hs : st_63 J J2) {σ τ : sn_S} (hJ : J σ τ) {i : Int32} (g1 : vp_in (i + 1) L) (g2 : vp_in (i + 2) L) (g3 : vp_in (i + 3) L) (g4 : vp_in (i + 4) L) (g5 : vp_in (i + 5) L) (kk : ∀ σ τ, J2 σ τ → lw_LAt p l e s m args below meth c Q D ct adC adM AC AM σ τ 2172 [(0, .ref b), (1, .ref (adC 0)), (2, .ref (adM 0)), (3, .int i)] []) : lw_LAt p l e s m args below meth c Q D ct adC adM AC AM σ τ 1815 [(0, .ref b), (1, .ref (adC 0)), (2, .ref (adM 0)), (3, .int i)] [] := by
  intro H ls hC hM hl
  have hx := C.1.1
  have hb := C.1.2.1
  have hX := C.2.2.2.2.2.1
  have hbl := C.2.2.2.2.2.2
  have hbA : ¬ AC b := fun z => absurd (C.2.2.1 b z) (by omega)
  refine lv_aload_n hx hb dL_law_1815 rfl (lv_at hl 1 rfl) ?_
  refine lv_aload_n hx hb dL_law_1816 rfl (lv_at hl 0 rfl) ?_
  refine lv_iload_n hx hb dL_law_1817 rfl (lv_at hl 3 rfl) ?_
  refine lv_iconst (v := 1) hx hb dL_law_1818 rfl ?_
  refine lv_iadd hx hb dL_law_1819 ?_
  refine va_sld hx hb hX hbl hbA hC.2 g1 dL_law_1820 ?_
  refine lv_aload_n hx hb dL_law_1821 rfl (lv_at hl 0 rfl) ?_
  refine lv_iload_n hx hb dL_law_1822 rfl (lv_at hl 3 rfl) ?_
  refine lv_iconst (v := 2) hx hb dL_law_1823 rfl ?_
  refine lv_iadd hx hb dL_law_1824 ?_
  refine va_sld hx hb hX hbl hbA hC.2 g2 dL_law_1825 ?_
  obtain ⟨r, r2, σ1, τ1, hf1, hf2, hJ1⟩ := hs σ τ (xs (i + 1).toNatClampNeg) (xs (i + 2).toNatClampNeg) hJ
  refine lw_call (rest := []) C.1 C.2.2.1 (fun q z1 z2 => C.2.2.2.2.1 q z2 z1) C.2.1.2.2.2.2.2.2.2.2.1 hC hM (ctX8_drawn l hf1) kl_RL_272 layC_0 rfl rfl rfl rfl (Nat.le_of_ble_eq_true rfl) dL_law_1826 hl.1 (Nat.le_refl _) (Nat.le_refl _) (fun H hC hM => ?_)
  refine lv_pop hx hb dL_law_1829 rfl ?_
  refine lv_aload_n hx hb dL_law_1830 rfl (lv_at hl 2 rfl) ?_
  refine lv_aload_n hx hb dL_law_1831 rfl (lv_at hl 0 rfl) ?_
  refine lv_iload_n hx hb dL_law_1832 rfl (lv_at hl 3 rfl) ?_
  refine lv_iconst (v := 1) hx hb dL_law_1833 rfl ?_
  refine lv_iadd hx hb dL_law_1834 ?_
  refine va_sld hx hb hX hbl hbA hC.2 g1 dL_law_1835 ?_
  refine lv_aload_n hx hb dL_law_1836 rfl (lv_at hl 0 rfl) ?_
  refine lv_iload_n hx hb dL_law_1837 rfl (lv_at hl 3 rfl) ?_
  refine lv_iconst (v := 2) hx hb dL_law_1838 rfl ?_
  refine lv_iadd hx hb dL_law_1839 ?_
  refine va_sld hx hb hX hbl hbA hC.2 g2 dL_law_1840 ?_
  refine lw_call (rest := []) C.2.1 C.2.2.2.1 C.2.2.2.2.1 C.1.2.2.2.2.2.2.2.2.1 hM hC (ctX9_drawn l hf2) kl_RL_275 layM_0 rfl rfl rfl rfl (Nat.le_of_ble_eq_true rfl) dL_law_1841 hl.1 (Nat.le_refl _) (Nat.le_refl _) (fun H hM hC => ?_)
  refine lv_pop hx hb dL_law_1844 rfl ?_
  refine lv_goto (tgt := 2172) hx hb dL_law_1845 (by decide) ?_
  exact kk σ1 τ1 hJ1 H ls hC hM (lv_sub hl [0, 1, 2, 3] rfl)
theorem lw_case_64 (C : lw_C p s m args meth c b L xs D ct adC adM AC AM) {J J2 : sn_S → sn_S → Prop} (hs : st_64 J J2) {σ τ : sn_S} (hJ : J σ τ) {i : Int32} (g1 : vp_in (i + 1) L) (g2 : vp_in (i + 2) L) (g3 : vp_in (i + 3) L) (g4 : vp_in (i + 4) L) (g5 : vp_in (i + 5) L) (kk : ∀ σ τ, J2 σ τ → lw_LAt p l e s m args below meth c Q D ct adC adM AC AM σ τ 2172 [(0, .ref b), (1, .ref (adC 0)), (2, .ref (adM 0)), (3, .int i)] []) : lw_LAt p l e s m args below meth c Q D ct adC adM AC AM σ τ 1848 [(0, .ref b), (1, .ref (adC 0)), (2, .ref (adM 0)), (3, .int i)] [] := by
  intro H ls hC hM hl
  have hx := C.1.1
  have hb := C.1.2.1
  have hX := C.2.2.2.2.2.1
  have hbl := C.2.2.2.2.2.2
  have hbA : ¬ AC b := fun z => absurd (C.2.2.1 b z) (by omega)
  refine lv_aload_n hx hb dL_law_1848 rfl (lv_at hl 1 rfl) ?_
  refine lv_aload_n hx hb dL_law_1849 rfl (lv_at hl 0 rfl) ?_
  refine lv_iload_n hx hb dL_law_1850 rfl (lv_at hl 3 rfl) ?_
  refine lv_iconst (v := 1) hx hb dL_law_1851 rfl ?_
  refine lv_iadd hx hb dL_law_1852 ?_
  refine va_sld hx hb hX hbl hbA hC.2 g1 dL_law_1853 ?_
  refine lv_aload_n hx hb dL_law_1854 rfl (lv_at hl 0 rfl) ?_
  refine lv_iload_n hx hb dL_law_1855 rfl (lv_at hl 3 rfl) ?_
  refine lv_iconst (v := 2) hx hb dL_law_1856 rfl ?_
  refine lv_iadd hx hb dL_law_1857 ?_
  refine va_sld hx hb hX hbl hbA hC.2 g2 dL_law_1858 ?_
  refine lv_aload_n hx hb dL_law_1859 rfl (lv_at hl 0 rfl) ?_
  refine lv_iload_n hx hb dL_law_1860 rfl (lv_at hl 3 rfl) ?_
  refine lv_iconst (v := 3) hx hb dL_law_1861 rfl ?_
  refine lv_iadd hx hb dL_law_1862 ?_
  refine va_sld hx hb hX hbl hbA hC.2 g3 dL_law_1863 ?_
  obtain ⟨r, r2, σ1, τ1, hf1, hf2, hJ1⟩ := hs σ τ (xs (i + 1).toNatClampNeg) (xs (i + 2).toNatClampNeg) (xs (i + 3).toNatClampNeg) hJ
  refine lw_call (rest := []) C.1 C.2.2.1 (fun q z1 z2 => C.2.2.2.2.1 q z2 z1) C.2.1.2.2.2.2.2.2.2.2.1 hC hM (ctX8_luck l hf1) kl_RL_276 layC_0 rfl rfl rfl rfl (Nat.le_of_ble_eq_true rfl) dL_law_1864 hl.1 (Nat.le_refl _) (Nat.le_refl _) (fun H hC hM => ?_)
  refine lv_pop hx hb dL_law_1867 rfl ?_
  refine lv_aload_n hx hb dL_law_1868 rfl (lv_at hl 2 rfl) ?_
  refine lv_aload_n hx hb dL_law_1869 rfl (lv_at hl 0 rfl) ?_
  refine lv_iload_n hx hb dL_law_1870 rfl (lv_at hl 3 rfl) ?_
  refine lv_iconst (v := 1) hx hb dL_law_1871 rfl ?_
  refine lv_iadd hx hb dL_law_1872 ?_
  refine va_sld hx hb hX hbl hbA hC.2 g1 dL_law_1873 ?_
  refine lv_aload_n hx hb dL_law_1874 rfl (lv_at hl 0 rfl) ?_
  refine lv_iload_n hx hb dL_law_1875 rfl (lv_at hl 3 rfl) ?_
  refine lv_iconst (v := 2) hx hb dL_law_1876 rfl ?_
  refine lv_iadd hx hb dL_law_1877 ?_
  refine va_sld hx hb hX hbl hbA hC.2 g2 dL_law_1878 ?_
  refine lv_aload_n hx hb dL_law_1879 rfl (lv_at hl 0 rfl) ?_
  refine lv_iload_n hx hb dL_law_1880 rfl (lv_at hl 3 rfl) ?_
  refine lv_iconst (v := 3) hx hb dL_law_1881 rfl ?_
  refine lv_iadd hx hb dL_law_1882 ?_
  refine va_sld hx hb hX hbl hbA hC.2 g3 dL_law_1883 ?_
  refine lw_call (rest := []) C.2.1 C.2.2.2.1 C.2.2.2.2.1 C.1.2.2.2.2.2.2.2.2.1 hM hC (ctX9_luck l hf2) kl_RL_280 layM_0 rfl rfl rfl rfl (Nat.le_of_ble_eq_true rfl) dL_law_1884 hl.1 (Nat.le_refl _) (Nat.le_refl _) (fun H hM hC => ?_)
  refine lv_pop hx hb dL_law_1887 rfl ?_
  refine lv_goto (tgt := 2172) hx hb dL_law_1888 (by decide) ?_
  exact kk σ1 τ1 hJ1 H ls hC hM (lv_sub hl [0, 1, 2, 3] rfl)
theorem lw_case_65 (C : lw_C p s m args meth c b L xs D ct adC adM AC AM) {J J2 : sn_S → sn_S → Prop} (hs : st_65 J J2) {σ τ : sn_S} (hJ : J σ τ) {i : Int32} (g1 : vp_in (i + 1) L) (g2 : vp_in (i + 2) L) (g3 : vp_in (i + 3) L) (g4 : vp_in (i + 4) L) (g5 : vp_in (i + 5) L) (kk : ∀ σ τ, J2 σ τ → lw_LAt p l e s m args below meth c Q D ct adC adM AC AM σ τ 2172 [(0, .ref b), (1, .ref (adC 0)), (2, .ref (adM 0)), (3, .int i)] []) : lw_LAt p l e s m args below meth c Q D ct adC adM AC AM σ τ 1891 [(0, .ref b), (1, .ref (adC 0)), (2, .ref (adM 0)), (3, .int i)] [] := by
  intro H ls hC hM hl
  have hx := C.1.1
  have hb := C.1.2.1
  have hX := C.2.2.2.2.2.1
  have hbl := C.2.2.2.2.2.2
  have hbA : ¬ AC b := fun z => absurd (C.2.2.1 b z) (by omega)
  refine lv_aload_n hx hb dL_law_1891 rfl (lv_at hl 1 rfl) ?_
  refine lv_aload_n hx hb dL_law_1892 rfl (lv_at hl 0 rfl) ?_
  refine lv_iload_n hx hb dL_law_1893 rfl (lv_at hl 3 rfl) ?_
  refine lv_iconst (v := 1) hx hb dL_law_1894 rfl ?_
  refine lv_iadd hx hb dL_law_1895 ?_
  refine va_sld hx hb hX hbl hbA hC.2 g1 dL_law_1896 ?_
  refine lv_aload_n hx hb dL_law_1897 rfl (lv_at hl 0 rfl) ?_
  refine lv_iload_n hx hb dL_law_1898 rfl (lv_at hl 3 rfl) ?_
  refine lv_iconst (v := 2) hx hb dL_law_1899 rfl ?_
  refine lv_iadd hx hb dL_law_1900 ?_
  refine va_sld hx hb hX hbl hbA hC.2 g2 dL_law_1901 ?_
  obtain ⟨r, r2, σ1, τ1, hf1, hf2, hJ1⟩ := hs σ τ (xs (i + 1).toNatClampNeg) (xs (i + 2).toNatClampNeg) hJ
  refine lw_call (rest := []) C.1 C.2.2.1 (fun q z1 z2 => C.2.2.2.2.1 q z2 z1) C.2.1.2.2.2.2.2.2.2.2.1 hC hM (ctX8_rate l hf1) kl_RL_281 layC_0 rfl rfl rfl rfl (Nat.le_of_ble_eq_true rfl) dL_law_1902 hl.1 (Nat.le_refl _) (Nat.le_refl _) (fun H hC hM => ?_)
  refine lv_pop hx hb dL_law_1905 rfl ?_
  refine lv_aload_n hx hb dL_law_1906 rfl (lv_at hl 2 rfl) ?_
  refine lv_aload_n hx hb dL_law_1907 rfl (lv_at hl 0 rfl) ?_
  refine lv_iload_n hx hb dL_law_1908 rfl (lv_at hl 3 rfl) ?_
  refine lv_iconst (v := 1) hx hb dL_law_1909 rfl ?_
  refine lv_iadd hx hb dL_law_1910 ?_
  refine va_sld hx hb hX hbl hbA hC.2 g1 dL_law_1911 ?_
  refine lv_aload_n hx hb dL_law_1912 rfl (lv_at hl 0 rfl) ?_
  refine lv_iload_n hx hb dL_law_1913 rfl (lv_at hl 3 rfl) ?_
  refine lv_iconst (v := 2) hx hb dL_law_1914 rfl ?_
  refine lv_iadd hx hb dL_law_1915 ?_
  refine va_sld hx hb hX hbl hbA hC.2 g2 dL_law_1916 ?_
  refine lw_call (rest := []) C.2.1 C.2.2.2.1 C.2.2.2.2.1 C.1.2.2.2.2.2.2.2.2.1 hM hC (ctX9_rate l hf2) kl_RL_284 layM_0 rfl rfl rfl rfl (Nat.le_of_ble_eq_true rfl) dL_law_1917 hl.1 (Nat.le_refl _) (Nat.le_refl _) (fun H hM hC => ?_)
  refine lv_pop hx hb dL_law_1920 rfl ?_
  refine lv_goto (tgt := 2172) hx hb dL_law_1921 (by decide) ?_
  exact kk σ1 τ1 hJ1 H ls hC hM (lv_sub hl [0, 1, 2, 3] rfl)
theorem lw_case_66 (C : lw_C p s m args meth c b L xs D ct adC adM AC AM) {J J2 : sn_S → sn_S → Prop} (hs : st_66 J J2) {σ τ : sn_S} (hJ : J σ τ) {i : Int32} (g1 : vp_in (i + 1) L) (g2 : vp_in (i + 2) L) (g3 : vp_in (i + 3) L) (g4 : vp_in (i + 4) L) (g5 : vp_in (i + 5) L) (kk : ∀ σ τ, J2 σ τ → lw_LAt p l e s m args below meth c Q D ct adC adM AC AM σ τ 2172 [(0, .ref b), (1, .ref (adC 0)), (2, .ref (adM 0)), (3, .int i)] []) : lw_LAt p l e s m args below meth c Q D ct adC adM AC AM σ τ 1924 [(0, .ref b), (1, .ref (adC 0)), (2, .ref (adM 0)), (3, .int i)] [] := by
  intro H ls hC hM hl
  have hx := C.1.1
  have hb := C.1.2.1
  have hX := C.2.2.2.2.2.1
  have hbl := C.2.2.2.2.2.2
  have hbA : ¬ AC b := fun z => absurd (C.2.2.1 b z) (by omega)
  refine lv_aload_n hx hb dL_law_1924 rfl (lv_at hl 1 rfl) ?_
  refine lv_aload_n hx hb dL_law_1925 rfl (lv_at hl 0 rfl) ?_
  refine lv_iload_n hx hb dL_law_1926 rfl (lv_at hl 3 rfl) ?_
  refine lv_iconst (v := 1) hx hb dL_law_1927 rfl ?_
  refine lv_iadd hx hb dL_law_1928 ?_
  refine va_sld hx hb hX hbl hbA hC.2 g1 dL_law_1929 ?_
  obtain ⟨r, r2, hf1, hf2, hJ1⟩ := hs σ τ (xs (i + 1).toNatClampNeg) hJ
  refine lw_call (rest := []) C.1 C.2.2.1 (fun q z1 z2 => C.2.2.2.2.1 q z2 z1) C.2.1.2.2.2.2.2.2.2.2.1 hC hM (ctX8_count l hf1) kl_RL_285 layC_0 rfl rfl rfl rfl (Nat.le_of_ble_eq_true rfl) dL_law_1930 hl.1 (Nat.le_refl _) (Nat.le_refl _) (fun H hC hM => ?_)
  refine lv_pop hx hb dL_law_1933 rfl ?_
  refine lv_aload_n hx hb dL_law_1934 rfl (lv_at hl 2 rfl) ?_
  refine lv_aload_n hx hb dL_law_1935 rfl (lv_at hl 0 rfl) ?_
  refine lv_iload_n hx hb dL_law_1936 rfl (lv_at hl 3 rfl) ?_
  refine lv_iconst (v := 1) hx hb dL_law_1937 rfl ?_
  refine lv_iadd hx hb dL_law_1938 ?_
  refine va_sld hx hb hX hbl hbA hC.2 g1 dL_law_1939 ?_
  refine lw_call (rest := []) C.2.1 C.2.2.2.1 C.2.2.2.2.1 C.1.2.2.2.2.2.2.2.2.1 hM hC (ctX9_count l hf2) kl_RL_288 layM_0 rfl rfl rfl rfl (Nat.le_of_ble_eq_true rfl) dL_law_1940 hl.1 (Nat.le_refl _) (Nat.le_refl _) (fun H hM hC => ?_)
  refine lv_pop hx hb dL_law_1943 rfl ?_
  refine lv_goto (tgt := 2172) hx hb dL_law_1944 (by decide) ?_
  exact kk σ τ hJ1 H ls hC hM (lv_sub hl [0, 1, 2, 3] rfl)
theorem lw_case_67 (C : lw_C p s m args meth c b L xs D ct adC adM AC AM) {J J2 : sn_S → sn_S → Prop} (hs : st_67 J J2) {σ τ : sn_S} (hJ : J σ τ) {i : Int32} (g1 : vp_in (i + 1) L) (g2 : vp_in (i + 2) L) (g3 : vp_in (i + 3) L) (g4 : vp_in (i + 4) L) (g5 : vp_in (i + 5) L) (kk : ∀ σ τ, J2 σ τ → lw_LAt p l e s m args below meth c Q D ct adC adM AC AM σ τ 2172 [(0, .ref b), (1, .ref (adC 0)), (2, .ref (adM 0)), (3, .int i)] []) : lw_LAt p l e s m args below meth c Q D ct adC adM AC AM σ τ 1947 [(0, .ref b), (1, .ref (adC 0)), (2, .ref (adM 0)), (3, .int i)] [] := by
  intro H ls hC hM hl
  have hx := C.1.1
  have hb := C.1.2.1
  have hX := C.2.2.2.2.2.1
  have hbl := C.2.2.2.2.2.2
  have hbA : ¬ AC b := fun z => absurd (C.2.2.1 b z) (by omega)
  refine lv_aload_n hx hb dL_law_1947 rfl (lv_at hl 1 rfl) ?_
  refine lv_aload_n hx hb dL_law_1948 rfl (lv_at hl 0 rfl) ?_
  refine lv_iload_n hx hb dL_law_1949 rfl (lv_at hl 3 rfl) ?_
  refine lv_iconst (v := 1) hx hb dL_law_1950 rfl ?_
  refine lv_iadd hx hb dL_law_1951 ?_
  refine va_sld hx hb hX hbl hbA hC.2 g1 dL_law_1952 ?_
  obtain ⟨r, r2, σ1, τ1, hf1, hf2, hJ1⟩ := hs σ τ (xs (i + 1).toNatClampNeg) hJ
  refine lw_call (rest := []) C.1 C.2.2.1 (fun q z1 z2 => C.2.2.2.2.1 q z2 z1) C.2.1.2.2.2.2.2.2.2.2.1 hC hM (ctX8_image l hf1) kl_RL_289 layC_0 rfl rfl rfl rfl (Nat.le_of_ble_eq_true rfl) dL_law_1953 hl.1 (Nat.le_refl _) (Nat.le_refl _) (fun H hC hM => ?_)
  refine lv_pop hx hb dL_law_1956 rfl ?_
  refine lv_aload_n hx hb dL_law_1957 rfl (lv_at hl 2 rfl) ?_
  refine lv_aload_n hx hb dL_law_1958 rfl (lv_at hl 0 rfl) ?_
  refine lv_iload_n hx hb dL_law_1959 rfl (lv_at hl 3 rfl) ?_
  refine lv_iconst (v := 1) hx hb dL_law_1960 rfl ?_
  refine lv_iadd hx hb dL_law_1961 ?_
  refine va_sld hx hb hX hbl hbA hC.2 g1 dL_law_1962 ?_
  refine lw_call (rest := []) C.2.1 C.2.2.2.1 C.2.2.2.2.1 C.1.2.2.2.2.2.2.2.2.1 hM hC (ctX9_image l hf2) kl_RL_292 layM_0 rfl rfl rfl rfl (Nat.le_of_ble_eq_true rfl) dL_law_1963 hl.1 (Nat.le_refl _) (Nat.le_refl _) (fun H hM hC => ?_)
  refine lv_pop hx hb dL_law_1966 rfl ?_
  refine lv_goto (tgt := 2172) hx hb dL_law_1967 (by decide) ?_
  exact kk σ1 τ1 hJ1 H ls hC hM (lv_sub hl [0, 1, 2, 3] rfl)
theorem lw_case_68 (C : lw_C p s m args meth c b L xs D ct adC adM AC AM) {J J2 : sn_S → sn_S → Prop} (hs : st_68 J J2) {σ τ : sn_S} (hJ : J σ τ) {i : Int32} (g1 : vp_in (i + 1) L) (g2 : vp_in (i + 2) L) (g3 : vp_in (i + 3) L) (g4 : vp_in (i + 4) L) (g5 : vp_in (i + 5) L) (kk : ∀ σ τ, J2 σ τ → lw_LAt p l e s m args below meth c Q D ct adC adM AC AM σ τ 2172 [(0, .ref b), (1, .ref (adC 0)), (2, .ref (adM 0)), (3, .int i)] []) : lw_LAt p l e s m args below meth c Q D ct adC adM AC AM σ τ 1970 [(0, .ref b), (1, .ref (adC 0)), (2, .ref (adM 0)), (3, .int i)] [] := by
  intro H ls hC hM hl
  have hx := C.1.1
  have hb := C.1.2.1
  have hX := C.2.2.2.2.2.1
  have hbl := C.2.2.2.2.2.2
  have hbA : ¬ AC b := fun z => absurd (C.2.2.1 b z) (by omega)
  refine lv_aload_n hx hb dL_law_1970 rfl (lv_at hl 1 rfl) ?_
  refine lv_aload_n hx hb dL_law_1971 rfl (lv_at hl 0 rfl) ?_
  refine lv_iload_n hx hb dL_law_1972 rfl (lv_at hl 3 rfl) ?_
  refine lv_iconst (v := 1) hx hb dL_law_1973 rfl ?_
  refine lv_iadd hx hb dL_law_1974 ?_
  refine va_sld hx hb hX hbl hbA hC.2 g1 dL_law_1975 ?_
  obtain ⟨r, r2, σ1, τ1, hf1, hf2, hJ1⟩ := hs σ τ (xs (i + 1).toNatClampNeg) hJ
  refine lw_call (rest := []) C.1 C.2.2.1 (fun q z1 z2 => C.2.2.2.2.1 q z2 z1) C.2.1.2.2.2.2.2.2.2.2.1 hC hM (ctX8_back l hf1) kl_RL_293 layC_0 rfl rfl rfl rfl (Nat.le_of_ble_eq_true rfl) dL_law_1976 hl.1 (Nat.le_refl _) (Nat.le_refl _) (fun H hC hM => ?_)
  refine lv_pop hx hb dL_law_1979 rfl ?_
  refine lv_aload_n hx hb dL_law_1980 rfl (lv_at hl 2 rfl) ?_
  refine lv_aload_n hx hb dL_law_1981 rfl (lv_at hl 0 rfl) ?_
  refine lv_iload_n hx hb dL_law_1982 rfl (lv_at hl 3 rfl) ?_
  refine lv_iconst (v := 1) hx hb dL_law_1983 rfl ?_
  refine lv_iadd hx hb dL_law_1984 ?_
  refine va_sld hx hb hX hbl hbA hC.2 g1 dL_law_1985 ?_
  refine lw_call (rest := []) C.2.1 C.2.2.2.1 C.2.2.2.2.1 C.1.2.2.2.2.2.2.2.2.1 hM hC (ctX9_back l hf2) kl_RL_296 layM_0 rfl rfl rfl rfl (Nat.le_of_ble_eq_true rfl) dL_law_1986 hl.1 (Nat.le_refl _) (Nat.le_refl _) (fun H hM hC => ?_)
  refine lv_pop hx hb dL_law_1989 rfl ?_
  refine lv_goto (tgt := 2172) hx hb dL_law_1990 (by decide) ?_
  exact kk σ1 τ1 hJ1 H ls hC hM (lv_sub hl [0, 1, 2, 3] rfl)
theorem lw_case_69 (C : lw_C p s m args meth c b L xs D ct adC adM AC AM) {J J2 : sn_S → sn_S → Prop} (hs : st_69 J J2) {σ τ : sn_S} (hJ : J σ τ) {i : Int32} (g1 : vp_in (i + 1) L) (g2 : vp_in (i + 2) L) (g3 : vp_in (i + 3) L) (g4 : vp_in (i + 4) L) (g5 : vp_in (i + 5) L) (kk : ∀ σ τ, J2 σ τ → lw_LAt p l e s m args below meth c Q D ct adC adM AC AM σ τ 2172 [(0, .ref b), (1, .ref (adC 0)), (2, .ref (adM 0)), (3, .int i)] []) : lw_LAt p l e s m args below meth c Q D ct adC adM AC AM σ τ 1993 [(0, .ref b), (1, .ref (adC 0)), (2, .ref (adM 0)), (3, .int i)] [] := by
  intro H ls hC hM hl
  have hx := C.1.1
  have hb := C.1.2.1
  have hX := C.2.2.2.2.2.1
  have hbl := C.2.2.2.2.2.2
  have hbA : ¬ AC b := fun z => absurd (C.2.2.1 b z) (by omega)
  refine lv_aload_n hx hb dL_law_1993 rfl (lv_at hl 1 rfl) ?_
  refine lv_aload_n hx hb dL_law_1994 rfl (lv_at hl 0 rfl) ?_
  refine lv_iload_n hx hb dL_law_1995 rfl (lv_at hl 3 rfl) ?_
  refine lv_iconst (v := 1) hx hb dL_law_1996 rfl ?_
  refine lv_iadd hx hb dL_law_1997 ?_
  refine va_sld hx hb hX hbl hbA hC.2 g1 dL_law_1998 ?_
  refine lv_aload_n hx hb dL_law_1999 rfl (lv_at hl 0 rfl) ?_
  refine lv_iload_n hx hb dL_law_2000 rfl (lv_at hl 3 rfl) ?_
  refine lv_iconst (v := 2) hx hb dL_law_2001 rfl ?_
  refine lv_iadd hx hb dL_law_2002 ?_
  refine va_sld hx hb hX hbl hbA hC.2 g2 dL_law_2003 ?_
  refine lv_aload_n hx hb dL_law_2004 rfl (lv_at hl 0 rfl) ?_
  refine lv_iload_n hx hb dL_law_2005 rfl (lv_at hl 3 rfl) ?_
  refine lv_iconst (v := 3) hx hb dL_law_2006 rfl ?_
  refine lv_iadd hx hb dL_law_2007 ?_
  refine va_sld hx hb hX hbl hbA hC.2 g3 dL_law_2008 ?_
  obtain ⟨r, r2, σ1, τ1, hf1, hf2, hJ1⟩ := hs σ τ (xs (i + 1).toNatClampNeg) (xs (i + 2).toNatClampNeg) (xs (i + 3).toNatClampNeg) hJ
  refine lw_call (rest := []) C.1 C.2.2.1 (fun q z1 z2 => C.2.2.2.2.1 q z2 z1) C.2.1.2.2.2.2.2.2.2.2.1 hC hM (ctX8_row l hf1) kl_RL_297 layC_0 rfl rfl rfl rfl (Nat.le_of_ble_eq_true rfl) dL_law_2009 hl.1 (Nat.le_refl _) (Nat.le_refl _) (fun H hC hM => ?_)
  refine lv_pop hx hb dL_law_2012 rfl ?_
  refine lv_aload_n hx hb dL_law_2013 rfl (lv_at hl 2 rfl) ?_
  refine lv_aload_n hx hb dL_law_2014 rfl (lv_at hl 0 rfl) ?_
  refine lv_iload_n hx hb dL_law_2015 rfl (lv_at hl 3 rfl) ?_
  refine lv_iconst (v := 1) hx hb dL_law_2016 rfl ?_
  refine lv_iadd hx hb dL_law_2017 ?_
  refine va_sld hx hb hX hbl hbA hC.2 g1 dL_law_2018 ?_
  refine lv_aload_n hx hb dL_law_2019 rfl (lv_at hl 0 rfl) ?_
  refine lv_iload_n hx hb dL_law_2020 rfl (lv_at hl 3 rfl) ?_
  refine lv_iconst (v := 2) hx hb dL_law_2021 rfl ?_
  refine lv_iadd hx hb dL_law_2022 ?_
  refine va_sld hx hb hX hbl hbA hC.2 g2 dL_law_2023 ?_
  refine lv_aload_n hx hb dL_law_2024 rfl (lv_at hl 0 rfl) ?_
  refine lv_iload_n hx hb dL_law_2025 rfl (lv_at hl 3 rfl) ?_
  refine lv_iconst (v := 3) hx hb dL_law_2026 rfl ?_
  refine lv_iadd hx hb dL_law_2027 ?_
  refine va_sld hx hb hX hbl hbA hC.2 g3 dL_law_2028 ?_
  refine lw_call (rest := []) C.2.1 C.2.2.2.1 C.2.2.2.2.1 C.1.2.2.2.2.2.2.2.2.1 hM hC (ctX9_row l hf2) kl_RL_300 layM_0 rfl rfl rfl rfl (Nat.le_of_ble_eq_true rfl) dL_law_2029 hl.1 (Nat.le_refl _) (Nat.le_refl _) (fun H hM hC => ?_)
  refine lv_pop hx hb dL_law_2032 rfl ?_
  refine lv_goto (tgt := 2172) hx hb dL_law_2033 (by decide) ?_
  exact kk σ1 τ1 hJ1 H ls hC hM (lv_sub hl [0, 1, 2, 3] rfl)
theorem lw_case_70 (C : lw_C p s m args meth c b L xs D ct adC adM AC AM) {J J2 : sn_S → sn_S → Prop} (hs : st_70 J J2) {σ τ : sn_S} (hJ : J σ τ) {i : Int32} (g1 : vp_in (i + 1) L) (g2 : vp_in (i + 2) L) (g3 : vp_in (i + 3) L) (g4 : vp_in (i + 4) L) (g5 : vp_in (i + 5) L) (kk : ∀ σ τ, J2 σ τ → lw_LAt p l e s m args below meth c Q D ct adC adM AC AM σ τ 2172 [(0, .ref b), (1, .ref (adC 0)), (2, .ref (adM 0)), (3, .int i)] []) : lw_LAt p l e s m args below meth c Q D ct adC adM AC AM σ τ 2036 [(0, .ref b), (1, .ref (adC 0)), (2, .ref (adM 0)), (3, .int i)] [] := by
  intro H ls hC hM hl
  have hx := C.1.1
  have hb := C.1.2.1
  have hX := C.2.2.2.2.2.1
  have hbl := C.2.2.2.2.2.2
  have hbA : ¬ AC b := fun z => absurd (C.2.2.1 b z) (by omega)
  refine lv_aload_n hx hb dL_law_2036 rfl (lv_at hl 1 rfl) ?_
  refine lv_aload_n hx hb dL_law_2037 rfl (lv_at hl 0 rfl) ?_
  refine lv_iload_n hx hb dL_law_2038 rfl (lv_at hl 3 rfl) ?_
  refine lv_iconst (v := 1) hx hb dL_law_2039 rfl ?_
  refine lv_iadd hx hb dL_law_2040 ?_
  refine va_sld hx hb hX hbl hbA hC.2 g1 dL_law_2041 ?_
  refine lv_aload_n hx hb dL_law_2042 rfl (lv_at hl 0 rfl) ?_
  refine lv_iload_n hx hb dL_law_2043 rfl (lv_at hl 3 rfl) ?_
  refine lv_iconst (v := 2) hx hb dL_law_2044 rfl ?_
  refine lv_iadd hx hb dL_law_2045 ?_
  refine va_sld hx hb hX hbl hbA hC.2 g2 dL_law_2046 ?_
  refine lv_aload_n hx hb dL_law_2047 rfl (lv_at hl 0 rfl) ?_
  refine lv_iload_n hx hb dL_law_2048 rfl (lv_at hl 3 rfl) ?_
  refine lv_iconst (v := 3) hx hb dL_law_2049 rfl ?_
  refine lv_iadd hx hb dL_law_2050 ?_
  refine va_sld hx hb hX hbl hbA hC.2 g3 dL_law_2051 ?_
  refine lv_i2l hx hb dL_law_2052 rfl ?_
  refine lv_bipush (v := 32) hx hb dL_law_2053 (by decide) ?_
  refine lv_lshl hx hb dL_law_2055 rfl ?_
  refine lv_aload_n hx hb dL_law_2056 rfl (lv_at hl 0 rfl) ?_
  refine lv_iload_n hx hb dL_law_2057 rfl (lv_at hl 3 rfl) ?_
  refine lv_iconst (v := 4) hx hb dL_law_2058 rfl ?_
  refine lv_iadd hx hb dL_law_2059 ?_
  refine va_sld hx hb hX hbl hbA hC.2 g4 dL_law_2060 ?_
  refine lv_i2l hx hb dL_law_2061 rfl ?_
  refine lv_ldc2 hx hb C.1.2.2.2.1 (C.1.2.2.2.2.1 _ kk_RL_301) dL_law_2062 ?_
  refine lv_land hx hb dL_law_2065 ?_
  refine lv_lor hx hb dL_law_2066 ?_
  obtain ⟨r, r2, σ1, τ1, hf1, hf2, hJ1⟩ := hs σ τ (xs (i + 1).toNatClampNeg) (xs (i + 2).toNatClampNeg) (((xs (i + 3).toNatClampNeg).toInt64 <<< ((32 : Int32).toInt64 &&& 63)) ||| ((xs (i + 4).toNatClampNeg).toInt64 &&& 4294967295)) hJ
  refine lw_call (rest := []) C.1 C.2.2.1 (fun q z1 z2 => C.2.2.2.2.1 q z2 z1) C.2.1.2.2.2.2.2.2.2.2.1 hC hM (ctX8_write l hf1) kl_RL_303 layC_0 rfl rfl rfl rfl (Nat.le_of_ble_eq_true rfl) dL_law_2067 hl.1 (Nat.le_refl _) (Nat.le_refl _) (fun H hC hM => ?_)
  refine lv_pop hx hb dL_law_2070 rfl ?_
  refine lv_aload_n hx hb dL_law_2071 rfl (lv_at hl 2 rfl) ?_
  refine lv_aload_n hx hb dL_law_2072 rfl (lv_at hl 0 rfl) ?_
  refine lv_iload_n hx hb dL_law_2073 rfl (lv_at hl 3 rfl) ?_
  refine lv_iconst (v := 1) hx hb dL_law_2074 rfl ?_
  refine lv_iadd hx hb dL_law_2075 ?_
  refine va_sld hx hb hX hbl hbA hC.2 g1 dL_law_2076 ?_
  refine lv_aload_n hx hb dL_law_2077 rfl (lv_at hl 0 rfl) ?_
  refine lv_iload_n hx hb dL_law_2078 rfl (lv_at hl 3 rfl) ?_
  refine lv_iconst (v := 2) hx hb dL_law_2079 rfl ?_
  refine lv_iadd hx hb dL_law_2080 ?_
  refine va_sld hx hb hX hbl hbA hC.2 g2 dL_law_2081 ?_
  refine lv_aload_n hx hb dL_law_2082 rfl (lv_at hl 0 rfl) ?_
  refine lv_iload_n hx hb dL_law_2083 rfl (lv_at hl 3 rfl) ?_
  refine lv_iconst (v := 3) hx hb dL_law_2084 rfl ?_
  refine lv_iadd hx hb dL_law_2085 ?_
  refine va_sld hx hb hX hbl hbA hC.2 g3 dL_law_2086 ?_
  refine lv_i2l hx hb dL_law_2087 rfl ?_
  refine lv_bipush (v := 32) hx hb dL_law_2088 (by decide) ?_
  refine lv_lshl hx hb dL_law_2090 rfl ?_
  refine lv_aload_n hx hb dL_law_2091 rfl (lv_at hl 0 rfl) ?_
  refine lv_iload_n hx hb dL_law_2092 rfl (lv_at hl 3 rfl) ?_
  refine lv_iconst (v := 4) hx hb dL_law_2093 rfl ?_
  refine lv_iadd hx hb dL_law_2094 ?_
  refine va_sld hx hb hX hbl hbA hC.2 g4 dL_law_2095 ?_
  refine lv_i2l hx hb dL_law_2096 rfl ?_
  refine lv_ldc2 hx hb C.1.2.2.2.1 (C.1.2.2.2.2.1 _ kk_RL_301) dL_law_2097 ?_
  refine lv_land hx hb dL_law_2100 ?_
  refine lv_lor hx hb dL_law_2101 ?_
  refine lw_call (rest := []) C.2.1 C.2.2.2.1 C.2.2.2.2.1 C.1.2.2.2.2.2.2.2.2.1 hM hC (ctX9_write l hf2) kl_RL_307 layM_0 rfl rfl rfl rfl (Nat.le_of_ble_eq_true rfl) dL_law_2102 hl.1 (Nat.le_refl _) (Nat.le_refl _) (fun H hM hC => ?_)
  refine lv_pop hx hb dL_law_2105 rfl ?_
  refine lv_goto (tgt := 2172) hx hb dL_law_2106 (by decide) ?_
  exact kk σ1 τ1 hJ1 H ls hC hM (lv_sub hl [0, 1, 2, 3] rfl)
theorem lw_case_71 (C : lw_C p s m args meth c b L xs D ct adC adM AC AM) {J J2 : sn_S → sn_S → Prop} (hs : st_71 J J2) {σ τ : sn_S} (hJ : J σ τ) {i : Int32} (g1 : vp_in (i + 1) L) (g2 : vp_in (i + 2) L) (g3 : vp_in (i + 3) L) (g4 : vp_in (i + 4) L) (g5 : vp_in (i + 5) L) (kk : ∀ σ τ, J2 σ τ → lw_LAt p l e s m args below meth c Q D ct adC adM AC AM σ τ 2172 [(0, .ref b), (1, .ref (adC 0)), (2, .ref (adM 0)), (3, .int i)] []) : lw_LAt p l e s m args below meth c Q D ct adC adM AC AM σ τ 2109 [(0, .ref b), (1, .ref (adC 0)), (2, .ref (adM 0)), (3, .int i)] [] := by
  intro H ls hC hM hl
  have hx := C.1.1
  have hb := C.1.2.1
  have hX := C.2.2.2.2.2.1
  have hbl := C.2.2.2.2.2.2
  have hbA : ¬ AC b := fun z => absurd (C.2.2.1 b z) (by omega)
  refine lv_aload_n hx hb dL_law_2109 rfl (lv_at hl 1 rfl) ?_
  refine lv_aload_n hx hb dL_law_2110 rfl (lv_at hl 0 rfl) ?_
  refine lv_iload_n hx hb dL_law_2111 rfl (lv_at hl 3 rfl) ?_
  refine lv_iconst (v := 1) hx hb dL_law_2112 rfl ?_
  refine lv_iadd hx hb dL_law_2113 ?_
  refine va_sld hx hb hX hbl hbA hC.2 g1 dL_law_2114 ?_
  refine lv_aload_n hx hb dL_law_2115 rfl (lv_at hl 0 rfl) ?_
  refine lv_iload_n hx hb dL_law_2116 rfl (lv_at hl 3 rfl) ?_
  refine lv_iconst (v := 2) hx hb dL_law_2117 rfl ?_
  refine lv_iadd hx hb dL_law_2118 ?_
  refine va_sld hx hb hX hbl hbA hC.2 g2 dL_law_2119 ?_
  refine lv_aload_n hx hb dL_law_2120 rfl (lv_at hl 0 rfl) ?_
  refine lv_iload_n hx hb dL_law_2121 rfl (lv_at hl 3 rfl) ?_
  refine lv_iconst (v := 3) hx hb dL_law_2122 rfl ?_
  refine lv_iadd hx hb dL_law_2123 ?_
  refine va_sld hx hb hX hbl hbA hC.2 g3 dL_law_2124 ?_
  refine lv_aload_n hx hb dL_law_2125 rfl (lv_at hl 0 rfl) ?_
  refine lv_iload_n hx hb dL_law_2126 rfl (lv_at hl 3 rfl) ?_
  refine lv_iconst (v := 4) hx hb dL_law_2127 rfl ?_
  refine lv_iadd hx hb dL_law_2128 ?_
  refine va_sld hx hb hX hbl hbA hC.2 g4 dL_law_2129 ?_
  refine lv_aload_n hx hb dL_law_2130 rfl (lv_at hl 0 rfl) ?_
  refine lv_iload_n hx hb dL_law_2131 rfl (lv_at hl 3 rfl) ?_
  refine lv_iconst (v := 5) hx hb dL_law_2132 rfl ?_
  refine lv_iadd hx hb dL_law_2133 ?_
  refine va_sld hx hb hX hbl hbA hC.2 g5 dL_law_2134 ?_
  obtain ⟨r, σ1, τ1, hf1, hf2, hJ1⟩ := hs σ τ (xs (i + 1).toNatClampNeg) (xs (i + 2).toNatClampNeg) (xs (i + 3).toNatClampNeg) (xs (i + 4).toNatClampNeg) (xs (i + 5).toNatClampNeg) hJ
  refine lw_call (rest := []) C.1 C.2.2.1 (fun q z1 z2 => C.2.2.2.2.1 q z2 z1) C.2.1.2.2.2.2.2.2.2.2.1 hC hM (ctX8_paste l hf1) kl_RL_308 layC_0 rfl rfl rfl rfl (Nat.le_of_ble_eq_true rfl) dL_law_2135 hl.1 (Nat.le_refl _) (Nat.le_refl _) (fun H hC hM => ?_)
  refine lv_aload_n hx hb dL_law_2138 rfl (lv_at hl 2 rfl) ?_
  refine lv_aload_n hx hb dL_law_2139 rfl (lv_at hl 0 rfl) ?_
  refine lv_iload_n hx hb dL_law_2140 rfl (lv_at hl 3 rfl) ?_
  refine lv_iconst (v := 1) hx hb dL_law_2141 rfl ?_
  refine lv_iadd hx hb dL_law_2142 ?_
  refine va_sld hx hb hX hbl hbA hC.2 g1 dL_law_2143 ?_
  refine lv_aload_n hx hb dL_law_2144 rfl (lv_at hl 0 rfl) ?_
  refine lv_iload_n hx hb dL_law_2145 rfl (lv_at hl 3 rfl) ?_
  refine lv_iconst (v := 2) hx hb dL_law_2146 rfl ?_
  refine lv_iadd hx hb dL_law_2147 ?_
  refine va_sld hx hb hX hbl hbA hC.2 g2 dL_law_2148 ?_
  refine lv_aload_n hx hb dL_law_2149 rfl (lv_at hl 0 rfl) ?_
  refine lv_iload_n hx hb dL_law_2150 rfl (lv_at hl 3 rfl) ?_
  refine lv_iconst (v := 3) hx hb dL_law_2151 rfl ?_
  refine lv_iadd hx hb dL_law_2152 ?_
  refine va_sld hx hb hX hbl hbA hC.2 g3 dL_law_2153 ?_
  refine lv_aload_n hx hb dL_law_2154 rfl (lv_at hl 0 rfl) ?_
  refine lv_iload_n hx hb dL_law_2155 rfl (lv_at hl 3 rfl) ?_
  refine lv_iconst (v := 4) hx hb dL_law_2156 rfl ?_
  refine lv_iadd hx hb dL_law_2157 ?_
  refine va_sld hx hb hX hbl hbA hC.2 g4 dL_law_2158 ?_
  refine lv_aload_n hx hb dL_law_2159 rfl (lv_at hl 0 rfl) ?_
  refine lv_iload_n hx hb dL_law_2160 rfl (lv_at hl 3 rfl) ?_
  refine lv_iconst (v := 5) hx hb dL_law_2161 rfl ?_
  refine lv_iadd hx hb dL_law_2162 ?_
  refine va_sld hx hb hX hbl hbA hC.2 g5 dL_law_2163 ?_
  refine lw_call (rest := [.int r]) C.2.1 C.2.2.2.1 C.2.2.2.2.1 C.1.2.2.2.2.2.2.2.2.1 hM hC (ctX9_paste l hf2) kl_RL_311 layM_0 rfl rfl rfl rfl (Nat.le_of_ble_eq_true rfl) dL_law_2164 hl.1 (Nat.le_refl _) (Nat.le_refl _) (fun H hM hC => ?_)
  refine lv_icmp_eq (tgt := 2172) hx hb dL_law_2167 (by decide) (fun _ => ?_) (fun q => absurd rfl q)
  exact kk σ1 τ1 hJ1 H ls hC hM (lv_sub hl [0, 1, 2, 3] rfl)
end
end
section
/-! what stands in the premise, by its path -/
section
variable {x a b : Cond}
theorem fc_l (h : x ∈ flatC a) : x ∈ flatC (.and a b) := List.mem_append_left _ h
theorem fc_r (h : x ∈ flatC b) : x ∈ flatC (.and a b) := List.mem_append_right _ h
end
theorem fc_exactly {v0 v1} : Cond.exactly v0 v1 ∈ flatC (Cond.exactly v0 v1) := List.mem_cons_self
theorem fc_eq {v0 v1} : Cond.eq v0 v1 ∈ flatC (Cond.eq v0 v1) := List.mem_cons_self
theorem fc_arrayOf {v0 v1} : Cond.arrayOf v0 v1 ∈ flatC (Cond.arrayOf v0 v1) := List.mem_cons_self
theorem fc_isRef {v0} : Cond.isRef v0 ∈ flatC (Cond.isRef v0) := List.mem_cons_self
/-! the world at the law's entry: classes, words, statics -/
theorem kiz_X0 : Cond.instantiable RX0 14 ∈ sn_gw := sn_gwI (lb_0 (lt_16 (lt_16 (lt_16 (lt_16 (lt_16 (lt_16 (lt_16 (lt_16 (lt_1 lt_h)))))))))) (by decide +kernel)
theorem kiz_X1 : Cond.instantiable RX1 2 ∈ sn_gw := sn_gwI (lb_0 (lt_16 (lt_16 (lt_16 (lt_16 (lt_16 (lt_16 (lt_16 (lt_16 (lt_16 (lt_16 (lt_16 (lt_16 (lt_16 (lt_14 lt_h))))))))))))))) (by decide +kernel)
theorem kiz_X2 : Cond.instantiable RX2 6 ∈ sn_gw := sn_gwI (lb_0 (lt_16 (lt_12 lt_h))) (by decide +kernel)
theorem kiz_X3 : Cond.instantiable RX3 4 ∈ sn_gw := sn_gwI (lb_0 (lt_16 (lt_16 (lt_16 (lt_16 (lt_16 (lt_16 (lt_16 (lt_16 (lt_16 (lt_16 (lt_16 (lt_16 (lt_7 lt_h)))))))))))))) (by decide +kernel)
theorem kiz_X4 : Cond.instantiable RX4 5 ∈ sn_gw := sn_gwI (lb_1 (lt_16 (lt_5 lt_h))) (by decide +kernel)
theorem kiz_X5 : Cond.instantiable RX5 8 ∈ sn_gw := sn_gwI (lb_0 (lt_16 (lt_16 (lt_16 (lt_16 (lt_5 lt_h)))))) (by decide +kernel)
theorem kiz_X6 : Cond.instantiable RX6 3 ∈ sn_gw := sn_gwI (lb_0 (lt_16 (lt_16 (lt_16 (lt_16 (lt_16 (lt_16 (lt_8 lt_h)))))))) (by decide +kernel)
theorem kiz_X7 : Cond.instantiable RX7 5 ∈ sn_gw := sn_gwI (lb_0 (lt_16 (lt_16 (lt_16 (lt_16 (lt_16 (lt_16 (lt_16 (lt_16 (lt_16 (lt_16 (lt_16 (lt_16 (lt_16 (lt_16 (lt_11 lt_h)))))))))))))))) (by decide +kernel)
theorem kiz_X8 : Cond.instantiable RX8 12 ∈ sn_gw := sn_gwI (lb_0 (lt_16 (lt_4 lt_h))) (by decide +kernel)
theorem kiz_X9 : Cond.instantiable RX9 46 ∈ sn_gw := sn_gwI (lb_4 (lt_16 (lt_16 (lt_16 (lt_16 (lt_16 (lt_16 (lt_16 (lt_2 lt_h))))))))) (by decide +kernel)
theorem lw_Kn {s : State} {args : Array Value} (hts : ∀ w ∈ sn_gw, w.before args s = true) (hO : sn_AO s) : ∃ (D : va_G) (ct : Nat → ClassId), va_K D vwCl (sn_tys ct) s := by
  obtain ⟨c0, i0, h0⟩ := u_known hts ug_X0 (hts _ kiz_X0)
  obtain ⟨c1, i1, h1⟩ := u_known hts ug_X1 (hts _ kiz_X1)
  obtain ⟨c2, i2, h2⟩ := u_known hts ug_X2 (hts _ kiz_X2)
  obtain ⟨c3, i3, h3⟩ := u_known hts ug_X3 (hts _ kiz_X3)
  obtain ⟨c4, i4, h4⟩ := u_known hts ug_X4 (hts _ kiz_X4)
  obtain ⟨c5, i5, h5⟩ := u_known hts ug_X5 (hts _ kiz_X5)
  obtain ⟨c6, i6, h6⟩ := u_known hts ug_X6 (hts _ kiz_X6)
  obtain ⟨c7, i7, h7⟩ := u_known hts ug_X7 (hts _ kiz_X7)
  obtain ⟨c8, i8, h8⟩ := u_known hts ug_X8 (hts _ kiz_X8)
  obtain ⟨c9, i9, h9⟩ := u_known hts ug_X9 (hts _ kiz_X9)
  obtain ⟨aI, kI, pI, eI1, eI2, eI3⟩ := Cond.arrayClass_spec (hts _ ka_int)
  obtain ⟨aZ, kZ, pZ, eZ1, eZ2, eZ3⟩ := Cond.arrayClass_spec (hts _ ka_boolean)
  obtain ⟨aB, kB, pB, eB1, eB2, eB3⟩ := Cond.arrayClass_spec (hts _ ka_byte)
  obtain ⟨aJ, kJ, pJ, eJ1, eJ2, eJ3⟩ := Cond.arrayClass_spec (hts _ ka_long)
  obtain ⟨pH, aH, kH, eH1, -, eH2, eH3, eH4⟩ := Cond.arrayOver_spec hO.1
  obtain ⟨pA, aA, kA, eA1, -, eA2, eA3, eA4⟩ := sn_AOA_spec hO.2
  refine ⟨(fun k => match k with | 0 => c0 | 1 => c1 | 2 => c2 | 3 => c3 | 4 => c4 | 5 => c5 | 6 => c6 | 7 => c7 | 8 => c8 | _ => c9, fun k => match k with | 0 => i0 | 1 => i1 | 2 => i2 | 3 => i3 | 4 => i4 | 5 => i5 | 6 => i6 | 7 => i7 | 8 => i8 | _ => i9), fun k => match k with | 0 => aI | 1 => aZ | 2 => aB | 3 => aJ | 4 => aH | _ => aA, ?_, ?_⟩
  · intro k q hq
    match k, hq with
    | 0, hq => cases hq; exact h0
    | 1, hq => cases hq; exact h1
    | 2, hq => cases hq; exact h2
    | 3, hq => cases hq; exact h3
    | 4, hq => cases hq; exact h4
    | 5, hq => cases hq; exact h5
    | 6, hq => cases hq; exact h6
    | 7, hq => cases hq; exact h7
    | 8, hq => cases hq; exact h8
    | 9, hq => cases hq; exact h9
    | k + 10, hq => simp [vwCl] at hq
  · intro k q hq
    match k, hq with
    | 0, hq => cases hq; exact ⟨fun n z => ⟨fun k h => (by cases h), kI, eI2, pI, eI3⟩, eI1⟩
    | 1, hq => cases hq; exact ⟨fun n z => ⟨fun k h => (by cases h), kZ, eZ2, pZ, eZ3⟩, eZ1⟩
    | 2, hq => cases hq; exact ⟨fun n z => ⟨fun k h => (by cases h), kB, eB2, pB, eB3⟩, eB1⟩
    | 3, hq => cases hq; exact ⟨fun n z => ⟨fun k h => (by cases h), kJ, eJ2, pJ, eJ3⟩, eJ1⟩
    | 4, hq => cases hq; exact ⟨fun n z => ⟨fun k h => (by cases h), kH, eH2, pH, eH3⟩, kH, pH, eH2, eH3, eH1, eH4⟩
    | 5, hq => cases hq; exact ⟨fun n z => ⟨fun k h => (by cases h), kA, eA2, pA, eA3⟩, eA4⟩
    | k + 6, hq => simp [sn_tys] at hq
theorem lw_str0 {s : State} {b : Addr} (hs : ∀ c ∈ flatC (Jvm.Cond.and given_1 narrow_1), c.before #[Value.ref b] s = true) {A : Nat → Prop} (hA : ∀ a : Nat, a < s.heap.size → ¬ A a) : ∃ a v : Nat, vk_S 1 [5] [[104, 111, 117, 115, 101]] (fun _ => a) (fun _ => v) A s s.heap ∧ (Term.string "PepperPolicy$Reader" 52).eval #[Value.ref b] s none [] s = some (.ref a) ∧ (Term.string "PepperPolicyModel" 175).eval #[Value.ref b] s none [] s = some (.ref a) := by
  obtain ⟨adK, adV, h1, h2⟩ := vk_Sof (N := 1) (tm := fun _ => (.string "PepperPolicy$Reader" 52)) (len := [5]) (byt := [[104, 111, 117, 115, 101]]) (A := A) (args := #[Value.ref b]) (s := s) (by decide) (fun i hi => hs (.exactly (.string "PepperPolicy$Reader" 52) "java/lang/String") (fc_r (fc_l (fc_l (fc_l (fc_l (fc_l (fc_r (fc_r (fc_r fc_exactly)))))))))) (fun i hi => hs (.eq (.field (.string "PepperPolicy$Reader" 52) "java/lang/String" "coder" "B") (.int 0)) (fc_r (fc_l (fc_l (fc_l (fc_l (fc_r (fc_l (fc_l (fc_l fc_eq)))))))))) (fun i hi => hs (.arrayOf (.field (.string "PepperPolicy$Reader" 52) "java/lang/String" "value" "[B") .byte) (fc_r (fc_l (fc_l (fc_l (fc_l (fc_r (fc_l (fc_l (fc_r fc_arrayOf))))))))))
    (fun i hi => by
      match i, hi with
      | 0, _ => exact hs (.eq (.length (.field (.string "PepperPolicy$Reader" 52) "java/lang/String" "value" "[B")) (.int 5)) (fc_r (fc_l (fc_l (fc_l (fc_l (fc_r (fc_l (fc_r (fc_l fc_eq))))))))))
    (fun i hi j hj => by
      match i, hi, j, hj with
      | 0, _, 0, _ => exact hs (.eq (.elem (.field (.string "PepperPolicy$Reader" 52) "java/lang/String" "value" "[B") (.int 0)) (.int 104)) (fc_r (fc_l (fc_l (fc_l (fc_l (fc_r (fc_l (fc_r (fc_r fc_eq)))))))))
      | 0, _, 1, _ => exact hs (.eq (.elem (.field (.string "PepperPolicy$Reader" 52) "java/lang/String" "value" "[B") (.int 1)) (.int 111)) (fc_r (fc_l (fc_l (fc_l (fc_l (fc_r (fc_r (fc_l (fc_l fc_eq)))))))))
      | 0, _, 2, _ => exact hs (.eq (.elem (.field (.string "PepperPolicy$Reader" 52) "java/lang/String" "value" "[B") (.int 2)) (.int 117)) (fc_r (fc_l (fc_l (fc_l (fc_l (fc_r (fc_r (fc_l (fc_r fc_eq)))))))))
      | 0, _, 3, _ => exact hs (.eq (.elem (.field (.string "PepperPolicy$Reader" 52) "java/lang/String" "value" "[B") (.int 3)) (.int 115)) (fc_r (fc_l (fc_l (fc_l (fc_l (fc_r (fc_r (fc_r (fc_l fc_eq)))))))))
      | 0, _, 4, _ => exact hs (.eq (.elem (.field (.string "PepperPolicy$Reader" 52) "java/lang/String" "value" "[B") (.int 4)) (.int 101)) (fc_r (fc_l (fc_l (fc_l (fc_l (fc_r (fc_r (fc_r (fc_r (fc_l fc_eq))))))))))
      | 0, _, j + 5, hj => exact absurd hj (by show ¬ j + 5 < 5; omega))
    (fun i j hi hj hne => absurd (show i = j by omega) hne) hA
  have e5 := h2 0 (by decide)
  have he : (Cond.eq (Term.string "PepperPolicy$Reader" 52) (Term.string "PepperPolicyModel" 175)).before #[Value.ref b] s = true := hs (.eq (.string "PepperPolicy$Reader" 52) (.string "PepperPolicyModel" 175)) (fc_r (fc_r (fc_l (fc_l (fc_l (fc_l (fc_r (fc_l (fc_r fc_eq)))))))))
  obtain ⟨y, y1, y2⟩ := Cond.eq_one he
  have e9 : (Term.string "PepperPolicyModel" 175).eval #[Value.ref b] s none [] s = some (.ref (adK 0)) := by
    rw [y2, ← y1]; exact e5
  exact ⟨adK 0, adV 0, ⟨fun i hi => by
    match i, hi with
    | 0, _ => exact h1.1 0 (by decide), fun i j hi hj _ => by omega⟩, e5, e9⟩
theorem lw_str1 {s : State} {b : Addr} (hs : ∀ c ∈ flatC (Jvm.Cond.and given_1 narrow_1), c.before #[Value.ref b] s = true) {A : Nat → Prop} (hA : ∀ a : Nat, a < s.heap.size → ¬ A a) : ∃ a v : Nat, vk_S 1 [7] [[109, 105, 110, 117, 116, 101, 115]] (fun _ => a) (fun _ => v) A s s.heap ∧ (Term.string "PepperPolicy$Reader" 58).eval #[Value.ref b] s none [] s = some (.ref a) ∧ (Term.string "PepperPolicyModel" 177).eval #[Value.ref b] s none [] s = some (.ref a) := by
  obtain ⟨adK, adV, h1, h2⟩ := vk_Sof (N := 1) (tm := fun _ => (.string "PepperPolicy$Reader" 58)) (len := [7]) (byt := [[109, 105, 110, 117, 116, 101, 115]]) (A := A) (args := #[Value.ref b]) (s := s) (by decide) (fun i hi => hs (.exactly (.string "PepperPolicy$Reader" 58) "java/lang/String") (fc_r (fc_l (fc_l (fc_l (fc_l (fc_r (fc_r (fc_r (fc_r (fc_r fc_exactly))))))))))) (fun i hi => hs (.eq (.field (.string "PepperPolicy$Reader" 58) "java/lang/String" "coder" "B") (.int 0)) (fc_r (fc_l (fc_l (fc_l (fc_r (fc_l (fc_l (fc_l (fc_l fc_eq)))))))))) (fun i hi => hs (.arrayOf (.field (.string "PepperPolicy$Reader" 58) "java/lang/String" "value" "[B") .byte) (fc_r (fc_l (fc_l (fc_l (fc_r (fc_l (fc_l (fc_l (fc_r fc_arrayOf))))))))))
    (fun i hi => by
      match i, hi with
      | 0, _ => exact hs (.eq (.length (.field (.string "PepperPolicy$Reader" 58) "java/lang/String" "value" "[B")) (.int 7)) (fc_r (fc_l (fc_l (fc_l (fc_r (fc_l (fc_l (fc_r (fc_l fc_eq))))))))))
    (fun i hi j hj => by
      match i, hi, j, hj with
      | 0, _, 0, _ => exact hs (.eq (.elem (.field (.string "PepperPolicy$Reader" 58) "java/lang/String" "value" "[B") (.int 0)) (.int 109)) (fc_r (fc_l (fc_l (fc_l (fc_r (fc_l (fc_l (fc_r (fc_r fc_eq)))))))))
      | 0, _, 1, _ => exact hs (.eq (.elem (.field (.string "PepperPolicy$Reader" 58) "java/lang/String" "value" "[B") (.int 1)) (.int 105)) (fc_r (fc_l (fc_l (fc_l (fc_r (fc_l (fc_r (fc_l (fc_l fc_eq)))))))))
      | 0, _, 2, _ => exact hs (.eq (.elem (.field (.string "PepperPolicy$Reader" 58) "java/lang/String" "value" "[B") (.int 2)) (.int 110)) (fc_r (fc_l (fc_l (fc_l (fc_r (fc_l (fc_r (fc_l (fc_r fc_eq)))))))))
      | 0, _, 3, _ => exact hs (.eq (.elem (.field (.string "PepperPolicy$Reader" 58) "java/lang/String" "value" "[B") (.int 3)) (.int 117)) (fc_r (fc_l (fc_l (fc_l (fc_r (fc_l (fc_r (fc_r (fc_l fc_eq)))))))))
      | 0, _, 4, _ => exact hs (.eq (.elem (.field (.string "PepperPolicy$Reader" 58) "java/lang/String" "value" "[B") (.int 4)) (.int 116)) (fc_r (fc_l (fc_l (fc_l (fc_r (fc_l (fc_r (fc_r (fc_r (fc_l fc_eq))))))))))
      | 0, _, 5, _ => exact hs (.eq (.elem (.field (.string "PepperPolicy$Reader" 58) "java/lang/String" "value" "[B") (.int 5)) (.int 101)) (fc_r (fc_l (fc_l (fc_l (fc_r (fc_l (fc_r (fc_r (fc_r (fc_r fc_eq))))))))))
      | 0, _, 6, _ => exact hs (.eq (.elem (.field (.string "PepperPolicy$Reader" 58) "java/lang/String" "value" "[B") (.int 6)) (.int 115)) (fc_r (fc_l (fc_l (fc_l (fc_r (fc_r (fc_l (fc_l (fc_l fc_eq)))))))))
      | 0, _, j + 7, hj => exact absurd hj (by show ¬ j + 7 < 7; omega))
    (fun i j hi hj hne => absurd (show i = j by omega) hne) hA
  have e5 := h2 0 (by decide)
  have he : (Cond.eq (Term.string "PepperPolicy$Reader" 58) (Term.string "PepperPolicyModel" 177)).before #[Value.ref b] s = true := hs (.eq (.string "PepperPolicy$Reader" 58) (.string "PepperPolicyModel" 177)) (fc_r (fc_r (fc_l (fc_l (fc_r (fc_l (fc_l (fc_l (fc_l fc_eq)))))))))
  obtain ⟨y, y1, y2⟩ := Cond.eq_one he
  have e9 : (Term.string "PepperPolicyModel" 177).eval #[Value.ref b] s none [] s = some (.ref (adK 0)) := by
    rw [y2, ← y1]; exact e5
  exact ⟨adK 0, adV 0, ⟨fun i hi => by
    match i, hi with
    | 0, _ => exact h1.1 0 (by decide), fun i j hi hj _ => by omega⟩, e5, e9⟩
theorem lw_str2 {s : State} {b : Addr} (hs : ∀ c ∈ flatC (Jvm.Cond.and given_1 narrow_1), c.before #[Value.ref b] s = true) {A : Nat → Prop} (hA : ∀ a : Nat, a < s.heap.size → ¬ A a) : ∃ a v : Nat, vk_S 1 [4] [[100, 117, 115, 116]] (fun _ => a) (fun _ => v) A s s.heap ∧ (Term.string "PepperPolicy$Reader" 64).eval #[Value.ref b] s none [] s = some (.ref a) ∧ (Term.string "PepperPolicyModel" 183).eval #[Value.ref b] s none [] s = some (.ref a) := by
  obtain ⟨adK, adV, h1, h2⟩ := vk_Sof (N := 1) (tm := fun _ => (.string "PepperPolicy$Reader" 64)) (len := [4]) (byt := [[100, 117, 115, 116]]) (A := A) (args := #[Value.ref b]) (s := s) (by decide) (fun i hi => hs (.exactly (.string "PepperPolicy$Reader" 64) "java/lang/String") (fc_r (fc_l (fc_l (fc_l (fc_r (fc_r (fc_l (fc_l (fc_r fc_exactly)))))))))) (fun i hi => hs (.eq (.field (.string "PepperPolicy$Reader" 64) "java/lang/String" "coder" "B") (.int 0)) (fc_r (fc_l (fc_l (fc_l (fc_r (fc_r (fc_l (fc_r (fc_l fc_eq)))))))))) (fun i hi => hs (.arrayOf (.field (.string "PepperPolicy$Reader" 64) "java/lang/String" "value" "[B") .byte) (fc_r (fc_l (fc_l (fc_l (fc_r (fc_r (fc_l (fc_r (fc_r fc_arrayOf))))))))))
    (fun i hi => by
      match i, hi with
      | 0, _ => exact hs (.eq (.length (.field (.string "PepperPolicy$Reader" 64) "java/lang/String" "value" "[B")) (.int 4)) (fc_r (fc_l (fc_l (fc_l (fc_r (fc_r (fc_r (fc_l (fc_l fc_eq))))))))))
    (fun i hi j hj => by
      match i, hi, j, hj with
      | 0, _, 0, _ => exact hs (.eq (.elem (.field (.string "PepperPolicy$Reader" 64) "java/lang/String" "value" "[B") (.int 0)) (.int 100)) (fc_r (fc_l (fc_l (fc_l (fc_r (fc_r (fc_r (fc_l (fc_r fc_eq)))))))))
      | 0, _, 1, _ => exact hs (.eq (.elem (.field (.string "PepperPolicy$Reader" 64) "java/lang/String" "value" "[B") (.int 1)) (.int 117)) (fc_r (fc_l (fc_l (fc_l (fc_r (fc_r (fc_r (fc_r (fc_l fc_eq)))))))))
      | 0, _, 2, _ => exact hs (.eq (.elem (.field (.string "PepperPolicy$Reader" 64) "java/lang/String" "value" "[B") (.int 2)) (.int 115)) (fc_r (fc_l (fc_l (fc_l (fc_r (fc_r (fc_r (fc_r (fc_r (fc_l fc_eq))))))))))
      | 0, _, 3, _ => exact hs (.eq (.elem (.field (.string "PepperPolicy$Reader" 64) "java/lang/String" "value" "[B") (.int 3)) (.int 116)) (fc_r (fc_l (fc_l (fc_l (fc_r (fc_r (fc_r (fc_r (fc_r (fc_r fc_eq))))))))))
      | 0, _, j + 4, hj => exact absurd hj (by show ¬ j + 4 < 4; omega))
    (fun i j hi hj hne => absurd (show i = j by omega) hne) hA
  have e5 := h2 0 (by decide)
  have he : (Cond.eq (Term.string "PepperPolicy$Reader" 64) (Term.string "PepperPolicyModel" 183)).before #[Value.ref b] s = true := hs (.eq (.string "PepperPolicy$Reader" 64) (.string "PepperPolicyModel" 183)) (fc_r (fc_r (fc_l (fc_l (fc_r (fc_r (fc_l (fc_l (fc_l fc_eq)))))))))
  obtain ⟨y, y1, y2⟩ := Cond.eq_one he
  have e9 : (Term.string "PepperPolicyModel" 183).eval #[Value.ref b] s none [] s = some (.ref (adK 0)) := by
    rw [y2, ← y1]; exact e5
  exact ⟨adK 0, adV 0, ⟨fun i hi => by
    match i, hi with
    | 0, _ => exact h1.1 0 (by decide), fun i j hi hj _ => by omega⟩, e5, e9⟩
theorem lw_str3 {s : State} {b : Addr} (hs : ∀ c ∈ flatC (Jvm.Cond.and given_1 narrow_1), c.before #[Value.ref b] s = true) {A : Nat → Prop} (hA : ∀ a : Nat, a < s.heap.size → ¬ A a) : ∃ a v : Nat, vk_S 1 [3] [[108, 97, 119]] (fun _ => a) (fun _ => v) A s s.heap ∧ (Term.string "PepperPolicy$Reader" 66).eval #[Value.ref b] s none [] s = some (.ref a) ∧ (Term.string "PepperPolicyModel" 185).eval #[Value.ref b] s none [] s = some (.ref a) := by
  obtain ⟨adK, adV, h1, h2⟩ := vk_Sof (N := 1) (tm := fun _ => (.string "PepperPolicy$Reader" 66)) (len := [3]) (byt := [[108, 97, 119]]) (A := A) (args := #[Value.ref b]) (s := s) (by decide) (fun i hi => hs (.exactly (.string "PepperPolicy$Reader" 66) "java/lang/String") (fc_r (fc_l (fc_l (fc_r (fc_l (fc_l (fc_l (fc_l (fc_l fc_exactly)))))))))) (fun i hi => hs (.eq (.field (.string "PepperPolicy$Reader" 66) "java/lang/String" "coder" "B") (.int 0)) (fc_r (fc_l (fc_l (fc_r (fc_l (fc_l (fc_l (fc_l (fc_r fc_eq)))))))))) (fun i hi => hs (.arrayOf (.field (.string "PepperPolicy$Reader" 66) "java/lang/String" "value" "[B") .byte) (fc_r (fc_l (fc_l (fc_r (fc_l (fc_l (fc_l (fc_r (fc_l fc_arrayOf))))))))))
    (fun i hi => by
      match i, hi with
      | 0, _ => exact hs (.eq (.length (.field (.string "PepperPolicy$Reader" 66) "java/lang/String" "value" "[B")) (.int 3)) (fc_r (fc_l (fc_l (fc_r (fc_l (fc_l (fc_l (fc_r (fc_r fc_eq))))))))))
    (fun i hi j hj => by
      match i, hi, j, hj with
      | 0, _, 0, _ => exact hs (.eq (.elem (.field (.string "PepperPolicy$Reader" 66) "java/lang/String" "value" "[B") (.int 0)) (.int 108)) (fc_r (fc_l (fc_l (fc_r (fc_l (fc_l (fc_r (fc_l (fc_l fc_eq)))))))))
      | 0, _, 1, _ => exact hs (.eq (.elem (.field (.string "PepperPolicy$Reader" 66) "java/lang/String" "value" "[B") (.int 1)) (.int 97)) (fc_r (fc_l (fc_l (fc_r (fc_l (fc_l (fc_r (fc_l (fc_r fc_eq)))))))))
      | 0, _, 2, _ => exact hs (.eq (.elem (.field (.string "PepperPolicy$Reader" 66) "java/lang/String" "value" "[B") (.int 2)) (.int 119)) (fc_r (fc_l (fc_l (fc_r (fc_l (fc_l (fc_r (fc_r (fc_l fc_eq)))))))))
      | 0, _, j + 3, hj => exact absurd hj (by show ¬ j + 3 < 3; omega))
    (fun i j hi hj hne => absurd (show i = j by omega) hne) hA
  have e5 := h2 0 (by decide)
  have he : (Cond.eq (Term.string "PepperPolicy$Reader" 66) (Term.string "PepperPolicyModel" 185)).before #[Value.ref b] s = true := hs (.eq (.string "PepperPolicy$Reader" 66) (.string "PepperPolicyModel" 185)) (fc_r (fc_r (fc_l (fc_l (fc_r (fc_r (fc_r (fc_r (fc_r (fc_r fc_eq))))))))))
  obtain ⟨y, y1, y2⟩ := Cond.eq_one he
  have e9 : (Term.string "PepperPolicyModel" 185).eval #[Value.ref b] s none [] s = some (.ref (adK 0)) := by
    rw [y2, ← y1]; exact e5
  exact ⟨adK 0, adV 0, ⟨fun i hi => by
    match i, hi with
    | 0, _ => exact h1.1 0 (by decide), fun i j hi hj _ => by omega⟩, e5, e9⟩
theorem lw_str4 {s : State} {b : Addr} (hs : ∀ c ∈ flatC (Jvm.Cond.and given_1 narrow_1), c.before #[Value.ref b] s = true) {A : Nat → Prop} (hA : ∀ a : Nat, a < s.heap.size → ¬ A a) : ∃ a v : Nat, vk_S 1 [5] [[109, 111, 110, 101, 121]] (fun _ => a) (fun _ => v) A s s.heap ∧ (Term.string "PepperPolicy$Reader" 68).eval #[Value.ref b] s none [] s = some (.ref a) ∧ (Term.string "PepperPolicyModel" 187).eval #[Value.ref b] s none [] s = some (.ref a) := by
  obtain ⟨adK, adV, h1, h2⟩ := vk_Sof (N := 1) (tm := fun _ => (.string "PepperPolicy$Reader" 68)) (len := [5]) (byt := [[109, 111, 110, 101, 121]]) (A := A) (args := #[Value.ref b]) (s := s) (by decide) (fun i hi => hs (.exactly (.string "PepperPolicy$Reader" 68) "java/lang/String") (fc_r (fc_l (fc_l (fc_r (fc_l (fc_l (fc_r (fc_r (fc_r fc_exactly)))))))))) (fun i hi => hs (.eq (.field (.string "PepperPolicy$Reader" 68) "java/lang/String" "coder" "B") (.int 0)) (fc_r (fc_l (fc_l (fc_r (fc_l (fc_r (fc_l (fc_l (fc_l fc_eq)))))))))) (fun i hi => hs (.arrayOf (.field (.string "PepperPolicy$Reader" 68) "java/lang/String" "value" "[B") .byte) (fc_r (fc_l (fc_l (fc_r (fc_l (fc_r (fc_l (fc_l (fc_r fc_arrayOf))))))))))
    (fun i hi => by
      match i, hi with
      | 0, _ => exact hs (.eq (.length (.field (.string "PepperPolicy$Reader" 68) "java/lang/String" "value" "[B")) (.int 5)) (fc_r (fc_l (fc_l (fc_r (fc_l (fc_r (fc_l (fc_r (fc_l fc_eq))))))))))
    (fun i hi j hj => by
      match i, hi, j, hj with
      | 0, _, 0, _ => exact hs (.eq (.elem (.field (.string "PepperPolicy$Reader" 68) "java/lang/String" "value" "[B") (.int 0)) (.int 109)) (fc_r (fc_l (fc_l (fc_r (fc_l (fc_r (fc_l (fc_r (fc_r fc_eq)))))))))
      | 0, _, 1, _ => exact hs (.eq (.elem (.field (.string "PepperPolicy$Reader" 68) "java/lang/String" "value" "[B") (.int 1)) (.int 111)) (fc_r (fc_l (fc_l (fc_r (fc_l (fc_r (fc_r (fc_l (fc_l fc_eq)))))))))
      | 0, _, 2, _ => exact hs (.eq (.elem (.field (.string "PepperPolicy$Reader" 68) "java/lang/String" "value" "[B") (.int 2)) (.int 110)) (fc_r (fc_l (fc_l (fc_r (fc_l (fc_r (fc_r (fc_l (fc_r fc_eq)))))))))
      | 0, _, 3, _ => exact hs (.eq (.elem (.field (.string "PepperPolicy$Reader" 68) "java/lang/String" "value" "[B") (.int 3)) (.int 101)) (fc_r (fc_l (fc_l (fc_r (fc_l (fc_r (fc_r (fc_r (fc_l fc_eq)))))))))
      | 0, _, 4, _ => exact hs (.eq (.elem (.field (.string "PepperPolicy$Reader" 68) "java/lang/String" "value" "[B") (.int 4)) (.int 121)) (fc_r (fc_l (fc_l (fc_r (fc_l (fc_r (fc_r (fc_r (fc_r (fc_l fc_eq))))))))))
      | 0, _, j + 5, hj => exact absurd hj (by show ¬ j + 5 < 5; omega))
    (fun i j hi hj hne => absurd (show i = j by omega) hne) hA
  have e5 := h2 0 (by decide)
  have he : (Cond.eq (Term.string "PepperPolicy$Reader" 68) (Term.string "PepperPolicyModel" 187)).before #[Value.ref b] s = true := hs (.eq (.string "PepperPolicy$Reader" 68) (.string "PepperPolicyModel" 187)) (fc_r (fc_r (fc_l (fc_r (fc_l (fc_r (fc_l (fc_l (fc_r fc_eq)))))))))
  obtain ⟨y, y1, y2⟩ := Cond.eq_one he
  have e9 : (Term.string "PepperPolicyModel" 187).eval #[Value.ref b] s none [] s = some (.ref (adK 0)) := by
    rw [y2, ← y1]; exact e5
  exact ⟨adK 0, adV 0, ⟨fun i hi => by
    match i, hi with
    | 0, _ => exact h1.1 0 (by decide), fun i j hi hj _ => by omega⟩, e5, e9⟩
theorem lw_str5 {s : State} {b : Addr} (hs : ∀ c ∈ flatC (Jvm.Cond.and given_1 narrow_1), c.before #[Value.ref b] s = true) {A : Nat → Prop} (hA : ∀ a : Nat, a < s.heap.size → ¬ A a) : ∃ a v : Nat, vk_S 1 [4] [[111, 100, 100, 115]] (fun _ => a) (fun _ => v) A s s.heap ∧ (Term.string "PepperPolicy$Reader" 70).eval #[Value.ref b] s none [] s = some (.ref a) ∧ (Term.string "PepperPolicyModel" 189).eval #[Value.ref b] s none [] s = some (.ref a) := by
  obtain ⟨adK, adV, h1, h2⟩ := vk_Sof (N := 1) (tm := fun _ => (.string "PepperPolicy$Reader" 70)) (len := [4]) (byt := [[111, 100, 100, 115]]) (A := A) (args := #[Value.ref b]) (s := s) (by decide) (fun i hi => hs (.exactly (.string "PepperPolicy$Reader" 70) "java/lang/String") (fc_r (fc_l (fc_l (fc_r (fc_l (fc_r (fc_r (fc_r (fc_r (fc_r fc_exactly))))))))))) (fun i hi => hs (.eq (.field (.string "PepperPolicy$Reader" 70) "java/lang/String" "coder" "B") (.int 0)) (fc_r (fc_l (fc_l (fc_r (fc_r (fc_l (fc_l (fc_l (fc_l fc_eq)))))))))) (fun i hi => hs (.arrayOf (.field (.string "PepperPolicy$Reader" 70) "java/lang/String" "value" "[B") .byte) (fc_r (fc_l (fc_l (fc_r (fc_r (fc_l (fc_l (fc_l (fc_r fc_arrayOf))))))))))
    (fun i hi => by
      match i, hi with
      | 0, _ => exact hs (.eq (.length (.field (.string "PepperPolicy$Reader" 70) "java/lang/String" "value" "[B")) (.int 4)) (fc_r (fc_l (fc_l (fc_r (fc_r (fc_l (fc_l (fc_r (fc_l fc_eq))))))))))
    (fun i hi j hj => by
      match i, hi, j, hj with
      | 0, _, 0, _ => exact hs (.eq (.elem (.field (.string "PepperPolicy$Reader" 70) "java/lang/String" "value" "[B") (.int 0)) (.int 111)) (fc_r (fc_l (fc_l (fc_r (fc_r (fc_l (fc_l (fc_r (fc_r fc_eq)))))))))
      | 0, _, 1, _ => exact hs (.eq (.elem (.field (.string "PepperPolicy$Reader" 70) "java/lang/String" "value" "[B") (.int 1)) (.int 100)) (fc_r (fc_l (fc_l (fc_r (fc_r (fc_l (fc_r (fc_l (fc_l fc_eq)))))))))
      | 0, _, 2, _ => exact hs (.eq (.elem (.field (.string "PepperPolicy$Reader" 70) "java/lang/String" "value" "[B") (.int 2)) (.int 100)) (fc_r (fc_l (fc_l (fc_r (fc_r (fc_l (fc_r (fc_l (fc_r fc_eq)))))))))
      | 0, _, 3, _ => exact hs (.eq (.elem (.field (.string "PepperPolicy$Reader" 70) "java/lang/String" "value" "[B") (.int 3)) (.int 115)) (fc_r (fc_l (fc_l (fc_r (fc_r (fc_l (fc_r (fc_r (fc_l fc_eq)))))))))
      | 0, _, j + 4, hj => exact absurd hj (by show ¬ j + 4 < 4; omega))
    (fun i j hi hj hne => absurd (show i = j by omega) hne) hA
  have e5 := h2 0 (by decide)
  have he : (Cond.eq (Term.string "PepperPolicy$Reader" 70) (Term.string "PepperPolicyModel" 189)).before #[Value.ref b] s = true := hs (.eq (.string "PepperPolicy$Reader" 70) (.string "PepperPolicyModel" 189)) (fc_r (fc_r (fc_l (fc_r (fc_r (fc_l (fc_l (fc_l (fc_r fc_eq)))))))))
  obtain ⟨y, y1, y2⟩ := Cond.eq_one he
  have e9 : (Term.string "PepperPolicyModel" 189).eval #[Value.ref b] s none [] s = some (.ref (adK 0)) := by
    rw [y2, ← y1]; exact e5
  exact ⟨adK 0, adV 0, ⟨fun i hi => by
    match i, hi with
    | 0, _ => exact h1.1 0 (by decide), fun i j hi hj _ => by omega⟩, e5, e9⟩
theorem lw_str6 {s : State} {b : Addr} (hs : ∀ c ∈ flatC (Jvm.Cond.and given_1 narrow_1), c.before #[Value.ref b] s = true) {A : Nat → Prop} (hA : ∀ a : Nat, a < s.heap.size → ¬ A a) : ∃ a v : Nat, vk_S 1 [4] [[110, 111, 115, 101]] (fun _ => a) (fun _ => v) A s s.heap ∧ (Term.string "PepperPolicy$Reader" 75).eval #[Value.ref b] s none [] s = some (.ref a) ∧ (Term.string "PepperPolicyModel" 198).eval #[Value.ref b] s none [] s = some (.ref a) := by
  obtain ⟨adK, adV, h1, h2⟩ := vk_Sof (N := 1) (tm := fun _ => (.string "PepperPolicy$Reader" 75)) (len := [4]) (byt := [[110, 111, 115, 101]]) (A := A) (args := #[Value.ref b]) (s := s) (by decide) (fun i hi => hs (.exactly (.string "PepperPolicy$Reader" 75) "java/lang/String") (fc_r (fc_l (fc_l (fc_r (fc_r (fc_l (fc_r (fc_r (fc_r (fc_l fc_exactly))))))))))) (fun i hi => hs (.eq (.field (.string "PepperPolicy$Reader" 75) "java/lang/String" "coder" "B") (.int 0)) (fc_r (fc_l (fc_l (fc_r (fc_r (fc_l (fc_r (fc_r (fc_r (fc_r fc_eq))))))))))) (fun i hi => hs (.arrayOf (.field (.string "PepperPolicy$Reader" 75) "java/lang/String" "value" "[B") .byte) (fc_r (fc_l (fc_l (fc_r (fc_r (fc_r (fc_l (fc_l (fc_l fc_arrayOf))))))))))
    (fun i hi => by
      match i, hi with
      | 0, _ => exact hs (.eq (.length (.field (.string "PepperPolicy$Reader" 75) "java/lang/String" "value" "[B")) (.int 4)) (fc_r (fc_l (fc_l (fc_r (fc_r (fc_r (fc_l (fc_l (fc_r fc_eq))))))))))
    (fun i hi j hj => by
      match i, hi, j, hj with
      | 0, _, 0, _ => exact hs (.eq (.elem (.field (.string "PepperPolicy$Reader" 75) "java/lang/String" "value" "[B") (.int 0)) (.int 110)) (fc_r (fc_l (fc_l (fc_r (fc_r (fc_r (fc_l (fc_r (fc_l fc_eq)))))))))
      | 0, _, 1, _ => exact hs (.eq (.elem (.field (.string "PepperPolicy$Reader" 75) "java/lang/String" "value" "[B") (.int 1)) (.int 111)) (fc_r (fc_l (fc_l (fc_r (fc_r (fc_r (fc_l (fc_r (fc_r fc_eq)))))))))
      | 0, _, 2, _ => exact hs (.eq (.elem (.field (.string "PepperPolicy$Reader" 75) "java/lang/String" "value" "[B") (.int 2)) (.int 115)) (fc_r (fc_l (fc_l (fc_r (fc_r (fc_r (fc_r (fc_l (fc_l fc_eq)))))))))
      | 0, _, 3, _ => exact hs (.eq (.elem (.field (.string "PepperPolicy$Reader" 75) "java/lang/String" "value" "[B") (.int 3)) (.int 101)) (fc_r (fc_l (fc_l (fc_r (fc_r (fc_r (fc_r (fc_l (fc_r fc_eq)))))))))
      | 0, _, j + 4, hj => exact absurd hj (by show ¬ j + 4 < 4; omega))
    (fun i j hi hj hne => absurd (show i = j by omega) hne) hA
  have e5 := h2 0 (by decide)
  have he : (Cond.eq (Term.string "PepperPolicy$Reader" 75) (Term.string "PepperPolicyModel" 198)).before #[Value.ref b] s = true := hs (.eq (.string "PepperPolicy$Reader" 75) (.string "PepperPolicyModel" 198)) (fc_r (fc_r (fc_l (fc_r (fc_r (fc_r (fc_l (fc_l (fc_r fc_eq)))))))))
  obtain ⟨y, y1, y2⟩ := Cond.eq_one he
  have e9 : (Term.string "PepperPolicyModel" 198).eval #[Value.ref b] s none [] s = some (.ref (adK 0)) := by
    rw [y2, ← y1]; exact e5
  exact ⟨adK 0, adV 0, ⟨fun i hi => by
    match i, hi with
    | 0, _ => exact h1.1 0 (by decide), fun i j hi hj _ => by omega⟩, e5, e9⟩
theorem lw_str7 {s : State} {b : Addr} (hs : ∀ c ∈ flatC (Jvm.Cond.and given_1 narrow_1), c.before #[Value.ref b] s = true) {A : Nat → Prop} (hA : ∀ a : Nat, a < s.heap.size → ¬ A a) : ∃ a v : Nat, vk_S 1 [4] [[103, 117, 115, 116]] (fun _ => a) (fun _ => v) A s s.heap ∧ (Term.string "PepperPolicy$Reader" 85).eval #[Value.ref b] s none [] s = some (.ref a) ∧ (Term.string "PepperPolicyModel" 200).eval #[Value.ref b] s none [] s = some (.ref a) := by
  obtain ⟨adK, adV, h1, h2⟩ := vk_Sof (N := 1) (tm := fun _ => (.string "PepperPolicy$Reader" 85)) (len := [4]) (byt := [[103, 117, 115, 116]]) (A := A) (args := #[Value.ref b]) (s := s) (by decide) (fun i hi => hs (.exactly (.string "PepperPolicy$Reader" 85) "java/lang/String") (fc_r (fc_l (fc_r (fc_l (fc_l (fc_l (fc_r (fc_r (fc_l fc_exactly)))))))))) (fun i hi => hs (.eq (.field (.string "PepperPolicy$Reader" 85) "java/lang/String" "coder" "B") (.int 0)) (fc_r (fc_l (fc_r (fc_l (fc_l (fc_l (fc_r (fc_r (fc_r fc_eq)))))))))) (fun i hi => hs (.arrayOf (.field (.string "PepperPolicy$Reader" 85) "java/lang/String" "value" "[B") .byte) (fc_r (fc_l (fc_r (fc_l (fc_l (fc_r (fc_l (fc_l (fc_l fc_arrayOf))))))))))
    (fun i hi => by
      match i, hi with
      | 0, _ => exact hs (.eq (.length (.field (.string "PepperPolicy$Reader" 85) "java/lang/String" "value" "[B")) (.int 4)) (fc_r (fc_l (fc_r (fc_l (fc_l (fc_r (fc_l (fc_l (fc_r fc_eq))))))))))
    (fun i hi j hj => by
      match i, hi, j, hj with
      | 0, _, 0, _ => exact hs (.eq (.elem (.field (.string "PepperPolicy$Reader" 85) "java/lang/String" "value" "[B") (.int 0)) (.int 103)) (fc_r (fc_l (fc_r (fc_l (fc_l (fc_r (fc_l (fc_r (fc_l fc_eq)))))))))
      | 0, _, 1, _ => exact hs (.eq (.elem (.field (.string "PepperPolicy$Reader" 85) "java/lang/String" "value" "[B") (.int 1)) (.int 117)) (fc_r (fc_l (fc_r (fc_l (fc_l (fc_r (fc_l (fc_r (fc_r fc_eq)))))))))
      | 0, _, 2, _ => exact hs (.eq (.elem (.field (.string "PepperPolicy$Reader" 85) "java/lang/String" "value" "[B") (.int 2)) (.int 115)) (fc_r (fc_l (fc_r (fc_l (fc_l (fc_r (fc_r (fc_l (fc_l fc_eq)))))))))
      | 0, _, 3, _ => exact hs (.eq (.elem (.field (.string "PepperPolicy$Reader" 85) "java/lang/String" "value" "[B") (.int 3)) (.int 116)) (fc_r (fc_l (fc_r (fc_l (fc_l (fc_r (fc_r (fc_l (fc_r fc_eq)))))))))
      | 0, _, j + 4, hj => exact absurd hj (by show ¬ j + 4 < 4; omega))
    (fun i j hi hj hne => absurd (show i = j by omega) hne) hA
  have e5 := h2 0 (by decide)
  have he : (Cond.eq (Term.string "PepperPolicy$Reader" 85) (Term.string "PepperPolicyModel" 200)).before #[Value.ref b] s = true := hs (.eq (.string "PepperPolicy$Reader" 85) (.string "PepperPolicyModel" 200)) (fc_r (fc_r (fc_r (fc_l (fc_l (fc_l (fc_l (fc_l (fc_r fc_eq)))))))))
  obtain ⟨y, y1, y2⟩ := Cond.eq_one he
  have e9 : (Term.string "PepperPolicyModel" 200).eval #[Value.ref b] s none [] s = some (.ref (adK 0)) := by
    rw [y2, ← y1]; exact e5
  exact ⟨adK 0, adV 0, ⟨fun i hi => by
    match i, hi with
    | 0, _ => exact h1.1 0 (by decide), fun i j hi hj _ => by omega⟩, e5, e9⟩
theorem lw_str8 {s : State} {b : Addr} (hs : ∀ c ∈ flatC (Jvm.Cond.and given_1 narrow_1), c.before #[Value.ref b] s = true) {A : Nat → Prop} (hA : ∀ a : Nat, a < s.heap.size → ¬ A a) : ∃ a v : Nat, vk_S 1 [3] [[110, 101, 116]] (fun _ => a) (fun _ => v) A s s.heap ∧ (Term.string "PepperPolicy$Reader" 90).eval #[Value.ref b] s none [] s = some (.ref a) ∧ (Term.string "PepperPolicyModel" 202).eval #[Value.ref b] s none [] s = some (.ref a) := by
  obtain ⟨adK, adV, h1, h2⟩ := vk_Sof (N := 1) (tm := fun _ => (.string "PepperPolicy$Reader" 90)) (len := [3]) (byt := [[110, 101, 116]]) (A := A) (args := #[Value.ref b]) (s := s) (by decide) (fun i hi => hs (.exactly (.string "PepperPolicy$Reader" 90) "java/lang/String") (fc_r (fc_l (fc_r (fc_l (fc_r (fc_l (fc_l (fc_r (fc_r fc_exactly)))))))))) (fun i hi => hs (.eq (.field (.string "PepperPolicy$Reader" 90) "java/lang/String" "coder" "B") (.int 0)) (fc_r (fc_l (fc_r (fc_l (fc_r (fc_l (fc_r (fc_l (fc_l fc_eq)))))))))) (fun i hi => hs (.arrayOf (.field (.string "PepperPolicy$Reader" 90) "java/lang/String" "value" "[B") .byte) (fc_r (fc_l (fc_r (fc_l (fc_r (fc_l (fc_r (fc_l (fc_r fc_arrayOf))))))))))
    (fun i hi => by
      match i, hi with
      | 0, _ => exact hs (.eq (.length (.field (.string "PepperPolicy$Reader" 90) "java/lang/String" "value" "[B")) (.int 3)) (fc_r (fc_l (fc_r (fc_l (fc_r (fc_l (fc_r (fc_r (fc_l fc_eq))))))))))
    (fun i hi j hj => by
      match i, hi, j, hj with
      | 0, _, 0, _ => exact hs (.eq (.elem (.field (.string "PepperPolicy$Reader" 90) "java/lang/String" "value" "[B") (.int 0)) (.int 110)) (fc_r (fc_l (fc_r (fc_l (fc_r (fc_l (fc_r (fc_r (fc_r (fc_l fc_eq))))))))))
      | 0, _, 1, _ => exact hs (.eq (.elem (.field (.string "PepperPolicy$Reader" 90) "java/lang/String" "value" "[B") (.int 1)) (.int 101)) (fc_r (fc_l (fc_r (fc_l (fc_r (fc_l (fc_r (fc_r (fc_r (fc_r fc_eq))))))))))
      | 0, _, 2, _ => exact hs (.eq (.elem (.field (.string "PepperPolicy$Reader" 90) "java/lang/String" "value" "[B") (.int 2)) (.int 116)) (fc_r (fc_l (fc_r (fc_l (fc_r (fc_r (fc_l (fc_l (fc_l fc_eq)))))))))
      | 0, _, j + 3, hj => exact absurd hj (by show ¬ j + 3 < 3; omega))
    (fun i j hi hj hne => absurd (show i = j by omega) hne) hA
  have e5 := h2 0 (by decide)
  have he : (Cond.eq (Term.string "PepperPolicy$Reader" 90) (Term.string "PepperPolicyModel" 202)).before #[Value.ref b] s = true := hs (.eq (.string "PepperPolicy$Reader" 90) (.string "PepperPolicyModel" 202)) (fc_r (fc_r (fc_r (fc_l (fc_l (fc_r (fc_l (fc_l (fc_r fc_eq)))))))))
  obtain ⟨y, y1, y2⟩ := Cond.eq_one he
  have e9 : (Term.string "PepperPolicyModel" 202).eval #[Value.ref b] s none [] s = some (.ref (adK 0)) := by
    rw [y2, ← y1]; exact e5
  exact ⟨adK 0, adV 0, ⟨fun i hi => by
    match i, hi with
    | 0, _ => exact h1.1 0 (by decide), fun i j hi hj _ => by omega⟩, e5, e9⟩
theorem lw_str9 {s : State} {b : Addr} (hs : ∀ c ∈ flatC (Jvm.Cond.and given_1 narrow_1), c.before #[Value.ref b] s = true) {A : Nat → Prop} (hA : ∀ a : Nat, a < s.heap.size → ¬ A a) : ∃ a v : Nat, vk_S 1 [6] [[112, 111, 108, 105, 99, 121]] (fun _ => a) (fun _ => v) A s s.heap ∧ (Term.string "PepperPolicy$Reader" 95).eval #[Value.ref b] s none [] s = some (.ref a) ∧ (Term.string "PepperPolicyModel" 204).eval #[Value.ref b] s none [] s = some (.ref a) := by
  obtain ⟨adK, adV, h1, h2⟩ := vk_Sof (N := 1) (tm := fun _ => (.string "PepperPolicy$Reader" 95)) (len := [6]) (byt := [[112, 111, 108, 105, 99, 121]]) (A := A) (args := #[Value.ref b]) (s := s) (by decide) (fun i hi => hs (.exactly (.string "PepperPolicy$Reader" 95) "java/lang/String") (fc_r (fc_l (fc_r (fc_l (fc_r (fc_r (fc_l (fc_l (fc_r fc_exactly)))))))))) (fun i hi => hs (.eq (.field (.string "PepperPolicy$Reader" 95) "java/lang/String" "coder" "B") (.int 0)) (fc_r (fc_l (fc_r (fc_l (fc_r (fc_r (fc_l (fc_r (fc_l fc_eq)))))))))) (fun i hi => hs (.arrayOf (.field (.string "PepperPolicy$Reader" 95) "java/lang/String" "value" "[B") .byte) (fc_r (fc_l (fc_r (fc_l (fc_r (fc_r (fc_l (fc_r (fc_r fc_arrayOf))))))))))
    (fun i hi => by
      match i, hi with
      | 0, _ => exact hs (.eq (.length (.field (.string "PepperPolicy$Reader" 95) "java/lang/String" "value" "[B")) (.int 6)) (fc_r (fc_l (fc_r (fc_l (fc_r (fc_r (fc_r (fc_l (fc_l fc_eq))))))))))
    (fun i hi j hj => by
      match i, hi, j, hj with
      | 0, _, 0, _ => exact hs (.eq (.elem (.field (.string "PepperPolicy$Reader" 95) "java/lang/String" "value" "[B") (.int 0)) (.int 112)) (fc_r (fc_l (fc_r (fc_l (fc_r (fc_r (fc_r (fc_l (fc_r fc_eq)))))))))
      | 0, _, 1, _ => exact hs (.eq (.elem (.field (.string "PepperPolicy$Reader" 95) "java/lang/String" "value" "[B") (.int 1)) (.int 111)) (fc_r (fc_l (fc_r (fc_l (fc_r (fc_r (fc_r (fc_r (fc_l fc_eq)))))))))
      | 0, _, 2, _ => exact hs (.eq (.elem (.field (.string "PepperPolicy$Reader" 95) "java/lang/String" "value" "[B") (.int 2)) (.int 108)) (fc_r (fc_l (fc_r (fc_l (fc_r (fc_r (fc_r (fc_r (fc_r (fc_l fc_eq))))))))))
      | 0, _, 3, _ => exact hs (.eq (.elem (.field (.string "PepperPolicy$Reader" 95) "java/lang/String" "value" "[B") (.int 3)) (.int 105)) (fc_r (fc_l (fc_r (fc_l (fc_r (fc_r (fc_r (fc_r (fc_r (fc_r fc_eq))))))))))
      | 0, _, 4, _ => exact hs (.eq (.elem (.field (.string "PepperPolicy$Reader" 95) "java/lang/String" "value" "[B") (.int 4)) (.int 99)) (fc_r (fc_l (fc_r (fc_r (fc_l (fc_l (fc_l (fc_l (fc_l fc_eq)))))))))
      | 0, _, 5, _ => exact hs (.eq (.elem (.field (.string "PepperPolicy$Reader" 95) "java/lang/String" "value" "[B") (.int 5)) (.int 121)) (fc_r (fc_l (fc_r (fc_r (fc_l (fc_l (fc_l (fc_l (fc_r fc_eq)))))))))
      | 0, _, j + 6, hj => exact absurd hj (by show ¬ j + 6 < 6; omega))
    (fun i j hi hj hne => absurd (show i = j by omega) hne) hA
  have e5 := h2 0 (by decide)
  have he : (Cond.eq (Term.string "PepperPolicy$Reader" 95) (Term.string "PepperPolicyModel" 204)).before #[Value.ref b] s = true := hs (.eq (.string "PepperPolicy$Reader" 95) (.string "PepperPolicyModel" 204)) (fc_r (fc_r (fc_r (fc_l (fc_r (fc_l (fc_l (fc_r (fc_r fc_eq)))))))))
  obtain ⟨y, y1, y2⟩ := Cond.eq_one he
  have e9 : (Term.string "PepperPolicyModel" 204).eval #[Value.ref b] s none [] s = some (.ref (adK 0)) := by
    rw [y2, ← y1]; exact e5
  exact ⟨adK 0, adV 0, ⟨fun i hi => by
    match i, hi with
    | 0, _ => exact h1.1 0 (by decide), fun i j hi hj _ => by omega⟩, e5, e9⟩
theorem lw_str10 {s : State} {b : Addr} (hs : ∀ c ∈ flatC (Jvm.Cond.and given_1 narrow_1), c.before #[Value.ref b] s = true) {A : Nat → Prop} (hA : ∀ a : Nat, a < s.heap.size → ¬ A a) : ∃ a v : Nat, vk_S 1 [5] [[104, 111, 108, 100, 115]] (fun _ => a) (fun _ => v) A s s.heap ∧ (Term.string "PepperPolicy$Reader" 106).eval #[Value.ref b] s none [] s = some (.ref a) ∧ (Term.string "PepperPolicyModel" 206).eval #[Value.ref b] s none [] s = some (.ref a) := by
  obtain ⟨adK, adV, h1, h2⟩ := vk_Sof (N := 1) (tm := fun _ => (.string "PepperPolicy$Reader" 106)) (len := [5]) (byt := [[104, 111, 108, 100, 115]]) (A := A) (args := #[Value.ref b]) (s := s) (by decide) (fun i hi => hs (.exactly (.string "PepperPolicy$Reader" 106) "java/lang/String") (fc_r (fc_l (fc_l (fc_r (fc_r (fc_r (fc_r (fc_r (fc_l fc_exactly)))))))))) (fun i hi => hs (.eq (.field (.string "PepperPolicy$Reader" 106) "java/lang/String" "coder" "B") (.int 0)) (fc_r (fc_l (fc_l (fc_r (fc_r (fc_r (fc_r (fc_r (fc_r (fc_l fc_eq))))))))))) (fun i hi => hs (.arrayOf (.field (.string "PepperPolicy$Reader" 106) "java/lang/String" "value" "[B") .byte) (fc_r (fc_l (fc_l (fc_r (fc_r (fc_r (fc_r (fc_r (fc_r (fc_r fc_arrayOf)))))))))))
    (fun i hi => by
      match i, hi with
      | 0, _ => exact hs (.eq (.length (.field (.string "PepperPolicy$Reader" 106) "java/lang/String" "value" "[B")) (.int 5)) (fc_r (fc_l (fc_r (fc_l (fc_l (fc_l (fc_l (fc_l (fc_l fc_eq))))))))))
    (fun i hi j hj => by
      match i, hi, j, hj with
      | 0, _, 0, _ => exact hs (.eq (.elem (.field (.string "PepperPolicy$Reader" 106) "java/lang/String" "value" "[B") (.int 0)) (.int 104)) (fc_r (fc_l (fc_r (fc_l (fc_l (fc_l (fc_l (fc_l (fc_r fc_eq)))))))))
      | 0, _, 1, _ => exact hs (.eq (.elem (.field (.string "PepperPolicy$Reader" 106) "java/lang/String" "value" "[B") (.int 1)) (.int 111)) (fc_r (fc_l (fc_r (fc_l (fc_l (fc_l (fc_l (fc_r (fc_l fc_eq)))))))))
      | 0, _, 2, _ => exact hs (.eq (.elem (.field (.string "PepperPolicy$Reader" 106) "java/lang/String" "value" "[B") (.int 2)) (.int 108)) (fc_r (fc_l (fc_r (fc_l (fc_l (fc_l (fc_l (fc_r (fc_r fc_eq)))))))))
      | 0, _, 3, _ => exact hs (.eq (.elem (.field (.string "PepperPolicy$Reader" 106) "java/lang/String" "value" "[B") (.int 3)) (.int 100)) (fc_r (fc_l (fc_r (fc_l (fc_l (fc_l (fc_r (fc_l (fc_l fc_eq)))))))))
      | 0, _, 4, _ => exact hs (.eq (.elem (.field (.string "PepperPolicy$Reader" 106) "java/lang/String" "value" "[B") (.int 4)) (.int 115)) (fc_r (fc_l (fc_r (fc_l (fc_l (fc_l (fc_r (fc_l (fc_r fc_eq)))))))))
      | 0, _, j + 5, hj => exact absurd hj (by show ¬ j + 5 < 5; omega))
    (fun i j hi hj hne => absurd (show i = j by omega) hne) hA
  have e5 := h2 0 (by decide)
  have he : (Cond.eq (Term.string "PepperPolicy$Reader" 106) (Term.string "PepperPolicyModel" 206)).before #[Value.ref b] s = true := hs (.eq (.string "PepperPolicy$Reader" 106) (.string "PepperPolicyModel" 206)) (fc_r (fc_r (fc_r (fc_l (fc_r (fc_r (fc_r (fc_l (fc_l fc_eq)))))))))
  obtain ⟨y, y1, y2⟩ := Cond.eq_one he
  have e9 : (Term.string "PepperPolicyModel" 206).eval #[Value.ref b] s none [] s = some (.ref (adK 0)) := by
    rw [y2, ← y1]; exact e5
  exact ⟨adK 0, adV 0, ⟨fun i hi => by
    match i, hi with
    | 0, _ => exact h1.1 0 (by decide), fun i j hi hj _ => by omega⟩, e5, e9⟩
theorem lw_str11 {s : State} {b : Addr} (hs : ∀ c ∈ flatC (Jvm.Cond.and given_1 narrow_1), c.before #[Value.ref b] s = true) {A : Nat → Prop} (hA : ∀ a : Nat, a < s.heap.size → ¬ A a) : ∃ a v : Nat, vk_S 1 [2] [[97, 116]] (fun _ => a) (fun _ => v) A s s.heap ∧ (Term.string "PepperPolicy$Reader" 111).eval #[Value.ref b] s none [] s = some (.ref a) ∧ (Term.string "PepperPolicyModel" 208).eval #[Value.ref b] s none [] s = some (.ref a) := by
  obtain ⟨adK, adV, h1, h2⟩ := vk_Sof (N := 1) (tm := fun _ => (.string "PepperPolicy$Reader" 111)) (len := [2]) (byt := [[97, 116]]) (A := A) (args := #[Value.ref b]) (s := s) (by decide) (fun i hi => hs (.exactly (.string "PepperPolicy$Reader" 111) "java/lang/String") (fc_r (fc_l (fc_r (fc_l (fc_l (fc_r (fc_r (fc_r (fc_l fc_exactly)))))))))) (fun i hi => hs (.eq (.field (.string "PepperPolicy$Reader" 111) "java/lang/String" "coder" "B") (.int 0)) (fc_r (fc_l (fc_r (fc_l (fc_l (fc_r (fc_r (fc_r (fc_r (fc_l fc_eq))))))))))) (fun i hi => hs (.arrayOf (.field (.string "PepperPolicy$Reader" 111) "java/lang/String" "value" "[B") .byte) (fc_r (fc_l (fc_r (fc_l (fc_l (fc_r (fc_r (fc_r (fc_r (fc_r fc_arrayOf)))))))))))
    (fun i hi => by
      match i, hi with
      | 0, _ => exact hs (.eq (.length (.field (.string "PepperPolicy$Reader" 111) "java/lang/String" "value" "[B")) (.int 2)) (fc_r (fc_l (fc_r (fc_l (fc_r (fc_l (fc_l (fc_l (fc_l fc_eq))))))))))
    (fun i hi j hj => by
      match i, hi, j, hj with
      | 0, _, 0, _ => exact hs (.eq (.elem (.field (.string "PepperPolicy$Reader" 111) "java/lang/String" "value" "[B") (.int 0)) (.int 97)) (fc_r (fc_l (fc_r (fc_l (fc_r (fc_l (fc_l (fc_l (fc_r fc_eq)))))))))
      | 0, _, 1, _ => exact hs (.eq (.elem (.field (.string "PepperPolicy$Reader" 111) "java/lang/String" "value" "[B") (.int 1)) (.int 116)) (fc_r (fc_l (fc_r (fc_l (fc_r (fc_l (fc_l (fc_r (fc_l fc_eq)))))))))
      | 0, _, j + 2, hj => exact absurd hj (by show ¬ j + 2 < 2; omega))
    (fun i j hi hj hne => absurd (show i = j by omega) hne) hA
  have e5 := h2 0 (by decide)
  have he : (Cond.eq (Term.string "PepperPolicy$Reader" 111) (Term.string "PepperPolicyModel" 208)).before #[Value.ref b] s = true := hs (.eq (.string "PepperPolicy$Reader" 111) (.string "PepperPolicyModel" 208)) (fc_r (fc_r (fc_r (fc_r (fc_l (fc_l (fc_l (fc_r (fc_l fc_eq)))))))))
  obtain ⟨y, y1, y2⟩ := Cond.eq_one he
  have e9 : (Term.string "PepperPolicyModel" 208).eval #[Value.ref b] s none [] s = some (.ref (adK 0)) := by
    rw [y2, ← y1]; exact e5
  exact ⟨adK 0, adV 0, ⟨fun i hi => by
    match i, hi with
    | 0, _ => exact h1.1 0 (by decide), fun i j hi hj _ => by omega⟩, e5, e9⟩
theorem lw_str12 {s : State} {b : Addr} (hs : ∀ c ∈ flatC (Jvm.Cond.and given_1 narrow_1), c.before #[Value.ref b] s = true) {A : Nat → Prop} (hA : ∀ a : Nat, a < s.heap.size → ¬ A a) : ∃ a v : Nat, vk_S 1 [4] [[102, 114, 111, 109]] (fun _ => a) (fun _ => v) A s s.heap ∧ (Term.string "PepperPolicy$Reader" 119).eval #[Value.ref b] s none [] s = some (.ref a) ∧ (Term.string "PepperPolicyModel" 191).eval #[Value.ref b] s none [] s = some (.ref a) := by
  obtain ⟨adK, adV, h1, h2⟩ := vk_Sof (N := 1) (tm := fun _ => (.string "PepperPolicy$Reader" 119)) (len := [4]) (byt := [[102, 114, 111, 109]]) (A := A) (args := #[Value.ref b]) (s := s) (by decide) (fun i hi => hs (.exactly (.string "PepperPolicy$Reader" 119) "java/lang/String") (fc_r (fc_l (fc_r (fc_r (fc_l (fc_l (fc_l (fc_r (fc_l fc_exactly)))))))))) (fun i hi => hs (.eq (.field (.string "PepperPolicy$Reader" 119) "java/lang/String" "coder" "B") (.int 0)) (fc_r (fc_l (fc_r (fc_r (fc_l (fc_l (fc_l (fc_r (fc_r fc_eq)))))))))) (fun i hi => hs (.arrayOf (.field (.string "PepperPolicy$Reader" 119) "java/lang/String" "value" "[B") .byte) (fc_r (fc_l (fc_r (fc_r (fc_l (fc_l (fc_r (fc_l (fc_l fc_arrayOf))))))))))
    (fun i hi => by
      match i, hi with
      | 0, _ => exact hs (.eq (.length (.field (.string "PepperPolicy$Reader" 119) "java/lang/String" "value" "[B")) (.int 4)) (fc_r (fc_l (fc_r (fc_r (fc_l (fc_l (fc_r (fc_l (fc_r fc_eq))))))))))
    (fun i hi j hj => by
      match i, hi, j, hj with
      | 0, _, 0, _ => exact hs (.eq (.elem (.field (.string "PepperPolicy$Reader" 119) "java/lang/String" "value" "[B") (.int 0)) (.int 102)) (fc_r (fc_l (fc_r (fc_r (fc_l (fc_l (fc_r (fc_r (fc_l fc_eq)))))))))
      | 0, _, 1, _ => exact hs (.eq (.elem (.field (.string "PepperPolicy$Reader" 119) "java/lang/String" "value" "[B") (.int 1)) (.int 114)) (fc_r (fc_l (fc_r (fc_r (fc_l (fc_l (fc_r (fc_r (fc_r fc_eq)))))))))
      | 0, _, 2, _ => exact hs (.eq (.elem (.field (.string "PepperPolicy$Reader" 119) "java/lang/String" "value" "[B") (.int 2)) (.int 111)) (fc_r (fc_l (fc_r (fc_r (fc_l (fc_r (fc_l (fc_l (fc_l fc_eq)))))))))
      | 0, _, 3, _ => exact hs (.eq (.elem (.field (.string "PepperPolicy$Reader" 119) "java/lang/String" "value" "[B") (.int 3)) (.int 109)) (fc_r (fc_l (fc_r (fc_r (fc_l (fc_r (fc_l (fc_l (fc_r fc_eq)))))))))
      | 0, _, j + 4, hj => exact absurd hj (by show ¬ j + 4 < 4; omega))
    (fun i j hi hj hne => absurd (show i = j by omega) hne) hA
  have e5 := h2 0 (by decide)
  have he : (Cond.eq (Term.string "PepperPolicy$Reader" 119) (Term.string "PepperPolicyModel" 191)).before #[Value.ref b] s = true := hs (.eq (.string "PepperPolicy$Reader" 119) (.string "PepperPolicyModel" 191)) (fc_r (fc_r (fc_r (fc_r (fc_l (fc_r (fc_l (fc_r (fc_l fc_eq)))))))))
  obtain ⟨y, y1, y2⟩ := Cond.eq_one he
  have e9 : (Term.string "PepperPolicyModel" 191).eval #[Value.ref b] s none [] s = some (.ref (adK 0)) := by
    rw [y2, ← y1]; exact e5
  exact ⟨adK 0, adV 0, ⟨fun i hi => by
    match i, hi with
    | 0, _ => exact h1.1 0 (by decide), fun i j hi hj _ => by omega⟩, e5, e9⟩
theorem lw_str13 {s : State} {b : Addr} (hs : ∀ c ∈ flatC (Jvm.Cond.and given_1 narrow_1), c.before #[Value.ref b] s = true) {A : Nat → Prop} (hA : ∀ a : Nat, a < s.heap.size → ¬ A a) : ∃ a v : Nat, vk_S 1 [2] [[116, 111]] (fun _ => a) (fun _ => v) A s s.heap ∧ (Term.string "PepperPolicy$Reader" 121).eval #[Value.ref b] s none [] s = some (.ref a) ∧ (Term.string "PepperPolicyModel" 192).eval #[Value.ref b] s none [] s = some (.ref a) := by
  obtain ⟨adK, adV, h1, h2⟩ := vk_Sof (N := 1) (tm := fun _ => (.string "PepperPolicy$Reader" 121)) (len := [2]) (byt := [[116, 111]]) (A := A) (args := #[Value.ref b]) (s := s) (by decide) (fun i hi => hs (.exactly (.string "PepperPolicy$Reader" 121) "java/lang/String") (fc_r (fc_l (fc_r (fc_r (fc_l (fc_r (fc_l (fc_r (fc_l fc_exactly)))))))))) (fun i hi => hs (.eq (.field (.string "PepperPolicy$Reader" 121) "java/lang/String" "coder" "B") (.int 0)) (fc_r (fc_l (fc_r (fc_r (fc_l (fc_r (fc_l (fc_r (fc_r fc_eq)))))))))) (fun i hi => hs (.arrayOf (.field (.string "PepperPolicy$Reader" 121) "java/lang/String" "value" "[B") .byte) (fc_r (fc_l (fc_r (fc_r (fc_l (fc_r (fc_r (fc_l (fc_l fc_arrayOf))))))))))
    (fun i hi => by
      match i, hi with
      | 0, _ => exact hs (.eq (.length (.field (.string "PepperPolicy$Reader" 121) "java/lang/String" "value" "[B")) (.int 2)) (fc_r (fc_l (fc_r (fc_r (fc_l (fc_r (fc_r (fc_l (fc_r fc_eq))))))))))
    (fun i hi j hj => by
      match i, hi, j, hj with
      | 0, _, 0, _ => exact hs (.eq (.elem (.field (.string "PepperPolicy$Reader" 121) "java/lang/String" "value" "[B") (.int 0)) (.int 116)) (fc_r (fc_l (fc_r (fc_r (fc_l (fc_r (fc_r (fc_r (fc_l fc_eq)))))))))
      | 0, _, 1, _ => exact hs (.eq (.elem (.field (.string "PepperPolicy$Reader" 121) "java/lang/String" "value" "[B") (.int 1)) (.int 111)) (fc_r (fc_l (fc_r (fc_r (fc_l (fc_r (fc_r (fc_r (fc_r (fc_l fc_eq))))))))))
      | 0, _, j + 2, hj => exact absurd hj (by show ¬ j + 2 < 2; omega))
    (fun i j hi hj hne => absurd (show i = j by omega) hne) hA
  have e5 := h2 0 (by decide)
  have he : (Cond.eq (Term.string "PepperPolicy$Reader" 121) (Term.string "PepperPolicyModel" 192)).before #[Value.ref b] s = true := hs (.eq (.string "PepperPolicy$Reader" 121) (.string "PepperPolicyModel" 192)) (fc_r (fc_r (fc_r (fc_r (fc_r (fc_l (fc_l (fc_l (fc_l fc_eq)))))))))
  obtain ⟨y, y1, y2⟩ := Cond.eq_one he
  have e9 : (Term.string "PepperPolicyModel" 192).eval #[Value.ref b] s none [] s = some (.ref (adK 0)) := by
    rw [y2, ← y1]; exact e5
  exact ⟨adK 0, adV 0, ⟨fun i hi => by
    match i, hi with
    | 0, _ => exact h1.1 0 (by decide), fun i j hi hj _ => by omega⟩, e5, e9⟩
theorem lw_str14 {s : State} {b : Addr} (hs : ∀ c ∈ flatC (Jvm.Cond.and given_1 narrow_1), c.before #[Value.ref b] s = true) {A : Nat → Prop} (hA : ∀ a : Nat, a < s.heap.size → ¬ A a) : ∃ a v : Nat, vk_S 1 [3] [[115, 117, 109]] (fun _ => a) (fun _ => v) A s s.heap ∧ (Term.string "PepperPolicy$Reader" 123).eval #[Value.ref b] s none [] s = some (.ref a) ∧ (Term.string "PepperPolicyModel" 194).eval #[Value.ref b] s none [] s = some (.ref a) := by
  obtain ⟨adK, adV, h1, h2⟩ := vk_Sof (N := 1) (tm := fun _ => (.string "PepperPolicy$Reader" 123)) (len := [3]) (byt := [[115, 117, 109]]) (A := A) (args := #[Value.ref b]) (s := s) (by decide) (fun i hi => hs (.exactly (.string "PepperPolicy$Reader" 123) "java/lang/String") (fc_r (fc_l (fc_r (fc_r (fc_l (fc_r (fc_r (fc_r (fc_r (fc_r fc_exactly))))))))))) (fun i hi => hs (.eq (.field (.string "PepperPolicy$Reader" 123) "java/lang/String" "coder" "B") (.int 0)) (fc_r (fc_l (fc_r (fc_r (fc_r (fc_l (fc_l (fc_l (fc_l fc_eq)))))))))) (fun i hi => hs (.arrayOf (.field (.string "PepperPolicy$Reader" 123) "java/lang/String" "value" "[B") .byte) (fc_r (fc_l (fc_r (fc_r (fc_r (fc_l (fc_l (fc_l (fc_r fc_arrayOf))))))))))
    (fun i hi => by
      match i, hi with
      | 0, _ => exact hs (.eq (.length (.field (.string "PepperPolicy$Reader" 123) "java/lang/String" "value" "[B")) (.int 3)) (fc_r (fc_l (fc_r (fc_r (fc_r (fc_l (fc_l (fc_r (fc_l fc_eq))))))))))
    (fun i hi j hj => by
      match i, hi, j, hj with
      | 0, _, 0, _ => exact hs (.eq (.elem (.field (.string "PepperPolicy$Reader" 123) "java/lang/String" "value" "[B") (.int 0)) (.int 115)) (fc_r (fc_l (fc_r (fc_r (fc_r (fc_l (fc_l (fc_r (fc_r fc_eq)))))))))
      | 0, _, 1, _ => exact hs (.eq (.elem (.field (.string "PepperPolicy$Reader" 123) "java/lang/String" "value" "[B") (.int 1)) (.int 117)) (fc_r (fc_l (fc_r (fc_r (fc_r (fc_l (fc_r (fc_l (fc_l fc_eq)))))))))
      | 0, _, 2, _ => exact hs (.eq (.elem (.field (.string "PepperPolicy$Reader" 123) "java/lang/String" "value" "[B") (.int 2)) (.int 109)) (fc_r (fc_l (fc_r (fc_r (fc_r (fc_l (fc_r (fc_l (fc_r fc_eq)))))))))
      | 0, _, j + 3, hj => exact absurd hj (by show ¬ j + 3 < 3; omega))
    (fun i j hi hj hne => absurd (show i = j by omega) hne) hA
  have e5 := h2 0 (by decide)
  have he : (Cond.eq (Term.string "PepperPolicy$Reader" 123) (Term.string "PepperPolicyModel" 194)).before #[Value.ref b] s = true := hs (.eq (.string "PepperPolicy$Reader" 123) (.string "PepperPolicyModel" 194)) (fc_r (fc_r (fc_r (fc_r (fc_r (fc_l (fc_r (fc_r (fc_r (fc_r fc_eq))))))))))
  obtain ⟨y, y1, y2⟩ := Cond.eq_one he
  have e9 : (Term.string "PepperPolicyModel" 194).eval #[Value.ref b] s none [] s = some (.ref (adK 0)) := by
    rw [y2, ← y1]; exact e5
  exact ⟨adK 0, adV 0, ⟨fun i hi => by
    match i, hi with
    | 0, _ => exact h1.1 0 (by decide), fun i j hi hj _ => by omega⟩, e5, e9⟩
theorem lw_str15 {s : State} {b : Addr} (hs : ∀ c ∈ flatC (Jvm.Cond.and given_1 narrow_1), c.before #[Value.ref b] s = true) {A : Nat → Prop} (hA : ∀ a : Nat, a < s.heap.size → ¬ A a) : ∃ a v : Nat, vk_S 1 [4] [[112, 97, 121, 115]] (fun _ => a) (fun _ => v) A s s.heap ∧ (Term.string "PepperPolicy$Reader" 125).eval #[Value.ref b] s none [] s = some (.ref a) ∧ (Term.string "PepperPolicyModel" 196).eval #[Value.ref b] s none [] s = some (.ref a) := by
  obtain ⟨adK, adV, h1, h2⟩ := vk_Sof (N := 1) (tm := fun _ => (.string "PepperPolicy$Reader" 125)) (len := [4]) (byt := [[112, 97, 121, 115]]) (A := A) (args := #[Value.ref b]) (s := s) (by decide) (fun i hi => hs (.exactly (.string "PepperPolicy$Reader" 125) "java/lang/String") (fc_r (fc_l (fc_r (fc_r (fc_r (fc_l (fc_r (fc_r (fc_l fc_exactly)))))))))) (fun i hi => hs (.eq (.field (.string "PepperPolicy$Reader" 125) "java/lang/String" "coder" "B") (.int 0)) (fc_r (fc_l (fc_r (fc_r (fc_r (fc_l (fc_r (fc_r (fc_r (fc_l fc_eq))))))))))) (fun i hi => hs (.arrayOf (.field (.string "PepperPolicy$Reader" 125) "java/lang/String" "value" "[B") .byte) (fc_r (fc_l (fc_r (fc_r (fc_r (fc_l (fc_r (fc_r (fc_r (fc_r fc_arrayOf)))))))))))
    (fun i hi => by
      match i, hi with
      | 0, _ => exact hs (.eq (.length (.field (.string "PepperPolicy$Reader" 125) "java/lang/String" "value" "[B")) (.int 4)) (fc_r (fc_l (fc_r (fc_r (fc_r (fc_r (fc_l (fc_l (fc_l fc_eq))))))))))
    (fun i hi j hj => by
      match i, hi, j, hj with
      | 0, _, 0, _ => exact hs (.eq (.elem (.field (.string "PepperPolicy$Reader" 125) "java/lang/String" "value" "[B") (.int 0)) (.int 112)) (fc_r (fc_l (fc_r (fc_r (fc_r (fc_r (fc_l (fc_l (fc_r fc_eq)))))))))
      | 0, _, 1, _ => exact hs (.eq (.elem (.field (.string "PepperPolicy$Reader" 125) "java/lang/String" "value" "[B") (.int 1)) (.int 97)) (fc_r (fc_l (fc_r (fc_r (fc_r (fc_r (fc_l (fc_r (fc_l fc_eq)))))))))
      | 0, _, 2, _ => exact hs (.eq (.elem (.field (.string "PepperPolicy$Reader" 125) "java/lang/String" "value" "[B") (.int 2)) (.int 121)) (fc_r (fc_l (fc_r (fc_r (fc_r (fc_r (fc_l (fc_r (fc_r fc_eq)))))))))
      | 0, _, 3, _ => exact hs (.eq (.elem (.field (.string "PepperPolicy$Reader" 125) "java/lang/String" "value" "[B") (.int 3)) (.int 115)) (fc_r (fc_l (fc_r (fc_r (fc_r (fc_r (fc_r (fc_l (fc_l fc_eq)))))))))
      | 0, _, j + 4, hj => exact absurd hj (by show ¬ j + 4 < 4; omega))
    (fun i j hi hj hne => absurd (show i = j by omega) hne) hA
  have e5 := h2 0 (by decide)
  have he : (Cond.eq (Term.string "PepperPolicy$Reader" 125) (Term.string "PepperPolicyModel" 196)).before #[Value.ref b] s = true := hs (.eq (.string "PepperPolicy$Reader" 125) (.string "PepperPolicyModel" 196)) (fc_r (fc_r (fc_r (fc_r (fc_r (fc_r (fc_r (fc_r (fc_r (fc_r fc_eq))))))))))
  obtain ⟨y, y1, y2⟩ := Cond.eq_one he
  have e9 : (Term.string "PepperPolicyModel" 196).eval #[Value.ref b] s none [] s = some (.ref (adK 0)) := by
    rw [y2, ← y1]; exact e5
  exact ⟨adK 0, adV 0, ⟨fun i hi => by
    match i, hi with
    | 0, _ => exact h1.1 0 (by decide), fun i j hi hj _ => by omega⟩, e5, e9⟩
theorem lw_nestm : ∀ z ∈ sn_nest, Cond.methodLinkNest z.1 z.2.1 z.2.2.1 z.2.2.2 ∈ tables_1 := by decide +kernel
def lw_ad (N0 : Nat) (aK aV : Nat → Nat) : Nat → Nat := fun q => if q < 1000 then N0 + q else if q < 2000 then aK (q - 1000) else aV (q - 2000)
theorem lw_bg {s : State} {b : Addr} (hts : ∀ w ∈ lw_tbl, w.before #[Value.ref b] s = true) (hv : (Jvm.Cond.and given_1 narrow_1).before #[Value.ref b] s = true) : ∃ aK aV : Nat → Nat, ∀ (N0 : Nat) (A : Nat → Prop), (∀ q, A q → s.heap.size ≤ q) → sn_bg (lw_ad N0 aK aV) A s s.heap := by
  have hs := flat_of_before _ hv
  have hA : ∀ a : Nat, a < s.heap.size → ¬ (fun q : Nat => s.heap.size ≤ q) a := fun a h z => absurd z (by omega)
  obtain ⟨a0, v0, s0, x0, y0⟩ := lw_str0 hs hA
  obtain ⟨a1, v1, s1, x1, y1⟩ := lw_str1 hs hA
  obtain ⟨a2, v2, s2, x2, y2⟩ := lw_str2 hs hA
  obtain ⟨a3, v3, s3, x3, y3⟩ := lw_str3 hs hA
  obtain ⟨a4, v4, s4, x4, y4⟩ := lw_str4 hs hA
  obtain ⟨a5, v5, s5, x5, y5⟩ := lw_str5 hs hA
  obtain ⟨a6, v6, s6, x6, y6⟩ := lw_str6 hs hA
  obtain ⟨a7, v7, s7, x7, y7⟩ := lw_str7 hs hA
  obtain ⟨a8, v8, s8, x8, y8⟩ := lw_str8 hs hA
  obtain ⟨a9, v9, s9, x9, y9⟩ := lw_str9 hs hA
  obtain ⟨a10, v10, s10, x10, y10⟩ := lw_str10 hs hA
  obtain ⟨a11, v11, s11, x11, y11⟩ := lw_str11 hs hA
  obtain ⟨a12, v12, s12, x12, y12⟩ := lw_str12 hs hA
  obtain ⟨a13, v13, s13, x13, y13⟩ := lw_str13 hs hA
  obtain ⟨a14, v14, s14, x14, y14⟩ := lw_str14 hs hA
  obtain ⟨a15, v15, s15, x15, y15⟩ := lw_str15 hs hA
  have hZ := va_Zof (hts (.laysStatic "java/lang/String" "COMPACT_STRINGS" "Z") (List.mem_append_right _ (lb_1 (lt_16 (lt_16 (lt_16 (lt_16 (lt_16 (lt_16 (lt_16 (lt_16 (lt_15 lt_h)))))))))))) (hts (.initialized "java/lang/String") (List.mem_append_right _ (lb_0 (lt_13 lt_h)))) (v := .int 1) (Cond.eq_int (hs (.eq (.static "java/lang/String" "COMPACT_STRINGS" "Z") (.int 1)) (fc_r (fc_l (fc_l (fc_l (fc_l (fc_l (fc_l (fc_r (fc_l fc_eq)))))))))) rfl) hA
  have hQ := va_Zqof (hts (.laysStatic "jdk/internal/util/Preconditions" "SIOOBE_FORMATTER" "Ljava/util/function/BiFunction;") (List.mem_append_right _ (lb_1 (lt_16 (lt_16 (lt_16 (lt_16 (lt_16 (lt_16 (lt_16 (lt_16 (lt_16 (lt_15 lt_h))))))))))))) (hts (.initialized "jdk/internal/util/Preconditions") (List.mem_append_right _ (lb_0 (lt_15 lt_h)))) (hs (.isRef (.static "jdk/internal/util/Preconditions" "SIOOBE_FORMATTER" "Ljava/util/function/BiFunction;")) (fc_r (fc_l (fc_l (fc_l (fc_l (fc_l (fc_l (fc_r (fc_r fc_isRef)))))))))) hA
  refine ⟨fun k => [a0, a1, a2, a3, a4, a5, a6, a7, a8, a9, a10, a11, a12, a13, a14, a15].getD k 0, fun k => [v0, v1, v2, v3, v4, v5, v6, v7, v8, v9, v10, v11, v12, v13, v14, v15].getD k 0, fun N0 A hAs => ⟨?_, ?_, hZ.narrow hAs, hQ.narrow hAs, fun z hz => va_Nw.of rfl (hts _ (List.mem_append_right _ (lw_nestm z hz)))⟩⟩
  · intro k hk
    match k, hk with
    | 0, _ => exact s0.narrow hAs
    | 1, _ => exact s1.narrow hAs
    | 2, _ => exact s2.narrow hAs
    | 3, _ => exact s3.narrow hAs
    | 4, _ => exact s4.narrow hAs
    | 5, _ => exact s5.narrow hAs
    | 6, _ => exact s6.narrow hAs
    | 7, _ => exact s7.narrow hAs
    | 8, _ => exact s8.narrow hAs
    | 9, _ => exact s9.narrow hAs
    | 10, _ => exact s10.narrow hAs
    | 11, _ => exact s11.narrow hAs
    | 12, _ => exact s12.narrow hAs
    | 13, _ => exact s13.narrow hAs
    | 14, _ => exact s14.narrow hAs
    | 15, _ => exact s15.narrow hAs
    | k + 16, h => exact absurd h (by omega)
  · exact List.forall_mem_cons.mpr ⟨vk_R.of (hts (.stringRef "PepperPolicy$Reader" 52 "house") (List.mem_append_right _ (lb_1 (lt_16 (lt_16 (lt_16 (lt_16 (lt_16 (lt_16 (lt_16 (lt_13 lt_h))))))))))) x0, List.forall_mem_cons.mpr ⟨vk_R.of (hts (.stringRef "PepperPolicy$Reader" 58 "minutes") (List.mem_append_right _ (lb_1 (lt_16 (lt_16 (lt_16 (lt_16 (lt_16 (lt_16 (lt_16 (lt_16 (lt_16 (lt_16 (lt_16 (lt_10 lt_h))))))))))))))) x1, List.forall_mem_cons.mpr ⟨vk_R.of (hts (.stringRef "PepperPolicy$Reader" 64 "dust") (List.mem_append_right _ (lb_1 (lt_16 (lt_16 (lt_16 (lt_16 (lt_16 (lt_16 (lt_16 (lt_16 (lt_16 (lt_16 (lt_16 (lt_16 (lt_4 lt_h)))))))))))))))) x2, List.forall_mem_cons.mpr ⟨vk_R.of (hts (.stringRef "PepperPolicy$Reader" 66 "law") (List.mem_append_right _ (lb_1 (lt_16 (lt_16 (lt_16 (lt_16 (lt_16 (lt_16 (lt_16 (lt_16 (lt_16 (lt_16 (lt_16 (lt_16 (lt_5 lt_h)))))))))))))))) x3, List.forall_mem_cons.mpr ⟨vk_R.of (hts (.stringRef "PepperPolicy$Reader" 68 "money") (List.mem_append_right _ (lb_1 (lt_16 (lt_16 (lt_16 (lt_16 (lt_16 (lt_16 (lt_16 (lt_16 (lt_16 (lt_16 (lt_16 (lt_16 (lt_6 lt_h)))))))))))))))) x4, List.forall_mem_cons.mpr ⟨vk_R.of (hts (.stringRef "PepperPolicy$Reader" 70 "odds") (List.mem_append_right _ (lb_1 (lt_16 (lt_16 (lt_16 (lt_16 (lt_16 (lt_16 (lt_16 (lt_16 (lt_16 (lt_16 (lt_16 (lt_16 (lt_7 lt_h)))))))))))))))) x5, List.forall_mem_cons.mpr ⟨vk_R.of (hts (.stringRef "PepperPolicy$Reader" 75 "nose") (List.mem_append_right _ (lb_1 (lt_16 (lt_16 (lt_16 (lt_16 (lt_16 (lt_16 (lt_16 (lt_16 (lt_16 (lt_16 (lt_16 (lt_16 (lt_16 lt_h)))))))))))))))) x6, List.forall_mem_cons.mpr ⟨vk_R.of (hts (.stringRef "PepperPolicy$Reader" 85 "gust") (List.mem_append_right _ (lb_1 (lt_16 (lt_16 (lt_16 (lt_16 (lt_16 (lt_16 (lt_16 (lt_16 (lt_16 (lt_16 (lt_16 (lt_16 (lt_16 (lt_6 lt_h))))))))))))))))) x7, List.forall_mem_cons.mpr ⟨vk_R.of (hts (.stringRef "PepperPolicy$Reader" 90 "net") (List.mem_append_right _ (lb_1 (lt_16 (lt_16 (lt_16 (lt_16 (lt_16 (lt_16 (lt_16 (lt_16 (lt_16 (lt_16 (lt_16 (lt_16 (lt_16 (lt_12 lt_h))))))))))))))))) x8, List.forall_mem_cons.mpr ⟨vk_R.of (hts (.stringRef "PepperPolicy$Reader" 95 "policy") (List.mem_append_right _ (lb_1 (lt_16 (lt_16 (lt_16 (lt_16 (lt_16 (lt_16 (lt_16 (lt_16 (lt_16 (lt_16 (lt_16 (lt_16 (lt_16 (lt_16 (lt_1 lt_h)))))))))))))))))) x9, List.forall_mem_cons.mpr ⟨vk_R.of (hts (.stringRef "PepperPolicy$Reader" 106 "holds") (List.mem_append_right _ (lb_1 (lt_16 (lt_16 (lt_16 (lt_16 (lt_16 (lt_16 (lt_16 (lt_16 (lt_16 (lt_16 (lt_16 (lt_16 (lt_16 (lt_5 lt_h))))))))))))))))) x10, List.forall_mem_cons.mpr ⟨vk_R.of (hts (.stringRef "PepperPolicy$Reader" 111 "at") (List.mem_append_right _ (lb_1 (lt_16 (lt_16 (lt_16 (lt_16 (lt_16 (lt_16 (lt_16 (lt_16 (lt_16 (lt_16 (lt_16 (lt_16 (lt_16 (lt_11 lt_h))))))))))))))))) x11, List.forall_mem_cons.mpr ⟨vk_R.of (hts (.stringRef "PepperPolicy$Reader" 119 "from") (List.mem_append_right _ (lb_1 (lt_16 (lt_16 (lt_16 (lt_16 (lt_16 (lt_16 (lt_16 (lt_16 (lt_16 (lt_16 (lt_16 (lt_16 (lt_16 (lt_16 (lt_6 lt_h)))))))))))))))))) x12, List.forall_mem_cons.mpr ⟨vk_R.of (hts (.stringRef "PepperPolicy$Reader" 121 "to") (List.mem_append_right _ (lb_1 (lt_16 (lt_16 (lt_16 (lt_16 (lt_16 (lt_16 (lt_16 (lt_16 (lt_16 (lt_16 (lt_16 (lt_16 (lt_16 (lt_16 (lt_7 lt_h)))))))))))))))))) x13, List.forall_mem_cons.mpr ⟨vk_R.of (hts (.stringRef "PepperPolicy$Reader" 123 "sum") (List.mem_append_right _ (lb_1 (lt_16 (lt_16 (lt_16 (lt_16 (lt_16 (lt_16 (lt_16 (lt_16 (lt_16 (lt_16 (lt_16 (lt_16 (lt_16 (lt_16 (lt_8 lt_h)))))))))))))))))) x14, List.forall_mem_cons.mpr ⟨vk_R.of (hts (.stringRef "PepperPolicy$Reader" 125 "pays") (List.mem_append_right _ (lb_1 (lt_16 (lt_16 (lt_16 (lt_16 (lt_16 (lt_16 (lt_16 (lt_16 (lt_16 (lt_16 (lt_16 (lt_16 (lt_16 (lt_16 (lt_9 lt_h)))))))))))))))))) x15, List.forall_mem_cons.mpr ⟨vk_R.of (hts (.stringRef "PepperPolicyModel" 175 "house") (List.mem_append_right _ (lb_5 (lt_16 (lt_16 (lt_16 (lt_16 (lt_7 lt_h)))))))) y0, List.forall_mem_cons.mpr ⟨vk_R.of (hts (.stringRef "PepperPolicyModel" 177 "minutes") (List.mem_append_right _ (lb_5 (lt_16 (lt_16 (lt_16 (lt_16 (lt_16 (lt_10 lt_h))))))))) y1, List.forall_mem_cons.mpr ⟨vk_R.of (hts (.stringRef "PepperPolicyModel" 183 "dust") (List.mem_append_right _ (lb_5 (lt_16 (lt_16 (lt_16 (lt_16 (lt_16 (lt_16 (lt_3 lt_h)))))))))) y2, List.forall_mem_cons.mpr ⟨vk_R.of (hts (.stringRef "PepperPolicyModel" 185 "law") (List.mem_append_right _ (lb_5 (lt_16 (lt_16 (lt_16 (lt_16 (lt_16 (lt_16 (lt_4 lt_h)))))))))) y3, List.forall_mem_cons.mpr ⟨vk_R.of (hts (.stringRef "PepperPolicyModel" 187 "money") (List.mem_append_right _ (lb_5 (lt_16 (lt_16 (lt_16 (lt_16 (lt_16 (lt_16 (lt_5 lt_h)))))))))) y4, List.forall_mem_cons.mpr ⟨vk_R.of (hts (.stringRef "PepperPolicyModel" 189 "odds") (List.mem_append_right _ (lb_5 (lt_16 (lt_16 (lt_16 (lt_16 (lt_16 (lt_16 (lt_6 lt_h)))))))))) y5, List.forall_mem_cons.mpr ⟨vk_R.of (hts (.stringRef "PepperPolicyModel" 198 "nose") (List.mem_append_right _ (lb_5 (lt_16 (lt_16 (lt_16 (lt_16 (lt_16 (lt_16 (lt_11 lt_h)))))))))) y6, List.forall_mem_cons.mpr ⟨vk_R.of (hts (.stringRef "PepperPolicyModel" 200 "gust") (List.mem_append_right _ (lb_5 (lt_16 (lt_16 (lt_16 (lt_16 (lt_16 (lt_16 (lt_12 lt_h)))))))))) y7, List.forall_mem_cons.mpr ⟨vk_R.of (hts (.stringRef "PepperPolicyModel" 202 "net") (List.mem_append_right _ (lb_5 (lt_16 (lt_16 (lt_16 (lt_16 (lt_16 (lt_16 (lt_13 lt_h)))))))))) y8, List.forall_mem_cons.mpr ⟨vk_R.of (hts (.stringRef "PepperPolicyModel" 204 "policy") (List.mem_append_right _ (lb_5 (lt_16 (lt_16 (lt_16 (lt_16 (lt_16 (lt_16 (lt_14 lt_h)))))))))) y9, List.forall_mem_cons.mpr ⟨vk_R.of (hts (.stringRef "PepperPolicyModel" 206 "holds") (List.mem_append_right _ (lb_5 (lt_16 (lt_16 (lt_16 (lt_16 (lt_16 (lt_16 (lt_15 lt_h)))))))))) y10, List.forall_mem_cons.mpr ⟨vk_R.of (hts (.stringRef "PepperPolicyModel" 208 "at") (List.mem_append_right _ (lb_5 (lt_16 (lt_16 (lt_16 (lt_16 (lt_16 (lt_16 (lt_16 lt_h)))))))))) y11, List.forall_mem_cons.mpr ⟨vk_R.of (hts (.stringRef "PepperPolicyModel" 191 "from") (List.mem_append_right _ (lb_5 (lt_16 (lt_16 (lt_16 (lt_16 (lt_16 (lt_16 (lt_16 (lt_9 lt_h))))))))))) y12, List.forall_mem_cons.mpr ⟨vk_R.of (hts (.stringRef "PepperPolicyModel" 192 "to") (List.mem_append_right _ (lb_5 (lt_16 (lt_16 (lt_16 (lt_16 (lt_16 (lt_16 (lt_16 (lt_10 lt_h))))))))))) y13, List.forall_mem_cons.mpr ⟨vk_R.of (hts (.stringRef "PepperPolicyModel" 194 "sum") (List.mem_append_right _ (lb_5 (lt_16 (lt_16 (lt_16 (lt_16 (lt_16 (lt_16 (lt_16 (lt_11 lt_h))))))))))) y14, List.forall_mem_cons.mpr ⟨vk_R.of (hts (.stringRef "PepperPolicyModel" 196 "pays") (List.mem_append_right _ (lb_5 (lt_16 (lt_16 (lt_16 (lt_16 (lt_16 (lt_16 (lt_16 (lt_12 lt_h))))))))))) y15, fun _ h => absurd h List.not_mem_nil⟩⟩⟩⟩⟩⟩⟩⟩⟩⟩⟩⟩⟩⟩⟩⟩⟩⟩⟩⟩⟩⟩⟩⟩⟩⟩⟩⟩⟩⟩⟩⟩
end
section
def st_all (J J2 : sn_S → sn_S → Prop) : Prop := st_0 J J2 ∧ st_1 J J2 ∧ st_2 J J2 ∧ st_3 J J2 ∧ st_4 J J2 ∧ st_5 J J2 ∧ st_6 J J2 ∧ st_7 J J2 ∧ st_8 J J2 ∧ st_9 J J2 ∧ st_10 J J2 ∧ st_11 J J2 ∧ st_12 J J2 ∧ st_13 J J2 ∧ st_14 J J2 ∧ st_15 J J2 ∧ st_16 J J2 ∧ st_17 J J2 ∧ st_18 J J2 ∧ st_19 J J2 ∧ st_20 J J2 ∧ st_21 J J2 ∧ st_22 J J2 ∧ st_23 J J2 ∧ st_24 J J2 ∧ st_25 J J2 ∧ st_26 J J2 ∧ st_27 J J2 ∧ st_28 J J2 ∧ st_29 J J2 ∧ st_30 J J2 ∧ st_31 J J2 ∧ st_32 J J2 ∧ st_33 J J2 ∧ st_34 J J2 ∧ st_35 J J2 ∧ st_36 J J2 ∧ st_37 J J2 ∧ st_38 J J2 ∧ st_39 J J2 ∧ st_40 J J2 ∧ st_41 J J2 ∧ st_42 J J2 ∧ st_43 J J2 ∧ st_44 J J2 ∧ st_45 J J2 ∧ st_46 J J2 ∧ st_47 J J2 ∧ st_48 J J2 ∧ st_49 J J2 ∧ st_50 J J2 ∧ st_51 J J2 ∧ st_52 J J2 ∧ st_53 J J2 ∧ st_54 J J2 ∧ st_55 J J2 ∧ st_56 J J2 ∧ st_57 J J2 ∧ st_58 J J2 ∧ st_59 J J2 ∧ st_60 J J2 ∧ st_61 J J2 ∧ st_62 J J2 ∧ st_63 J J2 ∧ st_64 J J2 ∧ st_65 J J2 ∧ st_66 J J2 ∧ st_67 J J2 ∧ st_68 J J2 ∧ st_69 J J2 ∧ st_70 J J2 ∧ st_71 J J2
theorem lw_vin {k j L : Nat} {i : Int32} (hi : i = nI k) (h : k + j < L) (hL : L ≤ 3072) : vp_in (i + nI j) L := by
  subst hi
  rw [nI_add]
  exact nI_in h (by omega)
section
variable {p : Program} {l : Launch} {e : Env} {s : State} {m : MethodId} {args : Array Value} {below : List Frame} {meth : Method} {c : Code} {Q : State → Prop} {D : va_G} {ct : Nat → ClassId} {adC adM : Nat → Nat} {AC AM : Nat → Prop} {b L : Nat} {xs : Nat → Int32}
set_option maxHeartbeats 4000000 in
theorem lw_loop (C : lw_C p s m args meth c b L xs D ct adC adM AC AM) (hL : L ≤ 3072) {J : Nat → sn_S → sn_S → Prop} (hs : ∀ k, k + 6 ≤ L → st_all (J k) (J (k + 6))) (hd : ∀ k, k + 6 ≤ L → ∀ σ τ, J k σ τ → J (k + 6) σ τ) (kend : ∀ (H : Heap) (ls : Array Slot), W p l e room_1 s m args below meth c H [] 600000 7302250 Q (F0 m 2179 ls [.int 1])) :
    ∀ (n k : Nat) (σ τ : sn_S) (i : Int32), J k σ τ → i = nI k → k ≤ L + 6 → L + 6 - k < n → lw_LAt p l e s m args below meth c Q D ct adC adM AC AM σ τ 18 [(0, .ref b), (1, .ref (adC 0)), (2, .ref (adM 0)), (3, .int i)] [] := by
  intro n
  induction n with
  | zero => intro k σ τ i _ _ _ h; exact absurd h (by omega)
  | succ n ih =>
    intro k σ τ i hJ hi hk hn H ls hC hM hl
    have hx := C.1.1
    have hb := C.1.2.1
    have hX := C.2.2.2.2.2.1
    have hbl := C.2.2.2.2.2.2
    have hbA : ¬ AC b := fun z => absurd (C.2.2.1 b z) (by omega)
    refine lv_iload_n hx hb dL_law_18 rfl (lv_at hl 3 rfl) ?_
    refine lv_aload_n hx hb dL_law_19 rfl (lv_at hl 0 rfl) ?_
    refine va_slen hx hb hX hbl hbA hC.2 dL_law_20 ?_
    refine lv_bipush (v := 6) hx hb dL_law_21 (by decide) ?_
    refine lv_isub hx hb dL_law_23 ?_
    refine lv_icmp_gt (tgt := 2178) hx hb dL_law_24 (by decide) (fun _ => ?_) (fun hc => ?_)
    · refine lv_iconst (v := 1) hx hb dL_law_2178 rfl ?_
      exact kend H ls
    · have hk6 : k + 6 ≤ L := by
        rcases Nat.lt_or_ge L (k + 6) with hlt | hge
        · exfalso
          apply hc
          rw [hi, Int32.lt_iff_toInt_lt, nI_toInt (by omega)]
          have h1 : (Int32.ofNat L - 6).toInt = (L : Int) - 6 := by
            have h2 : (Int32.ofNat L).toInt = (L : Int) := nI_toInt (by omega)
            rw [Int32.toInt_sub, h2]
            show ((L : Int) - 6).bmod (2 ^ 32) = _
            exact Int.bmod_eq_of_le (by omega) (by omega)
          rw [h1]
          omega
        · exact hge
      have g0 : vp_in i L := by rw [hi]; exact nI_in (by omega) (by omega)
      have g1 : vp_in (i + 1) L := lw_vin (j := 1) hi (by omega) (Nat.le_trans hL (by decide))
      have g2 : vp_in (i + 2) L := lw_vin (j := 2) hi (by omega) (Nat.le_trans hL (by decide))
      have g3 : vp_in (i + 3) L := lw_vin (j := 3) hi (by omega) (Nat.le_trans hL (by decide))
      have g4 : vp_in (i + 4) L := lw_vin (j := 4) hi (by omega) (Nat.le_trans hL (by decide))
      have g5 : vp_in (i + 5) L := lw_vin (j := 5) hi (by omega) (Nat.le_trans hL (by decide))
      have kk : ∀ σ τ, J (k + 6) σ τ → lw_LAt p l e s m args below meth c Q D ct adC adM AC AM σ τ 2172 [(0, .ref b), (1, .ref (adC 0)), (2, .ref (adM 0)), (3, .int i)] [] := by
        intro σ τ hJ H ls hC hM hl
        refine lv_iinc (v := i + 6) (lv' := [(3, .int (i + 6)), (0, .ref b), (1, .ref (adC 0)), (2, .ref (adM 0))]) hx hb dL_law_2172 hl (k := 3) rfl rfl (by decide) rfl (fun ls hl => ?_)
        refine lv_goto (tgt := 18) hx hb dL_law_2175 (by decide) ?_
        exact ih (k + 6) σ τ (i + 6) hJ (by rw [hi]; exact nI_add k 6) (by omega) (by omega) H ls hC hM (lv_sub hl [1, 2, 3, 0] rfl)
      have kd : ∀ σ τ, J k σ τ → lw_LAt p l e s m args below meth c Q D ct adC adM AC AM σ τ 2172 [(0, .ref b), (1, .ref (adC 0)), (2, .ref (adM 0)), (3, .int i)] [] := fun σ τ hJ => kk σ τ (hd k hk6 σ τ hJ)
      refine lv_aload_n hx hb dL_law_27 rfl (lv_at hl 0 rfl) ?_
      refine lv_iload_n hx hb dL_law_28 rfl (lv_at hl 3 rfl) ?_
      refine va_sld hx hb hX hbl hbA hC.2 g0 dL_law_29 ?_
      refine lv_bipush (v := 127) hx hb dL_law_30 (by decide) ?_
      refine lv_iand hx hb dL_law_32 ?_
      generalize xs i.toNatClampNeg &&& 127 = v
      by_cases hv : v.toInt < 0 ∨ 71 < v.toInt
      · refine lv_tableOut (tgt := 2172) hx hb dL_law_33 hv (by decide) ?_
        exact kd σ τ hJ H ls hC hM hl
      · have h1 : ¬ v.toInt < 0 := fun z => hv (Or.inl z)
        have h2 : ¬ 71 < v.toInt := fun z => hv (Or.inr z)
        obtain ⟨z, hz⟩ : ∃ z : Nat, v.toInt = (z : Int) := ⟨v.toInt.toNat, by omega⟩
        have hz72 : z < 72 := by omega
        have hz0 : (v.toInt - 0).toNat = z := by omega
        obtain ⟨s0, s1, s2, s3, s4, s5, s6, s7, s8, s9, s10, s11, s12, s13, s14, s15, s16, s17, s18, s19, s20, s21, s22, s23, s24, s25, s26, s27, s28, s29, s30, s31, s32, s33, s34, s35, s36, s37, s38, s39, s40, s41, s42, s43, s44, s45, s46, s47, s48, s49, s50, s51, s52, s53, s54, s55, s56, s57, s58, s59, s60, s61, s62, s63, s64, s65, s66, s67, s68, s69, s70, s71⟩ := hs k hk6
        match z, hz72, hz0 with
        | 0, _, hz0 =>
          refine lv_tableIn (tgt := 336) (off := 303) hx hb dL_law_33 h1 h2 (by rw [hz0]; rfl) (by decide) ?_
          exact lw_case_0 C s0 hJ g1 g2 g3 g4 g5 kk H ls hC hM hl
        | 1, _, hz0 =>
          refine lv_tableIn (tgt := 399) (off := 366) hx hb dL_law_33 h1 h2 (by rw [hz0]; rfl) (by decide) ?_
          exact lw_case_1 C s1 hJ g1 g2 g3 g4 g5 kk H ls hC hM hl
        | 2, _, hz0 =>
          refine lv_tableIn (tgt := 422) (off := 389) hx hb dL_law_33 h1 h2 (by rw [hz0]; rfl) (by decide) ?_
          exact lw_case_2 C s2 hJ g1 g2 g3 g4 g5 kk H ls hC hM hl
        | 3, _, hz0 =>
          refine lv_tableIn (tgt := 435) (off := 402) hx hb dL_law_33 h1 h2 (by rw [hz0]; rfl) (by decide) ?_
          exact lw_case_3 C s3 hJ g1 g2 g3 g4 g5 kk H ls hC hM hl
        | 4, _, hz0 =>
          refine lv_tableIn (tgt := 458) (off := 425) hx hb dL_law_33 h1 h2 (by rw [hz0]; rfl) (by decide) ?_
          exact lw_case_4 C s4 hJ g1 g2 g3 g4 g5 kk H ls hC hM hl
        | 5, _, hz0 =>
          refine lv_tableIn (tgt := 491) (off := 458) hx hb dL_law_33 h1 h2 (by rw [hz0]; rfl) (by decide) ?_
          exact lw_case_5 C s5 hJ g1 g2 g3 g4 g5 kk H ls hC hM hl
        | 6, _, hz0 =>
          refine lv_tableIn (tgt := 524) (off := 491) hx hb dL_law_33 h1 h2 (by rw [hz0]; rfl) (by decide) ?_
          exact lw_case_6 C s6 hJ g1 g2 g3 g4 g5 kk H ls hC hM hl
        | 7, _, hz0 =>
          refine lv_tableIn (tgt := 547) (off := 514) hx hb dL_law_33 h1 h2 (by rw [hz0]; rfl) (by decide) ?_
          exact lw_case_7 C s7 hJ g1 g2 g3 g4 g5 kk H ls hC hM hl
        | 8, _, hz0 =>
          refine lv_tableIn (tgt := 570) (off := 537) hx hb dL_law_33 h1 h2 (by rw [hz0]; rfl) (by decide) ?_
          exact lw_case_8 C s8 hJ g1 g2 g3 g4 g5 kk H ls hC hM hl
        | 9, _, hz0 =>
          refine lv_tableIn (tgt := 593) (off := 560) hx hb dL_law_33 h1 h2 (by rw [hz0]; rfl) (by decide) ?_
          exact lw_case_9 C s9 hJ g1 g2 g3 g4 g5 kk H ls hC hM hl
        | 10, _, hz0 =>
          refine lv_tableIn (tgt := 616) (off := 583) hx hb dL_law_33 h1 h2 (by rw [hz0]; rfl) (by decide) ?_
          exact lw_case_10 C s10 hJ g1 g2 g3 g4 g5 kk H ls hC hM hl
        | 11, _, hz0 =>
          refine lv_tableIn (tgt := 629) (off := 596) hx hb dL_law_33 h1 h2 (by rw [hz0]; rfl) (by decide) ?_
          exact lw_case_11 C s11 hJ g1 g2 g3 g4 g5 kk H ls hC hM hl
        | 12, _, hz0 =>
          refine lv_tableIn (tgt := 652) (off := 619) hx hb dL_law_33 h1 h2 (by rw [hz0]; rfl) (by decide) ?_
          exact lw_case_12 C s12 hJ g1 g2 g3 g4 g5 kk H ls hC hM hl
        | 13, _, hz0 =>
          refine lv_tableIn (tgt := 685) (off := 652) hx hb dL_law_33 h1 h2 (by rw [hz0]; rfl) (by decide) ?_
          exact lw_case_13 C s13 hJ g1 g2 g3 g4 g5 kk H ls hC hM hl
        | 14, _, hz0 =>
          refine lv_tableIn (tgt := 708) (off := 675) hx hb dL_law_33 h1 h2 (by rw [hz0]; rfl) (by decide) ?_
          exact lw_case_14 C s14 hJ g1 g2 g3 g4 g5 kk H ls hC hM hl
        | 15, _, hz0 =>
          refine lv_tableIn (tgt := 731) (off := 698) hx hb dL_law_33 h1 h2 (by rw [hz0]; rfl) (by decide) ?_
          exact lw_case_15 C s15 hJ g1 g2 g3 g4 g5 kk H ls hC hM hl
        | 16, _, hz0 =>
          refine lv_tableIn (tgt := 754) (off := 721) hx hb dL_law_33 h1 h2 (by rw [hz0]; rfl) (by decide) ?_
          exact lw_case_16 C s16 hJ g1 g2 g3 g4 g5 kk H ls hC hM hl
        | 17, _, hz0 =>
          refine lv_tableIn (tgt := 767) (off := 734) hx hb dL_law_33 h1 h2 (by rw [hz0]; rfl) (by decide) ?_
          exact lw_case_17 C s17 hJ g1 g2 g3 g4 g5 kk H ls hC hM hl
        | 18, _, hz0 =>
          refine lv_tableIn (tgt := 780) (off := 747) hx hb dL_law_33 h1 h2 (by rw [hz0]; rfl) (by decide) ?_
          exact lw_case_18 C s18 hJ g1 g2 g3 g4 g5 kk H ls hC hM hl
        | 19, _, hz0 =>
          refine lv_tableIn (tgt := 793) (off := 760) hx hb dL_law_33 h1 h2 (by rw [hz0]; rfl) (by decide) ?_
          exact lw_case_19 C s19 hJ g1 g2 g3 g4 g5 kk H ls hC hM hl
        | 20, _, hz0 =>
          refine lv_tableIn (tgt := 816) (off := 783) hx hb dL_law_33 h1 h2 (by rw [hz0]; rfl) (by decide) ?_
          exact lw_case_20 C s20 hJ g1 g2 g3 g4 g5 kk H ls hC hM hl
        | 21, _, hz0 =>
          refine lv_tableIn (tgt := 849) (off := 816) hx hb dL_law_33 h1 h2 (by rw [hz0]; rfl) (by decide) ?_
          exact lw_case_21 C s21 hJ g1 g2 g3 g4 g5 kk H ls hC hM hl
        | 22, _, hz0 =>
          refine lv_tableIn (tgt := 872) (off := 839) hx hb dL_law_33 h1 h2 (by rw [hz0]; rfl) (by decide) ?_
          exact lw_case_22 C s22 hJ g1 g2 g3 g4 g5 kk H ls hC hM hl
        | 23, _, hz0 =>
          refine lv_tableIn (tgt := 885) (off := 852) hx hb dL_law_33 h1 h2 (by rw [hz0]; rfl) (by decide) ?_
          exact lw_case_23 C s23 hJ g1 g2 g3 g4 g5 kk H ls hC hM hl
        | 24, _, hz0 =>
          refine lv_tableIn (tgt := 908) (off := 875) hx hb dL_law_33 h1 h2 (by rw [hz0]; rfl) (by decide) ?_
          exact lw_case_24 C s24 hJ g1 g2 g3 g4 g5 kk H ls hC hM hl
        | 25, _, hz0 =>
          refine lv_tableIn (tgt := 931) (off := 898) hx hb dL_law_33 h1 h2 (by rw [hz0]; rfl) (by decide) ?_
          exact lw_case_25 C s25 hJ g1 g2 g3 g4 g5 kk H ls hC hM hl
        | 26, _, hz0 =>
          refine lv_tableIn (tgt := 944) (off := 911) hx hb dL_law_33 h1 h2 (by rw [hz0]; rfl) (by decide) ?_
          exact lw_case_26 C s26 hJ g1 g2 g3 g4 g5 kk H ls hC hM hl
        | 27, _, hz0 =>
          refine lv_tableIn (tgt := 967) (off := 934) hx hb dL_law_33 h1 h2 (by rw [hz0]; rfl) (by decide) ?_
          exact lw_case_27 C s27 hJ g1 g2 g3 g4 g5 kk H ls hC hM hl
        | 28, _, hz0 =>
          refine lv_tableIn (tgt := 990) (off := 957) hx hb dL_law_33 h1 h2 (by rw [hz0]; rfl) (by decide) ?_
          exact lw_case_28 C s28 hJ g1 g2 g3 g4 g5 kk H ls hC hM hl
        | 29, _, hz0 =>
          refine lv_tableIn (tgt := 1003) (off := 970) hx hb dL_law_33 h1 h2 (by rw [hz0]; rfl) (by decide) ?_
          exact lw_case_29 C s29 hJ g1 g2 g3 g4 g5 kk H ls hC hM hl
        | 30, _, hz0 =>
          refine lv_tableIn (tgt := 1026) (off := 993) hx hb dL_law_33 h1 h2 (by rw [hz0]; rfl) (by decide) ?_
          exact lw_case_30 C s30 hJ g1 g2 g3 g4 g5 kk H ls hC hM hl
        | 31, _, hz0 =>
          refine lv_tableIn (tgt := 1049) (off := 1016) hx hb dL_law_33 h1 h2 (by rw [hz0]; rfl) (by decide) ?_
          exact lw_case_31 C s31 hJ g1 g2 g3 g4 g5 kk H ls hC hM hl
        | 32, _, hz0 =>
          refine lv_tableIn (tgt := 1072) (off := 1039) hx hb dL_law_33 h1 h2 (by rw [hz0]; rfl) (by decide) ?_
          exact lw_case_32 C s32 hJ g1 g2 g3 g4 g5 kk H ls hC hM hl
        | 33, _, hz0 =>
          refine lv_tableIn (tgt := 1095) (off := 1062) hx hb dL_law_33 h1 h2 (by rw [hz0]; rfl) (by decide) ?_
          exact lw_case_33 C s33 hJ g1 g2 g3 g4 g5 kk H ls hC hM hl
        | 34, _, hz0 =>
          refine lv_tableIn (tgt := 1108) (off := 1075) hx hb dL_law_33 h1 h2 (by rw [hz0]; rfl) (by decide) ?_
          exact lw_case_34 C s34 hJ g1 g2 g3 g4 g5 kk H ls hC hM hl
        | 35, _, hz0 =>
          refine lv_tableIn (tgt := 1131) (off := 1098) hx hb dL_law_33 h1 h2 (by rw [hz0]; rfl) (by decide) ?_
          exact lw_case_35 C s35 hJ g1 g2 g3 g4 g5 kk H ls hC hM hl
        | 36, _, hz0 =>
          refine lv_tableIn (tgt := 1144) (off := 1111) hx hb dL_law_33 h1 h2 (by rw [hz0]; rfl) (by decide) ?_
          exact lw_case_36 C s36 hJ g1 g2 g3 g4 g5 kk H ls hC hM hl
        | 37, _, hz0 =>
          refine lv_tableIn (tgt := 1157) (off := 1124) hx hb dL_law_33 h1 h2 (by rw [hz0]; rfl) (by decide) ?_
          exact lw_case_37 C s37 hJ g1 g2 g3 g4 g5 kk H ls hC hM hl
        | 38, _, hz0 =>
          refine lv_tableIn (tgt := 1170) (off := 1137) hx hb dL_law_33 h1 h2 (by rw [hz0]; rfl) (by decide) ?_
          exact lw_case_38 C s38 hJ g1 g2 g3 g4 g5 kk H ls hC hM hl
        | 39, _, hz0 =>
          refine lv_tableIn (tgt := 1193) (off := 1160) hx hb dL_law_33 h1 h2 (by rw [hz0]; rfl) (by decide) ?_
          exact lw_case_39 C s39 hJ g1 g2 g3 g4 g5 kk H ls hC hM hl
        | 40, _, hz0 =>
          refine lv_tableIn (tgt := 1206) (off := 1173) hx hb dL_law_33 h1 h2 (by rw [hz0]; rfl) (by decide) ?_
          exact lw_case_40 C s40 hJ g1 g2 g3 g4 g5 kk H ls hC hM hl
        | 41, _, hz0 =>
          refine lv_tableIn (tgt := 1229) (off := 1196) hx hb dL_law_33 h1 h2 (by rw [hz0]; rfl) (by decide) ?_
          exact lw_case_41 C s41 hJ g1 g2 g3 g4 g5 kk H ls hC hM hl
        | 42, _, hz0 =>
          refine lv_tableIn (tgt := 1252) (off := 1219) hx hb dL_law_33 h1 h2 (by rw [hz0]; rfl) (by decide) ?_
          exact lw_case_42 C s42 hJ g1 g2 g3 g4 g5 kk H ls hC hM hl
        | 43, _, hz0 =>
          refine lv_tableIn (tgt := 1275) (off := 1242) hx hb dL_law_33 h1 h2 (by rw [hz0]; rfl) (by decide) ?_
          exact lw_case_43 C s43 hJ g1 g2 g3 g4 g5 kk H ls hC hM hl
        | 44, _, hz0 =>
          refine lv_tableIn (tgt := 1298) (off := 1265) hx hb dL_law_33 h1 h2 (by rw [hz0]; rfl) (by decide) ?_
          exact lw_case_44 C s44 hJ g1 g2 g3 g4 g5 kk H ls hC hM hl
        | 45, _, hz0 =>
          refine lv_tableIn (tgt := 1321) (off := 1288) hx hb dL_law_33 h1 h2 (by rw [hz0]; rfl) (by decide) ?_
          exact lw_case_45 C s45 hJ g1 g2 g3 g4 g5 kk H ls hC hM hl
        | 46, _, hz0 =>
          refine lv_tableIn (tgt := 1344) (off := 1311) hx hb dL_law_33 h1 h2 (by rw [hz0]; rfl) (by decide) ?_
          exact lw_case_46 C s46 hJ g1 g2 g3 g4 g5 kk H ls hC hM hl
        | 47, _, hz0 =>
          refine lv_tableIn (tgt := 1367) (off := 1334) hx hb dL_law_33 h1 h2 (by rw [hz0]; rfl) (by decide) ?_
          exact lw_case_47 C s47 hJ g1 g2 g3 g4 g5 kk H ls hC hM hl
        | 48, _, hz0 =>
          refine lv_tableIn (tgt := 1390) (off := 1357) hx hb dL_law_33 h1 h2 (by rw [hz0]; rfl) (by decide) ?_
          exact lw_case_48 C s48 hJ g1 g2 g3 g4 g5 kk H ls hC hM hl
        | 49, _, hz0 =>
          refine lv_tableIn (tgt := 1413) (off := 1380) hx hb dL_law_33 h1 h2 (by rw [hz0]; rfl) (by decide) ?_
          exact lw_case_49 C s49 hJ g1 g2 g3 g4 g5 kk H ls hC hM hl
        | 50, _, hz0 =>
          refine lv_tableIn (tgt := 1436) (off := 1403) hx hb dL_law_33 h1 h2 (by rw [hz0]; rfl) (by decide) ?_
          exact lw_case_50 C s50 hJ g1 g2 g3 g4 g5 kk H ls hC hM hl
        | 51, _, hz0 =>
          refine lv_tableIn (tgt := 1459) (off := 1426) hx hb dL_law_33 h1 h2 (by rw [hz0]; rfl) (by decide) ?_
          exact lw_case_51 C s51 hJ g1 g2 g3 g4 g5 kk H ls hC hM hl
        | 52, _, hz0 =>
          refine lv_tableIn (tgt := 1482) (off := 1449) hx hb dL_law_33 h1 h2 (by rw [hz0]; rfl) (by decide) ?_
          exact lw_case_52 C s52 hJ g1 g2 g3 g4 g5 kk H ls hC hM hl
        | 53, _, hz0 =>
          refine lv_tableIn (tgt := 1515) (off := 1482) hx hb dL_law_33 h1 h2 (by rw [hz0]; rfl) (by decide) ?_
          exact lw_case_53 C s53 hJ g1 g2 g3 g4 g5 kk H ls hC hM hl
        | 54, _, hz0 =>
          refine lv_tableIn (tgt := 1568) (off := 1535) hx hb dL_law_33 h1 h2 (by rw [hz0]; rfl) (by decide) ?_
          exact lw_case_54 C s54 hJ g1 g2 g3 g4 g5 kk H ls hC hM hl
        | 55, _, hz0 =>
          refine lv_tableIn (tgt := 1591) (off := 1558) hx hb dL_law_33 h1 h2 (by rw [hz0]; rfl) (by decide) ?_
          exact lw_case_55 C s55 hJ g1 g2 g3 g4 g5 kk H ls hC hM hl
        | 56, _, hz0 =>
          refine lv_tableIn (tgt := 1604) (off := 1571) hx hb dL_law_33 h1 h2 (by rw [hz0]; rfl) (by decide) ?_
          exact lw_case_56 C s56 hJ g1 g2 g3 g4 g5 kk H ls hC hM hl
        | 57, _, hz0 =>
          refine lv_tableIn (tgt := 1647) (off := 1614) hx hb dL_law_33 h1 h2 (by rw [hz0]; rfl) (by decide) ?_
          exact lw_case_57 C s57 hJ g1 g2 g3 g4 g5 kk H ls hC hM hl
        | 58, _, hz0 =>
          refine lv_tableIn (tgt := 1690) (off := 1657) hx hb dL_law_33 h1 h2 (by rw [hz0]; rfl) (by decide) ?_
          exact lw_case_58 C s58 hJ g1 g2 g3 g4 g5 kk H ls hC hM hl
        | 59, _, hz0 =>
          refine lv_tableIn (tgt := 1723) (off := 1690) hx hb dL_law_33 h1 h2 (by rw [hz0]; rfl) (by decide) ?_
          exact lw_case_59 C s59 hJ g1 g2 g3 g4 g5 kk H ls hC hM hl
        | 60, _, hz0 =>
          refine lv_tableIn (tgt := 1756) (off := 1723) hx hb dL_law_33 h1 h2 (by rw [hz0]; rfl) (by decide) ?_
          exact lw_case_60 C s60 hJ g1 g2 g3 g4 g5 kk H ls hC hM hl
        | 61, _, hz0 =>
          refine lv_tableIn (tgt := 1789) (off := 1756) hx hb dL_law_33 h1 h2 (by rw [hz0]; rfl) (by decide) ?_
          exact lw_case_61 C s61 hJ g1 g2 g3 g4 g5 kk H ls hC hM hl
        | 62, _, hz0 =>
          refine lv_tableIn (tgt := 1802) (off := 1769) hx hb dL_law_33 h1 h2 (by rw [hz0]; rfl) (by decide) ?_
          exact lw_case_62 C s62 hJ g1 g2 g3 g4 g5 kk H ls hC hM hl
        | 63, _, hz0 =>
          refine lv_tableIn (tgt := 1815) (off := 1782) hx hb dL_law_33 h1 h2 (by rw [hz0]; rfl) (by decide) ?_
          exact lw_case_63 C s63 hJ g1 g2 g3 g4 g5 kk H ls hC hM hl
        | 64, _, hz0 =>
          refine lv_tableIn (tgt := 1848) (off := 1815) hx hb dL_law_33 h1 h2 (by rw [hz0]; rfl) (by decide) ?_
          exact lw_case_64 C s64 hJ g1 g2 g3 g4 g5 kk H ls hC hM hl
        | 65, _, hz0 =>
          refine lv_tableIn (tgt := 1891) (off := 1858) hx hb dL_law_33 h1 h2 (by rw [hz0]; rfl) (by decide) ?_
          exact lw_case_65 C s65 hJ g1 g2 g3 g4 g5 kk H ls hC hM hl
        | 66, _, hz0 =>
          refine lv_tableIn (tgt := 1924) (off := 1891) hx hb dL_law_33 h1 h2 (by rw [hz0]; rfl) (by decide) ?_
          exact lw_case_66 C s66 hJ g1 g2 g3 g4 g5 kk H ls hC hM hl
        | 67, _, hz0 =>
          refine lv_tableIn (tgt := 1947) (off := 1914) hx hb dL_law_33 h1 h2 (by rw [hz0]; rfl) (by decide) ?_
          exact lw_case_67 C s67 hJ g1 g2 g3 g4 g5 kk H ls hC hM hl
        | 68, _, hz0 =>
          refine lv_tableIn (tgt := 1970) (off := 1937) hx hb dL_law_33 h1 h2 (by rw [hz0]; rfl) (by decide) ?_
          exact lw_case_68 C s68 hJ g1 g2 g3 g4 g5 kk H ls hC hM hl
        | 69, _, hz0 =>
          refine lv_tableIn (tgt := 1993) (off := 1960) hx hb dL_law_33 h1 h2 (by rw [hz0]; rfl) (by decide) ?_
          exact lw_case_69 C s69 hJ g1 g2 g3 g4 g5 kk H ls hC hM hl
        | 70, _, hz0 =>
          refine lv_tableIn (tgt := 2036) (off := 2003) hx hb dL_law_33 h1 h2 (by rw [hz0]; rfl) (by decide) ?_
          exact lw_case_70 C s70 hJ g1 g2 g3 g4 g5 kk H ls hC hM hl
        | 71, _, hz0 =>
          refine lv_tableIn (tgt := 2109) (off := 2076) hx hb dL_law_33 h1 h2 (by rw [hz0]; rfl) (by decide) ?_
          exact lw_case_71 C s71 hJ g1 g2 g3 g4 g5 kk H ls hC hM hl
        | z + 72, hz, _ => exact absurd hz (by omega)
end
/-- an object made in an empty world -/
theorem lw_new0 {p : Program} {l : Launch} {e : Env} {R : Room} {s : State} {m : MethodId} {args : Array Value} {below : List Frame} {meth : Method} {c : Code} {H : Heap} {cells slots : Nat} {Q : State → Prop} {cc : ByteArray} {pc nL N0 : Nat} {ls : Array Slot} {rest : List Value} {own : String} {ret : Option FieldType} {D : va_G} {ct : Nat → ClassId} {ad : Nat → Nat} {A : Nat → Prop}
    {index ci N : Nat} {K : String} {T : u_T} {ty : Nat → FieldType} {ks : List Nat} (C : sn_C p s m args meth c own cc nL ret D ct ad [] A) (hE : sn_E0 ad A N0) (hz : H.size = N0) (hS : va_S A s.heap H [])
    (hc : vwCl[ci]? = some (K, T, N)) (hin : ∀ w ∈ u_ws K T N, w ∈ sn_gw) (hty : ∀ k, k < N → parseFieldDescriptor (T k).2.2.1 = some (ty k)) (w1 : Cond.classLink own index K ∈ sn_gw) (w2 : Cond.instantiable K N ∈ sn_gw) (w3 : Cond.initialized K ∈ sn_gw)
    (hfs : ∀ (ad : Nat → Nat) (q j : Nat), j < N → defaultValue (ty j) = vp_V (sn_fs ad sn_z q 0 ks) j) (hce : cells + 1 ≤ R.cells) (hsl : slots + N ≤ R.slots) (hd : decode cc pc = .ok (.new index, 3))
    (kk : ∀ (H1 : Heap), sn_C p s m args meth c own cc nL ret D ct ad [.inr (ci, ks)] A → sn_H s D ct ad [.inr (ci, ks)] A sn_z H1 [] → H1.size = N0 + 1 → (∀ q, q < H.size → H1[q]? = H[q]?) → W p l e R s m args below meth c H1 [] (cells + 1) (slots + N) Q (F0 m (pc + 3) ls (.ref (ad 0) :: rest))) :
    W p l e R s m args below meth c H [] cells slots Q (F0 m pc ls rest) := by
  have C2 := sn_C_lay (lay2 := [.inr (ci, ks)]) C hE (show 1 ≤ 200 by decide)
  obtain ⟨hx, hb, hml, hown, hts, hr, hlk, hK, hD, hG⟩ := C
  have hKn := hK.1 ci _ hc
  have e0 : ad 0 = N0 := by rw [hE.1 0 (by decide)]; rfl
  refine W.newcK hx hb hown (hts _ w1) (hts _ w2) (hts _ w3) rfl hd hce hsl hKn.2.1 hz fun H1 kC hkC e1 z1 o1 => ?_
  have h0 : sn_H s D ct ad [] A sn_z H [] := ⟨fun k q h => by simp [sn_W] at h, hS⟩
  rw [← e0]
  refine kk H1 C2 (sn_grow (lay := []) hE (by decide) (by rw [hz]; rfl) h0 ?_ (by rw [z1, hz]) (fun q hq => o1 q (by rw [← hz]; exact hq))) z1 (fun q hq => o1 q (by rw [← hz]; exact hq))
  rw [← e0] at e1
  exact ⟨_, hc, (u_born ty hts hin hKn hkC e1 hty).to (hfs ad 0)⟩
/-- a constructor called from the law -/
theorem lw_ctor {p : Program} {l : Launch} {e : Env} {R : Room} {s : State} {m : MethodId} {args : Array Value} {below : List Frame} {meth : Method} {c : Code} {H : Heap} {cells slots : Nat} {Q : State → Prop} {cc : ByteArray} {pc nL N0 : Nat} {ls : Array Slot} {own : String} {ret : Option FieldType} {D : va_G} {ct : Nat → ClassId} {ad : Nat → Nat} {A : Nat → Prop} {lay : List sn_E} {σ : sn_S}
    {index mL n q mc ms : Nat} {y : MethodName} {cy : ByteArray} {rm : Room} {As : (Nat → Nat) → List Value} {lay' : List sn_E} {τ : sn_S} {st0 : List Value} (rest : List Value) (C : sn_C p s m args meth c own cc nL ret D ct ad lay A) (hE : sn_E0 ad A N0) (hA : ∀ q, A q → s.heap.size ≤ q) (h : sn_H s D ct ad lay A σ H []) (hz : H.size = N0 + lay.length) (hO : sn_AO s)
    (hM : sn_MA l y cy mL rm lay lay' (fun ad => .ref (ad q) :: As ad) σ τ mc ms) (L1 : Cond.code y cy mL none ∈ sn_gw) (L2 : Cond.methodLink own index y ∈ sn_gw) (L3 : Cond.instanceMethod y ∈ sn_gw) (L4 : Cond.initialized y.cls ∈ sn_gw) (hyn : y.name = "<init>") (L5 : y.cls ≠ "java/lang/invoke/MethodHandle" ∧ y.cls ≠ "java/lang/invoke/VarHandle" ∧ (parseMethodDescriptor y.desc).map (fun d => d.parameters.length) = some n)
    (hR : sn_fitA rm R mL mc ms = true) (hn : (As ad).length = n) (hst : st0 = (As ad).reverse ++ .ref (ad q) :: rest) (hsum : sn_sum rest ≤ 8) (hd : decode cc pc = .ok (.invokespecial index, 3)) (hls : ls.size = nL) (hce : cells + mc ≤ R.cells) (hsl : slots + ms ≤ R.slots)
    (kk : ∀ (H1 : Heap), sn_H s D ct ad lay' A τ H1 [] → H.size ≤ H1.size → (∀ q, q < H.size → ¬ A q → H1[q]? = H[q]?) → W p l e R s m args below meth c H1 [] (cells + mc) (slots + ms) Q (F0 m (pc + 3) ls rest)) : W p l e R s m args below meth c H [] cells slots Q (F0 m pc ls st0) := by
  obtain ⟨hfit, hc0, hs0⟩ := sn_fitA_spec hR
  have C' := C
  obtain ⟨hx, hb, hml, hown, hts, hr, hlk, hK, hD, hG⟩ := C
  have hrun := va_runI (meth := meth) (l := l) (e := e) (R := R) (below := below) (H := H) (locs := []) (cells := cells) (slots := slots) (g := F0 m pc ls st0) (Ts := sn_gw) (As := As ad) (rest := rest) (n := n) ⟨hx, hb, hml, hown, hts⟩ (hM D ct ad A N0 hE) (cwI n hts (sn_good (sn_cg L1)) rfl hc0 hs0 (hts _ L4) (hts _ L2) (hts _ L3) hyn L5 hfit) (sn_preA C' h hz hO _) rfl hn hls hst (lv_room hsum) hd ⟨hce, hsl⟩
  intro T hT X
  obtain ⟨v', st₀, t, T', Lo, h0, X', hL, e1, e2, ⟨hv, hP, hzz, hk⟩, st⟩ := hrun T hT X
  cases hv
  rw [h0] at hzz hk
  obtain ⟨t2, a1, b1⟩ := kk T'.heap ⟨by rw [e1]; exact hP, Nat.le_trans h.2.1 (by rw [e1]; exact hzz), fun x h1 h2 => by rw [e1, hk x (Nat.lt_of_lt_of_le h1 h.2.1) h2]; exact h.2.2.1 x h1 h2, fun x hx1 => by cases hx1⟩ (by rw [e1]; exact hzz) (fun x h1 h2 => by rw [e1]; exact hk x h1 h2) T' rfl (Stand.forget (locs := []) X' (fun x hx1 => hA _ (hL x hx1)))
  exact ⟨t2, st t2 a1, b1⟩
theorem sn_W_ext {ct : Nat → ClassId} {ad : Nat → Nat} {σ : sn_S} : ∀ (l1 l2 : List sn_E) (j : Nat), l1.length = l2.length → (∀ k x y, l1[k]? = some x → l2[k]? = some y → sn_ev ct ad σ (j + k) x = sn_ev ct ad σ (j + k) y) → sn_W ct ad σ j l1 = sn_W ct ad σ j l2 := by
  intro l1
  induction l1 with
  | nil => intro l2 j h _; cases l2 with
    | nil => rfl
    | cons y r => simp at h
  | cons x r ih =>
    intro l2 j h hk
    cases l2 with
    | nil => simp at h
    | cons y r2 =>
      show (ad j, sn_ev ct ad σ j x) :: sn_W ct ad σ (j + 1) r = (ad j, sn_ev ct ad σ j y) :: sn_W ct ad σ (j + 1) r2
      rw [ih r2 (j + 1) (by simpa using h) (fun k a b h1 h2 => by
        have := hk (k + 1) a b (by simpa using h1) (by simpa using h2)
        rw [show j + 1 + k = j + (k + 1) by omega]
        exact this)]
      have := hk 0 x y rfl rfl
      rw [Nat.add_zero] at this
      rw [this]
theorem lw_dynX8 {ct : Nat → ClassId} {ad : Nat → Nat} : sn_W ct ad sn_iniX8 0 sn_dynX8 = sn_W ct ad sn_iniX8 0 layC := by
  refine sn_W_ext _ _ 0 rfl (fun k x y h1 h2 => ?_)
  match k, h1, h2 with
  | 0, h1, h2 => cases h1; cases h2; rfl
  | 1, h1, h2 => cases h1; cases h2; rfl
  | 2, h1, h2 => cases h1; cases h2; rfl
  | 3, h1, h2 => cases h1; cases h2; rfl
  | 4, h1, h2 => cases h1; cases h2; rfl
  | 5, h1, h2 => cases h1; cases h2; rfl
  | 6, h1, h2 => cases h1; cases h2; rfl
  | 7, h1, h2 => cases h1; cases h2; rfl
  | 8, h1, h2 => cases h1; cases h2; rfl
  | 9, h1, h2 => cases h1; cases h2; rfl
  | 10, h1, h2 => cases h1; cases h2; rfl
  | 11, h1, h2 => cases h1; cases h2; rfl
  | 12, h1, h2 => cases h1; cases h2; rfl
  | 13, h1, h2 => cases h1; cases h2; rfl
  | 14, h1, h2 => cases h1; cases h2; rfl
  | 15, h1, h2 =>
    cases h1
    cases h2
    refine congrArg (fun z => Sum.inl (ct 4, 3, Sum.inr (Sum.inr (Sum.inr (Sum.inr z))))) (funext fun j => ?_)
    match j with
    | 0 => rfl
    | 1 => rfl
    | 2 => rfl
    | j + 3 => rfl
  | 16, h1, h2 => cases h1; cases h2; rfl
  | 17, h1, h2 => cases h1; cases h2; rfl
  | 18, h1, h2 => cases h1; cases h2; rfl
  | 19, h1, h2 => cases h1; cases h2; rfl
  | 20, h1, h2 =>
    cases h1
    cases h2
    refine congrArg (fun z => Sum.inl (ct 5, 4, Sum.inr (Sum.inr (Sum.inr (Sum.inr z))))) (funext fun j => ?_)
    match j with
    | 0 => rfl
    | 1 => rfl
    | 2 => rfl
    | 3 => rfl
    | j + 4 => rfl
  | 21, h1, h2 => cases h1; cases h2; rfl
  | 22, h1, h2 => cases h1; cases h2; rfl
  | 23, h1, h2 => cases h1; cases h2; rfl
  | 24, h1, h2 => cases h1; cases h2; rfl
  | 25, h1, h2 => cases h1; cases h2; rfl
  | 26, h1, h2 => cases h1; cases h2; rfl
  | 27, h1, h2 => cases h1; cases h2; rfl
  | 28, h1, h2 => cases h1; cases h2; rfl
  | 29, h1, h2 => cases h1; cases h2; rfl
  | 30, h1, h2 => cases h1; cases h2; rfl
  | 31, h1, h2 => cases h1; cases h2; rfl
  | 32, h1, h2 => cases h1; cases h2; rfl
  | 33, h1, h2 => cases h1; cases h2; rfl
  | 34, h1, h2 => cases h1; cases h2; rfl
  | 35, h1, h2 => cases h1; cases h2; rfl
  | 36, h1, h2 => cases h1; cases h2; rfl
  | 37, h1, h2 => cases h1; cases h2; rfl
  | 38, h1, h2 => cases h1; cases h2; rfl
  | 39, h1, h2 => cases h1; cases h2; rfl
  | 40, h1, h2 => cases h1; cases h2; rfl
  | 41, h1, h2 => cases h1; cases h2; rfl
  | 42, h1, h2 => cases h1; cases h2; rfl
  | 43, h1, h2 => cases h1; cases h2; rfl
  | 44, h1, h2 => cases h1; cases h2; rfl
  | 45, h1, h2 => cases h1; cases h2; rfl
  | 46, h1, h2 => cases h1; cases h2; rfl
  | 47, h1, h2 => cases h1; cases h2; rfl
  | 48, h1, h2 => cases h1; cases h2; rfl
  | 49, h1, h2 => cases h1; cases h2; rfl
  | 50, h1, h2 => cases h1; cases h2; rfl
  | 51, h1, h2 => cases h1; cases h2; rfl
  | 52, h1, h2 => cases h1; cases h2; rfl
  | 53, h1, h2 => cases h1; cases h2; rfl
  | 54, h1, h2 => cases h1; cases h2; rfl
  | 55, h1, h2 => cases h1; cases h2; rfl
  | 56, h1, h2 => cases h1; cases h2; rfl
  | 57, h1, h2 => cases h1; cases h2; rfl
  | 58, h1, h2 => cases h1; cases h2; rfl
  | 59, h1, h2 => cases h1; cases h2; rfl
  | 60, h1, h2 => cases h1; cases h2; rfl
  | 61, h1, h2 => cases h1; cases h2; rfl
  | 62, h1, h2 => cases h1; cases h2; rfl
  | 63, h1, h2 => cases h1; cases h2; rfl
  | 64, h1, h2 => cases h1; cases h2; rfl
  | 65, h1, h2 => cases h1; cases h2; rfl
  | 66, h1, h2 => cases h1; cases h2; rfl
  | 67, h1, h2 => cases h1; cases h2; rfl
  | 68, h1, h2 => cases h1; cases h2; rfl
  | 69, h1, h2 => cases h1; cases h2; rfl
  | 70, h1, h2 => cases h1; cases h2; rfl
  | 71, h1, h2 => cases h1; cases h2; rfl
  | 72, h1, h2 => cases h1; cases h2; rfl
  | 73, h1, h2 => cases h1; cases h2; rfl
  | 74, h1, h2 => cases h1; cases h2; rfl
  | 75, h1, h2 => cases h1; cases h2; rfl
  | 76, h1, h2 => cases h1; cases h2; rfl
  | 77, h1, h2 => cases h1; cases h2; rfl
  | 78, h1, h2 => cases h1; cases h2; rfl
  | 79, h1, h2 => cases h1; cases h2; rfl
  | 80, h1, h2 => cases h1; cases h2; rfl
  | 81, h1, h2 => cases h1; cases h2; rfl
  | 82, h1, h2 => cases h1; cases h2; rfl
  | 83, h1, h2 => cases h1; cases h2; rfl
  | 84, h1, h2 => cases h1; cases h2; rfl
  | 85, h1, h2 => cases h1; cases h2; rfl
  | 86, h1, h2 => cases h1; cases h2; rfl
  | 87, h1, h2 => cases h1; cases h2; rfl
  | 88, h1, h2 => cases h1; cases h2; rfl
  | 89, h1, h2 => cases h1; cases h2; rfl
  | 90, h1, h2 => cases h1; cases h2; rfl
  | 91, h1, h2 => cases h1; cases h2; rfl
  | 92, h1, h2 => cases h1; cases h2; rfl
  | 93, h1, h2 => cases h1; cases h2; rfl
  | k + 94, h1, _ => simp [sn_dynX8] at h1
theorem lw_dynX9 {ct : Nat → ClassId} {ad : Nat → Nat} : sn_W ct ad sn_iniX9 0 sn_dynX9 = sn_W ct ad sn_iniX9 0 layM := by
  refine sn_W_ext _ _ 0 rfl (fun k x y h1 h2 => ?_)
  match k, h1, h2 with
  | 0, h1, h2 => cases h1; cases h2; rfl
  | 1, h1, h2 => cases h1; cases h2; rfl
  | 2, h1, h2 => cases h1; cases h2; rfl
  | 3, h1, h2 => cases h1; cases h2; rfl
  | 4, h1, h2 => cases h1; cases h2; rfl
  | 5, h1, h2 => cases h1; cases h2; rfl
  | 6, h1, h2 => cases h1; cases h2; rfl
  | 7, h1, h2 => cases h1; cases h2; rfl
  | 8, h1, h2 => cases h1; cases h2; rfl
  | 9, h1, h2 => cases h1; cases h2; rfl
  | 10, h1, h2 => cases h1; cases h2; rfl
  | 11, h1, h2 => cases h1; cases h2; rfl
  | 12, h1, h2 => cases h1; cases h2; rfl
  | 13, h1, h2 => cases h1; cases h2; rfl
  | 14, h1, h2 => cases h1; cases h2; rfl
  | 15, h1, h2 => cases h1; cases h2; rfl
  | 16, h1, h2 => cases h1; cases h2; rfl
  | 17, h1, h2 => cases h1; cases h2; rfl
  | 18, h1, h2 => cases h1; cases h2; rfl
  | 19, h1, h2 => cases h1; cases h2; rfl
  | 20, h1, h2 => cases h1; cases h2; rfl
  | 21, h1, h2 => cases h1; cases h2; rfl
  | 22, h1, h2 => cases h1; cases h2; rfl
  | 23, h1, h2 => cases h1; cases h2; rfl
  | 24, h1, h2 => cases h1; cases h2; rfl
  | k + 25, h1, _ => simp [sn_dynX9] at h1
theorem kcl_RL_7 : Cond.classLink RL 7 RX8 ∈ sn_gw := sn_gwI (List.mem_of_getElem? (i := 19) (by decide +kernel)) (by decide +kernel)
theorem kcl_RL_10 : Cond.classLink RL 10 RX9 ∈ sn_gw := sn_gwI (List.mem_of_getElem? (i := 1073) (by decide +kernel)) (by decide +kernel)
theorem km_RL_9 : Cond.methodLink RL 9 yX8_init ∈ sn_gw := sn_gwI (List.mem_of_getElem? (i := 21) (by decide +kernel)) (by decide +kernel)
theorem km_RL_12 : Cond.methodLink RL 12 yX9_init ∈ sn_gw := sn_gwI (List.mem_of_getElem? (i := 1075) (by decide +kernel)) (by decide +kernel)
theorem kc_X8_init : Cond.code yX8_init cX8_init 2 none ∈ sn_gw := sn_gwI (List.mem_of_getElem? (i := 23) (by decide +kernel)) (by decide +kernel)
theorem kc_X9_init : Cond.code yX9_init cX9_init 1 none ∈ sn_gw := sn_gwI (List.mem_of_getElem? (i := 1077) (by decide +kernel)) (by decide +kernel)
theorem kin_X8_init : Cond.instanceMethod yX8_init ∈ sn_gw := sn_gwI (List.mem_of_getElem? (i := 22) (by decide +kernel)) (by decide +kernel)
theorem kin_X9_init : Cond.instanceMethod yX9_init ∈ sn_gw := sn_gwI (List.mem_of_getElem? (i := 1076) (by decide +kernel)) (by decide +kernel)
theorem kiz8 : Cond.initialized RX8 ∈ sn_gw := sn_gwI (List.mem_of_getElem? (i := 1) (by decide +kernel)) (by decide +kernel)
theorem kiz9 : Cond.initialized RX9 ∈ sn_gw := sn_gwI (List.mem_of_getElem? (i := 11) (by decide +kernel)) (by decide +kernel)
set_option maxHeartbeats 4000000 in
/-- the law from its entry, given that class and reference go step by step -/
theorem whole_start_open (hpure : ∃ J : Nat → sn_S → sn_S → Prop, J 0 sn_iniX8 sn_iniX9 ∧ (∀ k, k + 6 ≤ 3072 → st_all (J k) (J (k + 6))) ∧ ∀ k, k + 6 ≤ 3072 → ∀ σ τ, J k σ τ → J (k + 6) σ τ) {p : Program} {e : Env} {s : State} {m : MethodId} {below : List Frame} {meth : Method} {c : Code} (l : Launch) {b L : Nat} {xs : Nat → Int32} (hL : L ≤ 3072) (C0 : lw_At p s m meth c b L xs) : W p l e room_1 s m #[Value.ref b] below meth c s.heap [] 0 0 (lw_Z below #[Value.ref b] s) (entryFrame m ([Value.ref b] : List Value).toArray 4) := by
  obtain ⟨J, hJ0, hst, hdf⟩ := hpure
  obtain ⟨hx, hb, hr, hml, hown, hts, hX, hbl, hlocks, hgv⟩ := id C0
  have htg : ∀ w ∈ sn_gw, w.before #[Value.ref b] s = true := fun w hw => hts w (List.mem_filter.mp hw).1
  have hO : sn_AO s := by
    have q1 := hts (.arrayOver (.object "PepperPolicy$House")) (List.mem_append_right _ (List.mem_of_getElem? (i := 67) (by decide +kernel)))
    have q2 := hts (.arrayOver (.array .long)) (List.mem_append_right _ (List.mem_of_getElem? (i := 110) (by decide +kernel)))
    refine ⟨?_, ?_⟩
    · unfold Cond.before Cond.holds at q1 ⊢
      simp only [Cond.value] at q1 ⊢
      exact q1
    · unfold Cond.before Cond.holds at q2 ⊢
      simp only [Cond.value] at q2 ⊢
      exact q2
  obtain ⟨D, ct, hK⟩ := lw_Kn htg hO
  obtain ⟨aK, aV, hbg⟩ := lw_bg hts hgv
  have hE1 : ∀ N0, sn_E0 (lw_ad N0 aK aV) (fun q => N0 ≤ q) N0 := fun N0 => ⟨fun k hk => if_pos (by omega), fun q h => h⟩
  have hA0 : ∀ q : Nat, (fun q : Nat => s.heap.size ≤ q) q → s.heap.size ≤ q := fun q h => h
  have hC00 : sn_C p s m #[Value.ref b] meth c RL cL_law 4 (some .boolean) D ct (lw_ad s.heap.size aK aV) [] (fun q => s.heap.size ≤ q) := ⟨hx, hb, hml, hown, htg, hr, hlocks, hK, sn_D_of (hE1 _) (by decide), hbg _ _ hA0⟩
  have hl := lv_entry ([.ref b]) (n := 4) (Nat.le_of_ble_eq_true rfl)
  rw [lg_entry_eq]
  generalize (lg_sl ([.ref b]) ++ List.replicate (4 - (lg_sl ([.ref b])).length) Slot.unset).toArray = ls at hl ⊢
  have hl : lv_has ls 4 [(0, .ref b)] := hl
  refine lw_new0 (ci := 8) (ks := [2, 2, 2, 2, 2, 2, 2, 2, 2, 2, 2, 2]) hC00 (hE1 _) rfl va_S.rf rfl ug_X8 tyX8_ok kcl_RL_7 kiz_X8 kiz8 sn_dfX8 (Nat.le_of_ble_eq_true rfl) (Nat.le_of_ble_eq_true rfl) dL_law_0 (fun H1 C1 h1 z1 o1 => ?_)
  refine lv_dup hx hb dL_law_3 rfl ?_
  refine lw_ctor (As := fun _ => []) (q := 0) (lay' := sn_dynX8) (τ := sn_iniX8) (mc := 93) (ms := 3910) (n := 0) [.ref (lw_ad s.heap.size aK aV 0)] C1 (hE1 _) hA0 h1 z1 hO (ctX8_init l) kc_X8_init km_RL_9 kin_X8_init kiz8 rfl (by decide +kernel) rfl rfl rfl (Nat.le_of_ble_eq_true rfl) dL_law_4 hl.1 (Nat.le_of_ble_eq_true rfl) (Nat.le_of_ble_eq_true rfl) (fun H2 h2 z2 o2 => ?_)
  refine lv_astore_n (lv' := [(1, .ref (lw_ad s.heap.size aK aV 0)), (0, .ref b)]) hx hb dL_law_7 rfl hl (by decide) rfl (fun ls hl => ?_)
  -- the second object: its places begin where the heap ends
  generalize hN1 : H2.size = N1
  have hge : s.heap.size + 94 ≤ N1 := by
    have h3 := (h2.1 93 _ (sn_W_get (lay := sn_dynX8) 0 (q := 93) (x := .inl (0, 120, 0, [])) rfl)).lt
    have h4 : lw_ad s.heap.size aK aV (0 + 93) < H2.size := h3
    rw [(hE1 s.heap.size).1 _ (by decide)] at h4
    omega
  have hAM : ∀ q : Nat, (fun q : Nat => N1 ≤ q) q → s.heap.size ≤ q := fun q h => Nat.le_trans (by omega) h
  have hM00 : sn_C p s m #[Value.ref b] meth c RL cL_law 4 (some .boolean) D ct (lw_ad N1 aK aV) [] (fun q => N1 ≤ q) := ⟨hx, hb, hml, hown, htg, hr, hlocks, hK, sn_D_of (hE1 _) (by decide), hbg _ _ hAM⟩
  have hold2 : ∀ x, x < s.heap.size → H2[x]? = s.heap[x]? := fun x hx1 => h2.2.2.1 x hx1 (fun z => absurd (show s.heap.size ≤ x from z) (by omega))
  refine lw_new0 (ci := 9) (ks := [0, 2, 2, 2, 2, 0, 2, 0, 0, 0, 0, 0, 0, 0, 2, 2, 2, 2, 0, 0, 0, 0, 0, 2, 2, 2, 2, 2, 2, 2, 0, 0, 2, 2, 2, 2, 0, 0, 1, 1, 1, 1, 2, 2, 2, 2]) hM00 (hE1 _) hN1 ⟨by omega, fun q q1 _ => hold2 q q1, fun q hq => by cases hq⟩ rfl ug_X9 tyX9_ok kcl_RL_10 kiz_X9 kiz9 sn_dfX9 (Nat.le_of_ble_eq_true rfl) (Nat.le_of_ble_eq_true rfl) dL_law_8 (fun H3 C3 h3 z3 o3 => ?_)
  refine lv_dup hx hb dL_law_11 rfl ?_
  refine lw_ctor (As := fun _ => []) (q := 0) (lay' := sn_dynX9) (τ := sn_iniX9) (mc := 24) (ms := 6103) (n := 0) [.ref (lw_ad N1 aK aV 0)] C3 (hE1 _) hAM h3 z3 hO (ctX9_init l) kc_X9_init km_RL_12 kin_X9_init kiz9 rfl (by decide +kernel) rfl rfl rfl (Nat.le_of_ble_eq_true rfl) dL_law_12 hl.1 (Nat.le_of_ble_eq_true rfl) (Nat.le_of_ble_eq_true rfl) (fun H4 h4 z4 o4 => ?_)
  refine lv_astore_n (lv' := [(2, .ref (lw_ad N1 aK aV 0)), (1, .ref (lw_ad s.heap.size aK aV 0)), (0, .ref b)]) hx hb dL_law_15 rfl hl (by decide) rfl (fun ls hl => ?_)
  refine lv_iconst (v := 0) hx hb dL_law_16 rfl ?_
  refine lv_istore_n (lv' := [(3, .int 0), (2, .ref (lw_ad N1 aK aV 0)), (1, .ref (lw_ad s.heap.size aK aV 0)), (0, .ref b)]) hx hb dL_law_17 rfl hl (by decide) rfl (fun ls hl => ?_)
  refine W.widen (k := 600000) (n := 7302250) (Nat.le_of_ble_eq_true rfl) (Nat.le_of_ble_eq_true rfl) ?_
  have hold4 : ∀ x, x < s.heap.size → H4[x]? = s.heap[x]? := fun x hx1 => h4.2.2.1 x hx1 (fun z => absurd (show N1 ≤ x from z) (by omega))
  have hk24 : ∀ x, x < H2.size → H4[x]? = H2[x]? := fun x hx1 => by
    rw [o4 x (by omega) (fun z => absurd (show N1 ≤ x from z) (by omega)), o3 x hx1]
  have hPC : va_P D vwCl (sn_W ct (lw_ad s.heap.size aK aV) sn_iniX8 0 layC) H4 := by
    rw [← lw_dynX8]
    exact h2.1.kept (fun k q hq => hk24 q.1 ((h2.1 k q hq).lt))
  have hPM : va_P D vwCl (sn_W ct (lw_ad N1 aK aV) sn_iniX9 0 layM) H4 := by
    rw [← lw_dynX9]
    exact h4.1
  have hDC : ∀ σ, va_D (fun q => s.heap.size ≤ q ∧ q < s.heap.size + 94) (sn_W ct (lw_ad s.heap.size aK aV) σ 0 layC) := fun σ => by
    have h5 := sn_D_of (ct := ct) (lay := layC) (hE1 s.heap.size) (by decide) σ
    refine ⟨h5.1, fun k q hq => ?_⟩
    obtain ⟨q1, q2⟩ := sn_W_at layC 0 k q hq
    have q3 : k < 94 := q1
    rw [Nat.zero_add, (hE1 s.heap.size).1 k (by omega)] at q2
    exact ⟨by omega, by omega⟩
  have hDM : ∀ σ, va_D (fun q => N1 ≤ q) (sn_W ct (lw_ad N1 aK aV) σ 0 layM) := sn_D_of (hE1 N1) (by decide)
  have hLC : lw_C p s m #[Value.ref b] meth c b L xs D ct (lw_ad s.heap.size aK aV) (lw_ad N1 aK aV) (fun q => s.heap.size ≤ q ∧ q < s.heap.size + 94) (fun q => N1 ≤ q) :=
    ⟨⟨hx, hb, hml, hown, htg, hr, hlocks, hK, hDC, hbg _ _ (fun q h => h.1)⟩, ⟨hx, hb, hml, hown, htg, hr, hlocks, hK, hDM, hbg _ _ hAM⟩, fun q h => h.1, hAM, fun q h z => absurd (show N1 ≤ q from z) (by omega), hX, hbl⟩
  exact lw_loop hLC hL (fun k hk => hst k (Nat.le_trans hk hL)) (fun k hk => hdf k (Nat.le_trans hk hL)) (fun H ls => lw_ret hx hb hr hlocks dL_law_2179) (L + 7) 0 _ _ 0 hJ0 nI_0.symm (by omega) (by omega) H4 ls ⟨hPC, by have := h4.2.1; omega, fun q h _ => hold4 q h, fun q hq => by cases hq⟩ ⟨hPM, h4.2.1, fun q h _ => hold4 q h, fun q hq => by cases hq⟩ (lv_sub hl [3, 2, 1, 0] rfl)
end
