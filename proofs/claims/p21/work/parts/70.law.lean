/-! THE CLAIM OUT OF ONE WALK OF THE LAW'S BODY. Your part is whole_start (and what it stands on); all else here is the same for every law, but numbers. -/
def R_law : String := "PepperPolicyLaw"
def lw_P (b : Addr) (xs : List Int32) (args : Array Value) (s : State) : Prop := args = #[.ref b] ∧ s.IntsAt b xs ∧ xs.length ≤ 3072 ∧ (Jvm.Cond.and given_1 narrow_1).before args s = true
def lw_Q (_ : Array Value) (s : State) (o : Outcome) (t : State) : Prop := o = .returned (some (.int 1)) ∧ Framed s o t [] 600000 7302250
def lw_Z (below : List Frame) (a : Array Value) (s : State) : State → Prop := fun t => ∃ o, t.status = .running ∧ Ended t below o ∧ lw_Q a s o t
/-- the law's own end, with 1 on the stack, nothing written that was there before, its room as the claim has it -/
theorem lw_ret {p : Program} {l : Launch} {e : Env} {s : State} {m : MethodId} {below : List Frame} {meth : Method} {c : Code} {b : Nat} (hx : p.tables.exec = Jvm.exec) (hb : c.code = code) (hr : meth.sig.returnType = ret) (hlocks : meth.locks = false) {pc : Nat} {H : Heap} {ls : Array Slot} (hdg : decode code pc = .ok (.ireturn, 1)) : W p l e room_1 s m #[Value.ref b] below meth c H [] 600000 7302250 (lw_Z below #[Value.ref b] s) (F0 m pc ls [.int 1]) := by
  intro T hT X
  obtain ⟨fs, hret, hrun, hended, hW, hframe⟩ := X.leave (v := some (.int 1)) (hlocks := hlocks) (fun h => by rw [hr] at h; cases h)
  have hmeth' : T.vm.method? m = some meth := X.method'
  refine ⟨T.setFrames fs, ?_, .returned (some (.int 1)), hrun, hended, rfl, ⟨_, rfl⟩, hW, hframe⟩
  jvm_step X.here [X.here.top, hx, hb, hdg, hmeth', hr, ret, narrow_b1]
  (try refine ⟨rfl, ?_⟩); (try refine ⟨rfl, ?_⟩)
  first | (intro acts; rw [hret _ acts rfl rfl rfl]) | rw [hret _ _ rfl rfl rfl]
  exact Steps.refl _
/-- what holds at the law's entry: the machine, the code, the tables' words (any of lw_tbl by 'hts w (by decide +kernel)'), the script of L ints xs at the cell b, what the Statement gives of the start (any of its parts by flat_of_before) -/
def lw_At (p : Program) (s : State) (m : MethodId) (meth : Method) (c : Code) (b L : Nat) (xs : Nat → Int32) : Prop :=
  p.tables.exec = Jvm.exec ∧ c.code = code ∧ meth.sig.returnType = ret ∧ c.maxLocals = 4 ∧ s.vm.findClass R_law = some m.cls ∧ (∀ w ∈ lw_tbl, w.before #[Value.ref b] s = true) ∧ va_X b L xs s s.heap ∧ b < s.heap.size ∧ meth.locks = false ∧ (Jvm.Cond.and given_1 narrow_1).before #[Value.ref b] s = true
section LW
variable {p : Program} {l : Launch} {e : Env} {R : Room} {s : State} {m : MethodId} {args : Array Value} {below : List Frame} {meth : Method} {c : Code} {H : Heap} {cells slots : Nat} {Q : State → Prop}
variable {cc : ByteArray} {pc nL : Nat} {ls : Array Slot} {own : String} {ret : Option FieldType} {D : va_G} {ct : Nat → ClassId} {adX adY : Nat → Nat} {layX layY : List sn_E} {AX AY : Nat → Prop} {σ τ : sn_S}
/-- a call from the law: the one world goes on, the other stays -/
theorem lw_call {index mL n q ci : Nat} {y : MethodName} {cy : ByteArray} {ry : Option FieldType} {rm : Room} {As : (Nat → Nat) → List Value} {v : Option ((Nat → Nat) → Value)} {σ' : sn_S} {st0 : List Value} {fs : List Nat} {kT : u_T} {kN : Nat} (rest : List Value)
    (C : sn_C p s m args meth c own cc nL ret D ct adX layX AX) (hX : ∀ q, AX q → s.heap.size ≤ q) (hdis : ∀ q, AY q → ¬ AX q) (hDY : ∀ σ, va_D AY (sn_W ct adY σ 0 layY)) (h : sn_H s D ct adX layX AX σ H []) (h2 : sn_H s D ct adY layY AY τ H [])
    (hM : sn_M l y cy mL ry rm layX (fun ad => .ref (ad q) :: As ad) σ v σ') (L : sn_LV own index y cy mL ry n) (hq : layX[q]? = some (.inr (ci, fs))) (hc : vwCl[ci]? = some (y.cls, kT, kN)) (hR : sn_fit rm R mL = true) (hn : (As adX).length = n)
    (hst : st0 = (As adX).reverse ++ .ref (adX q) :: rest) (hsum : sn_sum rest ≤ 8) (hd : decode cc pc = .ok (.invokevirtual index, 3)) (hls : ls.size = nL) (hce : cells ≤ R.cells) (hsl : slots ≤ R.slots)
    (kk : ∀ (H : Heap), sn_H s D ct adX layX AX σ' H [] → sn_H s D ct adY layY AY τ H [] → W p l e R s m args below meth c H [] cells slots Q (F0 m (pc + 3) ls ((v.map fun f => f adX).toList ++ rest))) : W p l e R s m args below meth c H [] cells slots Q (F0 m pc ls st0) := by
  obtain ⟨hfit, hc0, hs0⟩ := sn_fit_spec hR
  have C' := C
  obtain ⟨hx, hb, hml, hown, hts, hr, hlk, hK, hD, hG⟩ := C
  have hg := sn_W_get (ct := ct) (ad := adX) (σ := σ) 0 hq
  rw [Nat.zero_add] at hg
  have hrun := va_runV (meth := meth) (l := l) (e := e) (R := R) (below := below) (H := H) (locs := []) (cells := cells) (slots := slots) (g := F0 m pc ls st0) (Ts := sn_gw) (As := As adX) (rest := rest) (n := n) ⟨hx, hb, hml, hown, hts⟩ (hM D ct adX AX) (cwV n hts (sn_good L.1) rfl hc0 hs0 ⟨rfl, L.2⟩ hfit) ⟨(sn_pre C' h _).1, va_recv hK h.1 hc hg, (sn_pre C' h _).2⟩ rfl hn hls hst (lv_room hsum) hd ⟨hce, hsl⟩
  intro T hT X
  obtain ⟨v', st₀, t, T', Lo, h0, X', hL, e1, e2, ⟨hv, hP, hz, hk⟩, st⟩ := hrun T hT X
  cases hv
  rw [h0] at hz hk
  have hold : ∀ x, x < s.heap.size → t.heap[x]? = s.heap[x]? := fun x hx1 => by
    rw [hk x (Nat.lt_of_lt_of_le hx1 h.2.1) (fun z => absurd (hX x z) (by omega))]
    exact h.2.2.1 x hx1 (fun z => absurd (hX x z) (by omega))
  have hsz : s.heap.size ≤ T'.heap.size := Nat.le_trans h.2.1 (by rw [e1]; exact hz)
  obtain ⟨t2, a1, b1⟩ := kk T'.heap ⟨by rw [e1]; exact hP, hsz, fun x h1 _ => by rw [e1]; exact hold x h1, fun x hx1 => by cases hx1⟩
    ⟨by rw [e1]; exact h2.1.kept (fun k x hx1 => hk x.1 ((h2.1 k x hx1).lt) (hdis _ ((hDY τ).2 k x hx1))), hsz, fun x h1 _ => by rw [e1]; exact hold x h1, fun x hx1 => by cases hx1⟩ T' rfl (Stand.forget (locs := []) X' (fun x hx1 => hX _ (hL x hx1)))
  exact ⟨t2, st t2 a1, b1⟩
end LW
def lw_C (p : Program) (s : State) (m : MethodId) (args : Array Value) (meth : Method) (c : Code) (b L : Nat) (xs : Nat → Int32) (D : va_G) (ct : Nat → ClassId) (adC adM : Nat → Nat) (AC AM : Nat → Prop) : Prop :=
  sn_C p s m args meth c RL cL_law 4 (some .boolean) D ct adC layC AC ∧ sn_C p s m args meth c RL cL_law 4 (some .boolean) D ct adM layM AM ∧ (∀ q, AC q → s.heap.size ≤ q) ∧ (∀ q, AM q → s.heap.size ≤ q) ∧ (∀ q, AC q → ¬ AM q) ∧ va_X b L xs s s.heap ∧ b < s.heap.size
def lw_LAt (p : Program) (l : Launch) (e : Env) (s : State) (m : MethodId) (args : Array Value) (below : List Frame) (meth : Method) (c : Code) (Q : State → Prop) (D : va_G) (ct : Nat → ClassId) (adC adM : Nat → Nat) (AC AM : Nat → Prop) (σ τ : sn_S) (pc : Nat) (lv : List (Nat × Value)) (st : List Value) : Prop :=
  ∀ (H : Heap) (ls : Array Slot), sn_H s D ct adC layC AC σ H [] → sn_H s D ct adM layM AM τ H [] → lv_has ls 4 lv → W p l e room_1 s m args below meth c H [] 600000 7302250 Q (F0 m pc ls st)
theorem lw_cmp0 (r : Int64) : lg_cmp r r = 0 := by
  unfold lg_cmp
  simp
def st_0 (J J2 : sn_S → sn_S → Prop) : Prop := ∀ (σ τ : sn_S) (a0 : Int32) (a1 : Int32) (a2 : Int32) (a3 : Int32) (a4 : Int32), J σ τ → ∃ (r r2 : Int32) (σ1 : sn_S) (τ1 : sn_S), fX8_feed σ a0 a1 a2 a3 a4 = some (r, σ1) ∧ fX9_feed τ a0 a1 a2 a3 a4 = some (r2, τ1) ∧ J2 σ1 τ1
def st_1 (J J2 : sn_S → sn_S → Prop) : Prop := ∀ (σ τ : sn_S) (a0 : Int32), J σ τ → ∃ (r r2 : Int32) (σ1 : sn_S) (τ1 : sn_S), fX8_end σ a0 = some (r, σ1) ∧ fX9_end τ a0 = some (r2, τ1) ∧ J2 σ1 τ1
def st_2 (J J2 : sn_S → sn_S → Prop) : Prop := ∀ (σ τ : sn_S), J σ τ → ∃ (r r2 : Int32) (σ1 : sn_S) (τ1 : sn_S), fX8_house σ = some (r, σ1) ∧ fX9_house τ = some (r2, τ1) ∧ J2 σ1 τ1
def st_3 (J J2 : sn_S → sn_S → Prop) : Prop := ∀ (σ τ : sn_S) (a0 : Int32), J σ τ → ∃ (r r2 : Int32), fX8_fault σ a0 = some r ∧ fX9_fault τ a0 = some r2 ∧ J2 σ τ
def st_4 (J J2 : sn_S → sn_S → Prop) : Prop := ∀ (σ τ : sn_S) (a0 : Int32) (a1 : Int32), J σ τ → ∃ (r r2 : Int32), fX8_nose σ a0 a1 = some r ∧ fX9_nose τ a0 a1 = some r2 ∧ J2 σ τ
def st_5 (J J2 : sn_S → sn_S → Prop) : Prop := ∀ (σ τ : sn_S) (a0 : Int32) (a1 : Int32), J σ τ → ∃ (r r2 : Int32), fX8_policy σ a0 a1 = some r ∧ fX9_policy τ a0 a1 = some r2 ∧ J2 σ τ
def st_6 (J J2 : sn_S → sn_S → Prop) : Prop := ∀ (σ τ : sn_S) (a0 : Int32), J σ τ → ∃ (r r2 : Int32) (τ1 : sn_S), fX8_beside σ a0 = some r ∧ fX9_beside τ a0 = some (r2, τ1) ∧ J2 σ τ1
def st_7 (J J2 : sn_S → sn_S → Prop) : Prop := ∀ (σ τ : sn_S) (a0 : Int32), J σ τ → ∃ (r r2 : Int32) (τ1 : sn_S), fX8_dust σ a0 = some r ∧ fX9_dust τ a0 = some (r2, τ1) ∧ J2 σ τ1
def st_8 (J J2 : sn_S → sn_S → Prop) : Prop := ∀ (σ τ : sn_S) (a0 : Int32), J σ τ → ∃ (r r2 : Int32) (τ1 : sn_S), fX8_sneezes σ a0 = some r ∧ fX9_sneezes τ a0 = some (r2, τ1) ∧ J2 σ τ1
def st_9 (J J2 : sn_S → sn_S → Prop) : Prop := ∀ (σ τ : sn_S) (a0 : Int32), J σ τ → ∃ (r r2 : Int32) (τ1 : sn_S), fX8_first σ a0 = some r ∧ fX9_first τ a0 = some (r2, τ1) ∧ J2 σ τ1
def st_10 (J J2 : sn_S → sn_S → Prop) : Prop := ∀ (σ τ : sn_S), J σ τ → ∃ (r r2 : Int32) (τ1 : sn_S), fX8_all σ = some r ∧ fX9_all τ = some (r2, τ1) ∧ J2 σ τ1
def st_11 (J J2 : sn_S → sn_S → Prop) : Prop := ∀ (σ τ : sn_S) (a0 : Int32), J σ τ → ∃ (r r2 : Int32) (τ1 : sn_S), fX8_who σ a0 = some r ∧ fX9_who τ a0 = some (r2, τ1) ∧ J2 σ τ1
def st_12 (J J2 : sn_S → sn_S → Prop) : Prop := ∀ (σ τ : sn_S) (a0 : Int32) (a1 : Int32), J σ τ → ∃ (r r2 : Int32) (τ1 : sn_S), fX8_tickle σ a0 a1 = some r ∧ fX9_tickle τ a0 a1 = some (r2, τ1) ∧ J2 σ τ1
def st_13 (J J2 : sn_S → sn_S → Prop) : Prop := ∀ (σ τ : sn_S) (a0 : Int32), J σ τ → ∃ (r r2 : Int32) (τ1 : sn_S), fX8_itch σ a0 = some r ∧ fX9_itch τ a0 = some (r2, τ1) ∧ J2 σ τ1
def st_14 (J J2 : sn_S → sn_S → Prop) : Prop := ∀ (σ τ : sn_S) (a0 : Int32), J σ τ → ∃ (r r2 : Int32) (τ1 : sn_S), fX8_caught σ a0 = some r ∧ fX9_caught τ a0 = some (r2, τ1) ∧ J2 σ τ1
def st_15 (J J2 : sn_S → sn_S → Prop) : Prop := ∀ (σ τ : sn_S) (a0 : Int32), J σ τ → ∃ (r r2 : Int32) (τ1 : sn_S), fX8_gave σ a0 = some r ∧ fX9_gave τ a0 = some (r2, τ1) ∧ J2 σ τ1
def st_16 (J J2 : sn_S → sn_S → Prop) : Prop := ∀ (σ τ : sn_S), J σ τ → ∃ (r r2 : Int32) (τ1 : sn_S), fX8_worst σ = some r ∧ fX9_worst τ = some (r2, τ1) ∧ J2 σ τ1
def st_17 (J J2 : sn_S → sn_S → Prop) : Prop := ∀ (σ τ : sn_S), J σ τ → ∃ (r r2 : Int32) (τ1 : sn_S), fX8_chorus σ = some r ∧ fX9_chorus τ = some (r2, τ1) ∧ J2 σ τ1
def st_18 (J J2 : sn_S → sn_S → Prop) : Prop := ∀ (σ τ : sn_S), J σ τ → ∃ (r r2 : Int32) (τ1 : sn_S), fX8_calm σ = some r ∧ fX9_calm τ = some (r2, τ1) ∧ J2 σ τ1
def st_19 (J J2 : sn_S → sn_S → Prop) : Prop := ∀ (σ τ : sn_S) (a0 : Int32), J σ τ → ∃ (r : Int32) (τ1 : sn_S), fX8_pause σ a0 = some r ∧ fX9_pause τ a0 = some (r, τ1) ∧ J2 σ τ1
def st_20 (J J2 : sn_S → sn_S → Prop) : Prop := ∀ (σ τ : sn_S) (a0 : Int32) (a1 : Int32), J σ τ → ∃ (r r2 : Int32) (τ1 : sn_S), fX8_later σ a0 a1 = some r ∧ fX9_later τ a0 a1 = some (r2, τ1) ∧ J2 σ τ1
def st_21 (J J2 : sn_S → sn_S → Prop) : Prop := ∀ (σ τ : sn_S) (a0 : Int32), J σ τ → ∃ (r r2 : Int32) (τ1 : sn_S), fX8_covered σ a0 = some r ∧ fX9_covered τ a0 = some (r2, τ1) ∧ J2 σ τ1
def st_22 (J J2 : sn_S → sn_S → Prop) : Prop := ∀ (σ τ : sn_S), J σ τ → ∃ (r r2 : Int32) (τ1 : sn_S), fX8_naked σ = some r ∧ fX9_naked τ = some (r2, τ1) ∧ J2 σ τ1
def st_23 (J J2 : sn_S → sn_S → Prop) : Prop := ∀ (σ τ : sn_S) (a0 : Int32), J σ τ → ∃ (r r2 : Int32) (τ1 : sn_S), fX8_covers σ a0 = some r ∧ fX9_covers τ a0 = some (r2, τ1) ∧ J2 σ τ1
def st_24 (J J2 : sn_S → sn_S → Prop) : Prop := ∀ (σ τ : sn_S) (a0 : Int32), J σ τ → ∃ (r r2 : Int32) (σ1 : sn_S) (τ1 : sn_S), fX8_profit σ a0 = some (r, σ1) ∧ fX9_profit τ a0 = some (r2, τ1) ∧ J2 σ1 τ1
def st_25 (J J2 : sn_S → sn_S → Prop) : Prop := ∀ (σ τ : sn_S), J σ τ → ∃ (r r2 : Int32) (σ1 : sn_S) (τ1 : sn_S), fX8_lowest σ = some (r, σ1) ∧ fX9_lowest τ = some (r2, τ1) ∧ J2 σ1 τ1
def st_26 (J J2 : sn_S → sn_S → Prop) : Prop := ∀ (σ τ : sn_S) (a0 : Int32), J σ τ → ∃ (r r2 : Int32) (σ1 : sn_S) (τ1 : sn_S), fX8_dull σ a0 = some (r, σ1) ∧ fX9_dull τ a0 = some (r2, τ1) ∧ J2 σ1 τ1
def st_27 (J J2 : sn_S → sn_S → Prop) : Prop := ∀ (σ τ : sn_S) (a0 : Int32), J σ τ → ∃ (r r2 : Int32) (σ1 : sn_S) (τ1 : sn_S), fX8_bears σ a0 = some (r, σ1) ∧ fX9_bears τ a0 = some (r2, τ1) ∧ J2 σ1 τ1
def st_28 (J J2 : sn_S → sn_S → Prop) : Prop := ∀ (σ τ : sn_S), J σ τ → ∃ (r r2 : Int32) (σ1 : sn_S) (τ1 : sn_S), fX8_clean σ = some (r, σ1) ∧ fX9_clean τ = some (r2, τ1) ∧ J2 σ1 τ1
def st_29 (J J2 : sn_S → sn_S → Prop) : Prop := ∀ (σ τ : sn_S) (a0 : Int32), J σ τ → ∃ (r r2 : Int32) (σ1 : sn_S) (τ1 : sn_S), fX8_spreads σ a0 = some (r, σ1) ∧ fX9_spreads τ a0 = some (r2, τ1) ∧ J2 σ1 τ1
def st_30 (J J2 : sn_S → sn_S → Prop) : Prop := ∀ (σ τ : sn_S) (a0 : Int32), J σ τ → ∃ (r r2 : Int32) (τ1 : sn_S), fX8_web σ a0 = some r ∧ fX9_web τ a0 = some (r2, τ1) ∧ J2 σ τ1
def st_31 (J J2 : sn_S → sn_S → Prop) : Prop := ∀ (σ τ : sn_S) (a0 : Int32), J σ τ → ∃ (r r2 : Int32) (σ1 : sn_S) (τ1 : sn_S), fX8_claim σ a0 = some (r, σ1) ∧ fX9_claim τ a0 = some (r2, τ1) ∧ J2 σ1 τ1
def st_32 (J J2 : sn_S → sn_S → Prop) : Prop := ∀ (σ τ : sn_S) (a0 : Int32), J σ τ → ∃ (r r2 : Int32) (σ1 : sn_S) (τ1 : sn_S), fX8_paid σ a0 = some (r, σ1) ∧ fX9_paid τ a0 = some (r2, τ1) ∧ J2 σ1 τ1
def st_33 (J J2 : sn_S → sn_S → Prop) : Prop := ∀ (σ τ : sn_S), J σ τ → ∃ (r r2 : Int32) (σ1 : sn_S) (τ1 : sn_S), fX8_claims σ = some (r, σ1) ∧ fX9_claims τ = some (r2, τ1) ∧ J2 σ1 τ1
def st_34 (J J2 : sn_S → sn_S → Prop) : Prop := ∀ (σ τ : sn_S) (a0 : Int32), J σ τ → ∃ (r r2 : Int32) (σ1 : sn_S) (τ1 : sn_S), fX8_money σ a0 = some (r, σ1) ∧ fX9_money τ a0 = some (r2, τ1) ∧ J2 σ1 τ1
def st_35 (J J2 : sn_S → sn_S → Prop) : Prop := ∀ (σ τ : sn_S), J σ τ → ∃ (r r2 : Int32) (σ1 : sn_S) (τ1 : sn_S), fX8_ruin σ = some (r, σ1) ∧ fX9_ruin τ = some (r2, τ1) ∧ J2 σ1 τ1
def st_36 (J J2 : sn_S → sn_S → Prop) : Prop := ∀ (σ τ : sn_S), J σ τ → ∃ (r r2 : Int32) (σ1 : sn_S) (τ1 : sn_S), fX8_dear σ = some (r, σ1) ∧ fX9_dear τ = some (r2, τ1) ∧ J2 σ1 τ1
def st_37 (J J2 : sn_S → sn_S → Prop) : Prop := ∀ (σ τ : sn_S), J σ τ → ∃ (r r2 : Int32) (σ1 : sn_S) (τ1 : sn_S), fX8_reserve σ = some (r, σ1) ∧ fX9_reserve τ = some (r2, τ1) ∧ J2 σ1 τ1
def st_38 (J J2 : sn_S → sn_S → Prop) : Prop := ∀ (σ τ : sn_S) (a0 : Int32), J σ τ → ∃ (r r2 : Int32) (σ1 : sn_S) (τ1 : sn_S), fX8_by σ a0 = some (r, σ1) ∧ fX9_by τ a0 = some (r2, τ1) ∧ J2 σ1 τ1
def st_39 (J J2 : sn_S → sn_S → Prop) : Prop := ∀ (σ τ : sn_S), J σ τ → ∃ (r r2 : Int32) (σ1 : sn_S) (τ1 : sn_S), fX8_law σ = some (r, σ1) ∧ fX9_law τ = some (r2, τ1) ∧ J2 σ1 τ1
def st_40 (J J2 : sn_S → sn_S → Prop) : Prop := ∀ (σ τ : sn_S) (a0 : Int32), J σ τ → ∃ (r r2 : Int32) (τ1 : sn_S), fX8_takes σ a0 = some r ∧ fX9_takes_ τ a0 = some (r2, τ1) ∧ J2 σ τ1
def st_41 (J J2 : sn_S → sn_S → Prop) : Prop := ∀ (σ τ : sn_S) (a0 : Int32), J σ τ → ∃ (r r2 : Int32) (τ1 : sn_S), fX8_gains σ a0 = some r ∧ fX9_gains τ a0 = some (r2, τ1) ∧ J2 σ τ1
def st_42 (J J2 : sn_S → sn_S → Prop) : Prop := ∀ (σ τ : sn_S) (a0 : Int32), J σ τ → ∃ (r r2 : Int32) (τ1 : sn_S), fX8_price σ a0 = some r ∧ fX9_price τ a0 = some (r2, τ1) ∧ J2 σ τ1
def st_43 (J J2 : sn_S → sn_S → Prop) : Prop := ∀ (σ τ : sn_S) (a0 : Int32), J σ τ → ∃ (r r2 : Int32) (σ1 : sn_S) (τ1 : sn_S), fX8_hold σ a0 = some (r, σ1) ∧ fX9_hold τ a0 = some (r2, τ1) ∧ J2 σ1 τ1
def st_44 (J J2 : sn_S → sn_S → Prop) : Prop := ∀ (σ τ : sn_S) (a0 : Int32), J σ τ → ∃ (r r2 : Int32) (σ1 : sn_S) (τ1 : sn_S), fX8_holds σ a0 = some (r, σ1) ∧ fX9_holds τ a0 = some (r2, τ1) ∧ J2 σ1 τ1
def st_45 (J J2 : sn_S → sn_S → Prop) : Prop := ∀ (σ τ : sn_S) (a0 : Int32), J σ τ → ∃ (r r2 : Int32) (σ1 : sn_S) (τ1 : sn_S), fX8_snuff σ a0 = some (r, σ1) ∧ fX9_snuff τ a0 = some (r2, τ1) ∧ J2 σ1 τ1
def st_46 (J J2 : sn_S → sn_S → Prop) : Prop := ∀ (σ τ : sn_S) (a0 : Int32), J σ τ → ∃ (r r2 : Int32) (σ1 : sn_S) (τ1 : sn_S), fX8_frauds σ a0 = some (r, σ1) ∧ fX9_frauds τ a0 = some (r2, τ1) ∧ J2 σ1 τ1
def st_47 (J J2 : sn_S → sn_S → Prop) : Prop := ∀ (σ τ : sn_S) (a0 : Int32), J σ τ → ∃ (r r2 : Int32) (σ1 : sn_S) (τ1 : sn_S), fX8_which σ a0 = some (r, σ1) ∧ fX9_which τ a0 = some (r2, τ1) ∧ J2 σ1 τ1
def st_48 (J J2 : sn_S → sn_S → Prop) : Prop := ∀ (σ τ : sn_S) (a0 : Int32), J σ τ → ∃ (r r2 : Int32) (σ1 : sn_S) (τ1 : sn_S), fX8_when σ a0 = some (r, σ1) ∧ fX9_when τ a0 = some (r2, τ1) ∧ J2 σ1 τ1
def st_49 (J J2 : sn_S → sn_S → Prop) : Prop := ∀ (σ τ : sn_S) (a0 : Int32), J σ τ → ∃ (r r2 : Int32) (σ1 : sn_S) (τ1 : sn_S), fX8_gust σ a0 = some (r, σ1) ∧ fX9_gust τ a0 = some (r2, τ1) ∧ J2 σ1 τ1
def st_50 (J J2 : sn_S → sn_S → Prop) : Prop := ∀ (σ τ : sn_S) (a0 : Int32), J σ τ → ∃ (r r2 : Int32) (σ1 : sn_S) (τ1 : sn_S), fX8_ask σ a0 = some (r, σ1) ∧ fX9_ask τ a0 = some (r2, τ1) ∧ J2 σ1 τ1
def st_51 (J J2 : sn_S → sn_S → Prop) : Prop := ∀ (σ τ : sn_S) (a0 : Int32), J σ τ → ∃ (r r2 : Int32) (σ1 : sn_S) (τ1 : sn_S), fX8_leaves σ a0 = some (r, σ1) ∧ fX9_leaves τ a0 = some (r2, τ1) ∧ J2 σ1 τ1
def st_52 (J J2 : sn_S → sn_S → Prop) : Prop := ∀ (σ τ : sn_S) (a0 : Int32) (a1 : Int32), J σ τ → ∃ (r r2 : Int32) (σ1 : sn_S) (τ1 : sn_S), fX8_rests σ a0 a1 = some (r, σ1) ∧ fX9_rests τ a0 a1 = some (r2, τ1) ∧ J2 σ1 τ1
def st_53 (J J2 : sn_S → sn_S → Prop) : Prop := ∀ (σ τ : sn_S) (a0 : Int32) (a1 : Int32) (a2 : Int32) (a3 : Int32), J σ τ → ∃ (r r2 : Int32) (σ1 : sn_S) (τ1 : sn_S), fX8_loses σ a0 a1 a2 a3 = some (r, σ1) ∧ fX9_loses τ a0 a1 a2 a3 = some (r2, τ1) ∧ J2 σ1 τ1
def st_54 (J J2 : sn_S → sn_S → Prop) : Prop := ∀ (σ τ : sn_S) (a0 : Int32), J σ τ → ∃ (r r2 : Int32) (σ1 : sn_S) (τ1 : sn_S), fX8_cut σ a0 = some (r, σ1) ∧ fX9_cut τ a0 = some (r2, τ1) ∧ J2 σ1 τ1
def st_55 (J J2 : sn_S → sn_S → Prop) : Prop := ∀ (σ τ : sn_S), J σ τ → ∃ (r r2 : Int32) (σ1 : sn_S) (τ1 : sn_S), fX8_cuts σ = some (r, σ1) ∧ fX9_cuts τ = some (r2, τ1) ∧ J2 σ1 τ1
def st_56 (J J2 : sn_S → sn_S → Prop) : Prop := ∀ (σ τ : sn_S) (a0 : Int32) (a1 : Int32) (a2 : Int32), J σ τ → ∃ (r r2 : Int64) (σ1 : sn_S) (τ1 : sn_S), fX8_chance σ a0 a1 a2 = some (r, σ1) ∧ fX9_chance τ a0 a1 a2 = some (r2, τ1) ∧ J2 σ1 τ1
def st_57 (J J2 : sn_S → sn_S → Prop) : Prop := ∀ (σ τ : sn_S) (a0 : Int32) (a1 : Int32) (a2 : Int32), J σ τ → ∃ (r r2 : Int64) (σ1 : sn_S) (τ1 : sn_S), fX8_fair σ a0 a1 a2 = some (r, σ1) ∧ fX9_fair τ a0 a1 a2 = some (r2, τ1) ∧ J2 σ1 τ1
def st_58 (J J2 : sn_S → sn_S → Prop) : Prop := ∀ (σ τ : sn_S) (a0 : Int32) (a1 : Int32), J σ τ → ∃ (r r2 : Int64) (σ1 : sn_S) (τ1 : sn_S), fX8_risk σ a0 a1 = some (r, σ1) ∧ fX9_risk τ a0 a1 = some (r2, τ1) ∧ J2 σ1 τ1
def st_59 (J J2 : sn_S → sn_S → Prop) : Prop := ∀ (σ τ : sn_S) (a0 : Int32) (a1 : Int32), J σ τ → ∃ (r r2 : Int32) (σ1 : sn_S) (τ1 : sn_S), fX8_stifle σ a0 a1 = some (r, σ1) ∧ fX9_stifle τ a0 a1 = some (r2, τ1) ∧ J2 σ1 τ1
def st_60 (J J2 : sn_S → sn_S → Prop) : Prop := ∀ (σ τ : sn_S) (a0 : Int32) (a1 : Int32), J σ τ → ∃ (r r2 : Int32) (σ1 : sn_S) (τ1 : sn_S), fX8_sniff σ a0 a1 = some (r, σ1) ∧ fX9_sniff τ a0 a1 = some (r2, τ1) ∧ J2 σ1 τ1
def st_61 (J J2 : sn_S → sn_S → Prop) : Prop := ∀ (σ τ : sn_S), J σ τ → ∃ (r r2 : Int32) (σ1 : sn_S) (τ1 : sn_S), fX8_undo σ = some (r, σ1) ∧ fX9_undo τ = some (r2, τ1) ∧ J2 σ1 τ1
def st_62 (J J2 : sn_S → sn_S → Prop) : Prop := ∀ (σ τ : sn_S), J σ τ → ∃ (r r2 : Int32) (σ1 : sn_S) (τ1 : sn_S), fX8_anew σ = some (r, σ1) ∧ fX9_anew τ = some (r2, τ1) ∧ J2 σ1 τ1
def st_63 (J J2 : sn_S → sn_S → Prop) : Prop := ∀ (σ τ : sn_S) (a0 : Int32) (a1 : Int32), J σ τ → ∃ (r r2 : Int32) (σ1 : sn_S) (τ1 : sn_S), fX8_drawn σ a0 a1 = some (r, σ1) ∧ fX9_drawn τ a0 a1 = some (r2, τ1) ∧ J2 σ1 τ1
def st_64 (J J2 : sn_S → sn_S → Prop) : Prop := ∀ (σ τ : sn_S) (a0 : Int32) (a1 : Int32) (a2 : Int32), J σ τ → ∃ (r r2 : Int32) (σ1 : sn_S) (τ1 : sn_S), fX8_luck σ a0 a1 a2 = some (r, σ1) ∧ fX9_luck τ a0 a1 a2 = some (r2, τ1) ∧ J2 σ1 τ1
def st_65 (J J2 : sn_S → sn_S → Prop) : Prop := ∀ (σ τ : sn_S) (a0 : Int32) (a1 : Int32), J σ τ → ∃ (r r2 : Int32) (σ1 : sn_S) (τ1 : sn_S), fX8_rate σ a0 a1 = some (r, σ1) ∧ fX9_rate τ a0 a1 = some (r2, τ1) ∧ J2 σ1 τ1
def st_66 (J J2 : sn_S → sn_S → Prop) : Prop := ∀ (σ τ : sn_S) (a0 : Int32), J σ τ → ∃ (r r2 : Int32), fX8_count σ a0 = some r ∧ fX9_count τ a0 = some r2 ∧ J2 σ τ
def st_67 (J J2 : sn_S → sn_S → Prop) : Prop := ∀ (σ τ : sn_S) (a0 : Int32), J σ τ → ∃ (r r2 : Int32) (σ1 : sn_S) (τ1 : sn_S), fX8_image σ a0 = some (r, σ1) ∧ fX9_image τ a0 = some (r2, τ1) ∧ J2 σ1 τ1
def st_68 (J J2 : sn_S → sn_S → Prop) : Prop := ∀ (σ τ : sn_S) (a0 : Int32), J σ τ → ∃ (r r2 : Int32) (σ1 : sn_S) (τ1 : sn_S), fX8_back σ a0 = some (r, σ1) ∧ fX9_back τ a0 = some (r2, τ1) ∧ J2 σ1 τ1
def st_69 (J J2 : sn_S → sn_S → Prop) : Prop := ∀ (σ τ : sn_S) (a0 : Int32) (a1 : Int32) (a2 : Int32), J σ τ → ∃ (r r2 : Int32) (σ1 : sn_S) (τ1 : sn_S), fX8_row σ a0 a1 a2 = some (r, σ1) ∧ fX9_row τ a0 a1 a2 = some (r2, τ1) ∧ J2 σ1 τ1
def st_70 (J J2 : sn_S → sn_S → Prop) : Prop := ∀ (σ τ : sn_S) (a0 : Int32) (a1 : Int32) (a2 : Int64), J σ τ → ∃ (r r2 : Int32) (σ1 : sn_S) (τ1 : sn_S), fX8_write σ a0 a1 a2 = some (r, σ1) ∧ fX9_write τ a0 a1 a2 = some (r2, τ1) ∧ J2 σ1 τ1
def st_71 (J J2 : sn_S → sn_S → Prop) : Prop := ∀ (σ τ : sn_S) (a0 : Int32) (a1 : Int32) (a2 : Int32) (a3 : Int32) (a4 : Int32), J σ τ → ∃ (r r2 : Int32) (σ1 : sn_S) (τ1 : sn_S), fX8_paste σ a0 a1 a2 a3 a4 = some (r, σ1) ∧ fX9_paste τ a0 a1 a2 a3 a4 = some (r2, τ1) ∧ J2 σ1 τ1
section
variable {p : Program} {l : Launch} {e : Env} {s : State} {m : MethodId} {args : Array Value} {below : List Frame} {meth : Method} {c : Code} {Q : State → Prop} {D : va_G} {ct : Nat → ClassId} {adC adM : Nat → Nat} {AC AM : Nat → Prop} {b L : Nat} {xs : Nat → Int32}
theorem lw_case_0 (C : lw_C p s m args meth c b L xs D ct adC adM AC AM) {J J2 : sn_S → sn_S → Prop} (hs : st_0 J J2) {σ τ : sn_S} (hJ : J σ τ) {i : Int32} (g1 : vp_in (i + 1) L) (g2 : vp_in (i + 2) L) (g3 : vp_in (i + 3) L) (g4 : vp_in (i + 4) L) (g5 : vp_in (i + 5) L) (kk : ∀ σ τ, J2 σ τ → lw_LAt p l e s m args below meth c Q D ct adC adM AC AM σ τ 2172 [(0, .ref b), (1, .ref (adC 0)), (2, .ref (adM 0)), (3, .int i)] []) : lw_LAt p l e s m args below meth c Q D ct adC adM AC AM σ τ 336 [(0, .ref b), (1, .ref (adC 0)), (2, .ref (adM 0)), (3, .int i)] [] := by
  intro H ls hC hM hl
  have hx := C.1.1
  have hb := C.1.2.1
  have hX := C.2.2.2.2.2.1
  have hbl := C.2.2.2.2.2.2
  have hbA : ¬ AC b := fun z => absurd (C.2.2.1 b z) (by omega)
  refine lv_aload_n hx hb dL_law_336 rfl (lv_at hl 1 rfl) ?_
  refine lv_aload_n hx hb dL_law_337 rfl (lv_at hl 0 rfl) ?_
  refine lv_iload_n hx hb dL_law_338 rfl (lv_at hl 3 rfl) ?_
  refine lv_iconst (v := 1) hx hb dL_law_339 rfl ?_
  refine lv_iadd hx hb dL_law_340 ?_
  refine va_sld hx hb hX hbl hbA hC.2 g1 dL_law_341 ?_
  refine lv_aload_n hx hb dL_law_342 rfl (lv_at hl 0 rfl) ?_
  refine lv_iload_n hx hb dL_law_343 rfl (lv_at hl 3 rfl) ?_
  refine lv_iconst (v := 2) hx hb dL_law_344 rfl ?_
  refine lv_iadd hx hb dL_law_345 ?_
  refine va_sld hx hb hX hbl hbA hC.2 g2 dL_law_346 ?_
  refine lv_aload_n hx hb dL_law_347 rfl (lv_at hl 0 rfl) ?_
  refine lv_iload_n hx hb dL_law_348 rfl (lv_at hl 3 rfl) ?_
  refine lv_iconst (v := 3) hx hb dL_law_349 rfl ?_
  refine lv_iadd hx hb dL_law_350 ?_
  refine va_sld hx hb hX hbl hbA hC.2 g3 dL_law_351 ?_
  refine lv_aload_n hx hb dL_law_352 rfl (lv_at hl 0 rfl) ?_
  refine lv_iload_n hx hb dL_law_353 rfl (lv_at hl 3 rfl) ?_
  refine lv_iconst (v := 4) hx hb dL_law_354 rfl ?_
  refine lv_iadd hx hb dL_law_355 ?_
  refine va_sld hx hb hX hbl hbA hC.2 g4 dL_law_356 ?_
  refine lv_aload_n hx hb dL_law_357 rfl (lv_at hl 0 rfl) ?_
  refine lv_iload_n hx hb dL_law_358 rfl (lv_at hl 3 rfl) ?_
  refine lv_iconst (v := 5) hx hb dL_law_359 rfl ?_
  refine lv_iadd hx hb dL_law_360 ?_
  refine va_sld hx hb hX hbl hbA hC.2 g5 dL_law_361 ?_
  obtain ⟨r, r2, σ1, τ1, hf1, hf2, hJ1⟩ := hs σ τ (xs (i + 1).toNatClampNeg) (xs (i + 2).toNatClampNeg) (xs (i + 3).toNatClampNeg) (xs (i + 4).toNatClampNeg) (xs (i + 5).toNatClampNeg) hJ
  refine lw_call (rest := []) C.1 C.2.2.1 (fun q z1 z2 => C.2.2.2.2.1 q z2 z1) C.2.1.2.2.2.2.2.2.2.2.1 hC hM (ctX8_feed l hf1) kl_RL_13 layC_0 rfl rfl rfl rfl (Nat.le_of_ble_eq_true rfl) dL_law_362 hl.1 (Nat.le_refl _) (Nat.le_refl _) (fun H hC hM => ?_)
  refine lv_pop hx hb dL_law_365 rfl ?_
  refine lv_aload_n hx hb dL_law_366 rfl (lv_at hl 2 rfl) ?_
  refine lv_aload_n hx hb dL_law_367 rfl (lv_at hl 0 rfl) ?_
  refine lv_iload_n hx hb dL_law_368 rfl (lv_at hl 3 rfl) ?_
  refine lv_iconst (v := 1) hx hb dL_law_369 rfl ?_
  refine lv_iadd hx hb dL_law_370 ?_
  refine va_sld hx hb hX hbl hbA hC.2 g1 dL_law_371 ?_
  refine lv_aload_n hx hb dL_law_372 rfl (lv_at hl 0 rfl) ?_
  refine lv_iload_n hx hb dL_law_373 rfl (lv_at hl 3 rfl) ?_
  refine lv_iconst (v := 2) hx hb dL_law_374 rfl ?_
  refine lv_iadd hx hb dL_law_375 ?_
  refine va_sld hx hb hX hbl hbA hC.2 g2 dL_law_376 ?_
  refine lv_aload_n hx hb dL_law_377 rfl (lv_at hl 0 rfl) ?_
  refine lv_iload_n hx hb dL_law_378 rfl (lv_at hl 3 rfl) ?_
  refine lv_iconst (v := 3) hx hb dL_law_379 rfl ?_
  refine lv_iadd hx hb dL_law_380 ?_
  refine va_sld hx hb hX hbl hbA hC.2 g3 dL_law_381 ?_
  refine lv_aload_n hx hb dL_law_382 rfl (lv_at hl 0 rfl) ?_
  refine lv_iload_n hx hb dL_law_383 rfl (lv_at hl 3 rfl) ?_
  refine lv_iconst (v := 4) hx hb dL_law_384 rfl ?_
  refine lv_iadd hx hb dL_law_385 ?_
  refine va_sld hx hb hX hbl hbA hC.2 g4 dL_law_386 ?_
  refine lv_aload_n hx hb dL_law_387 rfl (lv_at hl 0 rfl) ?_
  refine lv_iload_n hx hb dL_law_388 rfl (lv_at hl 3 rfl) ?_
  refine lv_iconst (v := 5) hx hb dL_law_389 rfl ?_
  refine lv_iadd hx hb dL_law_390 ?_
  refine va_sld hx hb hX hbl hbA hC.2 g5 dL_law_391 ?_
  refine lw_call (rest := []) C.2.1 C.2.2.2.1 C.2.2.2.2.1 C.1.2.2.2.2.2.2.2.2.1 hM hC (ctX9_feed l hf2) kl_RL_17 layM_0 rfl rfl rfl rfl (Nat.le_of_ble_eq_true rfl) dL_law_392 hl.1 (Nat.le_refl _) (Nat.le_refl _) (fun H hM hC => ?_)
  refine lv_pop hx hb dL_law_395 rfl ?_
  refine lv_goto (tgt := 2172) hx hb dL_law_396 (by decide) ?_
  exact kk σ1 τ1 hJ1 H ls hC hM (lv_sub hl [0, 1, 2, 3] rfl)
theorem lw_case_1 (C : lw_C p s m args meth c b L xs D ct adC adM AC AM) {J J2 : sn_S → sn_S → Prop} (hs : st_1 J J2) {σ τ : sn_S} (hJ : J σ τ) {i : Int32} (g1 : vp_in (i + 1) L) (g2 : vp_in (i + 2) L) (g3 : vp_in (i + 3) L) (g4 : vp_in (i + 4) L) (g5 : vp_in (i + 5) L) (kk : ∀ σ τ, J2 σ τ → lw_LAt p l e s m args below meth c Q D ct adC adM AC AM σ τ 2172 [(0, .ref b), (1, .ref (adC 0)), (2, .ref (adM 0)), (3, .int i)] []) : lw_LAt p l e s m args below meth c Q D ct adC adM AC AM σ τ 399 [(0, .ref b), (1, .ref (adC 0)), (2, .ref (adM 0)), (3, .int i)] [] := by
  intro H ls hC hM hl
  have hx := C.1.1
  have hb := C.1.2.1
  have hX := C.2.2.2.2.2.1
  have hbl := C.2.2.2.2.2.2
  have hbA : ¬ AC b := fun z => absurd (C.2.2.1 b z) (by omega)
  refine lv_aload_n hx hb dL_law_399 rfl (lv_at hl 1 rfl) ?_
  refine lv_aload_n hx hb dL_law_400 rfl (lv_at hl 0 rfl) ?_
  refine lv_iload_n hx hb dL_law_401 rfl (lv_at hl 3 rfl) ?_
  refine lv_iconst (v := 1) hx hb dL_law_402 rfl ?_
  refine lv_iadd hx hb dL_law_403 ?_
  refine va_sld hx hb hX hbl hbA hC.2 g1 dL_law_404 ?_
  obtain ⟨r, r2, σ1, τ1, hf1, hf2, hJ1⟩ := hs σ τ (xs (i + 1).toNatClampNeg) hJ
  refine lw_call (rest := []) C.1 C.2.2.1 (fun q z1 z2 => C.2.2.2.2.1 q z2 z1) C.2.1.2.2.2.2.2.2.2.2.1 hC hM (ctX8_end l hf1) kl_RL_18 layC_0 rfl rfl rfl rfl (Nat.le_of_ble_eq_true rfl) dL_law_405 hl.1 (Nat.le_refl _) (Nat.le_refl _) (fun H hC hM => ?_)
  refine lv_pop hx hb dL_law_408 rfl ?_
  refine lv_aload_n hx hb dL_law_409 rfl (lv_at hl 2 rfl) ?_
  refine lv_aload_n hx hb dL_law_410 rfl (lv_at hl 0 rfl) ?_
  refine lv_iload_n hx hb dL_law_411 rfl (lv_at hl 3 rfl) ?_
  refine lv_iconst (v := 1) hx hb dL_law_412 rfl ?_
  refine lv_iadd hx hb dL_law_413 ?_
  refine va_sld hx hb hX hbl hbA hC.2 g1 dL_law_414 ?_
  refine lw_call (rest := []) C.2.1 C.2.2.2.1 C.2.2.2.2.1 C.1.2.2.2.2.2.2.2.2.1 hM hC (ctX9_end l hf2) kl_RL_22 layM_0 rfl rfl rfl rfl (Nat.le_of_ble_eq_true rfl) dL_law_415 hl.1 (Nat.le_refl _) (Nat.le_refl _) (fun H hM hC => ?_)
  refine lv_pop hx hb dL_law_418 rfl ?_
  refine lv_goto (tgt := 2172) hx hb dL_law_419 (by decide) ?_
  exact kk σ1 τ1 hJ1 H ls hC hM (lv_sub hl [0, 1, 2, 3] rfl)
theorem lw_case_2 (C : lw_C p s m args meth c b L xs D ct adC adM AC AM) {J J2 : sn_S → sn_S → Prop} (hs : st_2 J J2) {σ τ : sn_S} (hJ : J σ τ) {i : Int32} (g1 : vp_in (i + 1) L) (g2 : vp_in (i + 2) L) (g3 : vp_in (i + 3) L) (g4 : vp_in (i + 4) L) (g5 : vp_in (i + 5) L) (kk : ∀ σ τ, J2 σ τ → lw_LAt p l e s m args below meth c Q D ct adC adM AC AM σ τ 2172 [(0, .ref b), (1, .ref (adC 0)), (2, .ref (adM 0)), (3, .int i)] []) : lw_LAt p l e s m args below meth c Q D ct adC adM AC AM σ τ 422 [(0, .ref b), (1, .ref (adC 0)), (2, .ref (adM 0)), (3, .int i)] [] := by
  intro H ls hC hM hl
  have hx := C.1.1
  have hb := C.1.2.1
  have hX := C.2.2.2.2.2.1
  have hbl := C.2.2.2.2.2.2
  have hbA : ¬ AC b := fun z => absurd (C.2.2.1 b z) (by omega)
  refine lv_aload_n hx hb dL_law_422 rfl (lv_at hl 1 rfl) ?_
  obtain ⟨r, r2, σ1, τ1, hf1, hf2, hJ1⟩ := hs σ τ  hJ
  refine lw_call (rest := []) C.1 C.2.2.1 (fun q z1 z2 => C.2.2.2.2.1 q z2 z1) C.2.1.2.2.2.2.2.2.2.2.1 hC hM (ctX8_house l hf1) kl_RL_23 layC_0 rfl rfl rfl rfl (Nat.le_of_ble_eq_true rfl) dL_law_423 hl.1 (Nat.le_refl _) (Nat.le_refl _) (fun H hC hM => ?_)
  refine lv_pop hx hb dL_law_426 rfl ?_
  refine lv_aload_n hx hb dL_law_427 rfl (lv_at hl 2 rfl) ?_
  refine lw_call (rest := []) C.2.1 C.2.2.2.1 C.2.2.2.2.1 C.1.2.2.2.2.2.2.2.2.1 hM hC (ctX9_house l hf2) kl_RL_27 layM_0 rfl rfl rfl rfl (Nat.le_of_ble_eq_true rfl) dL_law_428 hl.1 (Nat.le_refl _) (Nat.le_refl _) (fun H hM hC => ?_)
  refine lv_pop hx hb dL_law_431 rfl ?_
  refine lv_goto (tgt := 2172) hx hb dL_law_432 (by decide) ?_
  exact kk σ1 τ1 hJ1 H ls hC hM (lv_sub hl [0, 1, 2, 3] rfl)
theorem lw_case_3 (C : lw_C p s m args meth c b L xs D ct adC adM AC AM) {J J2 : sn_S → sn_S → Prop} (hs : st_3 J J2) {σ τ : sn_S} (hJ : J σ τ) {i : Int32} (g1 : vp_in (i + 1) L) (g2 : vp_in (i + 2) L) (g3 : vp_in (i + 3) L) (g4 : vp_in (i + 4) L) (g5 : vp_in (i + 5) L) (kk : ∀ σ τ, J2 σ τ → lw_LAt p l e s m args below meth c Q D ct adC adM AC AM σ τ 2172 [(0, .ref b), (1, .ref (adC 0)), (2, .ref (adM 0)), (3, .int i)] []) : lw_LAt p l e s m args below meth c Q D ct adC adM AC AM σ τ 435 [(0, .ref b), (1, .ref (adC 0)), (2, .ref (adM 0)), (3, .int i)] [] := by
  intro H ls hC hM hl
  have hx := C.1.1
  have hb := C.1.2.1
  have hX := C.2.2.2.2.2.1
  have hbl := C.2.2.2.2.2.2
  have hbA : ¬ AC b := fun z => absurd (C.2.2.1 b z) (by omega)
  refine lv_aload_n hx hb dL_law_435 rfl (lv_at hl 1 rfl) ?_
  refine lv_aload_n hx hb dL_law_436 rfl (lv_at hl 0 rfl) ?_
  refine lv_iload_n hx hb dL_law_437 rfl (lv_at hl 3 rfl) ?_
  refine lv_iconst (v := 1) hx hb dL_law_438 rfl ?_
  refine lv_iadd hx hb dL_law_439 ?_
  refine va_sld hx hb hX hbl hbA hC.2 g1 dL_law_440 ?_
  obtain ⟨r, r2, hf1, hf2, hJ1⟩ := hs σ τ (xs (i + 1).toNatClampNeg) hJ
  refine lw_call (rest := []) C.1 C.2.2.1 (fun q z1 z2 => C.2.2.2.2.1 q z2 z1) C.2.1.2.2.2.2.2.2.2.2.1 hC hM (ctX8_fault l hf1) kl_RL_28 layC_0 rfl rfl rfl rfl (Nat.le_of_ble_eq_true rfl) dL_law_441 hl.1 (Nat.le_refl _) (Nat.le_refl _) (fun H hC hM => ?_)
  refine lv_pop hx hb dL_law_444 rfl ?_
  refine lv_aload_n hx hb dL_law_445 rfl (lv_at hl 2 rfl) ?_
  refine lv_aload_n hx hb dL_law_446 rfl (lv_at hl 0 rfl) ?_
  refine lv_iload_n hx hb dL_law_447 rfl (lv_at hl 3 rfl) ?_
  refine lv_iconst (v := 1) hx hb dL_law_448 rfl ?_
  refine lv_iadd hx hb dL_law_449 ?_
  refine va_sld hx hb hX hbl hbA hC.2 g1 dL_law_450 ?_
  refine lw_call (rest := []) C.2.1 C.2.2.2.1 C.2.2.2.2.1 C.1.2.2.2.2.2.2.2.2.1 hM hC (ctX9_fault l hf2) kl_RL_31 layM_0 rfl rfl rfl rfl (Nat.le_of_ble_eq_true rfl) dL_law_451 hl.1 (Nat.le_refl _) (Nat.le_refl _) (fun H hM hC => ?_)
  refine lv_pop hx hb dL_law_454 rfl ?_
  refine lv_goto (tgt := 2172) hx hb dL_law_455 (by decide) ?_
  exact kk σ τ hJ1 H ls hC hM (lv_sub hl [0, 1, 2, 3] rfl)
theorem lw_case_4 (C : lw_C p s m args meth c b L xs D ct adC adM AC AM) {J J2 : sn_S → sn_S → Prop} (hs : st_4 J J2) {σ τ : sn_S} (hJ : J σ τ) {i : Int32} (g1 : vp_in (i + 1) L) (g2 : vp_in (i + 2) L) (g3 : vp_in (i + 3) L) (g4 : vp_in (i + 4) L) (g5 : vp_in (i + 5) L) (kk : ∀ σ τ, J2 σ τ → lw_LAt p l e s m args below meth c Q D ct adC adM AC AM σ τ 2172 [(0, .ref b), (1, .ref (adC 0)), (2, .ref (adM 0)), (3, .int i)] []) : lw_LAt p l e s m args below meth c Q D ct adC adM AC AM σ τ 458 [(0, .ref b), (1, .ref (adC 0)), (2, .ref (adM 0)), (3, .int i)] [] := by
  intro H ls hC hM hl
  have hx := C.1.1
  have hb := C.1.2.1
  have hX := C.2.2.2.2.2.1
  have hbl := C.2.2.2.2.2.2
  have hbA : ¬ AC b := fun z => absurd (C.2.2.1 b z) (by omega)
  refine lv_aload_n hx hb dL_law_458 rfl (lv_at hl 1 rfl) ?_
  refine lv_aload_n hx hb dL_law_459 rfl (lv_at hl 0 rfl) ?_
  refine lv_iload_n hx hb dL_law_460 rfl (lv_at hl 3 rfl) ?_
  refine lv_iconst (v := 1) hx hb dL_law_461 rfl ?_
  refine lv_iadd hx hb dL_law_462 ?_
  refine va_sld hx hb hX hbl hbA hC.2 g1 dL_law_463 ?_
  refine lv_aload_n hx hb dL_law_464 rfl (lv_at hl 0 rfl) ?_
  refine lv_iload_n hx hb dL_law_465 rfl (lv_at hl 3 rfl) ?_
  refine lv_iconst (v := 2) hx hb dL_law_466 rfl ?_
  refine lv_iadd hx hb dL_law_467 ?_
  refine va_sld hx hb hX hbl hbA hC.2 g2 dL_law_468 ?_
  obtain ⟨r, r2, hf1, hf2, hJ1⟩ := hs σ τ (xs (i + 1).toNatClampNeg) (xs (i + 2).toNatClampNeg) hJ
  refine lw_call (rest := []) C.1 C.2.2.1 (fun q z1 z2 => C.2.2.2.2.1 q z2 z1) C.2.1.2.2.2.2.2.2.2.2.1 hC hM (ctX8_nose l hf1) kl_RL_32 layC_0 rfl rfl rfl rfl (Nat.le_of_ble_eq_true rfl) dL_law_469 hl.1 (Nat.le_refl _) (Nat.le_refl _) (fun H hC hM => ?_)
  refine lv_pop hx hb dL_law_472 rfl ?_
  refine lv_aload_n hx hb dL_law_473 rfl (lv_at hl 2 rfl) ?_
  refine lv_aload_n hx hb dL_law_474 rfl (lv_at hl 0 rfl) ?_
  refine lv_iload_n hx hb dL_law_475 rfl (lv_at hl 3 rfl) ?_
  refine lv_iconst (v := 1) hx hb dL_law_476 rfl ?_
  refine lv_iadd hx hb dL_law_477 ?_
  refine va_sld hx hb hX hbl hbA hC.2 g1 dL_law_478 ?_
  refine lv_aload_n hx hb dL_law_479 rfl (lv_at hl 0 rfl) ?_
  refine lv_iload_n hx hb dL_law_480 rfl (lv_at hl 3 rfl) ?_
  refine lv_iconst (v := 2) hx hb dL_law_481 rfl ?_
  refine lv_iadd hx hb dL_law_482 ?_
  refine va_sld hx hb hX hbl hbA hC.2 g2 dL_law_483 ?_
  refine lw_call (rest := []) C.2.1 C.2.2.2.1 C.2.2.2.2.1 C.1.2.2.2.2.2.2.2.2.1 hM hC (ctX9_nose l hf2) kl_RL_36 layM_0 rfl rfl rfl rfl (Nat.le_of_ble_eq_true rfl) dL_law_484 hl.1 (Nat.le_refl _) (Nat.le_refl _) (fun H hM hC => ?_)
  refine lv_pop hx hb dL_law_487 rfl ?_
  refine lv_goto (tgt := 2172) hx hb dL_law_488 (by decide) ?_
  exact kk σ τ hJ1 H ls hC hM (lv_sub hl [0, 1, 2, 3] rfl)
theorem lw_case_5 (C : lw_C p s m args meth c b L xs D ct adC adM AC AM) {J J2 : sn_S → sn_S → Prop} (hs : st_5 J J2) {σ τ : sn_S} (hJ : J σ τ) {i : Int32} (g1 : vp_in (i + 1) L) (g2 : vp_in (i + 2) L) (g3 : vp_in (i + 3) L) (g4 : vp_in (i + 4) L) (g5 : vp_in (i + 5) L) (kk : ∀ σ τ, J2 σ τ → lw_LAt p l e s m args below meth c Q D ct adC adM AC AM σ τ 2172 [(0, .ref b), (1, .ref (adC 0)), (2, .ref (adM 0)), (3, .int i)] []) : lw_LAt p l e s m args below meth c Q D ct adC adM AC AM σ τ 491 [(0, .ref b), (1, .ref (adC 0)), (2, .ref (adM 0)), (3, .int i)] [] := by
  intro H ls hC hM hl
  have hx := C.1.1
  have hb := C.1.2.1
  have hX := C.2.2.2.2.2.1
  have hbl := C.2.2.2.2.2.2
  have hbA : ¬ AC b := fun z => absurd (C.2.2.1 b z) (by omega)
  refine lv_aload_n hx hb dL_law_491 rfl (lv_at hl 1 rfl) ?_
  refine lv_aload_n hx hb dL_law_492 rfl (lv_at hl 0 rfl) ?_
  refine lv_iload_n hx hb dL_law_493 rfl (lv_at hl 3 rfl) ?_
  refine lv_iconst (v := 1) hx hb dL_law_494 rfl ?_
  refine lv_iadd hx hb dL_law_495 ?_
  refine va_sld hx hb hX hbl hbA hC.2 g1 dL_law_496 ?_
  refine lv_aload_n hx hb dL_law_497 rfl (lv_at hl 0 rfl) ?_
  refine lv_iload_n hx hb dL_law_498 rfl (lv_at hl 3 rfl) ?_
  refine lv_iconst (v := 2) hx hb dL_law_499 rfl ?_
  refine lv_iadd hx hb dL_law_500 ?_
  refine va_sld hx hb hX hbl hbA hC.2 g2 dL_law_501 ?_
  obtain ⟨r, r2, hf1, hf2, hJ1⟩ := hs σ τ (xs (i + 1).toNatClampNeg) (xs (i + 2).toNatClampNeg) hJ
  refine lw_call (rest := []) C.1 C.2.2.1 (fun q z1 z2 => C.2.2.2.2.1 q z2 z1) C.2.1.2.2.2.2.2.2.2.2.1 hC hM (ctX8_policy l hf1) kl_RL_37 layC_0 rfl rfl rfl rfl (Nat.le_of_ble_eq_true rfl) dL_law_502 hl.1 (Nat.le_refl _) (Nat.le_refl _) (fun H hC hM => ?_)
  refine lv_pop hx hb dL_law_505 rfl ?_
  refine lv_aload_n hx hb dL_law_506 rfl (lv_at hl 2 rfl) ?_
  refine lv_aload_n hx hb dL_law_507 rfl (lv_at hl 0 rfl) ?_
  refine lv_iload_n hx hb dL_law_508 rfl (lv_at hl 3 rfl) ?_
  refine lv_iconst (v := 1) hx hb dL_law_509 rfl ?_
  refine lv_iadd hx hb dL_law_510 ?_
  refine va_sld hx hb hX hbl hbA hC.2 g1 dL_law_511 ?_
  refine lv_aload_n hx hb dL_law_512 rfl (lv_at hl 0 rfl) ?_
  refine lv_iload_n hx hb dL_law_513 rfl (lv_at hl 3 rfl) ?_
  refine lv_iconst (v := 2) hx hb dL_law_514 rfl ?_
  refine lv_iadd hx hb dL_law_515 ?_
  refine va_sld hx hb hX hbl hbA hC.2 g2 dL_law_516 ?_
  refine lw_call (rest := []) C.2.1 C.2.2.2.1 C.2.2.2.2.1 C.1.2.2.2.2.2.2.2.2.1 hM hC (ctX9_policy l hf2) kl_RL_40 layM_0 rfl rfl rfl rfl (Nat.le_of_ble_eq_true rfl) dL_law_517 hl.1 (Nat.le_refl _) (Nat.le_refl _) (fun H hM hC => ?_)
  refine lv_pop hx hb dL_law_520 rfl ?_
  refine lv_goto (tgt := 2172) hx hb dL_law_521 (by decide) ?_
  exact kk σ τ hJ1 H ls hC hM (lv_sub hl [0, 1, 2, 3] rfl)
theorem lw_case_6 (C : lw_C p s m args meth c b L xs D ct adC adM AC AM) {J J2 : sn_S → sn_S → Prop} (hs : st_6 J J2) {σ τ : sn_S} (hJ : J σ τ) {i : Int32} (g1 : vp_in (i + 1) L) (g2 : vp_in (i + 2) L) (g3 : vp_in (i + 3) L) (g4 : vp_in (i + 4) L) (g5 : vp_in (i + 5) L) (kk : ∀ σ τ, J2 σ τ → lw_LAt p l e s m args below meth c Q D ct adC adM AC AM σ τ 2172 [(0, .ref b), (1, .ref (adC 0)), (2, .ref (adM 0)), (3, .int i)] []) : lw_LAt p l e s m args below meth c Q D ct adC adM AC AM σ τ 524 [(0, .ref b), (1, .ref (adC 0)), (2, .ref (adM 0)), (3, .int i)] [] := by
  intro H ls hC hM hl
  have hx := C.1.1
  have hb := C.1.2.1
  have hX := C.2.2.2.2.2.1
  have hbl := C.2.2.2.2.2.2
  have hbA : ¬ AC b := fun z => absurd (C.2.2.1 b z) (by omega)
  refine lv_aload_n hx hb dL_law_524 rfl (lv_at hl 1 rfl) ?_
  refine lv_aload_n hx hb dL_law_525 rfl (lv_at hl 0 rfl) ?_
  refine lv_iload_n hx hb dL_law_526 rfl (lv_at hl 3 rfl) ?_
  refine lv_iconst (v := 1) hx hb dL_law_527 rfl ?_
  refine lv_iadd hx hb dL_law_528 ?_
  refine va_sld hx hb hX hbl hbA hC.2 g1 dL_law_529 ?_
  obtain ⟨r, r2, τ1, hf1, hf2, hJ1⟩ := hs σ τ (xs (i + 1).toNatClampNeg) hJ
  refine lw_call (rest := []) C.1 C.2.2.1 (fun q z1 z2 => C.2.2.2.2.1 q z2 z1) C.2.1.2.2.2.2.2.2.2.2.1 hC hM (ctX8_beside l hf1) kl_RL_41 layC_0 rfl rfl rfl rfl (Nat.le_of_ble_eq_true rfl) dL_law_530 hl.1 (Nat.le_refl _) (Nat.le_refl _) (fun H hC hM => ?_)
  refine lv_pop hx hb dL_law_533 rfl ?_
  refine lv_aload_n hx hb dL_law_534 rfl (lv_at hl 2 rfl) ?_
  refine lv_aload_n hx hb dL_law_535 rfl (lv_at hl 0 rfl) ?_
  refine lv_iload_n hx hb dL_law_536 rfl (lv_at hl 3 rfl) ?_
  refine lv_iconst (v := 1) hx hb dL_law_537 rfl ?_
  refine lv_iadd hx hb dL_law_538 ?_
  refine va_sld hx hb hX hbl hbA hC.2 g1 dL_law_539 ?_
  refine lw_call (rest := []) C.2.1 C.2.2.2.1 C.2.2.2.2.1 C.1.2.2.2.2.2.2.2.2.1 hM hC (ctX9_beside l hf2) kl_RL_44 layM_0 rfl rfl rfl rfl (Nat.le_of_ble_eq_true rfl) dL_law_540 hl.1 (Nat.le_refl _) (Nat.le_refl _) (fun H hM hC => ?_)
  refine lv_pop hx hb dL_law_543 rfl ?_
  refine lv_goto (tgt := 2172) hx hb dL_law_544 (by decide) ?_
  exact kk σ τ1 hJ1 H ls hC hM (lv_sub hl [0, 1, 2, 3] rfl)
theorem lw_case_7 (C : lw_C p s m args meth c b L xs D ct adC adM AC AM) {J J2 : sn_S → sn_S → Prop} (hs : st_7 J J2) {σ τ : sn_S} (hJ : J σ τ) {i : Int32} (g1 : vp_in (i + 1) L) (g2 : vp_in (i + 2) L) (g3 : vp_in (i + 3) L) (g4 : vp_in (i + 4) L) (g5 : vp_in (i + 5) L) (kk : ∀ σ τ, J2 σ τ → lw_LAt p l e s m args below meth c Q D ct adC adM AC AM σ τ 2172 [(0, .ref b), (1, .ref (adC 0)), (2, .ref (adM 0)), (3, .int i)] []) : lw_LAt p l e s m args below meth c Q D ct adC adM AC AM σ τ 547 [(0, .ref b), (1, .ref (adC 0)), (2, .ref (adM 0)), (3, .int i)] [] := by
  intro H ls hC hM hl
  have hx := C.1.1
  have hb := C.1.2.1
  have hX := C.2.2.2.2.2.1
  have hbl := C.2.2.2.2.2.2
  have hbA : ¬ AC b := fun z => absurd (C.2.2.1 b z) (by omega)
  refine lv_aload_n hx hb dL_law_547 rfl (lv_at hl 1 rfl) ?_
  refine lv_aload_n hx hb dL_law_548 rfl (lv_at hl 0 rfl) ?_
  refine lv_iload_n hx hb dL_law_549 rfl (lv_at hl 3 rfl) ?_
  refine lv_iconst (v := 1) hx hb dL_law_550 rfl ?_
  refine lv_iadd hx hb dL_law_551 ?_
  refine va_sld hx hb hX hbl hbA hC.2 g1 dL_law_552 ?_
  obtain ⟨r, r2, τ1, hf1, hf2, hJ1⟩ := hs σ τ (xs (i + 1).toNatClampNeg) hJ
  refine lw_call (rest := []) C.1 C.2.2.1 (fun q z1 z2 => C.2.2.2.2.1 q z2 z1) C.2.1.2.2.2.2.2.2.2.2.1 hC hM (ctX8_dust l hf1) kl_RL_45 layC_0 rfl rfl rfl rfl (Nat.le_of_ble_eq_true rfl) dL_law_553 hl.1 (Nat.le_refl _) (Nat.le_refl _) (fun H hC hM => ?_)
  refine lv_pop hx hb dL_law_556 rfl ?_
  refine lv_aload_n hx hb dL_law_557 rfl (lv_at hl 2 rfl) ?_
  refine lv_aload_n hx hb dL_law_558 rfl (lv_at hl 0 rfl) ?_
  refine lv_iload_n hx hb dL_law_559 rfl (lv_at hl 3 rfl) ?_
  refine lv_iconst (v := 1) hx hb dL_law_560 rfl ?_
  refine lv_iadd hx hb dL_law_561 ?_
  refine va_sld hx hb hX hbl hbA hC.2 g1 dL_law_562 ?_
  refine lw_call (rest := []) C.2.1 C.2.2.2.1 C.2.2.2.2.1 C.1.2.2.2.2.2.2.2.2.1 hM hC (ctX9_dust l hf2) kl_RL_48 layM_0 rfl rfl rfl rfl (Nat.le_of_ble_eq_true rfl) dL_law_563 hl.1 (Nat.le_refl _) (Nat.le_refl _) (fun H hM hC => ?_)
  refine lv_pop hx hb dL_law_566 rfl ?_
  refine lv_goto (tgt := 2172) hx hb dL_law_567 (by decide) ?_
  exact kk σ τ1 hJ1 H ls hC hM (lv_sub hl [0, 1, 2, 3] rfl)
theorem lw_case_8 (C : lw_C p s m args meth c b L xs D ct adC adM AC AM) {J J2 : sn_S → sn_S → Prop} (hs : st_8 J J2) {σ τ : sn_S} (hJ : J σ τ) {i : Int32} (g1 : vp_in (i + 1) L) (g2 : vp_in (i + 2) L) (g3 : vp_in (i + 3) L) (g4 : vp_in (i + 4) L) (g5 : vp_in (i + 5) L) (kk : ∀ σ τ, J2 σ τ → lw_LAt p l e s m args below meth c Q D ct adC adM AC AM σ τ 2172 [(0, .ref b), (1, .ref (adC 0)), (2, .ref (adM 0)), (3, .int i)] []) : lw_LAt p l e s m args below meth c Q D ct adC adM AC AM σ τ 570 [(0, .ref b), (1, .ref (adC 0)), (2, .ref (adM 0)), (3, .int i)] [] := by
  intro H ls hC hM hl
  have hx := C.1.1
  have hb := C.1.2.1
  have hX := C.2.2.2.2.2.1
  have hbl := C.2.2.2.2.2.2
  have hbA : ¬ AC b := fun z => absurd (C.2.2.1 b z) (by omega)
  refine lv_aload_n hx hb dL_law_570 rfl (lv_at hl 1 rfl) ?_
  refine lv_aload_n hx hb dL_law_571 rfl (lv_at hl 0 rfl) ?_
  refine lv_iload_n hx hb dL_law_572 rfl (lv_at hl 3 rfl) ?_
  refine lv_iconst (v := 1) hx hb dL_law_573 rfl ?_
  refine lv_iadd hx hb dL_law_574 ?_
  refine va_sld hx hb hX hbl hbA hC.2 g1 dL_law_575 ?_
  obtain ⟨r, r2, τ1, hf1, hf2, hJ1⟩ := hs σ τ (xs (i + 1).toNatClampNeg) hJ
  refine lw_call (rest := []) C.1 C.2.2.1 (fun q z1 z2 => C.2.2.2.2.1 q z2 z1) C.2.1.2.2.2.2.2.2.2.2.1 hC hM (ctX8_sneezes l hf1) kl_RL_49 layC_0 rfl rfl rfl rfl (Nat.le_of_ble_eq_true rfl) dL_law_576 hl.1 (Nat.le_refl _) (Nat.le_refl _) (fun H hC hM => ?_)
  refine lv_pop hx hb dL_law_579 rfl ?_
  refine lv_aload_n hx hb dL_law_580 rfl (lv_at hl 2 rfl) ?_
  refine lv_aload_n hx hb dL_law_581 rfl (lv_at hl 0 rfl) ?_
  refine lv_iload_n hx hb dL_law_582 rfl (lv_at hl 3 rfl) ?_
  refine lv_iconst (v := 1) hx hb dL_law_583 rfl ?_
  refine lv_iadd hx hb dL_law_584 ?_
  refine va_sld hx hb hX hbl hbA hC.2 g1 dL_law_585 ?_
  refine lw_call (rest := []) C.2.1 C.2.2.2.1 C.2.2.2.2.1 C.1.2.2.2.2.2.2.2.2.1 hM hC (ctX9_sneezes l hf2) kl_RL_52 layM_0 rfl rfl rfl rfl (Nat.le_of_ble_eq_true rfl) dL_law_586 hl.1 (Nat.le_refl _) (Nat.le_refl _) (fun H hM hC => ?_)
  refine lv_pop hx hb dL_law_589 rfl ?_
  refine lv_goto (tgt := 2172) hx hb dL_law_590 (by decide) ?_
  exact kk σ τ1 hJ1 H ls hC hM (lv_sub hl [0, 1, 2, 3] rfl)
theorem lw_case_9 (C : lw_C p s m args meth c b L xs D ct adC adM AC AM) {J J2 : sn_S → sn_S → Prop} (hs : st_9 J J2) {σ τ : sn_S} (hJ : J σ τ) {i : Int32} (g1 : vp_in (i + 1) L) (g2 : vp_in (i + 2) L) (g3 : vp_in (i + 3) L) (g4 : vp_in (i + 4) L) (g5 : vp_in (i + 5) L) (kk : ∀ σ τ, J2 σ τ → lw_LAt p l e s m args below meth c Q D ct adC adM AC AM σ τ 2172 [(0, .ref b), (1, .ref (adC 0)), (2, .ref (adM 0)), (3, .int i)] []) : lw_LAt p l e s m args below meth c Q D ct adC adM AC AM σ τ 593 [(0, .ref b), (1, .ref (adC 0)), (2, .ref (adM 0)), (3, .int i)] [] := by
  intro H ls hC hM hl
  have hx := C.1.1
  have hb := C.1.2.1
  have hX := C.2.2.2.2.2.1
  have hbl := C.2.2.2.2.2.2
  have hbA : ¬ AC b := fun z => absurd (C.2.2.1 b z) (by omega)
  refine lv_aload_n hx hb dL_law_593 rfl (lv_at hl 1 rfl) ?_
  refine lv_aload_n hx hb dL_law_594 rfl (lv_at hl 0 rfl) ?_
  refine lv_iload_n hx hb dL_law_595 rfl (lv_at hl 3 rfl) ?_
  refine lv_iconst (v := 1) hx hb dL_law_596 rfl ?_
  refine lv_iadd hx hb dL_law_597 ?_
  refine va_sld hx hb hX hbl hbA hC.2 g1 dL_law_598 ?_
  obtain ⟨r, r2, τ1, hf1, hf2, hJ1⟩ := hs σ τ (xs (i + 1).toNatClampNeg) hJ
  refine lw_call (rest := []) C.1 C.2.2.1 (fun q z1 z2 => C.2.2.2.2.1 q z2 z1) C.2.1.2.2.2.2.2.2.2.2.1 hC hM (ctX8_first l hf1) kl_RL_53 layC_0 rfl rfl rfl rfl (Nat.le_of_ble_eq_true rfl) dL_law_599 hl.1 (Nat.le_refl _) (Nat.le_refl _) (fun H hC hM => ?_)
  refine lv_pop hx hb dL_law_602 rfl ?_
  refine lv_aload_n hx hb dL_law_603 rfl (lv_at hl 2 rfl) ?_
  refine lv_aload_n hx hb dL_law_604 rfl (lv_at hl 0 rfl) ?_
  refine lv_iload_n hx hb dL_law_605 rfl (lv_at hl 3 rfl) ?_
  refine lv_iconst (v := 1) hx hb dL_law_606 rfl ?_
  refine lv_iadd hx hb dL_law_607 ?_
  refine va_sld hx hb hX hbl hbA hC.2 g1 dL_law_608 ?_
  refine lw_call (rest := []) C.2.1 C.2.2.2.1 C.2.2.2.2.1 C.1.2.2.2.2.2.2.2.2.1 hM hC (ctX9_first l hf2) kl_RL_56 layM_0 rfl rfl rfl rfl (Nat.le_of_ble_eq_true rfl) dL_law_609 hl.1 (Nat.le_refl _) (Nat.le_refl _) (fun H hM hC => ?_)
  refine lv_pop hx hb dL_law_612 rfl ?_
  refine lv_goto (tgt := 2172) hx hb dL_law_613 (by decide) ?_
  exact kk σ τ1 hJ1 H ls hC hM (lv_sub hl [0, 1, 2, 3] rfl)
theorem lw_case_10 (C : lw_C p s m args meth c b L xs D ct adC adM AC AM) {J J2 : sn_S → sn_S → Prop} (hs : st_10 J J2) {σ τ : sn_S} (hJ : J σ τ) {i : Int32} (g1 : vp_in (i + 1) L) (g2 : vp_in (i + 2) L) (g3 : vp_in (i + 3) L) (g4 : vp_in (i + 4) L) (g5 : vp_in (i + 5) L) (kk : ∀ σ τ, J2 σ τ → lw_LAt p l e s m args below meth c Q D ct adC adM AC AM σ τ 2172 [(0, .ref b), (1, .ref (adC 0)), (2, .ref (adM 0)), (3, .int i)] []) : lw_LAt p l e s m args below meth c Q D ct adC adM AC AM σ τ 616 [(0, .ref b), (1, .ref (adC 0)), (2, .ref (adM 0)), (3, .int i)] [] := by
  intro H ls hC hM hl
  have hx := C.1.1
  have hb := C.1.2.1
  have hX := C.2.2.2.2.2.1
  have hbl := C.2.2.2.2.2.2
  have hbA : ¬ AC b := fun z => absurd (C.2.2.1 b z) (by omega)
  refine lv_aload_n hx hb dL_law_616 rfl (lv_at hl 1 rfl) ?_
  obtain ⟨r, r2, τ1, hf1, hf2, hJ1⟩ := hs σ τ  hJ
  refine lw_call (rest := []) C.1 C.2.2.1 (fun q z1 z2 => C.2.2.2.2.1 q z2 z1) C.2.1.2.2.2.2.2.2.2.2.1 hC hM (ctX8_all l hf1) kl_RL_57 layC_0 rfl rfl rfl rfl (Nat.le_of_ble_eq_true rfl) dL_law_617 hl.1 (Nat.le_refl _) (Nat.le_refl _) (fun H hC hM => ?_)
  refine lv_pop hx hb dL_law_620 rfl ?_
  refine lv_aload_n hx hb dL_law_621 rfl (lv_at hl 2 rfl) ?_
  refine lw_call (rest := []) C.2.1 C.2.2.2.1 C.2.2.2.2.1 C.1.2.2.2.2.2.2.2.2.1 hM hC (ctX9_all l hf2) kl_RL_60 layM_0 rfl rfl rfl rfl (Nat.le_of_ble_eq_true rfl) dL_law_622 hl.1 (Nat.le_refl _) (Nat.le_refl _) (fun H hM hC => ?_)
  refine lv_pop hx hb dL_law_625 rfl ?_
  refine lv_goto (tgt := 2172) hx hb dL_law_626 (by decide) ?_
  exact kk σ τ1 hJ1 H ls hC hM (lv_sub hl [0, 1, 2, 3] rfl)
theorem lw_case_11 (C : lw_C p s m args meth c b L xs D ct adC adM AC AM) {J J2 : sn_S → sn_S → Prop} (hs : st_11 J J2) {σ τ : sn_S} (hJ : J σ τ) {i : Int32} (g1 : vp_in (i + 1) L) (g2 : vp_in (i + 2) L) (g3 : vp_in (i + 3) L) (g4 : vp_in (i + 4) L) (g5 : vp_in (i + 5) L) (kk : ∀ σ τ, J2 σ τ → lw_LAt p l e s m args below meth c Q D ct adC adM AC AM σ τ 2172 [(0, .ref b), (1, .ref (adC 0)), (2, .ref (adM 0)), (3, .int i)] []) : lw_LAt p l e s m args below meth c Q D ct adC adM AC AM σ τ 629 [(0, .ref b), (1, .ref (adC 0)), (2, .ref (adM 0)), (3, .int i)] [] := by
  intro H ls hC hM hl
  have hx := C.1.1
  have hb := C.1.2.1
  have hX := C.2.2.2.2.2.1
  have hbl := C.2.2.2.2.2.2
  have hbA : ¬ AC b := fun z => absurd (C.2.2.1 b z) (by omega)
  refine lv_aload_n hx hb dL_law_629 rfl (lv_at hl 1 rfl) ?_
  refine lv_aload_n hx hb dL_law_630 rfl (lv_at hl 0 rfl) ?_
  refine lv_iload_n hx hb dL_law_631 rfl (lv_at hl 3 rfl) ?_
  refine lv_iconst (v := 1) hx hb dL_law_632 rfl ?_
  refine lv_iadd hx hb dL_law_633 ?_
  refine va_sld hx hb hX hbl hbA hC.2 g1 dL_law_634 ?_
  obtain ⟨r, r2, τ1, hf1, hf2, hJ1⟩ := hs σ τ (xs (i + 1).toNatClampNeg) hJ
  refine lw_call (rest := []) C.1 C.2.2.1 (fun q z1 z2 => C.2.2.2.2.1 q z2 z1) C.2.1.2.2.2.2.2.2.2.2.1 hC hM (ctX8_who l hf1) kl_RL_61 layC_0 rfl rfl rfl rfl (Nat.le_of_ble_eq_true rfl) dL_law_635 hl.1 (Nat.le_refl _) (Nat.le_refl _) (fun H hC hM => ?_)
  refine lv_pop hx hb dL_law_638 rfl ?_
  refine lv_aload_n hx hb dL_law_639 rfl (lv_at hl 2 rfl) ?_
  refine lv_aload_n hx hb dL_law_640 rfl (lv_at hl 0 rfl) ?_
  refine lv_iload_n hx hb dL_law_641 rfl (lv_at hl 3 rfl) ?_
  refine lv_iconst (v := 1) hx hb dL_law_642 rfl ?_
  refine lv_iadd hx hb dL_law_643 ?_
  refine va_sld hx hb hX hbl hbA hC.2 g1 dL_law_644 ?_
  refine lw_call (rest := []) C.2.1 C.2.2.2.1 C.2.2.2.2.1 C.1.2.2.2.2.2.2.2.2.1 hM hC (ctX9_who l hf2) kl_RL_64 layM_0 rfl rfl rfl rfl (Nat.le_of_ble_eq_true rfl) dL_law_645 hl.1 (Nat.le_refl _) (Nat.le_refl _) (fun H hM hC => ?_)
  refine lv_pop hx hb dL_law_648 rfl ?_
  refine lv_goto (tgt := 2172) hx hb dL_law_649 (by decide) ?_
  exact kk σ τ1 hJ1 H ls hC hM (lv_sub hl [0, 1, 2, 3] rfl)
theorem lw_case_12 (C : lw_C p s m args meth c b L xs D ct adC adM AC AM) {J J2 : sn_S → sn_S → Prop} (hs : st_12 J J2) {σ τ : sn_S} (hJ : J σ τ) {i : Int32} (g1 : vp_in (i + 1) L) (g2 : vp_in (i + 2) L) (g3 : vp_in (i + 3) L) (g4 : vp_in (i + 4) L) (g5 : vp_in (i + 5) L) (kk : ∀ σ τ, J2 σ τ → lw_LAt p l e s m args below meth c Q D ct adC adM AC AM σ τ 2172 [(0, .ref b), (1, .ref (adC 0)), (2, .ref (adM 0)), (3, .int i)] []) : lw_LAt p l e s m args below meth c Q D ct adC adM AC AM σ τ 652 [(0, .ref b), (1, .ref (adC 0)), (2, .ref (adM 0)), (3, .int i)] [] := by
  intro H ls hC hM hl
  have hx := C.1.1
  have hb := C.1.2.1
  have hX := C.2.2.2.2.2.1
  have hbl := C.2.2.2.2.2.2
  have hbA : ¬ AC b := fun z => absurd (C.2.2.1 b z) (by omega)
  refine lv_aload_n hx hb dL_law_652 rfl (lv_at hl 1 rfl) ?_
  refine lv_aload_n hx hb dL_law_653 rfl (lv_at hl 0 rfl) ?_
  refine lv_iload_n hx hb dL_law_654 rfl (lv_at hl 3 rfl) ?_
  refine lv_iconst (v := 1) hx hb dL_law_655 rfl ?_
  refine lv_iadd hx hb dL_law_656 ?_
  refine va_sld hx hb hX hbl hbA hC.2 g1 dL_law_657 ?_
  refine lv_aload_n hx hb dL_law_658 rfl (lv_at hl 0 rfl) ?_
  refine lv_iload_n hx hb dL_law_659 rfl (lv_at hl 3 rfl) ?_
  refine lv_iconst (v := 2) hx hb dL_law_660 rfl ?_
  refine lv_iadd hx hb dL_law_661 ?_
  refine va_sld hx hb hX hbl hbA hC.2 g2 dL_law_662 ?_
  obtain ⟨r, r2, τ1, hf1, hf2, hJ1⟩ := hs σ τ (xs (i + 1).toNatClampNeg) (xs (i + 2).toNatClampNeg) hJ
  refine lw_call (rest := []) C.1 C.2.2.1 (fun q z1 z2 => C.2.2.2.2.1 q z2 z1) C.2.1.2.2.2.2.2.2.2.2.1 hC hM (ctX8_tickle l hf1) kl_RL_65 layC_0 rfl rfl rfl rfl (Nat.le_of_ble_eq_true rfl) dL_law_663 hl.1 (Nat.le_refl _) (Nat.le_refl _) (fun H hC hM => ?_)
  refine lv_pop hx hb dL_law_666 rfl ?_
  refine lv_aload_n hx hb dL_law_667 rfl (lv_at hl 2 rfl) ?_
  refine lv_aload_n hx hb dL_law_668 rfl (lv_at hl 0 rfl) ?_
  refine lv_iload_n hx hb dL_law_669 rfl (lv_at hl 3 rfl) ?_
  refine lv_iconst (v := 1) hx hb dL_law_670 rfl ?_
  refine lv_iadd hx hb dL_law_671 ?_
  refine va_sld hx hb hX hbl hbA hC.2 g1 dL_law_672 ?_
  refine lv_aload_n hx hb dL_law_673 rfl (lv_at hl 0 rfl) ?_
  refine lv_iload_n hx hb dL_law_674 rfl (lv_at hl 3 rfl) ?_
  refine lv_iconst (v := 2) hx hb dL_law_675 rfl ?_
  refine lv_iadd hx hb dL_law_676 ?_
  refine va_sld hx hb hX hbl hbA hC.2 g2 dL_law_677 ?_
  refine lw_call (rest := []) C.2.1 C.2.2.2.1 C.2.2.2.2.1 C.1.2.2.2.2.2.2.2.2.1 hM hC (ctX9_tickle l hf2) kl_RL_68 layM_0 rfl rfl rfl rfl (Nat.le_of_ble_eq_true rfl) dL_law_678 hl.1 (Nat.le_refl _) (Nat.le_refl _) (fun H hM hC => ?_)
  refine lv_pop hx hb dL_law_681 rfl ?_
  refine lv_goto (tgt := 2172) hx hb dL_law_682 (by decide) ?_
  exact kk σ τ1 hJ1 H ls hC hM (lv_sub hl [0, 1, 2, 3] rfl)
theorem lw_case_13 (C : lw_C p s m args meth c b L xs D ct adC adM AC AM) {J J2 : sn_S → sn_S → Prop} (hs : st_13 J J2) {σ τ : sn_S} (hJ : J σ τ) {i : Int32} (g1 : vp_in (i + 1) L) (g2 : vp_in (i + 2) L) (g3 : vp_in (i + 3) L) (g4 : vp_in (i + 4) L) (g5 : vp_in (i + 5) L) (kk : ∀ σ τ, J2 σ τ → lw_LAt p l e s m args below meth c Q D ct adC adM AC AM σ τ 2172 [(0, .ref b), (1, .ref (adC 0)), (2, .ref (adM 0)), (3, .int i)] []) : lw_LAt p l e s m args below meth c Q D ct adC adM AC AM σ τ 685 [(0, .ref b), (1, .ref (adC 0)), (2, .ref (adM 0)), (3, .int i)] [] := by
  intro H ls hC hM hl
  have hx := C.1.1
  have hb := C.1.2.1
  have hX := C.2.2.2.2.2.1
  have hbl := C.2.2.2.2.2.2
  have hbA : ¬ AC b := fun z => absurd (C.2.2.1 b z) (by omega)
  refine lv_aload_n hx hb dL_law_685 rfl (lv_at hl 1 rfl) ?_
  refine lv_aload_n hx hb dL_law_686 rfl (lv_at hl 0 rfl) ?_
  refine lv_iload_n hx hb dL_law_687 rfl (lv_at hl 3 rfl) ?_
  refine lv_iconst (v := 1) hx hb dL_law_688 rfl ?_
  refine lv_iadd hx hb dL_law_689 ?_
  refine va_sld hx hb hX hbl hbA hC.2 g1 dL_law_690 ?_
  obtain ⟨r, r2, τ1, hf1, hf2, hJ1⟩ := hs σ τ (xs (i + 1).toNatClampNeg) hJ
  refine lw_call (rest := []) C.1 C.2.2.1 (fun q z1 z2 => C.2.2.2.2.1 q z2 z1) C.2.1.2.2.2.2.2.2.2.2.1 hC hM (ctX8_itch l hf1) kl_RL_69 layC_0 rfl rfl rfl rfl (Nat.le_of_ble_eq_true rfl) dL_law_691 hl.1 (Nat.le_refl _) (Nat.le_refl _) (fun H hC hM => ?_)
  refine lv_pop hx hb dL_law_694 rfl ?_
  refine lv_aload_n hx hb dL_law_695 rfl (lv_at hl 2 rfl) ?_
  refine lv_aload_n hx hb dL_law_696 rfl (lv_at hl 0 rfl) ?_
  refine lv_iload_n hx hb dL_law_697 rfl (lv_at hl 3 rfl) ?_
  refine lv_iconst (v := 1) hx hb dL_law_698 rfl ?_
  refine lv_iadd hx hb dL_law_699 ?_
  refine va_sld hx hb hX hbl hbA hC.2 g1 dL_law_700 ?_
  refine lw_call (rest := []) C.2.1 C.2.2.2.1 C.2.2.2.2.1 C.1.2.2.2.2.2.2.2.2.1 hM hC (ctX9_itch l hf2) kl_RL_72 layM_0 rfl rfl rfl rfl (Nat.le_of_ble_eq_true rfl) dL_law_701 hl.1 (Nat.le_refl _) (Nat.le_refl _) (fun H hM hC => ?_)
  refine lv_pop hx hb dL_law_704 rfl ?_
  refine lv_goto (tgt := 2172) hx hb dL_law_705 (by decide) ?_
  exact kk σ τ1 hJ1 H ls hC hM (lv_sub hl [0, 1, 2, 3] rfl)
theorem lw_case_14 (C : lw_C p s m args meth c b L xs D ct adC adM AC AM) {J J2 : sn_S → sn_S → Prop} (hs : st_14 J J2) {σ τ : sn_S} (hJ : J σ τ) {i : Int32} (g1 : vp_in (i + 1) L) (g2 : vp_in (i + 2) L) (g3 : vp_in (i + 3) L) (g4 : vp_in (i + 4) L) (g5 : vp_in (i + 5) L) (kk : ∀ σ τ, J2 σ τ → lw_LAt p l e s m args below meth c Q D ct adC adM AC AM σ τ 2172 [(0, .ref b), (1, .ref (adC 0)), (2, .ref (adM 0)), (3, .int i)] []) : lw_LAt p l e s m args below meth c Q D ct adC adM AC AM σ τ 708 [(0, .ref b), (1, .ref (adC 0)), (2, .ref (adM 0)), (3, .int i)] [] := by
  intro H ls hC hM hl
  have hx := C.1.1
  have hb := C.1.2.1
  have hX := C.2.2.2.2.2.1
  have hbl := C.2.2.2.2.2.2
  have hbA : ¬ AC b := fun z => absurd (C.2.2.1 b z) (by omega)
  refine lv_aload_n hx hb dL_law_708 rfl (lv_at hl 1 rfl) ?_
  refine lv_aload_n hx hb dL_law_709 rfl (lv_at hl 0 rfl) ?_
  refine lv_iload_n hx hb dL_law_710 rfl (lv_at hl 3 rfl) ?_
  refine lv_iconst (v := 1) hx hb dL_law_711 rfl ?_
  refine lv_iadd hx hb dL_law_712 ?_
  refine va_sld hx hb hX hbl hbA hC.2 g1 dL_law_713 ?_
  obtain ⟨r, r2, τ1, hf1, hf2, hJ1⟩ := hs σ τ (xs (i + 1).toNatClampNeg) hJ
  refine lw_call (rest := []) C.1 C.2.2.1 (fun q z1 z2 => C.2.2.2.2.1 q z2 z1) C.2.1.2.2.2.2.2.2.2.2.1 hC hM (ctX8_caught l hf1) kl_RL_73 layC_0 rfl rfl rfl rfl (Nat.le_of_ble_eq_true rfl) dL_law_714 hl.1 (Nat.le_refl _) (Nat.le_refl _) (fun H hC hM => ?_)
  refine lv_pop hx hb dL_law_717 rfl ?_
  refine lv_aload_n hx hb dL_law_718 rfl (lv_at hl 2 rfl) ?_
  refine lv_aload_n hx hb dL_law_719 rfl (lv_at hl 0 rfl) ?_
  refine lv_iload_n hx hb dL_law_720 rfl (lv_at hl 3 rfl) ?_
  refine lv_iconst (v := 1) hx hb dL_law_721 rfl ?_
  refine lv_iadd hx hb dL_law_722 ?_
  refine va_sld hx hb hX hbl hbA hC.2 g1 dL_law_723 ?_
  refine lw_call (rest := []) C.2.1 C.2.2.2.1 C.2.2.2.2.1 C.1.2.2.2.2.2.2.2.2.1 hM hC (ctX9_caught l hf2) kl_RL_76 layM_0 rfl rfl rfl rfl (Nat.le_of_ble_eq_true rfl) dL_law_724 hl.1 (Nat.le_refl _) (Nat.le_refl _) (fun H hM hC => ?_)
  refine lv_pop hx hb dL_law_727 rfl ?_
  refine lv_goto (tgt := 2172) hx hb dL_law_728 (by decide) ?_
  exact kk σ τ1 hJ1 H ls hC hM (lv_sub hl [0, 1, 2, 3] rfl)
theorem lw_case_15 (C : lw_C p s m args meth c b L xs D ct adC adM AC AM) {J J2 : sn_S → sn_S → Prop} (hs : st_15 J J2) {σ τ : sn_S} (hJ : J σ τ) {i : Int32} (g1 : vp_in (i + 1) L) (g2 : vp_in (i + 2) L) (g3 : vp_in (i + 3) L) (g4 : vp_in (i + 4) L) (g5 : vp_in (i + 5) L) (kk : ∀ σ τ, J2 σ τ → lw_LAt p l e s m args below meth c Q D ct adC adM AC AM σ τ 2172 [(0, .ref b), (1, .ref (adC 0)), (2, .ref (adM 0)), (3, .int i)] []) : lw_LAt p l e s m args below meth c Q D ct adC adM AC AM σ τ 731 [(0, .ref b), (1, .ref (adC 0)), (2, .ref (adM 0)), (3, .int i)] [] := by
  intro H ls hC hM hl
  have hx := C.1.1
  have hb := C.1.2.1
  have hX := C.2.2.2.2.2.1
  have hbl := C.2.2.2.2.2.2
  have hbA : ¬ AC b := fun z => absurd (C.2.2.1 b z) (by omega)
  refine lv_aload_n hx hb dL_law_731 rfl (lv_at hl 1 rfl) ?_
  refine lv_aload_n hx hb dL_law_732 rfl (lv_at hl 0 rfl) ?_
  refine lv_iload_n hx hb dL_law_733 rfl (lv_at hl 3 rfl) ?_
  refine lv_iconst (v := 1) hx hb dL_law_734 rfl ?_
  refine lv_iadd hx hb dL_law_735 ?_
  refine va_sld hx hb hX hbl hbA hC.2 g1 dL_law_736 ?_
  obtain ⟨r, r2, τ1, hf1, hf2, hJ1⟩ := hs σ τ (xs (i + 1).toNatClampNeg) hJ
  refine lw_call (rest := []) C.1 C.2.2.1 (fun q z1 z2 => C.2.2.2.2.1 q z2 z1) C.2.1.2.2.2.2.2.2.2.2.1 hC hM (ctX8_gave l hf1) kl_RL_77 layC_0 rfl rfl rfl rfl (Nat.le_of_ble_eq_true rfl) dL_law_737 hl.1 (Nat.le_refl _) (Nat.le_refl _) (fun H hC hM => ?_)
  refine lv_pop hx hb dL_law_740 rfl ?_
  refine lv_aload_n hx hb dL_law_741 rfl (lv_at hl 2 rfl) ?_
  refine lv_aload_n hx hb dL_law_742 rfl (lv_at hl 0 rfl) ?_
  refine lv_iload_n hx hb dL_law_743 rfl (lv_at hl 3 rfl) ?_
  refine lv_iconst (v := 1) hx hb dL_law_744 rfl ?_
  refine lv_iadd hx hb dL_law_745 ?_
  refine va_sld hx hb hX hbl hbA hC.2 g1 dL_law_746 ?_
  refine lw_call (rest := []) C.2.1 C.2.2.2.1 C.2.2.2.2.1 C.1.2.2.2.2.2.2.2.2.1 hM hC (ctX9_gave l hf2) kl_RL_80 layM_0 rfl rfl rfl rfl (Nat.le_of_ble_eq_true rfl) dL_law_747 hl.1 (Nat.le_refl _) (Nat.le_refl _) (fun H hM hC => ?_)
  refine lv_pop hx hb dL_law_750 rfl ?_
  refine lv_goto (tgt := 2172) hx hb dL_law_751 (by decide) ?_
  exact kk σ τ1 hJ1 H ls hC hM (lv_sub hl [0, 1, 2, 3] rfl)
theorem lw_case_16 (C : lw_C p s m args meth c b L xs D ct adC adM AC AM) {J J2 : sn_S → sn_S → Prop} (hs : st_16 J J2) {σ τ : sn_S} (hJ : J σ τ) {i : Int32} (g1 : vp_in (i + 1) L) (g2 : vp_in (i + 2) L) (g3 : vp_in (i + 3) L) (g4 : vp_in (i + 4) L) (g5 : vp_in (i + 5) L) (kk : ∀ σ τ, J2 σ τ → lw_LAt p l e s m args below meth c Q D ct adC adM AC AM σ τ 2172 [(0, .ref b), (1, .ref (adC 0)), (2, .ref (adM 0)), (3, .int i)] []) : lw_LAt p l e s m args below meth c Q D ct adC adM AC AM σ τ 754 [(0, .ref b), (1, .ref (adC 0)), (2, .ref (adM 0)), (3, .int i)] [] := by
  intro H ls hC hM hl
  have hx := C.1.1
  have hb := C.1.2.1
  have hX := C.2.2.2.2.2.1
  have hbl := C.2.2.2.2.2.2
  have hbA : ¬ AC b := fun z => absurd (C.2.2.1 b z) (by omega)
  refine lv_aload_n hx hb dL_law_754 rfl (lv_at hl 1 rfl) ?_
  obtain ⟨r, r2, τ1, hf1, hf2, hJ1⟩ := hs σ τ  hJ
  refine lw_call (rest := []) C.1 C.2.2.1 (fun q z1 z2 => C.2.2.2.2.1 q z2 z1) C.2.1.2.2.2.2.2.2.2.2.1 hC hM (ctX8_worst l hf1) kl_RL_81 layC_0 rfl rfl rfl rfl (Nat.le_of_ble_eq_true rfl) dL_law_755 hl.1 (Nat.le_refl _) (Nat.le_refl _) (fun H hC hM => ?_)
  refine lv_pop hx hb dL_law_758 rfl ?_
  refine lv_aload_n hx hb dL_law_759 rfl (lv_at hl 2 rfl) ?_
  refine lw_call (rest := []) C.2.1 C.2.2.2.1 C.2.2.2.2.1 C.1.2.2.2.2.2.2.2.2.1 hM hC (ctX9_worst l hf2) kl_RL_84 layM_0 rfl rfl rfl rfl (Nat.le_of_ble_eq_true rfl) dL_law_760 hl.1 (Nat.le_refl _) (Nat.le_refl _) (fun H hM hC => ?_)
  refine lv_pop hx hb dL_law_763 rfl ?_
  refine lv_goto (tgt := 2172) hx hb dL_law_764 (by decide) ?_
  exact kk σ τ1 hJ1 H ls hC hM (lv_sub hl [0, 1, 2, 3] rfl)
theorem lw_case_17 (C : lw_C p s m args meth c b L xs D ct adC adM AC AM) {J J2 : sn_S → sn_S → Prop} (hs : st_17 J J2) {σ τ : sn_S} (hJ : J σ τ) {i : Int32} (g1 : vp_in (i + 1) L) (g2 : vp_in (i + 2) L) (g3 : vp_in (i + 3) L) (g4 : vp_in (i + 4) L) (g5 : vp_in (i + 5) L) (kk : ∀ σ τ, J2 σ τ → lw_LAt p l e s m args below meth c Q D ct adC adM AC AM σ τ 2172 [(0, .ref b), (1, .ref (adC 0)), (2, .ref (adM 0)), (3, .int i)] []) : lw_LAt p l e s m args below meth c Q D ct adC adM AC AM σ τ 767 [(0, .ref b), (1, .ref (adC 0)), (2, .ref (adM 0)), (3, .int i)] [] := by
  intro H ls hC hM hl
  have hx := C.1.1
  have hb := C.1.2.1
  have hX := C.2.2.2.2.2.1
  have hbl := C.2.2.2.2.2.2
  have hbA : ¬ AC b := fun z => absurd (C.2.2.1 b z) (by omega)
  refine lv_aload_n hx hb dL_law_767 rfl (lv_at hl 1 rfl) ?_
  obtain ⟨r, r2, τ1, hf1, hf2, hJ1⟩ := hs σ τ  hJ
  refine lw_call (rest := []) C.1 C.2.2.1 (fun q z1 z2 => C.2.2.2.2.1 q z2 z1) C.2.1.2.2.2.2.2.2.2.2.1 hC hM (ctX8_chorus l hf1) kl_RL_85 layC_0 rfl rfl rfl rfl (Nat.le_of_ble_eq_true rfl) dL_law_768 hl.1 (Nat.le_refl _) (Nat.le_refl _) (fun H hC hM => ?_)
  refine lv_pop hx hb dL_law_771 rfl ?_
  refine lv_aload_n hx hb dL_law_772 rfl (lv_at hl 2 rfl) ?_
  refine lw_call (rest := []) C.2.1 C.2.2.2.1 C.2.2.2.2.1 C.1.2.2.2.2.2.2.2.2.1 hM hC (ctX9_chorus l hf2) kl_RL_88 layM_0 rfl rfl rfl rfl (Nat.le_of_ble_eq_true rfl) dL_law_773 hl.1 (Nat.le_refl _) (Nat.le_refl _) (fun H hM hC => ?_)
  refine lv_pop hx hb dL_law_776 rfl ?_
  refine lv_goto (tgt := 2172) hx hb dL_law_777 (by decide) ?_
  exact kk σ τ1 hJ1 H ls hC hM (lv_sub hl [0, 1, 2, 3] rfl)
theorem lw_case_18 (C : lw_C p s m args meth c b L xs D ct adC adM AC AM) {J J2 : sn_S → sn_S → Prop} (hs : st_18 J J2) {σ τ : sn_S} (hJ : J σ τ) {i : Int32} (g1 : vp_in (i + 1) L) (g2 : vp_in (i + 2) L) (g3 : vp_in (i + 3) L) (g4 : vp_in (i + 4) L) (g5 : vp_in (i + 5) L) (kk : ∀ σ τ, J2 σ τ → lw_LAt p l e s m args below meth c Q D ct adC adM AC AM σ τ 2172 [(0, .ref b), (1, .ref (adC 0)), (2, .ref (adM 0)), (3, .int i)] []) : lw_LAt p l e s m args below meth c Q D ct adC adM AC AM σ τ 780 [(0, .ref b), (1, .ref (adC 0)), (2, .ref (adM 0)), (3, .int i)] [] := by
  intro H ls hC hM hl
  have hx := C.1.1
  have hb := C.1.2.1
  have hX := C.2.2.2.2.2.1
  have hbl := C.2.2.2.2.2.2
  have hbA : ¬ AC b := fun z => absurd (C.2.2.1 b z) (by omega)
  refine lv_aload_n hx hb dL_law_780 rfl (lv_at hl 1 rfl) ?_
  obtain ⟨r, r2, τ1, hf1, hf2, hJ1⟩ := hs σ τ  hJ
  refine lw_call (rest := []) C.1 C.2.2.1 (fun q z1 z2 => C.2.2.2.2.1 q z2 z1) C.2.1.2.2.2.2.2.2.2.2.1 hC hM (ctX8_calm l hf1) kl_RL_89 layC_0 rfl rfl rfl rfl (Nat.le_of_ble_eq_true rfl) dL_law_781 hl.1 (Nat.le_refl _) (Nat.le_refl _) (fun H hC hM => ?_)
  refine lv_pop hx hb dL_law_784 rfl ?_
  refine lv_aload_n hx hb dL_law_785 rfl (lv_at hl 2 rfl) ?_
  refine lw_call (rest := []) C.2.1 C.2.2.2.1 C.2.2.2.2.1 C.1.2.2.2.2.2.2.2.2.1 hM hC (ctX9_calm l hf2) kl_RL_92 layM_0 rfl rfl rfl rfl (Nat.le_of_ble_eq_true rfl) dL_law_786 hl.1 (Nat.le_refl _) (Nat.le_refl _) (fun H hM hC => ?_)
  refine lv_pop hx hb dL_law_789 rfl ?_
  refine lv_goto (tgt := 2172) hx hb dL_law_790 (by decide) ?_
  exact kk σ τ1 hJ1 H ls hC hM (lv_sub hl [0, 1, 2, 3] rfl)
theorem lw_case_19 (C : lw_C p s m args meth c b L xs D ct adC adM AC AM) {J J2 : sn_S → sn_S → Prop} (hs : st_19 J J2) {σ τ : sn_S} (hJ : J σ τ) {i : Int32} (g1 : vp_in (i + 1) L) (g2 : vp_in (i + 2) L) (g3 : vp_in (i + 3) L) (g4 : vp_in (i + 4) L) (g5 : vp_in (i + 5) L) (kk : ∀ σ τ, J2 σ τ → lw_LAt p l e s m args below meth c Q D ct adC adM AC AM σ τ 2172 [(0, .ref b), (1, .ref (adC 0)), (2, .ref (adM 0)), (3, .int i)] []) : lw_LAt p l e s m args below meth c Q D ct adC adM AC AM σ τ 793 [(0, .ref b), (1, .ref (adC 0)), (2, .ref (adM 0)), (3, .int i)] [] := by
  intro H ls hC hM hl
  have hx := C.1.1
  have hb := C.1.2.1
  have hX := C.2.2.2.2.2.1
  have hbl := C.2.2.2.2.2.2
  have hbA : ¬ AC b := fun z => absurd (C.2.2.1 b z) (by omega)
  refine lv_aload_n hx hb dL_law_793 rfl (lv_at hl 1 rfl) ?_
  refine lv_aload_n hx hb dL_law_794 rfl (lv_at hl 0 rfl) ?_
  refine lv_iload_n hx hb dL_law_795 rfl (lv_at hl 3 rfl) ?_
  refine lv_iconst (v := 1) hx hb dL_law_796 rfl ?_
  refine lv_iadd hx hb dL_law_797 ?_
  refine va_sld hx hb hX hbl hbA hC.2 g1 dL_law_798 ?_
  obtain ⟨r, τ1, hf1, hf2, hJ1⟩ := hs σ τ (xs (i + 1).toNatClampNeg) hJ
  refine lw_call (rest := []) C.1 C.2.2.1 (fun q z1 z2 => C.2.2.2.2.1 q z2 z1) C.2.1.2.2.2.2.2.2.2.2.1 hC hM (ctX8_pause l hf1) kl_RL_93 layC_0 rfl rfl rfl rfl (Nat.le_of_ble_eq_true rfl) dL_law_799 hl.1 (Nat.le_refl _) (Nat.le_refl _) (fun H hC hM => ?_)
  refine lv_aload_n hx hb dL_law_802 rfl (lv_at hl 2 rfl) ?_
  refine lv_aload_n hx hb dL_law_803 rfl (lv_at hl 0 rfl) ?_
  refine lv_iload_n hx hb dL_law_804 rfl (lv_at hl 3 rfl) ?_
  refine lv_iconst (v := 1) hx hb dL_law_805 rfl ?_
  refine lv_iadd hx hb dL_law_806 ?_
  refine va_sld hx hb hX hbl hbA hC.2 g1 dL_law_807 ?_
  refine lw_call (rest := [.int r]) C.2.1 C.2.2.2.1 C.2.2.2.2.1 C.1.2.2.2.2.2.2.2.2.1 hM hC (ctX9_pause l hf2) kl_RL_96 layM_0 rfl rfl rfl rfl (Nat.le_of_ble_eq_true rfl) dL_law_808 hl.1 (Nat.le_refl _) (Nat.le_refl _) (fun H hM hC => ?_)
  refine lv_icmp_eq (tgt := 2172) hx hb dL_law_811 (by decide) (fun _ => ?_) (fun q => absurd rfl q)
  exact kk σ τ1 hJ1 H ls hC hM (lv_sub hl [0, 1, 2, 3] rfl)
theorem lw_case_20 (C : lw_C p s m args meth c b L xs D ct adC adM AC AM) {J J2 : sn_S → sn_S → Prop} (hs : st_20 J J2) {σ τ : sn_S} (hJ : J σ τ) {i : Int32} (g1 : vp_in (i + 1) L) (g2 : vp_in (i + 2) L) (g3 : vp_in (i + 3) L) (g4 : vp_in (i + 4) L) (g5 : vp_in (i + 5) L) (kk : ∀ σ τ, J2 σ τ → lw_LAt p l e s m args below meth c Q D ct adC adM AC AM σ τ 2172 [(0, .ref b), (1, .ref (adC 0)), (2, .ref (adM 0)), (3, .int i)] []) : lw_LAt p l e s m args below meth c Q D ct adC adM AC AM σ τ 816 [(0, .ref b), (1, .ref (adC 0)), (2, .ref (adM 0)), (3, .int i)] [] := by
  intro H ls hC hM hl
  have hx := C.1.1
  have hb := C.1.2.1
  have hX := C.2.2.2.2.2.1
  have hbl := C.2.2.2.2.2.2
  have hbA : ¬ AC b := fun z => absurd (C.2.2.1 b z) (by omega)
  refine lv_aload_n hx hb dL_law_816 rfl (lv_at hl 1 rfl) ?_
  refine lv_aload_n hx hb dL_law_817 rfl (lv_at hl 0 rfl) ?_
  refine lv_iload_n hx hb dL_law_818 rfl (lv_at hl 3 rfl) ?_
  refine lv_iconst (v := 1) hx hb dL_law_819 rfl ?_
  refine lv_iadd hx hb dL_law_820 ?_
  refine va_sld hx hb hX hbl hbA hC.2 g1 dL_law_821 ?_
  refine lv_aload_n hx hb dL_law_822 rfl (lv_at hl 0 rfl) ?_
  refine lv_iload_n hx hb dL_law_823 rfl (lv_at hl 3 rfl) ?_
  refine lv_iconst (v := 2) hx hb dL_law_824 rfl ?_
  refine lv_iadd hx hb dL_law_825 ?_
  refine va_sld hx hb hX hbl hbA hC.2 g2 dL_law_826 ?_
  obtain ⟨r, r2, τ1, hf1, hf2, hJ1⟩ := hs σ τ (xs (i + 1).toNatClampNeg) (xs (i + 2).toNatClampNeg) hJ
  refine lw_call (rest := []) C.1 C.2.2.1 (fun q z1 z2 => C.2.2.2.2.1 q z2 z1) C.2.1.2.2.2.2.2.2.2.2.1 hC hM (ctX8_later l hf1) kl_RL_97 layC_0 rfl rfl rfl rfl (Nat.le_of_ble_eq_true rfl) dL_law_827 hl.1 (Nat.le_refl _) (Nat.le_refl _) (fun H hC hM => ?_)
  refine lv_pop hx hb dL_law_830 rfl ?_
  refine lv_aload_n hx hb dL_law_831 rfl (lv_at hl 2 rfl) ?_
  refine lv_aload_n hx hb dL_law_832 rfl (lv_at hl 0 rfl) ?_
  refine lv_iload_n hx hb dL_law_833 rfl (lv_at hl 3 rfl) ?_
  refine lv_iconst (v := 1) hx hb dL_law_834 rfl ?_
  refine lv_iadd hx hb dL_law_835 ?_
  refine va_sld hx hb hX hbl hbA hC.2 g1 dL_law_836 ?_
  refine lv_aload_n hx hb dL_law_837 rfl (lv_at hl 0 rfl) ?_
  refine lv_iload_n hx hb dL_law_838 rfl (lv_at hl 3 rfl) ?_
  refine lv_iconst (v := 2) hx hb dL_law_839 rfl ?_
  refine lv_iadd hx hb dL_law_840 ?_
  refine va_sld hx hb hX hbl hbA hC.2 g2 dL_law_841 ?_
  refine lw_call (rest := []) C.2.1 C.2.2.2.1 C.2.2.2.2.1 C.1.2.2.2.2.2.2.2.2.1 hM hC (ctX9_later l hf2) kl_RL_100 layM_0 rfl rfl rfl rfl (Nat.le_of_ble_eq_true rfl) dL_law_842 hl.1 (Nat.le_refl _) (Nat.le_refl _) (fun H hM hC => ?_)
  refine lv_pop hx hb dL_law_845 rfl ?_
  refine lv_goto (tgt := 2172) hx hb dL_law_846 (by decide) ?_
  exact kk σ τ1 hJ1 H ls hC hM (lv_sub hl [0, 1, 2, 3] rfl)
theorem lw_case_21 (C : lw_C p s m args meth c b L xs D ct adC adM AC AM) {J J2 : sn_S → sn_S → Prop} (hs : st_21 J J2) {σ τ : sn_S} (hJ : J σ τ) {i : Int32} (g1 : vp_in (i + 1) L) (g2 : vp_in (i + 2) L) (g3 : vp_in (i + 3) L) (g4 : vp_in (i + 4) L) (g5 : vp_in (i + 5) L) (kk : ∀ σ τ, J2 σ τ → lw_LAt p l e s m args below meth c Q D ct adC adM AC AM σ τ 2172 [(0, .ref b), (1, .ref (adC 0)), (2, .ref (adM 0)), (3, .int i)] []) : lw_LAt p l e s m args below meth c Q D ct adC adM AC AM σ τ 849 [(0, .ref b), (1, .ref (adC 0)), (2, .ref (adM 0)), (3, .int i)] [] := by
  intro H ls hC hM hl
  have hx := C.1.1
  have hb := C.1.2.1
  have hX := C.2.2.2.2.2.1
  have hbl := C.2.2.2.2.2.2
  have hbA : ¬ AC b := fun z => absurd (C.2.2.1 b z) (by omega)
  refine lv_aload_n hx hb dL_law_849 rfl (lv_at hl 1 rfl) ?_
  refine lv_aload_n hx hb dL_law_850 rfl (lv_at hl 0 rfl) ?_
  refine lv_iload_n hx hb dL_law_851 rfl (lv_at hl 3 rfl) ?_
  refine lv_iconst (v := 1) hx hb dL_law_852 rfl ?_
  refine lv_iadd hx hb dL_law_853 ?_
  refine va_sld hx hb hX hbl hbA hC.2 g1 dL_law_854 ?_
  obtain ⟨r, r2, τ1, hf1, hf2, hJ1⟩ := hs σ τ (xs (i + 1).toNatClampNeg) hJ
  refine lw_call (rest := []) C.1 C.2.2.1 (fun q z1 z2 => C.2.2.2.2.1 q z2 z1) C.2.1.2.2.2.2.2.2.2.2.1 hC hM (ctX8_covered l hf1) kl_RL_101 layC_0 rfl rfl rfl rfl (Nat.le_of_ble_eq_true rfl) dL_law_855 hl.1 (Nat.le_refl _) (Nat.le_refl _) (fun H hC hM => ?_)
  refine lv_pop hx hb dL_law_858 rfl ?_
  refine lv_aload_n hx hb dL_law_859 rfl (lv_at hl 2 rfl) ?_
  refine lv_aload_n hx hb dL_law_860 rfl (lv_at hl 0 rfl) ?_
  refine lv_iload_n hx hb dL_law_861 rfl (lv_at hl 3 rfl) ?_
  refine lv_iconst (v := 1) hx hb dL_law_862 rfl ?_
  refine lv_iadd hx hb dL_law_863 ?_
  refine va_sld hx hb hX hbl hbA hC.2 g1 dL_law_864 ?_
  refine lw_call (rest := []) C.2.1 C.2.2.2.1 C.2.2.2.2.1 C.1.2.2.2.2.2.2.2.2.1 hM hC (ctX9_covered l hf2) kl_RL_104 layM_0 rfl rfl rfl rfl (Nat.le_of_ble_eq_true rfl) dL_law_865 hl.1 (Nat.le_refl _) (Nat.le_refl _) (fun H hM hC => ?_)
  refine lv_pop hx hb dL_law_868 rfl ?_
  refine lv_goto (tgt := 2172) hx hb dL_law_869 (by decide) ?_
  exact kk σ τ1 hJ1 H ls hC hM (lv_sub hl [0, 1, 2, 3] rfl)
theorem lw_case_22 (C : lw_C p s m args meth c b L xs D ct adC adM AC AM) {J J2 : sn_S → sn_S → Prop} (hs : st_22 J J2) {σ τ : sn_S} (hJ : J σ τ) {i : Int32} (g1 : vp_in (i + 1) L) (g2 : vp_in (i + 2) L) (g3 : vp_in (i + 3) L) (g4 : vp_in (i + 4) L) (g5 : vp_in (i + 5) L) (kk : ∀ σ τ, J2 σ τ → lw_LAt p l e s m args below meth c Q D ct adC adM AC AM σ τ 2172 [(0, .ref b), (1, .ref (adC 0)), (2, .ref (adM 0)), (3, .int i)] []) : lw_LAt p l e s m args below meth c Q D ct adC adM AC AM σ τ 872 [(0, .ref b), (1, .ref (adC 0)), (2, .ref (adM 0)), (3, .int i)] [] := by
  intro H ls hC hM hl
  have hx := C.1.1
  have hb := C.1.2.1
  have hX := C.2.2.2.2.2.1
  have hbl := C.2.2.2.2.2.2
  have hbA : ¬ AC b := fun z => absurd (C.2.2.1 b z) (by omega)
  refine lv_aload_n hx hb dL_law_872 rfl (lv_at hl 1 rfl) ?_
  obtain ⟨r, r2, τ1, hf1, hf2, hJ1⟩ := hs σ τ  hJ
  refine lw_call (rest := []) C.1 C.2.2.1 (fun q z1 z2 => C.2.2.2.2.1 q z2 z1) C.2.1.2.2.2.2.2.2.2.2.1 hC hM (ctX8_naked l hf1) kl_RL_105 layC_0 rfl rfl rfl rfl (Nat.le_of_ble_eq_true rfl) dL_law_873 hl.1 (Nat.le_refl _) (Nat.le_refl _) (fun H hC hM => ?_)
  refine lv_pop hx hb dL_law_876 rfl ?_
  refine lv_aload_n hx hb dL_law_877 rfl (lv_at hl 2 rfl) ?_
  refine lw_call (rest := []) C.2.1 C.2.2.2.1 C.2.2.2.2.1 C.1.2.2.2.2.2.2.2.2.1 hM hC (ctX9_naked l hf2) kl_RL_108 layM_0 rfl rfl rfl rfl (Nat.le_of_ble_eq_true rfl) dL_law_878 hl.1 (Nat.le_refl _) (Nat.le_refl _) (fun H hM hC => ?_)
  refine lv_pop hx hb dL_law_881 rfl ?_
  refine lv_goto (tgt := 2172) hx hb dL_law_882 (by decide) ?_
  exact kk σ τ1 hJ1 H ls hC hM (lv_sub hl [0, 1, 2, 3] rfl)
theorem lw_case_23 (C : lw_C p s m args meth c b L xs D ct adC adM AC AM) {J J2 : sn_S → sn_S → Prop} (hs : st_23 J J2) {σ τ : sn_S} (hJ : J σ τ) {i : Int32} (g1 : vp_in (i + 1) L) (g2 : vp_in (i + 2) L) (g3 : vp_in (i + 3) L) (g4 : vp_in (i + 4) L) (g5 : vp_in (i + 5) L) (kk : ∀ σ τ, J2 σ τ → lw_LAt p l e s m args below meth c Q D ct adC adM AC AM σ τ 2172 [(0, .ref b), (1, .ref (adC 0)), (2, .ref (adM 0)), (3, .int i)] []) : lw_LAt p l e s m args below meth c Q D ct adC adM AC AM σ τ 885 [(0, .ref b), (1, .ref (adC 0)), (2, .ref (adM 0)), (3, .int i)] [] := by
  intro H ls hC hM hl
  have hx := C.1.1
  have hb := C.1.2.1
  have hX := C.2.2.2.2.2.1
  have hbl := C.2.2.2.2.2.2
  have hbA : ¬ AC b := fun z => absurd (C.2.2.1 b z) (by omega)
  refine lv_aload_n hx hb dL_law_885 rfl (lv_at hl 1 rfl) ?_
  refine lv_aload_n hx hb dL_law_886 rfl (lv_at hl 0 rfl) ?_
  refine lv_iload_n hx hb dL_law_887 rfl (lv_at hl 3 rfl) ?_
  refine lv_iconst (v := 1) hx hb dL_law_888 rfl ?_
  refine lv_iadd hx hb dL_law_889 ?_
  refine va_sld hx hb hX hbl hbA hC.2 g1 dL_law_890 ?_
  obtain ⟨r, r2, τ1, hf1, hf2, hJ1⟩ := hs σ τ (xs (i + 1).toNatClampNeg) hJ
  refine lw_call (rest := []) C.1 C.2.2.1 (fun q z1 z2 => C.2.2.2.2.1 q z2 z1) C.2.1.2.2.2.2.2.2.2.2.1 hC hM (ctX8_covers l hf1) kl_RL_109 layC_0 rfl rfl rfl rfl (Nat.le_of_ble_eq_true rfl) dL_law_891 hl.1 (Nat.le_refl _) (Nat.le_refl _) (fun H hC hM => ?_)
  refine lv_pop hx hb dL_law_894 rfl ?_
  refine lv_aload_n hx hb dL_law_895 rfl (lv_at hl 2 rfl) ?_
  refine lv_aload_n hx hb dL_law_896 rfl (lv_at hl 0 rfl) ?_
  refine lv_iload_n hx hb dL_law_897 rfl (lv_at hl 3 rfl) ?_
  refine lv_iconst (v := 1) hx hb dL_law_898 rfl ?_
  refine lv_iadd hx hb dL_law_899 ?_
  refine va_sld hx hb hX hbl hbA hC.2 g1 dL_law_900 ?_
  refine lw_call (rest := []) C.2.1 C.2.2.2.1 C.2.2.2.2.1 C.1.2.2.2.2.2.2.2.2.1 hM hC (ctX9_covers l hf2) kl_RL_112 layM_0 rfl rfl rfl rfl (Nat.le_of_ble_eq_true rfl) dL_law_901 hl.1 (Nat.le_refl _) (Nat.le_refl _) (fun H hM hC => ?_)
  refine lv_pop hx hb dL_law_904 rfl ?_
  refine lv_goto (tgt := 2172) hx hb dL_law_905 (by decide) ?_
  exact kk σ τ1 hJ1 H ls hC hM (lv_sub hl [0, 1, 2, 3] rfl)
theorem lw_case_24 (C : lw_C p s m args meth c b L xs D ct adC adM AC AM) {J J2 : sn_S → sn_S → Prop} (hs : st_24 J J2) {σ τ : sn_S} (hJ : J σ τ) {i : Int32} (g1 : vp_in (i + 1) L) (g2 : vp_in (i + 2) L) (g3 : vp_in (i + 3) L) (g4 : vp_in (i + 4) L) (g5 : vp_in (i + 5) L) (kk : ∀ σ τ, J2 σ τ → lw_LAt p l e s m args below meth c Q D ct adC adM AC AM σ τ 2172 [(0, .ref b), (1, .ref (adC 0)), (2, .ref (adM 0)), (3, .int i)] []) : lw_LAt p l e s m args below meth c Q D ct adC adM AC AM σ τ 908 [(0, .ref b), (1, .ref (adC 0)), (2, .ref (adM 0)), (3, .int i)] [] := by
  intro H ls hC hM hl
  have hx := C.1.1
  have hb := C.1.2.1
  have hX := C.2.2.2.2.2.1
  have hbl := C.2.2.2.2.2.2
  have hbA : ¬ AC b := fun z => absurd (C.2.2.1 b z) (by omega)
  refine lv_aload_n hx hb dL_law_908 rfl (lv_at hl 1 rfl) ?_
  refine lv_aload_n hx hb dL_law_909 rfl (lv_at hl 0 rfl) ?_
  refine lv_iload_n hx hb dL_law_910 rfl (lv_at hl 3 rfl) ?_
  refine lv_iconst (v := 1) hx hb dL_law_911 rfl ?_
  refine lv_iadd hx hb dL_law_912 ?_
  refine va_sld hx hb hX hbl hbA hC.2 g1 dL_law_913 ?_
  obtain ⟨r, r2, σ1, τ1, hf1, hf2, hJ1⟩ := hs σ τ (xs (i + 1).toNatClampNeg) hJ
  refine lw_call (rest := []) C.1 C.2.2.1 (fun q z1 z2 => C.2.2.2.2.1 q z2 z1) C.2.1.2.2.2.2.2.2.2.2.1 hC hM (ctX8_profit l hf1) kl_RL_113 layC_0 rfl rfl rfl rfl (Nat.le_of_ble_eq_true rfl) dL_law_914 hl.1 (Nat.le_refl _) (Nat.le_refl _) (fun H hC hM => ?_)
  refine lv_pop hx hb dL_law_917 rfl ?_
  refine lv_aload_n hx hb dL_law_918 rfl (lv_at hl 2 rfl) ?_
  refine lv_aload_n hx hb dL_law_919 rfl (lv_at hl 0 rfl) ?_
  refine lv_iload_n hx hb dL_law_920 rfl (lv_at hl 3 rfl) ?_
  refine lv_iconst (v := 1) hx hb dL_law_921 rfl ?_
  refine lv_iadd hx hb dL_law_922 ?_
  refine va_sld hx hb hX hbl hbA hC.2 g1 dL_law_923 ?_
  refine lw_call (rest := []) C.2.1 C.2.2.2.1 C.2.2.2.2.1 C.1.2.2.2.2.2.2.2.2.1 hM hC (ctX9_profit l hf2) kl_RL_116 layM_0 rfl rfl rfl rfl (Nat.le_of_ble_eq_true rfl) dL_law_924 hl.1 (Nat.le_refl _) (Nat.le_refl _) (fun H hM hC => ?_)
  refine lv_pop hx hb dL_law_927 rfl ?_
  refine lv_goto (tgt := 2172) hx hb dL_law_928 (by decide) ?_
  exact kk σ1 τ1 hJ1 H ls hC hM (lv_sub hl [0, 1, 2, 3] rfl)
theorem lw_case_25 (C : lw_C p s m args meth c b L xs D ct adC adM AC AM) {J J2 : sn_S → sn_S → Prop} (hs : st_25 J J2) {σ τ : sn_S} (hJ : J σ τ) {i : Int32} (g1 : vp_in (i + 1) L) (g2 : vp_in (i + 2) L) (g3 : vp_in (i + 3) L) (g4 : vp_in (i + 4) L) (g5 : vp_in (i + 5) L) (kk : ∀ σ τ, J2 σ τ → lw_LAt p l e s m args below meth c Q D ct adC adM AC AM σ τ 2172 [(0, .ref b), (1, .ref (adC 0)), (2, .ref (adM 0)), (3, .int i)] []) : lw_LAt p l e s m args below meth c Q D ct adC adM AC AM σ τ 931 [(0, .ref b), (1, .ref (adC 0)), (2, .ref (adM 0)), (3, .int i)] [] := by
  intro H ls hC hM hl
  have hx := C.1.1
  have hb := C.1.2.1
  have hX := C.2.2.2.2.2.1
  have hbl := C.2.2.2.2.2.2
  have hbA : ¬ AC b := fun z => absurd (C.2.2.1 b z) (by omega)
  refine lv_aload_n hx hb dL_law_931 rfl (lv_at hl 1 rfl) ?_
  obtain ⟨r, r2, σ1, τ1, hf1, hf2, hJ1⟩ := hs σ τ  hJ
  refine lw_call (rest := []) C.1 C.2.2.1 (fun q z1 z2 => C.2.2.2.2.1 q z2 z1) C.2.1.2.2.2.2.2.2.2.2.1 hC hM (ctX8_lowest l hf1) kl_RL_117 layC_0 rfl rfl rfl rfl (Nat.le_of_ble_eq_true rfl) dL_law_932 hl.1 (Nat.le_refl _) (Nat.le_refl _) (fun H hC hM => ?_)
  refine lv_pop hx hb dL_law_935 rfl ?_
  refine lv_aload_n hx hb dL_law_936 rfl (lv_at hl 2 rfl) ?_
  refine lw_call (rest := []) C.2.1 C.2.2.2.1 C.2.2.2.2.1 C.1.2.2.2.2.2.2.2.2.1 hM hC (ctX9_lowest l hf2) kl_RL_120 layM_0 rfl rfl rfl rfl (Nat.le_of_ble_eq_true rfl) dL_law_937 hl.1 (Nat.le_refl _) (Nat.le_refl _) (fun H hM hC => ?_)
  refine lv_pop hx hb dL_law_940 rfl ?_
  refine lv_goto (tgt := 2172) hx hb dL_law_941 (by decide) ?_
  exact kk σ1 τ1 hJ1 H ls hC hM (lv_sub hl [0, 1, 2, 3] rfl)
theorem lw_case_26 (C : lw_C p s m args meth c b L xs D ct adC adM AC AM) {J J2 : sn_S → sn_S → Prop} (hs : st_26 J J2) {σ τ : sn_S} (hJ : J σ τ) {i : Int32} (g1 : vp_in (i + 1) L) (g2 : vp_in (i + 2) L) (g3 : vp_in (i + 3) L) (g4 : vp_in (i + 4) L) (g5 : vp_in (i + 5) L) (kk : ∀ σ τ, J2 σ τ → lw_LAt p l e s m args below meth c Q D ct adC adM AC AM σ τ 2172 [(0, .ref b), (1, .ref (adC 0)), (2, .ref (adM 0)), (3, .int i)] []) : lw_LAt p l e s m args below meth c Q D ct adC adM AC AM σ τ 944 [(0, .ref b), (1, .ref (adC 0)), (2, .ref (adM 0)), (3, .int i)] [] := by
  intro H ls hC hM hl
  have hx := C.1.1
  have hb := C.1.2.1
  have hX := C.2.2.2.2.2.1
  have hbl := C.2.2.2.2.2.2
  have hbA : ¬ AC b := fun z => absurd (C.2.2.1 b z) (by omega)
  refine lv_aload_n hx hb dL_law_944 rfl (lv_at hl 1 rfl) ?_
  refine lv_aload_n hx hb dL_law_945 rfl (lv_at hl 0 rfl) ?_
  refine lv_iload_n hx hb dL_law_946 rfl (lv_at hl 3 rfl) ?_
  refine lv_iconst (v := 1) hx hb dL_law_947 rfl ?_
  refine lv_iadd hx hb dL_law_948 ?_
  refine va_sld hx hb hX hbl hbA hC.2 g1 dL_law_949 ?_
  obtain ⟨r, r2, σ1, τ1, hf1, hf2, hJ1⟩ := hs σ τ (xs (i + 1).toNatClampNeg) hJ
  refine lw_call (rest := []) C.1 C.2.2.1 (fun q z1 z2 => C.2.2.2.2.1 q z2 z1) C.2.1.2.2.2.2.2.2.2.2.1 hC hM (ctX8_dull l hf1) kl_RL_121 layC_0 rfl rfl rfl rfl (Nat.le_of_ble_eq_true rfl) dL_law_950 hl.1 (Nat.le_refl _) (Nat.le_refl _) (fun H hC hM => ?_)
  refine lv_pop hx hb dL_law_953 rfl ?_
  refine lv_aload_n hx hb dL_law_954 rfl (lv_at hl 2 rfl) ?_
  refine lv_aload_n hx hb dL_law_955 rfl (lv_at hl 0 rfl) ?_
  refine lv_iload_n hx hb dL_law_956 rfl (lv_at hl 3 rfl) ?_
  refine lv_iconst (v := 1) hx hb dL_law_957 rfl ?_
  refine lv_iadd hx hb dL_law_958 ?_
  refine va_sld hx hb hX hbl hbA hC.2 g1 dL_law_959 ?_
  refine lw_call (rest := []) C.2.1 C.2.2.2.1 C.2.2.2.2.1 C.1.2.2.2.2.2.2.2.2.1 hM hC (ctX9_dull l hf2) kl_RL_124 layM_0 rfl rfl rfl rfl (Nat.le_of_ble_eq_true rfl) dL_law_960 hl.1 (Nat.le_refl _) (Nat.le_refl _) (fun H hM hC => ?_)
  refine lv_pop hx hb dL_law_963 rfl ?_
  refine lv_goto (tgt := 2172) hx hb dL_law_964 (by decide) ?_
  exact kk σ1 τ1 hJ1 H ls hC hM (lv_sub hl [0, 1, 2, 3] rfl)
theorem lw_case_27 (C : lw_C p s m args meth c b L xs D ct adC adM AC AM) {J J2 : sn_S → sn_S → Prop} (hs : st_27 J J2) {σ τ : sn_S} (hJ : J σ τ) {i : Int32} (g1 : vp_in (i + 1) L) (g2 : vp_in (i + 2) L) (g3 : vp_in (i + 3) L) (g4 : vp_in (i + 4) L) (g5 : vp_in (i + 5) L) (kk : ∀ σ τ, J2 σ τ → lw_LAt p l e s m args below meth c Q D ct adC adM AC AM σ τ 2172 [(0, .ref b), (1, .ref (adC 0)), (2, .ref (adM 0)), (3, .int i)] []) : lw_LAt p l e s m args below meth c Q D ct adC adM AC AM σ τ 967 [(0, .ref b), (1, .ref (adC 0)), (2, .ref (adM 0)), (3, .int i)] [] := by
  intro H ls hC hM hl
  have hx := C.1.1
  have hb := C.1.2.1
  have hX := C.2.2.2.2.2.1
  have hbl := C.2.2.2.2.2.2
  have hbA : ¬ AC b := fun z => absurd (C.2.2.1 b z) (by omega)
  refine lv_aload_n hx hb dL_law_967 rfl (lv_at hl 1 rfl) ?_
  refine lv_aload_n hx hb dL_law_968 rfl (lv_at hl 0 rfl) ?_
  refine lv_iload_n hx hb dL_law_969 rfl (lv_at hl 3 rfl) ?_
  refine lv_iconst (v := 1) hx hb dL_law_970 rfl ?_
  refine lv_iadd hx hb dL_law_971 ?_
  refine va_sld hx hb hX hbl hbA hC.2 g1 dL_law_972 ?_
  obtain ⟨r, r2, σ1, τ1, hf1, hf2, hJ1⟩ := hs σ τ (xs (i + 1).toNatClampNeg) hJ
  refine lw_call (rest := []) C.1 C.2.2.1 (fun q z1 z2 => C.2.2.2.2.1 q z2 z1) C.2.1.2.2.2.2.2.2.2.2.1 hC hM (ctX8_bears l hf1) kl_RL_125 layC_0 rfl rfl rfl rfl (Nat.le_of_ble_eq_true rfl) dL_law_973 hl.1 (Nat.le_refl _) (Nat.le_refl _) (fun H hC hM => ?_)
  refine lv_pop hx hb dL_law_976 rfl ?_
  refine lv_aload_n hx hb dL_law_977 rfl (lv_at hl 2 rfl) ?_
  refine lv_aload_n hx hb dL_law_978 rfl (lv_at hl 0 rfl) ?_
  refine lv_iload_n hx hb dL_law_979 rfl (lv_at hl 3 rfl) ?_
  refine lv_iconst (v := 1) hx hb dL_law_980 rfl ?_
  refine lv_iadd hx hb dL_law_981 ?_
  refine va_sld hx hb hX hbl hbA hC.2 g1 dL_law_982 ?_
  refine lw_call (rest := []) C.2.1 C.2.2.2.1 C.2.2.2.2.1 C.1.2.2.2.2.2.2.2.2.1 hM hC (ctX9_bears l hf2) kl_RL_128 layM_0 rfl rfl rfl rfl (Nat.le_of_ble_eq_true rfl) dL_law_983 hl.1 (Nat.le_refl _) (Nat.le_refl _) (fun H hM hC => ?_)
  refine lv_pop hx hb dL_law_986 rfl ?_
  refine lv_goto (tgt := 2172) hx hb dL_law_987 (by decide) ?_
  exact kk σ1 τ1 hJ1 H ls hC hM (lv_sub hl [0, 1, 2, 3] rfl)
theorem lw_case_28 (C : lw_C p s m args meth c b L xs D ct adC adM AC AM) {J J2 : sn_S → sn_S → Prop} (hs : st_28 J J2) {σ τ : sn_S} (hJ : J σ τ) {i : Int32} (g1 : vp_in (i + 1) L) (g2 : vp_in (i + 2) L) (g3 : vp_in (i + 3) L) (g4 : vp_in (i + 4) L) (g5 : vp_in (i + 5) L) (kk : ∀ σ τ, J2 σ τ → lw_LAt p l e s m args below meth c Q D ct adC adM AC AM σ τ 2172 [(0, .ref b), (1, .ref (adC 0)), (2, .ref (adM 0)), (3, .int i)] []) : lw_LAt p l e s m args below meth c Q D ct adC adM AC AM σ τ 990 [(0, .ref b), (1, .ref (adC 0)), (2, .ref (adM 0)), (3, .int i)] [] := by
  intro H ls hC hM hl
  have hx := C.1.1
  have hb := C.1.2.1
  have hX := C.2.2.2.2.2.1
  have hbl := C.2.2.2.2.2.2
  have hbA : ¬ AC b := fun z => absurd (C.2.2.1 b z) (by omega)
  refine lv_aload_n hx hb dL_law_990 rfl (lv_at hl 1 rfl) ?_
  obtain ⟨r, r2, σ1, τ1, hf1, hf2, hJ1⟩ := hs σ τ  hJ
  refine lw_call (rest := []) C.1 C.2.2.1 (fun q z1 z2 => C.2.2.2.2.1 q z2 z1) C.2.1.2.2.2.2.2.2.2.2.1 hC hM (ctX8_clean l hf1) kl_RL_129 layC_0 rfl rfl rfl rfl (Nat.le_of_ble_eq_true rfl) dL_law_991 hl.1 (Nat.le_refl _) (Nat.le_refl _) (fun H hC hM => ?_)
  refine lv_pop hx hb dL_law_994 rfl ?_
  refine lv_aload_n hx hb dL_law_995 rfl (lv_at hl 2 rfl) ?_
  refine lw_call (rest := []) C.2.1 C.2.2.2.1 C.2.2.2.2.1 C.1.2.2.2.2.2.2.2.2.1 hM hC (ctX9_clean l hf2) kl_RL_132 layM_0 rfl rfl rfl rfl (Nat.le_of_ble_eq_true rfl) dL_law_996 hl.1 (Nat.le_refl _) (Nat.le_refl _) (fun H hM hC => ?_)
  refine lv_pop hx hb dL_law_999 rfl ?_
  refine lv_goto (tgt := 2172) hx hb dL_law_1000 (by decide) ?_
  exact kk σ1 τ1 hJ1 H ls hC hM (lv_sub hl [0, 1, 2, 3] rfl)
theorem lw_case_29 (C : lw_C p s m args meth c b L xs D ct adC adM AC AM) {J J2 : sn_S → sn_S → Prop} (hs : st_29 J J2) {σ τ : sn_S} (hJ : J σ τ) {i : Int32} (g1 : vp_in (i + 1) L) (g2 : vp_in (i + 2) L) (g3 : vp_in (i + 3) L) (g4 : vp_in (i + 4) L) (g5 : vp_in (i + 5) L) (kk : ∀ σ τ, J2 σ τ → lw_LAt p l e s m args below meth c Q D ct adC adM AC AM σ τ 2172 [(0, .ref b), (1, .ref (adC 0)), (2, .ref (adM 0)), (3, .int i)] []) : lw_LAt p l e s m args below meth c Q D ct adC adM AC AM σ τ 1003 [(0, .ref b), (1, .ref (adC 0)), (2, .ref (adM 0)), (3, .int i)] [] := by
  intro H ls hC hM hl
  have hx := C.1.1
  have hb := C.1.2.1
  have hX := C.2.2.2.2.2.1
  have hbl := C.2.2.2.2.2.2
  have hbA : ¬ AC b := fun z => absurd (C.2.2.1 b z) (by omega)
  refine lv_aload_n hx hb dL_law_1003 rfl (lv_at hl 1 rfl) ?_
  refine lv_aload_n hx hb dL_law_1004 rfl (lv_at hl 0 rfl) ?_
  refine lv_iload_n hx hb dL_law_1005 rfl (lv_at hl 3 rfl) ?_
  refine lv_iconst (v := 1) hx hb dL_law_1006 rfl ?_
  refine lv_iadd hx hb dL_law_1007 ?_
  refine va_sld hx hb hX hbl hbA hC.2 g1 dL_law_1008 ?_
  obtain ⟨r, r2, σ1, τ1, hf1, hf2, hJ1⟩ := hs σ τ (xs (i + 1).toNatClampNeg) hJ
  refine lw_call (rest := []) C.1 C.2.2.1 (fun q z1 z2 => C.2.2.2.2.1 q z2 z1) C.2.1.2.2.2.2.2.2.2.2.1 hC hM (ctX8_spreads l hf1) kl_RL_133 layC_0 rfl rfl rfl rfl (Nat.le_of_ble_eq_true rfl) dL_law_1009 hl.1 (Nat.le_refl _) (Nat.le_refl _) (fun H hC hM => ?_)
  refine lv_pop hx hb dL_law_1012 rfl ?_
  refine lv_aload_n hx hb dL_law_1013 rfl (lv_at hl 2 rfl) ?_
  refine lv_aload_n hx hb dL_law_1014 rfl (lv_at hl 0 rfl) ?_
  refine lv_iload_n hx hb dL_law_1015 rfl (lv_at hl 3 rfl) ?_
  refine lv_iconst (v := 1) hx hb dL_law_1016 rfl ?_
  refine lv_iadd hx hb dL_law_1017 ?_
  refine va_sld hx hb hX hbl hbA hC.2 g1 dL_law_1018 ?_
  refine lw_call (rest := []) C.2.1 C.2.2.2.1 C.2.2.2.2.1 C.1.2.2.2.2.2.2.2.2.1 hM hC (ctX9_spreads l hf2) kl_RL_136 layM_0 rfl rfl rfl rfl (Nat.le_of_ble_eq_true rfl) dL_law_1019 hl.1 (Nat.le_refl _) (Nat.le_refl _) (fun H hM hC => ?_)
  refine lv_pop hx hb dL_law_1022 rfl ?_
  refine lv_goto (tgt := 2172) hx hb dL_law_1023 (by decide) ?_
  exact kk σ1 τ1 hJ1 H ls hC hM (lv_sub hl [0, 1, 2, 3] rfl)
theorem lw_case_30 (C : lw_C p s m args meth c b L xs D ct adC adM AC AM) {J J2 : sn_S → sn_S → Prop} (hs : st_30 J J2) {σ τ : sn_S} (hJ : J σ τ) {i : Int32} (g1 : vp_in (i + 1) L) (g2 : vp_in (i + 2) L) (g3 : vp_in (i + 3) L) (g4 : vp_in (i + 4) L) (g5 : vp_in (i + 5) L) (kk : ∀ σ τ, J2 σ τ → lw_LAt p l e s m args below meth c Q D ct adC adM AC AM σ τ 2172 [(0, .ref b), (1, .ref (adC 0)), (2, .ref (adM 0)), (3, .int i)] []) : lw_LAt p l e s m args below meth c Q D ct adC adM AC AM σ τ 1026 [(0, .ref b), (1, .ref (adC 0)), (2, .ref (adM 0)), (3, .int i)] [] := by
  intro H ls hC hM hl
  have hx := C.1.1
  have hb := C.1.2.1
  have hX := C.2.2.2.2.2.1
  have hbl := C.2.2.2.2.2.2
  have hbA : ¬ AC b := fun z => absurd (C.2.2.1 b z) (by omega)
  refine lv_aload_n hx hb dL_law_1026 rfl (lv_at hl 1 rfl) ?_
  refine lv_aload_n hx hb dL_law_1027 rfl (lv_at hl 0 rfl) ?_
  refine lv_iload_n hx hb dL_law_1028 rfl (lv_at hl 3 rfl) ?_
  refine lv_iconst (v := 1) hx hb dL_law_1029 rfl ?_
  refine lv_iadd hx hb dL_law_1030 ?_
  refine va_sld hx hb hX hbl hbA hC.2 g1 dL_law_1031 ?_
  obtain ⟨r, r2, τ1, hf1, hf2, hJ1⟩ := hs σ τ (xs (i + 1).toNatClampNeg) hJ
  refine lw_call (rest := []) C.1 C.2.2.1 (fun q z1 z2 => C.2.2.2.2.1 q z2 z1) C.2.1.2.2.2.2.2.2.2.2.1 hC hM (ctX8_web l hf1) kl_RL_137 layC_0 rfl rfl rfl rfl (Nat.le_of_ble_eq_true rfl) dL_law_1032 hl.1 (Nat.le_refl _) (Nat.le_refl _) (fun H hC hM => ?_)
  refine lv_pop hx hb dL_law_1035 rfl ?_
  refine lv_aload_n hx hb dL_law_1036 rfl (lv_at hl 2 rfl) ?_
  refine lv_aload_n hx hb dL_law_1037 rfl (lv_at hl 0 rfl) ?_
  refine lv_iload_n hx hb dL_law_1038 rfl (lv_at hl 3 rfl) ?_
  refine lv_iconst (v := 1) hx hb dL_law_1039 rfl ?_
  refine lv_iadd hx hb dL_law_1040 ?_
  refine va_sld hx hb hX hbl hbA hC.2 g1 dL_law_1041 ?_
  refine lw_call (rest := []) C.2.1 C.2.2.2.1 C.2.2.2.2.1 C.1.2.2.2.2.2.2.2.2.1 hM hC (ctX9_web l hf2) kl_RL_140 layM_0 rfl rfl rfl rfl (Nat.le_of_ble_eq_true rfl) dL_law_1042 hl.1 (Nat.le_refl _) (Nat.le_refl _) (fun H hM hC => ?_)
  refine lv_pop hx hb dL_law_1045 rfl ?_
  refine lv_goto (tgt := 2172) hx hb dL_law_1046 (by decide) ?_
  exact kk σ τ1 hJ1 H ls hC hM (lv_sub hl [0, 1, 2, 3] rfl)
theorem lw_case_31 (C : lw_C p s m args meth c b L xs D ct adC adM AC AM) {J J2 : sn_S → sn_S → Prop} (hs : st_31 J J2) {σ τ : sn_S} (hJ : J σ τ) {i : Int32} (g1 : vp_in (i + 1) L) (g2 : vp_in (i + 2) L) (g3 : vp_in (i + 3) L) (g4 : vp_in (i + 4) L) (g5 : vp_in (i + 5) L) (kk : ∀ σ τ, J2 σ τ → lw_LAt p l e s m args below meth c Q D ct adC adM AC AM σ τ 2172 [(0, .ref b), (1, .ref (adC 0)), (2, .ref (adM 0)), (3, .int i)] []) : lw_LAt p l e s m args below meth c Q D ct adC adM AC AM σ τ 1049 [(0, .ref b), (1, .ref (adC 0)), (2, .ref (adM 0)), (3, .int i)] [] := by
  intro H ls hC hM hl
  have hx := C.1.1
  have hb := C.1.2.1
  have hX := C.2.2.2.2.2.1
  have hbl := C.2.2.2.2.2.2
  have hbA : ¬ AC b := fun z => absurd (C.2.2.1 b z) (by omega)
  refine lv_aload_n hx hb dL_law_1049 rfl (lv_at hl 1 rfl) ?_
  refine lv_aload_n hx hb dL_law_1050 rfl (lv_at hl 0 rfl) ?_
  refine lv_iload_n hx hb dL_law_1051 rfl (lv_at hl 3 rfl) ?_
  refine lv_iconst (v := 1) hx hb dL_law_1052 rfl ?_
  refine lv_iadd hx hb dL_law_1053 ?_
  refine va_sld hx hb hX hbl hbA hC.2 g1 dL_law_1054 ?_
  obtain ⟨r, r2, σ1, τ1, hf1, hf2, hJ1⟩ := hs σ τ (xs (i + 1).toNatClampNeg) hJ
  refine lw_call (rest := []) C.1 C.2.2.1 (fun q z1 z2 => C.2.2.2.2.1 q z2 z1) C.2.1.2.2.2.2.2.2.2.2.1 hC hM (ctX8_claim l hf1) kl_RL_141 layC_0 rfl rfl rfl rfl (Nat.le_of_ble_eq_true rfl) dL_law_1055 hl.1 (Nat.le_refl _) (Nat.le_refl _) (fun H hC hM => ?_)
  refine lv_pop hx hb dL_law_1058 rfl ?_
  refine lv_aload_n hx hb dL_law_1059 rfl (lv_at hl 2 rfl) ?_
  refine lv_aload_n hx hb dL_law_1060 rfl (lv_at hl 0 rfl) ?_
  refine lv_iload_n hx hb dL_law_1061 rfl (lv_at hl 3 rfl) ?_
  refine lv_iconst (v := 1) hx hb dL_law_1062 rfl ?_
  refine lv_iadd hx hb dL_law_1063 ?_
  refine va_sld hx hb hX hbl hbA hC.2 g1 dL_law_1064 ?_
  refine lw_call (rest := []) C.2.1 C.2.2.2.1 C.2.2.2.2.1 C.1.2.2.2.2.2.2.2.2.1 hM hC (ctX9_claim l hf2) kl_RL_144 layM_0 rfl rfl rfl rfl (Nat.le_of_ble_eq_true rfl) dL_law_1065 hl.1 (Nat.le_refl _) (Nat.le_refl _) (fun H hM hC => ?_)
  refine lv_pop hx hb dL_law_1068 rfl ?_
  refine lv_goto (tgt := 2172) hx hb dL_law_1069 (by decide) ?_
  exact kk σ1 τ1 hJ1 H ls hC hM (lv_sub hl [0, 1, 2, 3] rfl)
theorem lw_case_32 (C : lw_C p s m args meth c b L xs D ct adC adM AC AM) {J J2 : sn_S → sn_S → Prop} (hs : st_32 J J2) {σ τ : sn_S} (hJ : J σ τ) {i : Int32} (g1 : vp_in (i + 1) L) (g2 : vp_in (i + 2) L) (g3 : vp_in (i + 3) L) (g4 : vp_in (i + 4) L) (g5 : vp_in (i + 5) L) (kk : ∀ σ τ, J2 σ τ → lw_LAt p l e s m args below meth c Q D ct adC adM AC AM σ τ 2172 [(0, .ref b), (1, .ref (adC 0)), (2, .ref (adM 0)), (3, .int i)] []) : lw_LAt p l e s m args below meth c Q D ct adC adM AC AM σ τ 1072 [(0, .ref b), (1, .ref (adC 0)), (2, .ref (adM 0)), (3, .int i)] [] := by
  intro H ls hC hM hl
  have hx := C.1.1
  have hb := C.1.2.1
  have hX := C.2.2.2.2.2.1
  have hbl := C.2.2.2.2.2.2
  have hbA : ¬ AC b := fun z => absurd (C.2.2.1 b z) (by omega)
  refine lv_aload_n hx hb dL_law_1072 rfl (lv_at hl 1 rfl) ?_
  refine lv_aload_n hx hb dL_law_1073 rfl (lv_at hl 0 rfl) ?_
  refine lv_iload_n hx hb dL_law_1074 rfl (lv_at hl 3 rfl) ?_
  refine lv_iconst (v := 1) hx hb dL_law_1075 rfl ?_
  refine lv_iadd hx hb dL_law_1076 ?_
  refine va_sld hx hb hX hbl hbA hC.2 g1 dL_law_1077 ?_
  obtain ⟨r, r2, σ1, τ1, hf1, hf2, hJ1⟩ := hs σ τ (xs (i + 1).toNatClampNeg) hJ
  refine lw_call (rest := []) C.1 C.2.2.1 (fun q z1 z2 => C.2.2.2.2.1 q z2 z1) C.2.1.2.2.2.2.2.2.2.2.1 hC hM (ctX8_paid l hf1) kl_RL_145 layC_0 rfl rfl rfl rfl (Nat.le_of_ble_eq_true rfl) dL_law_1078 hl.1 (Nat.le_refl _) (Nat.le_refl _) (fun H hC hM => ?_)
  refine lv_pop hx hb dL_law_1081 rfl ?_
  refine lv_aload_n hx hb dL_law_1082 rfl (lv_at hl 2 rfl) ?_
  refine lv_aload_n hx hb dL_law_1083 rfl (lv_at hl 0 rfl) ?_
  refine lv_iload_n hx hb dL_law_1084 rfl (lv_at hl 3 rfl) ?_
  refine lv_iconst (v := 1) hx hb dL_law_1085 rfl ?_
  refine lv_iadd hx hb dL_law_1086 ?_
  refine va_sld hx hb hX hbl hbA hC.2 g1 dL_law_1087 ?_
  refine lw_call (rest := []) C.2.1 C.2.2.2.1 C.2.2.2.2.1 C.1.2.2.2.2.2.2.2.2.1 hM hC (ctX9_paid l hf2) kl_RL_148 layM_0 rfl rfl rfl rfl (Nat.le_of_ble_eq_true rfl) dL_law_1088 hl.1 (Nat.le_refl _) (Nat.le_refl _) (fun H hM hC => ?_)
  refine lv_pop hx hb dL_law_1091 rfl ?_
  refine lv_goto (tgt := 2172) hx hb dL_law_1092 (by decide) ?_
  exact kk σ1 τ1 hJ1 H ls hC hM (lv_sub hl [0, 1, 2, 3] rfl)
theorem lw_case_33 (C : lw_C p s m args meth c b L xs D ct adC adM AC AM) {J J2 : sn_S → sn_S → Prop} (hs : st_33 J J2) {σ τ : sn_S} (hJ : J σ τ) {i : Int32} (g1 : vp_in (i + 1) L) (g2 : vp_in (i + 2) L) (g3 : vp_in (i + 3) L) (g4 : vp_in (i + 4) L) (g5 : vp_in (i + 5) L) (kk : ∀ σ τ, J2 σ τ → lw_LAt p l e s m args below meth c Q D ct adC adM AC AM σ τ 2172 [(0, .ref b), (1, .ref (adC 0)), (2, .ref (adM 0)), (3, .int i)] []) : lw_LAt p l e s m args below meth c Q D ct adC adM AC AM σ τ 1095 [(0, .ref b), (1, .ref (adC 0)), (2, .ref (adM 0)), (3, .int i)] [] := by
  intro H ls hC hM hl
  have hx := C.1.1
  have hb := C.1.2.1
  have hX := C.2.2.2.2.2.1
  have hbl := C.2.2.2.2.2.2
  have hbA : ¬ AC b := fun z => absurd (C.2.2.1 b z) (by omega)
  refine lv_aload_n hx hb dL_law_1095 rfl (lv_at hl 1 rfl) ?_
  obtain ⟨r, r2, σ1, τ1, hf1, hf2, hJ1⟩ := hs σ τ  hJ
  refine lw_call (rest := []) C.1 C.2.2.1 (fun q z1 z2 => C.2.2.2.2.1 q z2 z1) C.2.1.2.2.2.2.2.2.2.2.1 hC hM (ctX8_claims l hf1) kl_RL_149 layC_0 rfl rfl rfl rfl (Nat.le_of_ble_eq_true rfl) dL_law_1096 hl.1 (Nat.le_refl _) (Nat.le_refl _) (fun H hC hM => ?_)
  refine lv_pop hx hb dL_law_1099 rfl ?_
  refine lv_aload_n hx hb dL_law_1100 rfl (lv_at hl 2 rfl) ?_
  refine lw_call (rest := []) C.2.1 C.2.2.2.1 C.2.2.2.2.1 C.1.2.2.2.2.2.2.2.2.1 hM hC (ctX9_claims l hf2) kl_RL_152 layM_0 rfl rfl rfl rfl (Nat.le_of_ble_eq_true rfl) dL_law_1101 hl.1 (Nat.le_refl _) (Nat.le_refl _) (fun H hM hC => ?_)
  refine lv_pop hx hb dL_law_1104 rfl ?_
  refine lv_goto (tgt := 2172) hx hb dL_law_1105 (by decide) ?_
  exact kk σ1 τ1 hJ1 H ls hC hM (lv_sub hl [0, 1, 2, 3] rfl)
theorem lw_case_34 (C : lw_C p s m args meth c b L xs D ct adC adM AC AM) {J J2 : sn_S → sn_S → Prop} (hs : st_34 J J2) {σ τ : sn_S} (hJ : J σ τ) {i : Int32} (g1 : vp_in (i + 1) L) (g2 : vp_in (i + 2) L) (g3 : vp_in (i + 3) L) (g4 : vp_in (i + 4) L) (g5 : vp_in (i + 5) L) (kk : ∀ σ τ, J2 σ τ → lw_LAt p l e s m args below meth c Q D ct adC adM AC AM σ τ 2172 [(0, .ref b), (1, .ref (adC 0)), (2, .ref (adM 0)), (3, .int i)] []) : lw_LAt p l e s m args below meth c Q D ct adC adM AC AM σ τ 1108 [(0, .ref b), (1, .ref (adC 0)), (2, .ref (adM 0)), (3, .int i)] [] := by
  intro H ls hC hM hl
  have hx := C.1.1
  have hb := C.1.2.1
  have hX := C.2.2.2.2.2.1
  have hbl := C.2.2.2.2.2.2
  have hbA : ¬ AC b := fun z => absurd (C.2.2.1 b z) (by omega)
  refine lv_aload_n hx hb dL_law_1108 rfl (lv_at hl 1 rfl) ?_
  refine lv_aload_n hx hb dL_law_1109 rfl (lv_at hl 0 rfl) ?_
  refine lv_iload_n hx hb dL_law_1110 rfl (lv_at hl 3 rfl) ?_
  refine lv_iconst (v := 1) hx hb dL_law_1111 rfl ?_
  refine lv_iadd hx hb dL_law_1112 ?_
  refine va_sld hx hb hX hbl hbA hC.2 g1 dL_law_1113 ?_
  obtain ⟨r, r2, σ1, τ1, hf1, hf2, hJ1⟩ := hs σ τ (xs (i + 1).toNatClampNeg) hJ
  refine lw_call (rest := []) C.1 C.2.2.1 (fun q z1 z2 => C.2.2.2.2.1 q z2 z1) C.2.1.2.2.2.2.2.2.2.2.1 hC hM (ctX8_money l hf1) kl_RL_153 layC_0 rfl rfl rfl rfl (Nat.le_of_ble_eq_true rfl) dL_law_1114 hl.1 (Nat.le_refl _) (Nat.le_refl _) (fun H hC hM => ?_)
  refine lv_pop hx hb dL_law_1117 rfl ?_
  refine lv_aload_n hx hb dL_law_1118 rfl (lv_at hl 2 rfl) ?_
  refine lv_aload_n hx hb dL_law_1119 rfl (lv_at hl 0 rfl) ?_
  refine lv_iload_n hx hb dL_law_1120 rfl (lv_at hl 3 rfl) ?_
  refine lv_iconst (v := 1) hx hb dL_law_1121 rfl ?_
  refine lv_iadd hx hb dL_law_1122 ?_
  refine va_sld hx hb hX hbl hbA hC.2 g1 dL_law_1123 ?_
  refine lw_call (rest := []) C.2.1 C.2.2.2.1 C.2.2.2.2.1 C.1.2.2.2.2.2.2.2.2.1 hM hC (ctX9_money l hf2) kl_RL_156 layM_0 rfl rfl rfl rfl (Nat.le_of_ble_eq_true rfl) dL_law_1124 hl.1 (Nat.le_refl _) (Nat.le_refl _) (fun H hM hC => ?_)
  refine lv_pop hx hb dL_law_1127 rfl ?_
  refine lv_goto (tgt := 2172) hx hb dL_law_1128 (by decide) ?_
  exact kk σ1 τ1 hJ1 H ls hC hM (lv_sub hl [0, 1, 2, 3] rfl)
theorem lw_case_35 (C : lw_C p s m args meth c b L xs D ct adC adM AC AM) {J J2 : sn_S → sn_S → Prop} (hs : st_35 J J2) {σ τ : sn_S} (hJ : J σ τ) {i : Int32} (g1 : vp_in (i + 1) L) (g2 : vp_in (i + 2) L) (g3 : vp_in (i + 3) L) (g4 : vp_in (i + 4) L) (g5 : vp_in (i + 5) L) (kk : ∀ σ τ, J2 σ τ → lw_LAt p l e s m args below meth c Q D ct adC adM AC AM σ τ 2172 [(0, .ref b), (1, .ref (adC 0)), (2, .ref (adM 0)), (3, .int i)] []) : lw_LAt p l e s m args below meth c Q D ct adC adM AC AM σ τ 1131 [(0, .ref b), (1, .ref (adC 0)), (2, .ref (adM 0)), (3, .int i)] [] := by
  intro H ls hC hM hl
  have hx := C.1.1
  have hb := C.1.2.1
  have hX := C.2.2.2.2.2.1
  have hbl := C.2.2.2.2.2.2
  have hbA : ¬ AC b := fun z => absurd (C.2.2.1 b z) (by omega)
  refine lv_aload_n hx hb dL_law_1131 rfl (lv_at hl 1 rfl) ?_
  obtain ⟨r, r2, σ1, τ1, hf1, hf2, hJ1⟩ := hs σ τ  hJ
  refine lw_call (rest := []) C.1 C.2.2.1 (fun q z1 z2 => C.2.2.2.2.1 q z2 z1) C.2.1.2.2.2.2.2.2.2.2.1 hC hM (ctX8_ruin l hf1) kl_RL_157 layC_0 rfl rfl rfl rfl (Nat.le_of_ble_eq_true rfl) dL_law_1132 hl.1 (Nat.le_refl _) (Nat.le_refl _) (fun H hC hM => ?_)
  refine lv_pop hx hb dL_law_1135 rfl ?_
  refine lv_aload_n hx hb dL_law_1136 rfl (lv_at hl 2 rfl) ?_
  refine lw_call (rest := []) C.2.1 C.2.2.2.1 C.2.2.2.2.1 C.1.2.2.2.2.2.2.2.2.1 hM hC (ctX9_ruin l hf2) kl_RL_160 layM_0 rfl rfl rfl rfl (Nat.le_of_ble_eq_true rfl) dL_law_1137 hl.1 (Nat.le_refl _) (Nat.le_refl _) (fun H hM hC => ?_)
  refine lv_pop hx hb dL_law_1140 rfl ?_
  refine lv_goto (tgt := 2172) hx hb dL_law_1141 (by decide) ?_
  exact kk σ1 τ1 hJ1 H ls hC hM (lv_sub hl [0, 1, 2, 3] rfl)
theorem lw_case_36 (C : lw_C p s m args meth c b L xs D ct adC adM AC AM) {J J2 : sn_S → sn_S → Prop} (hs : st_36 J J2) {σ τ : sn_S} (hJ : J σ τ) {i : Int32} (g1 : vp_in (i + 1) L) (g2 : vp_in (i + 2) L) (g3 : vp_in (i + 3) L) (g4 : vp_in (i + 4) L) (g5 : vp_in (i + 5) L) (kk : ∀ σ τ, J2 σ τ → lw_LAt p l e s m args below meth c Q D ct adC adM AC AM σ τ 2172 [(0, .ref b), (1, .ref (adC 0)), (2, .ref (adM 0)), (3, .int i)] []) : lw_LAt p l e s m args below meth c Q D ct adC adM AC AM σ τ 1144 [(0, .ref b), (1, .ref (adC 0)), (2, .ref (adM 0)), (3, .int i)] [] := by
  intro H ls hC hM hl
  have hx := C.1.1
  have hb := C.1.2.1
  have hX := C.2.2.2.2.2.1
  have hbl := C.2.2.2.2.2.2
  have hbA : ¬ AC b := fun z => absurd (C.2.2.1 b z) (by omega)
  refine lv_aload_n hx hb dL_law_1144 rfl (lv_at hl 1 rfl) ?_
  obtain ⟨r, r2, σ1, τ1, hf1, hf2, hJ1⟩ := hs σ τ  hJ
  refine lw_call (rest := []) C.1 C.2.2.1 (fun q z1 z2 => C.2.2.2.2.1 q z2 z1) C.2.1.2.2.2.2.2.2.2.2.1 hC hM (ctX8_dear l hf1) kl_RL_161 layC_0 rfl rfl rfl rfl (Nat.le_of_ble_eq_true rfl) dL_law_1145 hl.1 (Nat.le_refl _) (Nat.le_refl _) (fun H hC hM => ?_)
  refine lv_pop hx hb dL_law_1148 rfl ?_
  refine lv_aload_n hx hb dL_law_1149 rfl (lv_at hl 2 rfl) ?_
  refine lw_call (rest := []) C.2.1 C.2.2.2.1 C.2.2.2.2.1 C.1.2.2.2.2.2.2.2.2.1 hM hC (ctX9_dear l hf2) kl_RL_164 layM_0 rfl rfl rfl rfl (Nat.le_of_ble_eq_true rfl) dL_law_1150 hl.1 (Nat.le_refl _) (Nat.le_refl _) (fun H hM hC => ?_)
  refine lv_pop hx hb dL_law_1153 rfl ?_
  refine lv_goto (tgt := 2172) hx hb dL_law_1154 (by decide) ?_
  exact kk σ1 τ1 hJ1 H ls hC hM (lv_sub hl [0, 1, 2, 3] rfl)
theorem lw_case_37 (C : lw_C p s m args meth c b L xs D ct adC adM AC AM) {J J2 : sn_S → sn_S → Prop} (hs : st_37 J J2) {σ τ : sn_S} (hJ : J σ τ) {i : Int32} (g1 : vp_in (i + 1) L) (g2 : vp_in (i + 2) L) (g3 : vp_in (i + 3) L) (g4 : vp_in (i + 4) L) (g5 : vp_in (i + 5) L) (kk : ∀ σ τ, J2 σ τ → lw_LAt p l e s m args below meth c Q D ct adC adM AC AM σ τ 2172 [(0, .ref b), (1, .ref (adC 0)), (2, .ref (adM 0)), (3, .int i)] []) : lw_LAt p l e s m args below meth c Q D ct adC adM AC AM σ τ 1157 [(0, .ref b), (1, .ref (adC 0)), (2, .ref (adM 0)), (3, .int i)] [] := by
  intro H ls hC hM hl
  have hx := C.1.1
  have hb := C.1.2.1
  have hX := C.2.2.2.2.2.1
  have hbl := C.2.2.2.2.2.2
  have hbA : ¬ AC b := fun z => absurd (C.2.2.1 b z) (by omega)
  refine lv_aload_n hx hb dL_law_1157 rfl (lv_at hl 1 rfl) ?_
  obtain ⟨r, r2, σ1, τ1, hf1, hf2, hJ1⟩ := hs σ τ  hJ
  refine lw_call (rest := []) C.1 C.2.2.1 (fun q z1 z2 => C.2.2.2.2.1 q z2 z1) C.2.1.2.2.2.2.2.2.2.2.1 hC hM (ctX8_reserve l hf1) kl_RL_165 layC_0 rfl rfl rfl rfl (Nat.le_of_ble_eq_true rfl) dL_law_1158 hl.1 (Nat.le_refl _) (Nat.le_refl _) (fun H hC hM => ?_)
  refine lv_pop hx hb dL_law_1161 rfl ?_
  refine lv_aload_n hx hb dL_law_1162 rfl (lv_at hl 2 rfl) ?_
  refine lw_call (rest := []) C.2.1 C.2.2.2.1 C.2.2.2.2.1 C.1.2.2.2.2.2.2.2.2.1 hM hC (ctX9_reserve l hf2) kl_RL_168 layM_0 rfl rfl rfl rfl (Nat.le_of_ble_eq_true rfl) dL_law_1163 hl.1 (Nat.le_refl _) (Nat.le_refl _) (fun H hM hC => ?_)
  refine lv_pop hx hb dL_law_1166 rfl ?_
  refine lv_goto (tgt := 2172) hx hb dL_law_1167 (by decide) ?_
  exact kk σ1 τ1 hJ1 H ls hC hM (lv_sub hl [0, 1, 2, 3] rfl)
theorem lw_case_38 (C : lw_C p s m args meth c b L xs D ct adC adM AC AM) {J J2 : sn_S → sn_S → Prop} (hs : st_38 J J2) {σ τ : sn_S} (hJ : J σ τ) {i : Int32} (g1 : vp_in (i + 1) L) (g2 : vp_in (i + 2) L) (g3 : vp_in (i + 3) L) (g4 : vp_in (i + 4) L) (g5 : vp_in (i + 5) L) (kk : ∀ σ τ, J2 σ τ → lw_LAt p l e s m args below meth c Q D ct adC adM AC AM σ τ 2172 [(0, .ref b), (1, .ref (adC 0)), (2, .ref (adM 0)), (3, .int i)] []) : lw_LAt p l e s m args below meth c Q D ct adC adM AC AM σ τ 1170 [(0, .ref b), (1, .ref (adC 0)), (2, .ref (adM 0)), (3, .int i)] [] := by
  intro H ls hC hM hl
  have hx := C.1.1
  have hb := C.1.2.1
  have hX := C.2.2.2.2.2.1
  have hbl := C.2.2.2.2.2.2
  have hbA : ¬ AC b := fun z => absurd (C.2.2.1 b z) (by omega)
  refine lv_aload_n hx hb dL_law_1170 rfl (lv_at hl 1 rfl) ?_
  refine lv_aload_n hx hb dL_law_1171 rfl (lv_at hl 0 rfl) ?_
  refine lv_iload_n hx hb dL_law_1172 rfl (lv_at hl 3 rfl) ?_
  refine lv_iconst (v := 1) hx hb dL_law_1173 rfl ?_
  refine lv_iadd hx hb dL_law_1174 ?_
  refine va_sld hx hb hX hbl hbA hC.2 g1 dL_law_1175 ?_
  obtain ⟨r, r2, σ1, τ1, hf1, hf2, hJ1⟩ := hs σ τ (xs (i + 1).toNatClampNeg) hJ
  refine lw_call (rest := []) C.1 C.2.2.1 (fun q z1 z2 => C.2.2.2.2.1 q z2 z1) C.2.1.2.2.2.2.2.2.2.2.1 hC hM (ctX8_by l hf1) kl_RL_169 layC_0 rfl rfl rfl rfl (Nat.le_of_ble_eq_true rfl) dL_law_1176 hl.1 (Nat.le_refl _) (Nat.le_refl _) (fun H hC hM => ?_)
  refine lv_pop hx hb dL_law_1179 rfl ?_
  refine lv_aload_n hx hb dL_law_1180 rfl (lv_at hl 2 rfl) ?_
  refine lv_aload_n hx hb dL_law_1181 rfl (lv_at hl 0 rfl) ?_
  refine lv_iload_n hx hb dL_law_1182 rfl (lv_at hl 3 rfl) ?_
  refine lv_iconst (v := 1) hx hb dL_law_1183 rfl ?_
  refine lv_iadd hx hb dL_law_1184 ?_
  refine va_sld hx hb hX hbl hbA hC.2 g1 dL_law_1185 ?_
  refine lw_call (rest := []) C.2.1 C.2.2.2.1 C.2.2.2.2.1 C.1.2.2.2.2.2.2.2.2.1 hM hC (ctX9_by l hf2) kl_RL_172 layM_0 rfl rfl rfl rfl (Nat.le_of_ble_eq_true rfl) dL_law_1186 hl.1 (Nat.le_refl _) (Nat.le_refl _) (fun H hM hC => ?_)
  refine lv_pop hx hb dL_law_1189 rfl ?_
  refine lv_goto (tgt := 2172) hx hb dL_law_1190 (by decide) ?_
  exact kk σ1 τ1 hJ1 H ls hC hM (lv_sub hl [0, 1, 2, 3] rfl)
theorem lw_case_39 (C : lw_C p s m args meth c b L xs D ct adC adM AC AM) {J J2 : sn_S → sn_S → Prop} (hs : st_39 J J2) {σ τ : sn_S} (hJ : J σ τ) {i : Int32} (g1 : vp_in (i + 1) L) (g2 : vp_in (i + 2) L) (g3 : vp_in (i + 3) L) (g4 : vp_in (i + 4) L) (g5 : vp_in (i + 5) L) (kk : ∀ σ τ, J2 σ τ → lw_LAt p l e s m args below meth c Q D ct adC adM AC AM σ τ 2172 [(0, .ref b), (1, .ref (adC 0)), (2, .ref (adM 0)), (3, .int i)] []) : lw_LAt p l e s m args below meth c Q D ct adC adM AC AM σ τ 1193 [(0, .ref b), (1, .ref (adC 0)), (2, .ref (adM 0)), (3, .int i)] [] := by
  intro H ls hC hM hl
  have hx := C.1.1
  have hb := C.1.2.1
  have hX := C.2.2.2.2.2.1
  have hbl := C.2.2.2.2.2.2
  have hbA : ¬ AC b := fun z => absurd (C.2.2.1 b z) (by omega)
  refine lv_aload_n hx hb dL_law_1193 rfl (lv_at hl 1 rfl) ?_
  obtain ⟨r, r2, σ1, τ1, hf1, hf2, hJ1⟩ := hs σ τ  hJ
  refine lw_call (rest := []) C.1 C.2.2.1 (fun q z1 z2 => C.2.2.2.2.1 q z2 z1) C.2.1.2.2.2.2.2.2.2.2.1 hC hM (ctX8_law l hf1) kl_RL_173 layC_0 rfl rfl rfl rfl (Nat.le_of_ble_eq_true rfl) dL_law_1194 hl.1 (Nat.le_refl _) (Nat.le_refl _) (fun H hC hM => ?_)
  refine lv_pop hx hb dL_law_1197 rfl ?_
  refine lv_aload_n hx hb dL_law_1198 rfl (lv_at hl 2 rfl) ?_
  refine lw_call (rest := []) C.2.1 C.2.2.2.1 C.2.2.2.2.1 C.1.2.2.2.2.2.2.2.2.1 hM hC (ctX9_law l hf2) kl_RL_176 layM_0 rfl rfl rfl rfl (Nat.le_of_ble_eq_true rfl) dL_law_1199 hl.1 (Nat.le_refl _) (Nat.le_refl _) (fun H hM hC => ?_)
  refine lv_pop hx hb dL_law_1202 rfl ?_
  refine lv_goto (tgt := 2172) hx hb dL_law_1203 (by decide) ?_
  exact kk σ1 τ1 hJ1 H ls hC hM (lv_sub hl [0, 1, 2, 3] rfl)
theorem lw_case_40 (C : lw_C p s m args meth c b L xs D ct adC adM AC AM) {J J2 : sn_S → sn_S → Prop} (hs : st_40 J J2) {σ τ : sn_S} (hJ : J σ τ) {i : Int32} (g1 : vp_in (i + 1) L) (g2 : vp_in (i + 2) L) (g3 : vp_in (i + 3) L) (g4 : vp_in (i + 4) L) (g5 : vp_in (i + 5) L) (kk : ∀ σ τ, J2 σ τ → lw_LAt p l e s m args below meth c Q D ct adC adM AC AM σ τ 2172 [(0, .ref b), (1, .ref (adC 0)), (2, .ref (adM 0)), (3, .int i)] []) : lw_LAt p l e s m args below meth c Q D ct adC adM AC AM σ τ 1206 [(0, .ref b), (1, .ref (adC 0)), (2, .ref (adM 0)), (3, .int i)] [] := by
  intro H ls hC hM hl
  have hx := C.1.1
  have hb := C.1.2.1
  have hX := C.2.2.2.2.2.1
  have hbl := C.2.2.2.2.2.2
  have hbA : ¬ AC b := fun z => absurd (C.2.2.1 b z) (by omega)
  refine lv_aload_n hx hb dL_law_1206 rfl (lv_at hl 1 rfl) ?_
  refine lv_aload_n hx hb dL_law_1207 rfl (lv_at hl 0 rfl) ?_
  refine lv_iload_n hx hb dL_law_1208 rfl (lv_at hl 3 rfl) ?_
  refine lv_iconst (v := 1) hx hb dL_law_1209 rfl ?_
  refine lv_iadd hx hb dL_law_1210 ?_
  refine va_sld hx hb hX hbl hbA hC.2 g1 dL_law_1211 ?_
  obtain ⟨r, r2, τ1, hf1, hf2, hJ1⟩ := hs σ τ (xs (i + 1).toNatClampNeg) hJ
  refine lw_call (rest := []) C.1 C.2.2.1 (fun q z1 z2 => C.2.2.2.2.1 q z2 z1) C.2.1.2.2.2.2.2.2.2.2.1 hC hM (ctX8_takes l hf1) kl_RL_177 layC_0 rfl rfl rfl rfl (Nat.le_of_ble_eq_true rfl) dL_law_1212 hl.1 (Nat.le_refl _) (Nat.le_refl _) (fun H hC hM => ?_)
  refine lv_pop hx hb dL_law_1215 rfl ?_
  refine lv_aload_n hx hb dL_law_1216 rfl (lv_at hl 2 rfl) ?_
  refine lv_aload_n hx hb dL_law_1217 rfl (lv_at hl 0 rfl) ?_
  refine lv_iload_n hx hb dL_law_1218 rfl (lv_at hl 3 rfl) ?_
  refine lv_iconst (v := 1) hx hb dL_law_1219 rfl ?_
  refine lv_iadd hx hb dL_law_1220 ?_
  refine va_sld hx hb hX hbl hbA hC.2 g1 dL_law_1221 ?_
  refine lw_call (rest := []) C.2.1 C.2.2.2.1 C.2.2.2.2.1 C.1.2.2.2.2.2.2.2.2.1 hM hC (ctX9_takes_ l hf2) kl_RL_180 layM_0 rfl rfl rfl rfl (Nat.le_of_ble_eq_true rfl) dL_law_1222 hl.1 (Nat.le_refl _) (Nat.le_refl _) (fun H hM hC => ?_)
  refine lv_pop hx hb dL_law_1225 rfl ?_
  refine lv_goto (tgt := 2172) hx hb dL_law_1226 (by decide) ?_
  exact kk σ τ1 hJ1 H ls hC hM (lv_sub hl [0, 1, 2, 3] rfl)
theorem lw_case_41 (C : lw_C p s m args meth c b L xs D ct adC adM AC AM) {J J2 : sn_S → sn_S → Prop} (hs : st_41 J J2) {σ τ : sn_S} (hJ : J σ τ) {i : Int32} (g1 : vp_in (i + 1) L) (g2 : vp_in (i + 2) L) (g3 : vp_in (i + 3) L) (g4 : vp_in (i + 4) L) (g5 : vp_in (i + 5) L) (kk : ∀ σ τ, J2 σ τ → lw_LAt p l e s m args below meth c Q D ct adC adM AC AM σ τ 2172 [(0, .ref b), (1, .ref (adC 0)), (2, .ref (adM 0)), (3, .int i)] []) : lw_LAt p l e s m args below meth c Q D ct adC adM AC AM σ τ 1229 [(0, .ref b), (1, .ref (adC 0)), (2, .ref (adM 0)), (3, .int i)] [] := by
  intro H ls hC hM hl
  have hx := C.1.1
  have hb := C.1.2.1
  have hX := C.2.2.2.2.2.1
  have hbl := C.2.2.2.2.2.2
  have hbA : ¬ AC b := fun z => absurd (C.2.2.1 b z) (by omega)
  refine lv_aload_n hx hb dL_law_1229 rfl (lv_at hl 1 rfl) ?_
  refine lv_aload_n hx hb dL_law_1230 rfl (lv_at hl 0 rfl) ?_
  refine lv_iload_n hx hb dL_law_1231 rfl (lv_at hl 3 rfl) ?_
  refine lv_iconst (v := 1) hx hb dL_law_1232 rfl ?_
  refine lv_iadd hx hb dL_law_1233 ?_
  refine va_sld hx hb hX hbl hbA hC.2 g1 dL_law_1234 ?_
  obtain ⟨r, r2, τ1, hf1, hf2, hJ1⟩ := hs σ τ (xs (i + 1).toNatClampNeg) hJ
  refine lw_call (rest := []) C.1 C.2.2.1 (fun q z1 z2 => C.2.2.2.2.1 q z2 z1) C.2.1.2.2.2.2.2.2.2.2.1 hC hM (ctX8_gains l hf1) kl_RL_181 layC_0 rfl rfl rfl rfl (Nat.le_of_ble_eq_true rfl) dL_law_1235 hl.1 (Nat.le_refl _) (Nat.le_refl _) (fun H hC hM => ?_)
  refine lv_pop hx hb dL_law_1238 rfl ?_
  refine lv_aload_n hx hb dL_law_1239 rfl (lv_at hl 2 rfl) ?_
  refine lv_aload_n hx hb dL_law_1240 rfl (lv_at hl 0 rfl) ?_
  refine lv_iload_n hx hb dL_law_1241 rfl (lv_at hl 3 rfl) ?_
  refine lv_iconst (v := 1) hx hb dL_law_1242 rfl ?_
  refine lv_iadd hx hb dL_law_1243 ?_
  refine va_sld hx hb hX hbl hbA hC.2 g1 dL_law_1244 ?_
  refine lw_call (rest := []) C.2.1 C.2.2.2.1 C.2.2.2.2.1 C.1.2.2.2.2.2.2.2.2.1 hM hC (ctX9_gains l hf2) kl_RL_184 layM_0 rfl rfl rfl rfl (Nat.le_of_ble_eq_true rfl) dL_law_1245 hl.1 (Nat.le_refl _) (Nat.le_refl _) (fun H hM hC => ?_)
  refine lv_pop hx hb dL_law_1248 rfl ?_
  refine lv_goto (tgt := 2172) hx hb dL_law_1249 (by decide) ?_
  exact kk σ τ1 hJ1 H ls hC hM (lv_sub hl [0, 1, 2, 3] rfl)
theorem lw_case_42 (C : lw_C p s m args meth c b L xs D ct adC adM AC AM) {J J2 : sn_S → sn_S → Prop} (hs : st_42 J J2) {σ τ : sn_S} (hJ : J σ τ) {i : Int32} (g1 : vp_in (i + 1) L) (g2 : vp_in (i + 2) L) (g3 : vp_in (i + 3) L) (g4 : vp_in (i + 4) L) (g5 : vp_in (i + 5) L) (kk : ∀ σ τ, J2 σ τ → lw_LAt p l e s m args below meth c Q D ct adC adM AC AM σ τ 2172 [(0, .ref b), (1, .ref (adC 0)), (2, .ref (adM 0)), (3, .int i)] []) : lw_LAt p l e s m args below meth c Q D ct adC adM AC AM σ τ 1252 [(0, .ref b), (1, .ref (adC 0)), (2, .ref (adM 0)), (3, .int i)] [] := by
  intro H ls hC hM hl
  have hx := C.1.1
  have hb := C.1.2.1
  have hX := C.2.2.2.2.2.1
  have hbl := C.2.2.2.2.2.2
  have hbA : ¬ AC b := fun z => absurd (C.2.2.1 b z) (by omega)
  refine lv_aload_n hx hb dL_law_1252 rfl (lv_at hl 1 rfl) ?_
  refine lv_aload_n hx hb dL_law_1253 rfl (lv_at hl 0 rfl) ?_
  refine lv_iload_n hx hb dL_law_1254 rfl (lv_at hl 3 rfl) ?_
  refine lv_iconst (v := 1) hx hb dL_law_1255 rfl ?_
  refine lv_iadd hx hb dL_law_1256 ?_
  refine va_sld hx hb hX hbl hbA hC.2 g1 dL_law_1257 ?_
  obtain ⟨r, r2, τ1, hf1, hf2, hJ1⟩ := hs σ τ (xs (i + 1).toNatClampNeg) hJ
  refine lw_call (rest := []) C.1 C.2.2.1 (fun q z1 z2 => C.2.2.2.2.1 q z2 z1) C.2.1.2.2.2.2.2.2.2.2.1 hC hM (ctX8_price l hf1) kl_RL_185 layC_0 rfl rfl rfl rfl (Nat.le_of_ble_eq_true rfl) dL_law_1258 hl.1 (Nat.le_refl _) (Nat.le_refl _) (fun H hC hM => ?_)
  refine lv_pop hx hb dL_law_1261 rfl ?_
  refine lv_aload_n hx hb dL_law_1262 rfl (lv_at hl 2 rfl) ?_
  refine lv_aload_n hx hb dL_law_1263 rfl (lv_at hl 0 rfl) ?_
  refine lv_iload_n hx hb dL_law_1264 rfl (lv_at hl 3 rfl) ?_
  refine lv_iconst (v := 1) hx hb dL_law_1265 rfl ?_
  refine lv_iadd hx hb dL_law_1266 ?_
  refine va_sld hx hb hX hbl hbA hC.2 g1 dL_law_1267 ?_
  refine lw_call (rest := []) C.2.1 C.2.2.2.1 C.2.2.2.2.1 C.1.2.2.2.2.2.2.2.2.1 hM hC (ctX9_price l hf2) kl_RL_188 layM_0 rfl rfl rfl rfl (Nat.le_of_ble_eq_true rfl) dL_law_1268 hl.1 (Nat.le_refl _) (Nat.le_refl _) (fun H hM hC => ?_)
  refine lv_pop hx hb dL_law_1271 rfl ?_
  refine lv_goto (tgt := 2172) hx hb dL_law_1272 (by decide) ?_
  exact kk σ τ1 hJ1 H ls hC hM (lv_sub hl [0, 1, 2, 3] rfl)
theorem lw_case_43 (C : lw_C p s m args meth c b L xs D ct adC adM AC AM) {J J2 : sn_S → sn_S → Prop} (hs : st_43 J J2) {σ τ : sn_S} (hJ : J σ τ) {i : Int32} (g1 : vp_in (i + 1) L) (g2 : vp_in (i + 2) L) (g3 : vp_in (i + 3) L) (g4 : vp_in (i + 4) L) (g5 : vp_in (i + 5) L) (kk : ∀ σ τ, J2 σ τ → lw_LAt p l e s m args below meth c Q D ct adC adM AC AM σ τ 2172 [(0, .ref b), (1, .ref (adC 0)), (2, .ref (adM 0)), (3, .int i)] []) : lw_LAt p l e s m args below meth c Q D ct adC adM AC AM σ τ 1275 [(0, .ref b), (1, .ref (adC 0)), (2, .ref (adM 0)), (3, .int i)] [] := by
  intro H ls hC hM hl
  have hx := C.1.1
  have hb := C.1.2.1
  have hX := C.2.2.2.2.2.1
  have hbl := C.2.2.2.2.2.2
  have hbA : ¬ AC b := fun z => absurd (C.2.2.1 b z) (by omega)
  refine lv_aload_n hx hb dL_law_1275 rfl (lv_at hl 1 rfl) ?_
  refine lv_aload_n hx hb dL_law_1276 rfl (lv_at hl 0 rfl) ?_
  refine lv_iload_n hx hb dL_law_1277 rfl (lv_at hl 3 rfl) ?_
  refine lv_iconst (v := 1) hx hb dL_law_1278 rfl ?_
  refine lv_iadd hx hb dL_law_1279 ?_
  refine va_sld hx hb hX hbl hbA hC.2 g1 dL_law_1280 ?_
  obtain ⟨r, r2, σ1, τ1, hf1, hf2, hJ1⟩ := hs σ τ (xs (i + 1).toNatClampNeg) hJ
  refine lw_call (rest := []) C.1 C.2.2.1 (fun q z1 z2 => C.2.2.2.2.1 q z2 z1) C.2.1.2.2.2.2.2.2.2.2.1 hC hM (ctX8_hold l hf1) kl_RL_189 layC_0 rfl rfl rfl rfl (Nat.le_of_ble_eq_true rfl) dL_law_1281 hl.1 (Nat.le_refl _) (Nat.le_refl _) (fun H hC hM => ?_)
  refine lv_pop hx hb dL_law_1284 rfl ?_
  refine lv_aload_n hx hb dL_law_1285 rfl (lv_at hl 2 rfl) ?_
  refine lv_aload_n hx hb dL_law_1286 rfl (lv_at hl 0 rfl) ?_
  refine lv_iload_n hx hb dL_law_1287 rfl (lv_at hl 3 rfl) ?_
  refine lv_iconst (v := 1) hx hb dL_law_1288 rfl ?_
  refine lv_iadd hx hb dL_law_1289 ?_
  refine va_sld hx hb hX hbl hbA hC.2 g1 dL_law_1290 ?_
  refine lw_call (rest := []) C.2.1 C.2.2.2.1 C.2.2.2.2.1 C.1.2.2.2.2.2.2.2.2.1 hM hC (ctX9_hold l hf2) kl_RL_192 layM_0 rfl rfl rfl rfl (Nat.le_of_ble_eq_true rfl) dL_law_1291 hl.1 (Nat.le_refl _) (Nat.le_refl _) (fun H hM hC => ?_)
  refine lv_pop hx hb dL_law_1294 rfl ?_
  refine lv_goto (tgt := 2172) hx hb dL_law_1295 (by decide) ?_
  exact kk σ1 τ1 hJ1 H ls hC hM (lv_sub hl [0, 1, 2, 3] rfl)
theorem lw_case_44 (C : lw_C p s m args meth c b L xs D ct adC adM AC AM) {J J2 : sn_S → sn_S → Prop} (hs : st_44 J J2) {σ τ : sn_S} (hJ : J σ τ) {i : Int32} (g1 : vp_in (i + 1) L) (g2 : vp_in (i + 2) L) (g3 : vp_in (i + 3) L) (g4 : vp_in (i + 4) L) (g5 : vp_in (i + 5) L) (kk : ∀ σ τ, J2 σ τ → lw_LAt p l e s m args below meth c Q D ct adC adM AC AM σ τ 2172 [(0, .ref b), (1, .ref (adC 0)), (2, .ref (adM 0)), (3, .int i)] []) : lw_LAt p l e s m args below meth c Q D ct adC adM AC AM σ τ 1298 [(0, .ref b), (1, .ref (adC 0)), (2, .ref (adM 0)), (3, .int i)] [] := by
  intro H ls hC hM hl
  have hx := C.1.1
  have hb := C.1.2.1
  have hX := C.2.2.2.2.2.1
  have hbl := C.2.2.2.2.2.2
  have hbA : ¬ AC b := fun z => absurd (C.2.2.1 b z) (by omega)
  refine lv_aload_n hx hb dL_law_1298 rfl (lv_at hl 1 rfl) ?_
  refine lv_aload_n hx hb dL_law_1299 rfl (lv_at hl 0 rfl) ?_
  refine lv_iload_n hx hb dL_law_1300 rfl (lv_at hl 3 rfl) ?_
  refine lv_iconst (v := 1) hx hb dL_law_1301 rfl ?_
  refine lv_iadd hx hb dL_law_1302 ?_
  refine va_sld hx hb hX hbl hbA hC.2 g1 dL_law_1303 ?_
  obtain ⟨r, r2, σ1, τ1, hf1, hf2, hJ1⟩ := hs σ τ (xs (i + 1).toNatClampNeg) hJ
  refine lw_call (rest := []) C.1 C.2.2.1 (fun q z1 z2 => C.2.2.2.2.1 q z2 z1) C.2.1.2.2.2.2.2.2.2.2.1 hC hM (ctX8_holds l hf1) kl_RL_193 layC_0 rfl rfl rfl rfl (Nat.le_of_ble_eq_true rfl) dL_law_1304 hl.1 (Nat.le_refl _) (Nat.le_refl _) (fun H hC hM => ?_)
  refine lv_pop hx hb dL_law_1307 rfl ?_
  refine lv_aload_n hx hb dL_law_1308 rfl (lv_at hl 2 rfl) ?_
  refine lv_aload_n hx hb dL_law_1309 rfl (lv_at hl 0 rfl) ?_
  refine lv_iload_n hx hb dL_law_1310 rfl (lv_at hl 3 rfl) ?_
  refine lv_iconst (v := 1) hx hb dL_law_1311 rfl ?_
  refine lv_iadd hx hb dL_law_1312 ?_
  refine va_sld hx hb hX hbl hbA hC.2 g1 dL_law_1313 ?_
  refine lw_call (rest := []) C.2.1 C.2.2.2.1 C.2.2.2.2.1 C.1.2.2.2.2.2.2.2.2.1 hM hC (ctX9_holds l hf2) kl_RL_196 layM_0 rfl rfl rfl rfl (Nat.le_of_ble_eq_true rfl) dL_law_1314 hl.1 (Nat.le_refl _) (Nat.le_refl _) (fun H hM hC => ?_)
  refine lv_pop hx hb dL_law_1317 rfl ?_
  refine lv_goto (tgt := 2172) hx hb dL_law_1318 (by decide) ?_
  exact kk σ1 τ1 hJ1 H ls hC hM (lv_sub hl [0, 1, 2, 3] rfl)
theorem lw_case_45 (C : lw_C p s m args meth c b L xs D ct adC adM AC AM) {J J2 : sn_S → sn_S → Prop} (hs : st_45 J J2) {σ τ : sn_S} (hJ : J σ τ) {i : Int32} (g1 : vp_in (i + 1) L) (g2 : vp_in (i + 2) L) (g3 : vp_in (i + 3) L) (g4 : vp_in (i + 4) L) (g5 : vp_in (i + 5) L) (kk : ∀ σ τ, J2 σ τ → lw_LAt p l e s m args below meth c Q D ct adC adM AC AM σ τ 2172 [(0, .ref b), (1, .ref (adC 0)), (2, .ref (adM 0)), (3, .int i)] []) : lw_LAt p l e s m args below meth c Q D ct adC adM AC AM σ τ 1321 [(0, .ref b), (1, .ref (adC 0)), (2, .ref (adM 0)), (3, .int i)] [] := by
  intro H ls hC hM hl
  have hx := C.1.1
  have hb := C.1.2.1
  have hX := C.2.2.2.2.2.1
  have hbl := C.2.2.2.2.2.2
  have hbA : ¬ AC b := fun z => absurd (C.2.2.1 b z) (by omega)
  refine lv_aload_n hx hb dL_law_1321 rfl (lv_at hl 1 rfl) ?_
  refine lv_aload_n hx hb dL_law_1322 rfl (lv_at hl 0 rfl) ?_
  refine lv_iload_n hx hb dL_law_1323 rfl (lv_at hl 3 rfl) ?_
  refine lv_iconst (v := 1) hx hb dL_law_1324 rfl ?_
  refine lv_iadd hx hb dL_law_1325 ?_
  refine va_sld hx hb hX hbl hbA hC.2 g1 dL_law_1326 ?_
  obtain ⟨r, r2, σ1, τ1, hf1, hf2, hJ1⟩ := hs σ τ (xs (i + 1).toNatClampNeg) hJ
  refine lw_call (rest := []) C.1 C.2.2.1 (fun q z1 z2 => C.2.2.2.2.1 q z2 z1) C.2.1.2.2.2.2.2.2.2.2.1 hC hM (ctX8_snuff l hf1) kl_RL_197 layC_0 rfl rfl rfl rfl (Nat.le_of_ble_eq_true rfl) dL_law_1327 hl.1 (Nat.le_refl _) (Nat.le_refl _) (fun H hC hM => ?_)
  refine lv_pop hx hb dL_law_1330 rfl ?_
  refine lv_aload_n hx hb dL_law_1331 rfl (lv_at hl 2 rfl) ?_
  refine lv_aload_n hx hb dL_law_1332 rfl (lv_at hl 0 rfl) ?_
  refine lv_iload_n hx hb dL_law_1333 rfl (lv_at hl 3 rfl) ?_
  refine lv_iconst (v := 1) hx hb dL_law_1334 rfl ?_
  refine lv_iadd hx hb dL_law_1335 ?_
  refine va_sld hx hb hX hbl hbA hC.2 g1 dL_law_1336 ?_
  refine lw_call (rest := []) C.2.1 C.2.2.2.1 C.2.2.2.2.1 C.1.2.2.2.2.2.2.2.2.1 hM hC (ctX9_snuff l hf2) kl_RL_200 layM_0 rfl rfl rfl rfl (Nat.le_of_ble_eq_true rfl) dL_law_1337 hl.1 (Nat.le_refl _) (Nat.le_refl _) (fun H hM hC => ?_)
  refine lv_pop hx hb dL_law_1340 rfl ?_
  refine lv_goto (tgt := 2172) hx hb dL_law_1341 (by decide) ?_
  exact kk σ1 τ1 hJ1 H ls hC hM (lv_sub hl [0, 1, 2, 3] rfl)
theorem lw_case_46 (C : lw_C p s m args meth c b L xs D ct adC adM AC AM) {J J2 : sn_S → sn_S → Prop} (hs : st_46 J J2) {σ τ : sn_S} (hJ : J σ τ) {i : Int32} (g1 : vp_in (i + 1) L) (g2 : vp_in (i + 2) L) (g3 : vp_in (i + 3) L) (g4 : vp_in (i + 4) L) (g5 : vp_in (i + 5) L) (kk : ∀ σ τ, J2 σ τ → lw_LAt p l e s m args below meth c Q D ct adC adM AC AM σ τ 2172 [(0, .ref b), (1, .ref (adC 0)), (2, .ref (adM 0)), (3, .int i)] []) : lw_LAt p l e s m args below meth c Q D ct adC adM AC AM σ τ 1344 [(0, .ref b), (1, .ref (adC 0)), (2, .ref (adM 0)), (3, .int i)] [] := by
  intro H ls hC hM hl
  have hx := C.1.1
  have hb := C.1.2.1
  have hX := C.2.2.2.2.2.1
  have hbl := C.2.2.2.2.2.2
  have hbA : ¬ AC b := fun z => absurd (C.2.2.1 b z) (by omega)
  refine lv_aload_n hx hb dL_law_1344 rfl (lv_at hl 1 rfl) ?_
  refine lv_aload_n hx hb dL_law_1345 rfl (lv_at hl 0 rfl) ?_
  refine lv_iload_n hx hb dL_law_1346 rfl (lv_at hl 3 rfl) ?_
  refine lv_iconst (v := 1) hx hb dL_law_1347 rfl ?_
  refine lv_iadd hx hb dL_law_1348 ?_
  refine va_sld hx hb hX hbl hbA hC.2 g1 dL_law_1349 ?_
  obtain ⟨r, r2, σ1, τ1, hf1, hf2, hJ1⟩ := hs σ τ (xs (i + 1).toNatClampNeg) hJ
  refine lw_call (rest := []) C.1 C.2.2.1 (fun q z1 z2 => C.2.2.2.2.1 q z2 z1) C.2.1.2.2.2.2.2.2.2.2.1 hC hM (ctX8_frauds l hf1) kl_RL_201 layC_0 rfl rfl rfl rfl (Nat.le_of_ble_eq_true rfl) dL_law_1350 hl.1 (Nat.le_refl _) (Nat.le_refl _) (fun H hC hM => ?_)
  refine lv_pop hx hb dL_law_1353 rfl ?_
  refine lv_aload_n hx hb dL_law_1354 rfl (lv_at hl 2 rfl) ?_
  refine lv_aload_n hx hb dL_law_1355 rfl (lv_at hl 0 rfl) ?_
  refine lv_iload_n hx hb dL_law_1356 rfl (lv_at hl 3 rfl) ?_
  refine lv_iconst (v := 1) hx hb dL_law_1357 rfl ?_
  refine lv_iadd hx hb dL_law_1358 ?_
  refine va_sld hx hb hX hbl hbA hC.2 g1 dL_law_1359 ?_
  refine lw_call (rest := []) C.2.1 C.2.2.2.1 C.2.2.2.2.1 C.1.2.2.2.2.2.2.2.2.1 hM hC (ctX9_frauds l hf2) kl_RL_204 layM_0 rfl rfl rfl rfl (Nat.le_of_ble_eq_true rfl) dL_law_1360 hl.1 (Nat.le_refl _) (Nat.le_refl _) (fun H hM hC => ?_)
  refine lv_pop hx hb dL_law_1363 rfl ?_
  refine lv_goto (tgt := 2172) hx hb dL_law_1364 (by decide) ?_
  exact kk σ1 τ1 hJ1 H ls hC hM (lv_sub hl [0, 1, 2, 3] rfl)
theorem lw_case_47 (C : lw_C p s m args meth c b L xs D ct adC adM AC AM) {J J2 : sn_S → sn_S → Prop} (hs : st_47 J J2) {σ τ : sn_S} (hJ : J σ τ) {i : Int32} (g1 : vp_in (i + 1) L) (g2 : vp_in (i + 2) L) (g3 : vp_in (i + 3) L) (g4 : vp_in (i + 4) L) (g5 : vp_in (i + 5) L) (kk : ∀ σ τ, J2 σ τ → lw_LAt p l e s m args below meth c Q D ct adC adM AC AM σ τ 2172 [(0, .ref b), (1, .ref (adC 0)), (2, .ref (adM 0)), (3, .int i)] []) : lw_LAt p l e s m args below meth c Q D ct adC adM AC AM σ τ 1367 [(0, .ref b), (1, .ref (adC 0)), (2, .ref (adM 0)), (3, .int i)] [] := by
  intro H ls hC hM hl
  have hx := C.1.1
  have hb := C.1.2.1
  have hX := C.2.2.2.2.2.1
  have hbl := C.2.2.2.2.2.2
  have hbA : ¬ AC b := fun z => absurd (C.2.2.1 b z) (by omega)
  refine lv_aload_n hx hb dL_law_1367 rfl (lv_at hl 1 rfl) ?_
  refine lv_aload_n hx hb dL_law_1368 rfl (lv_at hl 0 rfl) ?_
  refine lv_iload_n hx hb dL_law_1369 rfl (lv_at hl 3 rfl) ?_
  refine lv_iconst (v := 1) hx hb dL_law_1370 rfl ?_
  refine lv_iadd hx hb dL_law_1371 ?_
  refine va_sld hx hb hX hbl hbA hC.2 g1 dL_law_1372 ?_
  obtain ⟨r, r2, σ1, τ1, hf1, hf2, hJ1⟩ := hs σ τ (xs (i + 1).toNatClampNeg) hJ
  refine lw_call (rest := []) C.1 C.2.2.1 (fun q z1 z2 => C.2.2.2.2.1 q z2 z1) C.2.1.2.2.2.2.2.2.2.2.1 hC hM (ctX8_which l hf1) kl_RL_205 layC_0 rfl rfl rfl rfl (Nat.le_of_ble_eq_true rfl) dL_law_1373 hl.1 (Nat.le_refl _) (Nat.le_refl _) (fun H hC hM => ?_)
  refine lv_pop hx hb dL_law_1376 rfl ?_
  refine lv_aload_n hx hb dL_law_1377 rfl (lv_at hl 2 rfl) ?_
  refine lv_aload_n hx hb dL_law_1378 rfl (lv_at hl 0 rfl) ?_
  refine lv_iload_n hx hb dL_law_1379 rfl (lv_at hl 3 rfl) ?_
  refine lv_iconst (v := 1) hx hb dL_law_1380 rfl ?_
  refine lv_iadd hx hb dL_law_1381 ?_
  refine va_sld hx hb hX hbl hbA hC.2 g1 dL_law_1382 ?_
  refine lw_call (rest := []) C.2.1 C.2.2.2.1 C.2.2.2.2.1 C.1.2.2.2.2.2.2.2.2.1 hM hC (ctX9_which l hf2) kl_RL_208 layM_0 rfl rfl rfl rfl (Nat.le_of_ble_eq_true rfl) dL_law_1383 hl.1 (Nat.le_refl _) (Nat.le_refl _) (fun H hM hC => ?_)
  refine lv_pop hx hb dL_law_1386 rfl ?_
  refine lv_goto (tgt := 2172) hx hb dL_law_1387 (by decide) ?_
  exact kk σ1 τ1 hJ1 H ls hC hM (lv_sub hl [0, 1, 2, 3] rfl)
theorem lw_case_48 (C : lw_C p s m args meth c b L xs D ct adC adM AC AM) {J J2 : sn_S → sn_S → Prop} (hs : st_48 J J2) {σ τ : sn_S} (hJ : J σ τ) {i : Int32} (g1 : vp_in (i + 1) L) (g2 : vp_in (i + 2) L) (g3 : vp_in (i + 3) L) (g4 : vp_in (i + 4) L) (g5 : vp_in (i + 5) L) (kk : ∀ σ τ, J2 σ τ → lw_LAt p l e s m args below meth c Q D ct adC adM AC AM σ τ 2172 [(0, .ref b), (1, .ref (adC 0)), (2, .ref (adM 0)), (3, .int i)] []) : lw_LAt p l e s m args below meth c Q D ct adC adM AC AM σ τ 1390 [(0, .ref b), (1, .ref (adC 0)), (2, .ref (adM 0)), (3, .int i)] [] := by
  intro H ls hC hM hl
  have hx := C.1.1
  have hb := C.1.2.1
  have hX := C.2.2.2.2.2.1
  have hbl := C.2.2.2.2.2.2
  have hbA : ¬ AC b := fun z => absurd (C.2.2.1 b z) (by omega)
  refine lv_aload_n hx hb dL_law_1390 rfl (lv_at hl 1 rfl) ?_
  refine lv_aload_n hx hb dL_law_1391 rfl (lv_at hl 0 rfl) ?_
  refine lv_iload_n hx hb dL_law_1392 rfl (lv_at hl 3 rfl) ?_
  refine lv_iconst (v := 1) hx hb dL_law_1393 rfl ?_
  refine lv_iadd hx hb dL_law_1394 ?_
  refine va_sld hx hb hX hbl hbA hC.2 g1 dL_law_1395 ?_
  obtain ⟨r, r2, σ1, τ1, hf1, hf2, hJ1⟩ := hs σ τ (xs (i + 1).toNatClampNeg) hJ
  refine lw_call (rest := []) C.1 C.2.2.1 (fun q z1 z2 => C.2.2.2.2.1 q z2 z1) C.2.1.2.2.2.2.2.2.2.2.1 hC hM (ctX8_when l hf1) kl_RL_209 layC_0 rfl rfl rfl rfl (Nat.le_of_ble_eq_true rfl) dL_law_1396 hl.1 (Nat.le_refl _) (Nat.le_refl _) (fun H hC hM => ?_)
  refine lv_pop hx hb dL_law_1399 rfl ?_
  refine lv_aload_n hx hb dL_law_1400 rfl (lv_at hl 2 rfl) ?_
  refine lv_aload_n hx hb dL_law_1401 rfl (lv_at hl 0 rfl) ?_
  refine lv_iload_n hx hb dL_law_1402 rfl (lv_at hl 3 rfl) ?_
  refine lv_iconst (v := 1) hx hb dL_law_1403 rfl ?_
  refine lv_iadd hx hb dL_law_1404 ?_
  refine va_sld hx hb hX hbl hbA hC.2 g1 dL_law_1405 ?_
  refine lw_call (rest := []) C.2.1 C.2.2.2.1 C.2.2.2.2.1 C.1.2.2.2.2.2.2.2.2.1 hM hC (ctX9_when l hf2) kl_RL_212 layM_0 rfl rfl rfl rfl (Nat.le_of_ble_eq_true rfl) dL_law_1406 hl.1 (Nat.le_refl _) (Nat.le_refl _) (fun H hM hC => ?_)
  refine lv_pop hx hb dL_law_1409 rfl ?_
  refine lv_goto (tgt := 2172) hx hb dL_law_1410 (by decide) ?_
  exact kk σ1 τ1 hJ1 H ls hC hM (lv_sub hl [0, 1, 2, 3] rfl)
theorem lw_case_49 (C : lw_C p s m args meth c b L xs D ct adC adM AC AM) {J J2 : sn_S → sn_S → Prop} (hs : st_49 J J2) {σ τ : sn_S} (hJ : J σ τ) {i : Int32} (g1 : vp_in (i + 1) L) (g2 : vp_in (i + 2) L) (g3 : vp_in (i + 3) L) (g4 : vp_in (i + 4) L) (g5 : vp_in (i + 5) L) (kk : ∀ σ τ, J2 σ τ → lw_LAt p l e s m args below meth c Q D ct adC adM AC AM σ τ 2172 [(0, .ref b), (1, .ref (adC 0)), (2, .ref (adM 0)), (3, .int i)] []) : lw_LAt p l e s m args below meth c Q D ct adC adM AC AM σ τ 1413 [(0, .ref b), (1, .ref (adC 0)), (2, .ref (adM 0)), (3, .int i)] [] := by
  intro H ls hC hM hl
  have hx := C.1.1
  have hb := C.1.2.1
  have hX := C.2.2.2.2.2.1
  have hbl := C.2.2.2.2.2.2
  have hbA : ¬ AC b := fun z => absurd (C.2.2.1 b z) (by omega)
  refine lv_aload_n hx hb dL_law_1413 rfl (lv_at hl 1 rfl) ?_
  refine lv_aload_n hx hb dL_law_1414 rfl (lv_at hl 0 rfl) ?_
  refine lv_iload_n hx hb dL_law_1415 rfl (lv_at hl 3 rfl) ?_
  refine lv_iconst (v := 1) hx hb dL_law_1416 rfl ?_
  refine lv_iadd hx hb dL_law_1417 ?_
  refine va_sld hx hb hX hbl hbA hC.2 g1 dL_law_1418 ?_
  obtain ⟨r, r2, σ1, τ1, hf1, hf2, hJ1⟩ := hs σ τ (xs (i + 1).toNatClampNeg) hJ
  refine lw_call (rest := []) C.1 C.2.2.1 (fun q z1 z2 => C.2.2.2.2.1 q z2 z1) C.2.1.2.2.2.2.2.2.2.2.1 hC hM (ctX8_gust l hf1) kl_RL_213 layC_0 rfl rfl rfl rfl (Nat.le_of_ble_eq_true rfl) dL_law_1419 hl.1 (Nat.le_refl _) (Nat.le_refl _) (fun H hC hM => ?_)
  refine lv_pop hx hb dL_law_1422 rfl ?_
  refine lv_aload_n hx hb dL_law_1423 rfl (lv_at hl 2 rfl) ?_
  refine lv_aload_n hx hb dL_law_1424 rfl (lv_at hl 0 rfl) ?_
  refine lv_iload_n hx hb dL_law_1425 rfl (lv_at hl 3 rfl) ?_
  refine lv_iconst (v := 1) hx hb dL_law_1426 rfl ?_
  refine lv_iadd hx hb dL_law_1427 ?_
  refine va_sld hx hb hX hbl hbA hC.2 g1 dL_law_1428 ?_
  refine lw_call (rest := []) C.2.1 C.2.2.2.1 C.2.2.2.2.1 C.1.2.2.2.2.2.2.2.2.1 hM hC (ctX9_gust l hf2) kl_RL_216 layM_0 rfl rfl rfl rfl (Nat.le_of_ble_eq_true rfl) dL_law_1429 hl.1 (Nat.le_refl _) (Nat.le_refl _) (fun H hM hC => ?_)
  refine lv_pop hx hb dL_law_1432 rfl ?_
  refine lv_goto (tgt := 2172) hx hb dL_law_1433 (by decide) ?_
  exact kk σ1 τ1 hJ1 H ls hC hM (lv_sub hl [0, 1, 2, 3] rfl)
theorem lw_case_50 (C : lw_C p s m args meth c b L xs D ct adC adM AC AM) {J J2 : sn_S → sn_S → Prop} (hs : st_50 J J2) {σ τ : sn_S} (hJ : J σ τ) {i : Int32} (g1 : vp_in (i + 1) L) (g2 : vp_in (i + 2) L) (g3 : vp_in (i + 3) L) (g4 : vp_in (i + 4) L) (g5 : vp_in (i + 5) L) (kk : ∀ σ τ, J2 σ τ → lw_LAt p l e s m args below meth c Q D ct adC adM AC AM σ τ 2172 [(0, .ref b), (1, .ref (adC 0)), (2, .ref (adM 0)), (3, .int i)] []) : lw_LAt p l e s m args below meth c Q D ct adC adM AC AM σ τ 1436 [(0, .ref b), (1, .ref (adC 0)), (2, .ref (adM 0)), (3, .int i)] [] := by
  intro H ls hC hM hl
  have hx := C.1.1
  have hb := C.1.2.1
  have hX := C.2.2.2.2.2.1
  have hbl := C.2.2.2.2.2.2
  have hbA : ¬ AC b := fun z => absurd (C.2.2.1 b z) (by omega)
  refine lv_aload_n hx hb dL_law_1436 rfl (lv_at hl 1 rfl) ?_
  refine lv_aload_n hx hb dL_law_1437 rfl (lv_at hl 0 rfl) ?_
  refine lv_iload_n hx hb dL_law_1438 rfl (lv_at hl 3 rfl) ?_
  refine lv_iconst (v := 1) hx hb dL_law_1439 rfl ?_
  refine lv_iadd hx hb dL_law_1440 ?_
  refine va_sld hx hb hX hbl hbA hC.2 g1 dL_law_1441 ?_
  obtain ⟨r, r2, σ1, τ1, hf1, hf2, hJ1⟩ := hs σ τ (xs (i + 1).toNatClampNeg) hJ
  refine lw_call (rest := []) C.1 C.2.2.1 (fun q z1 z2 => C.2.2.2.2.1 q z2 z1) C.2.1.2.2.2.2.2.2.2.2.1 hC hM (ctX8_ask l hf1) kl_RL_217 layC_0 rfl rfl rfl rfl (Nat.le_of_ble_eq_true rfl) dL_law_1442 hl.1 (Nat.le_refl _) (Nat.le_refl _) (fun H hC hM => ?_)
  refine lv_pop hx hb dL_law_1445 rfl ?_
  refine lv_aload_n hx hb dL_law_1446 rfl (lv_at hl 2 rfl) ?_
  refine lv_aload_n hx hb dL_law_1447 rfl (lv_at hl 0 rfl) ?_
  refine lv_iload_n hx hb dL_law_1448 rfl (lv_at hl 3 rfl) ?_
  refine lv_iconst (v := 1) hx hb dL_law_1449 rfl ?_
  refine lv_iadd hx hb dL_law_1450 ?_
  refine va_sld hx hb hX hbl hbA hC.2 g1 dL_law_1451 ?_
  refine lw_call (rest := []) C.2.1 C.2.2.2.1 C.2.2.2.2.1 C.1.2.2.2.2.2.2.2.2.1 hM hC (ctX9_ask l hf2) kl_RL_220 layM_0 rfl rfl rfl rfl (Nat.le_of_ble_eq_true rfl) dL_law_1452 hl.1 (Nat.le_refl _) (Nat.le_refl _) (fun H hM hC => ?_)
  refine lv_pop hx hb dL_law_1455 rfl ?_
  refine lv_goto (tgt := 2172) hx hb dL_law_1456 (by decide) ?_
  exact kk σ1 τ1 hJ1 H ls hC hM (lv_sub hl [0, 1, 2, 3] rfl)
theorem lw_case_51 (C : lw_C p s m args meth c b L xs D ct adC adM AC AM) {J J2 : sn_S → sn_S → Prop} (hs : st_51 J J2) {σ τ : sn_S} (hJ : J σ τ) {i : Int32} (g1 : vp_in (i + 1) L) (g2 : vp_in (i + 2) L) (g3 : vp_in (i + 3) L) (g4 : vp_in (i + 4) L) (g5 : vp_in (i + 5) L) (kk : ∀ σ τ, J2 σ τ → lw_LAt p l e s m args below meth c Q D ct adC adM AC AM σ τ 2172 [(0, .ref b), (1, .ref (adC 0)), (2, .ref (adM 0)), (3, .int i)] []) : lw_LAt p l e s m args below meth c Q D ct adC adM AC AM σ τ 1459 [(0, .ref b), (1, .ref (adC 0)), (2, .ref (adM 0)), (3, .int i)] [] := by
  intro H ls hC hM hl
  have hx := C.1.1
  have hb := C.1.2.1
  have hX := C.2.2.2.2.2.1
  have hbl := C.2.2.2.2.2.2
  have hbA : ¬ AC b := fun z => absurd (C.2.2.1 b z) (by omega)
  refine lv_aload_n hx hb dL_law_1459 rfl (lv_at hl 1 rfl) ?_
  refine lv_aload_n hx hb dL_law_1460 rfl (lv_at hl 0 rfl) ?_
  refine lv_iload_n hx hb dL_law_1461 rfl (lv_at hl 3 rfl) ?_
  refine lv_iconst (v := 1) hx hb dL_law_1462 rfl ?_
  refine lv_iadd hx hb dL_law_1463 ?_
  refine va_sld hx hb hX hbl hbA hC.2 g1 dL_law_1464 ?_
  obtain ⟨r, r2, σ1, τ1, hf1, hf2, hJ1⟩ := hs σ τ (xs (i + 1).toNatClampNeg) hJ
  refine lw_call (rest := []) C.1 C.2.2.1 (fun q z1 z2 => C.2.2.2.2.1 q z2 z1) C.2.1.2.2.2.2.2.2.2.2.1 hC hM (ctX8_leaves l hf1) kl_RL_221 layC_0 rfl rfl rfl rfl (Nat.le_of_ble_eq_true rfl) dL_law_1465 hl.1 (Nat.le_refl _) (Nat.le_refl _) (fun H hC hM => ?_)
  refine lv_pop hx hb dL_law_1468 rfl ?_
  refine lv_aload_n hx hb dL_law_1469 rfl (lv_at hl 2 rfl) ?_
  refine lv_aload_n hx hb dL_law_1470 rfl (lv_at hl 0 rfl) ?_
  refine lv_iload_n hx hb dL_law_1471 rfl (lv_at hl 3 rfl) ?_
  refine lv_iconst (v := 1) hx hb dL_law_1472 rfl ?_
  refine lv_iadd hx hb dL_law_1473 ?_
  refine va_sld hx hb hX hbl hbA hC.2 g1 dL_law_1474 ?_
  refine lw_call (rest := []) C.2.1 C.2.2.2.1 C.2.2.2.2.1 C.1.2.2.2.2.2.2.2.2.1 hM hC (ctX9_leaves l hf2) kl_RL_224 layM_0 rfl rfl rfl rfl (Nat.le_of_ble_eq_true rfl) dL_law_1475 hl.1 (Nat.le_refl _) (Nat.le_refl _) (fun H hM hC => ?_)
  refine lv_pop hx hb dL_law_1478 rfl ?_
  refine lv_goto (tgt := 2172) hx hb dL_law_1479 (by decide) ?_
  exact kk σ1 τ1 hJ1 H ls hC hM (lv_sub hl [0, 1, 2, 3] rfl)
theorem lw_case_52 (C : lw_C p s m args meth c b L xs D ct adC adM AC AM) {J J2 : sn_S → sn_S → Prop} (hs : st_52 J J2) {σ τ : sn_S} (hJ : J σ τ) {i : Int32} (g1 : vp_in (i + 1) L) (g2 : vp_in (i + 2) L) (g3 : vp_in (i + 3) L) (g4 : vp_in (i + 4) L) (g5 : vp_in (i + 5) L) (kk : ∀ σ τ, J2 σ τ → lw_LAt p l e s m args below meth c Q D ct adC adM AC AM σ τ 2172 [(0, .ref b), (1, .ref (adC 0)), (2, .ref (adM 0)), (3, .int i)] []) : lw_LAt p l e s m args below meth c Q D ct adC adM AC AM σ τ 1482 [(0, .ref b), (1, .ref (adC 0)), (2, .ref (adM 0)), (3, .int i)] [] := by
  intro H ls hC hM hl
  have hx := C.1.1
  have hb := C.1.2.1
  have hX := C.2.2.2.2.2.1
  have hbl := C.2.2.2.2.2.2
  have hbA : ¬ AC b := fun z => absurd (C.2.2.1 b z) (by omega)
  refine lv_aload_n hx hb dL_law_1482 rfl (lv_at hl 1 rfl) ?_
  refine lv_aload_n hx hb dL_law_1483 rfl (lv_at hl 0 rfl) ?_
  refine lv_iload_n hx hb dL_law_1484 rfl (lv_at hl 3 rfl) ?_
  refine lv_iconst (v := 1) hx hb dL_law_1485 rfl ?_
  refine lv_iadd hx hb dL_law_1486 ?_
  refine va_sld hx hb hX hbl hbA hC.2 g1 dL_law_1487 ?_
  refine lv_aload_n hx hb dL_law_1488 rfl (lv_at hl 0 rfl) ?_
  refine lv_iload_n hx hb dL_law_1489 rfl (lv_at hl 3 rfl) ?_
  refine lv_iconst (v := 2) hx hb dL_law_1490 rfl ?_
  refine lv_iadd hx hb dL_law_1491 ?_
  refine va_sld hx hb hX hbl hbA hC.2 g2 dL_law_1492 ?_
  obtain ⟨r, r2, σ1, τ1, hf1, hf2, hJ1⟩ := hs σ τ (xs (i + 1).toNatClampNeg) (xs (i + 2).toNatClampNeg) hJ
  refine lw_call (rest := []) C.1 C.2.2.1 (fun q z1 z2 => C.2.2.2.2.1 q z2 z1) C.2.1.2.2.2.2.2.2.2.2.1 hC hM (ctX8_rests l hf1) kl_RL_225 layC_0 rfl rfl rfl rfl (Nat.le_of_ble_eq_true rfl) dL_law_1493 hl.1 (Nat.le_refl _) (Nat.le_refl _) (fun H hC hM => ?_)
  refine lv_pop hx hb dL_law_1496 rfl ?_
  refine lv_aload_n hx hb dL_law_1497 rfl (lv_at hl 2 rfl) ?_
  refine lv_aload_n hx hb dL_law_1498 rfl (lv_at hl 0 rfl) ?_
  refine lv_iload_n hx hb dL_law_1499 rfl (lv_at hl 3 rfl) ?_
  refine lv_iconst (v := 1) hx hb dL_law_1500 rfl ?_
  refine lv_iadd hx hb dL_law_1501 ?_
  refine va_sld hx hb hX hbl hbA hC.2 g1 dL_law_1502 ?_
  refine lv_aload_n hx hb dL_law_1503 rfl (lv_at hl 0 rfl) ?_
  refine lv_iload_n hx hb dL_law_1504 rfl (lv_at hl 3 rfl) ?_
  refine lv_iconst (v := 2) hx hb dL_law_1505 rfl ?_
  refine lv_iadd hx hb dL_law_1506 ?_
  refine va_sld hx hb hX hbl hbA hC.2 g2 dL_law_1507 ?_
  refine lw_call (rest := []) C.2.1 C.2.2.2.1 C.2.2.2.2.1 C.1.2.2.2.2.2.2.2.2.1 hM hC (ctX9_rests l hf2) kl_RL_228 layM_0 rfl rfl rfl rfl (Nat.le_of_ble_eq_true rfl) dL_law_1508 hl.1 (Nat.le_refl _) (Nat.le_refl _) (fun H hM hC => ?_)
  refine lv_pop hx hb dL_law_1511 rfl ?_
  refine lv_goto (tgt := 2172) hx hb dL_law_1512 (by decide) ?_
  exact kk σ1 τ1 hJ1 H ls hC hM (lv_sub hl [0, 1, 2, 3] rfl)
theorem lw_case_53 (C : lw_C p s m args meth c b L xs D ct adC adM AC AM) {J J2 : sn_S → sn_S → Prop} (hs : st_53 J J2) {σ τ : sn_S} (hJ : J σ τ) {i : Int32} (g1 : vp_in (i + 1) L) (g2 : vp_in (i + 2) L) (g3 : vp_in (i + 3) L) (g4 : vp_in (i + 4) L) (g5 : vp_in (i + 5) L) (kk : ∀ σ τ, J2 σ τ → lw_LAt p l e s m args below meth c Q D ct adC adM AC AM σ τ 2172 [(0, .ref b), (1, .ref (adC 0)), (2, .ref (adM 0)), (3, .int i)] []) : lw_LAt p l e s m args below meth c Q D ct adC adM AC AM σ τ 1515 [(0, .ref b), (1, .ref (adC 0)), (2, .ref (adM 0)), (3, .int i)] [] := by
  intro H ls hC hM hl
  have hx := C.1.1
  have hb := C.1.2.1
  have hX := C.2.2.2.2.2.1
  have hbl := C.2.2.2.2.2.2
  have hbA : ¬ AC b := fun z => absurd (C.2.2.1 b z) (by omega)
  refine lv_aload_n hx hb dL_law_1515 rfl (lv_at hl 1 rfl) ?_
  refine lv_aload_n hx hb dL_law_1516 rfl (lv_at hl 0 rfl) ?_
  refine lv_iload_n hx hb dL_law_1517 rfl (lv_at hl 3 rfl) ?_
  refine lv_iconst (v := 1) hx hb dL_law_1518 rfl ?_
  refine lv_iadd hx hb dL_law_1519 ?_
  refine va_sld hx hb hX hbl hbA hC.2 g1 dL_law_1520 ?_
  refine lv_aload_n hx hb dL_law_1521 rfl (lv_at hl 0 rfl) ?_
  refine lv_iload_n hx hb dL_law_1522 rfl (lv_at hl 3 rfl) ?_
  refine lv_iconst (v := 2) hx hb dL_law_1523 rfl ?_
  refine lv_iadd hx hb dL_law_1524 ?_
  refine va_sld hx hb hX hbl hbA hC.2 g2 dL_law_1525 ?_
  refine lv_aload_n hx hb dL_law_1526 rfl (lv_at hl 0 rfl) ?_
  refine lv_iload_n hx hb dL_law_1527 rfl (lv_at hl 3 rfl) ?_
  refine lv_iconst (v := 3) hx hb dL_law_1528 rfl ?_
  refine lv_iadd hx hb dL_law_1529 ?_
  refine va_sld hx hb hX hbl hbA hC.2 g3 dL_law_1530 ?_
  refine lv_aload_n hx hb dL_law_1531 rfl (lv_at hl 0 rfl) ?_
  refine lv_iload_n hx hb dL_law_1532 rfl (lv_at hl 3 rfl) ?_
  refine lv_iconst (v := 4) hx hb dL_law_1533 rfl ?_
  refine lv_iadd hx hb dL_law_1534 ?_
  refine va_sld hx hb hX hbl hbA hC.2 g4 dL_law_1535 ?_
  obtain ⟨r, r2, σ1, τ1, hf1, hf2, hJ1⟩ := hs σ τ (xs (i + 1).toNatClampNeg) (xs (i + 2).toNatClampNeg) (xs (i + 3).toNatClampNeg) (xs (i + 4).toNatClampNeg) hJ
  refine lw_call (rest := []) C.1 C.2.2.1 (fun q z1 z2 => C.2.2.2.2.1 q z2 z1) C.2.1.2.2.2.2.2.2.2.2.1 hC hM (ctX8_loses l hf1) kl_RL_229 layC_0 rfl rfl rfl rfl (Nat.le_of_ble_eq_true rfl) dL_law_1536 hl.1 (Nat.le_refl _) (Nat.le_refl _) (fun H hC hM => ?_)
  refine lv_pop hx hb dL_law_1539 rfl ?_
  refine lv_aload_n hx hb dL_law_1540 rfl (lv_at hl 2 rfl) ?_
  refine lv_aload_n hx hb dL_law_1541 rfl (lv_at hl 0 rfl) ?_
  refine lv_iload_n hx hb dL_law_1542 rfl (lv_at hl 3 rfl) ?_
  refine lv_iconst (v := 1) hx hb dL_law_1543 rfl ?_
  refine lv_iadd hx hb dL_law_1544 ?_
  refine va_sld hx hb hX hbl hbA hC.2 g1 dL_law_1545 ?_
  refine lv_aload_n hx hb dL_law_1546 rfl (lv_at hl 0 rfl) ?_
  refine lv_iload_n hx hb dL_law_1547 rfl (lv_at hl 3 rfl) ?_
  refine lv_iconst (v := 2) hx hb dL_law_1548 rfl ?_
  refine lv_iadd hx hb dL_law_1549 ?_
  refine va_sld hx hb hX hbl hbA hC.2 g2 dL_law_1550 ?_
  refine lv_aload_n hx hb dL_law_1551 rfl (lv_at hl 0 rfl) ?_
  refine lv_iload_n hx hb dL_law_1552 rfl (lv_at hl 3 rfl) ?_
  refine lv_iconst (v := 3) hx hb dL_law_1553 rfl ?_
  refine lv_iadd hx hb dL_law_1554 ?_
  refine va_sld hx hb hX hbl hbA hC.2 g3 dL_law_1555 ?_
  refine lv_aload_n hx hb dL_law_1556 rfl (lv_at hl 0 rfl) ?_
  refine lv_iload_n hx hb dL_law_1557 rfl (lv_at hl 3 rfl) ?_
  refine lv_iconst (v := 4) hx hb dL_law_1558 rfl ?_
  refine lv_iadd hx hb dL_law_1559 ?_
  refine va_sld hx hb hX hbl hbA hC.2 g4 dL_law_1560 ?_
  refine lw_call (rest := []) C.2.1 C.2.2.2.1 C.2.2.2.2.1 C.1.2.2.2.2.2.2.2.2.1 hM hC (ctX9_loses l hf2) kl_RL_233 layM_0 rfl rfl rfl rfl (Nat.le_of_ble_eq_true rfl) dL_law_1561 hl.1 (Nat.le_refl _) (Nat.le_refl _) (fun H hM hC => ?_)
  refine lv_pop hx hb dL_law_1564 rfl ?_
  refine lv_goto (tgt := 2172) hx hb dL_law_1565 (by decide) ?_
  exact kk σ1 τ1 hJ1 H ls hC hM (lv_sub hl [0, 1, 2, 3] rfl)
theorem lw_case_54 (C : lw_C p s m args meth c b L xs D ct adC adM AC AM) {J J2 : sn_S → sn_S → Prop} (hs : st_54 J J2) {σ τ : sn_S} (hJ : J σ τ) {i : Int32} (g1 : vp_in (i + 1) L) (g2 : vp_in (i + 2) L) (g3 : vp_in (i + 3) L) (g4 : vp_in (i + 4) L) (g5 : vp_in (i + 5) L) (kk : ∀ σ τ, J2 σ τ → lw_LAt p l e s m args below meth c Q D ct adC adM AC AM σ τ 2172 [(0, .ref b), (1, .ref (adC 0)), (2, .ref (adM 0)), (3, .int i)] []) : lw_LAt p l e s m args below meth c Q D ct adC adM AC AM σ τ 1568 [(0, .ref b), (1, .ref (adC 0)), (2, .ref (adM 0)), (3, .int i)] [] := by
  intro H ls hC hM hl
  have hx := C.1.1
  have hb := C.1.2.1
  have hX := C.2.2.2.2.2.1
  have hbl := C.2.2.2.2.2.2
  have hbA : ¬ AC b := fun z => absurd (C.2.2.1 b z) (by omega)
  refine lv_aload_n hx hb dL_law_1568 rfl (lv_at hl 1 rfl) ?_
  refine lv_aload_n hx hb dL_law_1569 rfl (lv_at hl 0 rfl) ?_
  refine lv_iload_n hx hb dL_law_1570 rfl (lv_at hl 3 rfl) ?_
  refine lv_iconst (v := 1) hx hb dL_law_1571 rfl ?_
  refine lv_iadd hx hb dL_law_1572 ?_
  refine va_sld hx hb hX hbl hbA hC.2 g1 dL_law_1573 ?_
  obtain ⟨r, r2, σ1, τ1, hf1, hf2, hJ1⟩ := hs σ τ (xs (i + 1).toNatClampNeg) hJ
  refine lw_call (rest := []) C.1 C.2.2.1 (fun q z1 z2 => C.2.2.2.2.1 q z2 z1) C.2.1.2.2.2.2.2.2.2.2.1 hC hM (ctX8_cut l hf1) kl_RL_234 layC_0 rfl rfl rfl rfl (Nat.le_of_ble_eq_true rfl) dL_law_1574 hl.1 (Nat.le_refl _) (Nat.le_refl _) (fun H hC hM => ?_)
  refine lv_pop hx hb dL_law_1577 rfl ?_
  refine lv_aload_n hx hb dL_law_1578 rfl (lv_at hl 2 rfl) ?_
  refine lv_aload_n hx hb dL_law_1579 rfl (lv_at hl 0 rfl) ?_
  refine lv_iload_n hx hb dL_law_1580 rfl (lv_at hl 3 rfl) ?_
  refine lv_iconst (v := 1) hx hb dL_law_1581 rfl ?_
  refine lv_iadd hx hb dL_law_1582 ?_
  refine va_sld hx hb hX hbl hbA hC.2 g1 dL_law_1583 ?_
  refine lw_call (rest := []) C.2.1 C.2.2.2.1 C.2.2.2.2.1 C.1.2.2.2.2.2.2.2.2.1 hM hC (ctX9_cut l hf2) kl_RL_237 layM_0 rfl rfl rfl rfl (Nat.le_of_ble_eq_true rfl) dL_law_1584 hl.1 (Nat.le_refl _) (Nat.le_refl _) (fun H hM hC => ?_)
  refine lv_pop hx hb dL_law_1587 rfl ?_
  refine lv_goto (tgt := 2172) hx hb dL_law_1588 (by decide) ?_
  exact kk σ1 τ1 hJ1 H ls hC hM (lv_sub hl [0, 1, 2, 3] rfl)
theorem lw_case_55 (C : lw_C p s m args meth c b L xs D ct adC adM AC AM) {J J2 : sn_S → sn_S → Prop} (hs : st_55 J J2) {σ τ : sn_S} (hJ : J σ τ) {i : Int32} (g1 : vp_in (i + 1) L) (g2 : vp_in (i + 2) L) (g3 : vp_in (i + 3) L) (g4 : vp_in (i + 4) L) (g5 : vp_in (i + 5) L) (kk : ∀ σ τ, J2 σ τ → lw_LAt p l e s m args below meth c Q D ct adC adM AC AM σ τ 2172 [(0, .ref b), (1, .ref (adC 0)), (2, .ref (adM 0)), (3, .int i)] []) : lw_LAt p l e s m args below meth c Q D ct adC adM AC AM σ τ 1591 [(0, .ref b), (1, .ref (adC 0)), (2, .ref (adM 0)), (3, .int i)] [] := by
  intro H ls hC hM hl
  have hx := C.1.1
  have hb := C.1.2.1
  have hX := C.2.2.2.2.2.1
  have hbl := C.2.2.2.2.2.2
  have hbA : ¬ AC b := fun z => absurd (C.2.2.1 b z) (by omega)
  refine lv_aload_n hx hb dL_law_1591 rfl (lv_at hl 1 rfl) ?_
  obtain ⟨r, r2, σ1, τ1, hf1, hf2, hJ1⟩ := hs σ τ  hJ
  refine lw_call (rest := []) C.1 C.2.2.1 (fun q z1 z2 => C.2.2.2.2.1 q z2 z1) C.2.1.2.2.2.2.2.2.2.2.1 hC hM (ctX8_cuts l hf1) kl_RL_238 layC_0 rfl rfl rfl rfl (Nat.le_of_ble_eq_true rfl) dL_law_1592 hl.1 (Nat.le_refl _) (Nat.le_refl _) (fun H hC hM => ?_)
  refine lv_pop hx hb dL_law_1595 rfl ?_
  refine lv_aload_n hx hb dL_law_1596 rfl (lv_at hl 2 rfl) ?_
  refine lw_call (rest := []) C.2.1 C.2.2.2.1 C.2.2.2.2.1 C.1.2.2.2.2.2.2.2.2.1 hM hC (ctX9_cuts l hf2) kl_RL_241 layM_0 rfl rfl rfl rfl (Nat.le_of_ble_eq_true rfl) dL_law_1597 hl.1 (Nat.le_refl _) (Nat.le_refl _) (fun H hM hC => ?_)
  refine lv_pop hx hb dL_law_1600 rfl ?_
  refine lv_goto (tgt := 2172) hx hb dL_law_1601 (by decide) ?_
  exact kk σ1 τ1 hJ1 H ls hC hM (lv_sub hl [0, 1, 2, 3] rfl)
theorem lw_case_56 (C : lw_C p s m args meth c b L xs D ct adC adM AC AM) {J J2 : sn_S → sn_S → Prop} (hs : st_56 J J2) {σ τ : sn_S} (hJ : J σ τ) {i : Int32} (g1 : vp_in (i + 1) L) (g2 : vp_in (i + 2) L) (g3 : vp_in (i + 3) L) (g4 : vp_in (i + 4) L) (g5 : vp_in (i + 5) L) (kk : ∀ σ τ, J2 σ τ → lw_LAt p l e s m args below meth c Q D ct adC adM AC AM σ τ 2172 [(0, .ref b), (1, .ref (adC 0)), (2, .ref (adM 0)), (3, .int i)] []) : lw_LAt p l e s m args below meth c Q D ct adC adM AC AM σ τ 1604 [(0, .ref b), (1, .ref (adC 0)), (2, .ref (adM 0)), (3, .int i)] [] := by
  intro H ls hC hM hl
  have hx := C.1.1
  have hb := C.1.2.1
  have hX := C.2.2.2.2.2.1
  have hbl := C.2.2.2.2.2.2
  have hbA : ¬ AC b := fun z => absurd (C.2.2.1 b z) (by omega)
  refine lv_aload_n hx hb dL_law_1604 rfl (lv_at hl 1 rfl) ?_
  refine lv_aload_n hx hb dL_law_1605 rfl (lv_at hl 0 rfl) ?_
  refine lv_iload_n hx hb dL_law_1606 rfl (lv_at hl 3 rfl) ?_
  refine lv_iconst (v := 1) hx hb dL_law_1607 rfl ?_
  refine lv_iadd hx hb dL_law_1608 ?_
  refine va_sld hx hb hX hbl hbA hC.2 g1 dL_law_1609 ?_
  refine lv_aload_n hx hb dL_law_1610 rfl (lv_at hl 0 rfl) ?_
  refine lv_iload_n hx hb dL_law_1611 rfl (lv_at hl 3 rfl) ?_
  refine lv_iconst (v := 2) hx hb dL_law_1612 rfl ?_
  refine lv_iadd hx hb dL_law_1613 ?_
  refine va_sld hx hb hX hbl hbA hC.2 g2 dL_law_1614 ?_
  refine lv_aload_n hx hb dL_law_1615 rfl (lv_at hl 0 rfl) ?_
  refine lv_iload_n hx hb dL_law_1616 rfl (lv_at hl 3 rfl) ?_
  refine lv_iconst (v := 3) hx hb dL_law_1617 rfl ?_
  refine lv_iadd hx hb dL_law_1618 ?_
  refine va_sld hx hb hX hbl hbA hC.2 g3 dL_law_1619 ?_
  obtain ⟨r, r2, σ1, τ1, hf1, hf2, hJ1⟩ := hs σ τ (xs (i + 1).toNatClampNeg) (xs (i + 2).toNatClampNeg) (xs (i + 3).toNatClampNeg) hJ
  refine lw_call (rest := []) C.1 C.2.2.1 (fun q z1 z2 => C.2.2.2.2.1 q z2 z1) C.2.1.2.2.2.2.2.2.2.2.1 hC hM (ctX8_chance l hf1) kl_RL_242 layC_0 rfl rfl rfl rfl (Nat.le_of_ble_eq_true rfl) dL_law_1620 hl.1 (Nat.le_refl _) (Nat.le_refl _) (fun H hC hM => ?_)
  refine lv_pop2_2 hx hb dL_law_1623 rfl ?_
  refine lv_aload_n hx hb dL_law_1624 rfl (lv_at hl 2 rfl) ?_
  refine lv_aload_n hx hb dL_law_1625 rfl (lv_at hl 0 rfl) ?_
  refine lv_iload_n hx hb dL_law_1626 rfl (lv_at hl 3 rfl) ?_
  refine lv_iconst (v := 1) hx hb dL_law_1627 rfl ?_
  refine lv_iadd hx hb dL_law_1628 ?_
  refine va_sld hx hb hX hbl hbA hC.2 g1 dL_law_1629 ?_
  refine lv_aload_n hx hb dL_law_1630 rfl (lv_at hl 0 rfl) ?_
  refine lv_iload_n hx hb dL_law_1631 rfl (lv_at hl 3 rfl) ?_
  refine lv_iconst (v := 2) hx hb dL_law_1632 rfl ?_
  refine lv_iadd hx hb dL_law_1633 ?_
  refine va_sld hx hb hX hbl hbA hC.2 g2 dL_law_1634 ?_
  refine lv_aload_n hx hb dL_law_1635 rfl (lv_at hl 0 rfl) ?_
  refine lv_iload_n hx hb dL_law_1636 rfl (lv_at hl 3 rfl) ?_
  refine lv_iconst (v := 3) hx hb dL_law_1637 rfl ?_
  refine lv_iadd hx hb dL_law_1638 ?_
  refine va_sld hx hb hX hbl hbA hC.2 g3 dL_law_1639 ?_
  refine lw_call (rest := []) C.2.1 C.2.2.2.1 C.2.2.2.2.1 C.1.2.2.2.2.2.2.2.2.1 hM hC (ctX9_chance l hf2) kl_RL_246 layM_0 rfl rfl rfl rfl (Nat.le_of_ble_eq_true rfl) dL_law_1640 hl.1 (Nat.le_refl _) (Nat.le_refl _) (fun H hM hC => ?_)
  refine lv_pop2_2 hx hb dL_law_1643 rfl ?_
  refine lv_goto (tgt := 2172) hx hb dL_law_1644 (by decide) ?_
  exact kk σ1 τ1 hJ1 H ls hC hM (lv_sub hl [0, 1, 2, 3] rfl)
theorem lw_case_57 (C : lw_C p s m args meth c b L xs D ct adC adM AC AM) {J J2 : sn_S → sn_S → Prop} (hs : st_57 J J2) {σ τ : sn_S} (hJ : J σ τ) {i : Int32} (g1 : vp_in (i + 1) L) (g2 : vp_in (i + 2) L) (g3 : vp_in (i + 3) L) (g4 : vp_in (i + 4) L) (g5 : vp_in (i + 5) L) (kk : ∀ σ τ, J2 σ τ → lw_LAt p l e s m args below meth c Q D ct adC adM AC AM σ τ 2172 [(0, .ref b), (1, .ref (adC 0)), (2, .ref (adM 0)), (3, .int i)] []) : lw_LAt p l e s m args below meth c Q D ct adC adM AC AM σ τ 1647 [(0, .ref b), (1, .ref (adC 0)), (2, .ref (adM 0)), (3, .int i)] [] := by
  intro H ls hC hM hl
  have hx := C.1.1
  have hb := C.1.2.1
  have hX := C.2.2.2.2.2.1
  have hbl := C.2.2.2.2.2.2
  have hbA : ¬ AC b := fun z => absurd (C.2.2.1 b z) (by omega)
  refine lv_aload_n hx hb dL_law_1647 rfl (lv_at hl 1 rfl) ?_
  refine lv_aload_n hx hb dL_law_1648 rfl (lv_at hl 0 rfl) ?_
  refine lv_iload_n hx hb dL_law_1649 rfl (lv_at hl 3 rfl) ?_
  refine lv_iconst (v := 1) hx hb dL_law_1650 rfl ?_
  refine lv_iadd hx hb dL_law_1651 ?_
  refine va_sld hx hb hX hbl hbA hC.2 g1 dL_law_1652 ?_
  refine lv_aload_n hx hb dL_law_1653 rfl (lv_at hl 0 rfl) ?_
  refine lv_iload_n hx hb dL_law_1654 rfl (lv_at hl 3 rfl) ?_
  refine lv_iconst (v := 2) hx hb dL_law_1655 rfl ?_
  refine lv_iadd hx hb dL_law_1656 ?_
  refine va_sld hx hb hX hbl hbA hC.2 g2 dL_law_1657 ?_
  refine lv_aload_n hx hb dL_law_1658 rfl (lv_at hl 0 rfl) ?_
  refine lv_iload_n hx hb dL_law_1659 rfl (lv_at hl 3 rfl) ?_
  refine lv_iconst (v := 3) hx hb dL_law_1660 rfl ?_
  refine lv_iadd hx hb dL_law_1661 ?_
  refine va_sld hx hb hX hbl hbA hC.2 g3 dL_law_1662 ?_
  obtain ⟨r, r2, σ1, τ1, hf1, hf2, hJ1⟩ := hs σ τ (xs (i + 1).toNatClampNeg) (xs (i + 2).toNatClampNeg) (xs (i + 3).toNatClampNeg) hJ
  refine lw_call (rest := []) C.1 C.2.2.1 (fun q z1 z2 => C.2.2.2.2.1 q z2 z1) C.2.1.2.2.2.2.2.2.2.2.1 hC hM (ctX8_fair l hf1) kl_RL_247 layC_0 rfl rfl rfl rfl (Nat.le_of_ble_eq_true rfl) dL_law_1663 hl.1 (Nat.le_refl _) (Nat.le_refl _) (fun H hC hM => ?_)
  refine lv_pop2_2 hx hb dL_law_1666 rfl ?_
  refine lv_aload_n hx hb dL_law_1667 rfl (lv_at hl 2 rfl) ?_
  refine lv_aload_n hx hb dL_law_1668 rfl (lv_at hl 0 rfl) ?_
  refine lv_iload_n hx hb dL_law_1669 rfl (lv_at hl 3 rfl) ?_
  refine lv_iconst (v := 1) hx hb dL_law_1670 rfl ?_
  refine lv_iadd hx hb dL_law_1671 ?_
  refine va_sld hx hb hX hbl hbA hC.2 g1 dL_law_1672 ?_
  refine lv_aload_n hx hb dL_law_1673 rfl (lv_at hl 0 rfl) ?_
  refine lv_iload_n hx hb dL_law_1674 rfl (lv_at hl 3 rfl) ?_
  refine lv_iconst (v := 2) hx hb dL_law_1675 rfl ?_
  refine lv_iadd hx hb dL_law_1676 ?_
  refine va_sld hx hb hX hbl hbA hC.2 g2 dL_law_1677 ?_
  refine lv_aload_n hx hb dL_law_1678 rfl (lv_at hl 0 rfl) ?_
  refine lv_iload_n hx hb dL_law_1679 rfl (lv_at hl 3 rfl) ?_
  refine lv_iconst (v := 3) hx hb dL_law_1680 rfl ?_
  refine lv_iadd hx hb dL_law_1681 ?_
  refine va_sld hx hb hX hbl hbA hC.2 g3 dL_law_1682 ?_
  refine lw_call (rest := []) C.2.1 C.2.2.2.1 C.2.2.2.2.1 C.1.2.2.2.2.2.2.2.2.1 hM hC (ctX9_fair l hf2) kl_RL_250 layM_0 rfl rfl rfl rfl (Nat.le_of_ble_eq_true rfl) dL_law_1683 hl.1 (Nat.le_refl _) (Nat.le_refl _) (fun H hM hC => ?_)
  refine lv_pop2_2 hx hb dL_law_1686 rfl ?_
  refine lv_goto (tgt := 2172) hx hb dL_law_1687 (by decide) ?_
  exact kk σ1 τ1 hJ1 H ls hC hM (lv_sub hl [0, 1, 2, 3] rfl)
theorem lw_case_58 (C : lw_C p s m args meth c b L xs D ct adC adM AC AM) {J J2 : sn_S → sn_S → Prop} (hs : st_58 J J2) {σ τ : sn_S} (hJ : J σ τ) {i : Int32} (g1 : vp_in (i + 1) L) (g2 : vp_in (i + 2) L) (g3 : vp_in (i + 3) L) (g4 : vp_in (i + 4) L) (g5 : vp_in (i + 5) L) (kk : ∀ σ τ, J2 σ τ → lw_LAt p l e s m args below meth c Q D ct adC adM AC AM σ τ 2172 [(0, .ref b), (1, .ref (adC 0)), (2, .ref (adM 0)), (3, .int i)] []) : lw_LAt p l e s m args below meth c Q D ct adC adM AC AM σ τ 1690 [(0, .ref b), (1, .ref (adC 0)), (2, .ref (adM 0)), (3, .int i)] [] := by
  intro H ls hC hM hl
  have hx := C.1.1
  have hb := C.1.2.1
  have hX := C.2.2.2.2.2.1
  have hbl := C.2.2.2.2.2.2
  have hbA : ¬ AC b := fun z => absurd (C.2.2.1 b z) (by omega)
  refine lv_aload_n hx hb dL_law_1690 rfl (lv_at hl 1 rfl) ?_
  refine lv_aload_n hx hb dL_law_1691 rfl (lv_at hl 0 rfl) ?_
  refine lv_iload_n hx hb dL_law_1692 rfl (lv_at hl 3 rfl) ?_
  refine lv_iconst (v := 1) hx hb dL_law_1693 rfl ?_
  refine lv_iadd hx hb dL_law_1694 ?_
  refine va_sld hx hb hX hbl hbA hC.2 g1 dL_law_1695 ?_
  refine lv_aload_n hx hb dL_law_1696 rfl (lv_at hl 0 rfl) ?_
  refine lv_iload_n hx hb dL_law_1697 rfl (lv_at hl 3 rfl) ?_
  refine lv_iconst (v := 2) hx hb dL_law_1698 rfl ?_
  refine lv_iadd hx hb dL_law_1699 ?_
  refine va_sld hx hb hX hbl hbA hC.2 g2 dL_law_1700 ?_
  obtain ⟨r, r2, σ1, τ1, hf1, hf2, hJ1⟩ := hs σ τ (xs (i + 1).toNatClampNeg) (xs (i + 2).toNatClampNeg) hJ
  refine lw_call (rest := []) C.1 C.2.2.1 (fun q z1 z2 => C.2.2.2.2.1 q z2 z1) C.2.1.2.2.2.2.2.2.2.2.1 hC hM (ctX8_risk l hf1) kl_RL_251 layC_0 rfl rfl rfl rfl (Nat.le_of_ble_eq_true rfl) dL_law_1701 hl.1 (Nat.le_refl _) (Nat.le_refl _) (fun H hC hM => ?_)
  refine lv_pop2_2 hx hb dL_law_1704 rfl ?_
  refine lv_aload_n hx hb dL_law_1705 rfl (lv_at hl 2 rfl) ?_
  refine lv_aload_n hx hb dL_law_1706 rfl (lv_at hl 0 rfl) ?_
  refine lv_iload_n hx hb dL_law_1707 rfl (lv_at hl 3 rfl) ?_
  refine lv_iconst (v := 1) hx hb dL_law_1708 rfl ?_
  refine lv_iadd hx hb dL_law_1709 ?_
  refine va_sld hx hb hX hbl hbA hC.2 g1 dL_law_1710 ?_
  refine lv_aload_n hx hb dL_law_1711 rfl (lv_at hl 0 rfl) ?_
  refine lv_iload_n hx hb dL_law_1712 rfl (lv_at hl 3 rfl) ?_
  refine lv_iconst (v := 2) hx hb dL_law_1713 rfl ?_
  refine lv_iadd hx hb dL_law_1714 ?_
  refine va_sld hx hb hX hbl hbA hC.2 g2 dL_law_1715 ?_
  refine lw_call (rest := []) C.2.1 C.2.2.2.1 C.2.2.2.2.1 C.1.2.2.2.2.2.2.2.2.1 hM hC (ctX9_risk l hf2) kl_RL_255 layM_0 rfl rfl rfl rfl (Nat.le_of_ble_eq_true rfl) dL_law_1716 hl.1 (Nat.le_refl _) (Nat.le_refl _) (fun H hM hC => ?_)
  refine lv_pop2_2 hx hb dL_law_1719 rfl ?_
  refine lv_goto (tgt := 2172) hx hb dL_law_1720 (by decide) ?_
  exact kk σ1 τ1 hJ1 H ls hC hM (lv_sub hl [0, 1, 2, 3] rfl)
theorem lw_case_59 (C : lw_C p s m args meth c b L xs D ct adC adM AC AM) {J J2 : sn_S → sn_S → Prop} (hs : st_59 J J2) {σ τ : sn_S} (hJ : J σ τ) {i : Int32} (g1 : vp_in (i + 1) L) (g2 : vp_in (i + 2) L) (g3 : vp_in (i + 3) L) (g4 : vp_in (i + 4) L) (g5 : vp_in (i + 5) L) (kk : ∀ σ τ, J2 σ τ → lw_LAt p l e s m args below meth c Q D ct adC adM AC AM σ τ 2172 [(0, .ref b), (1, .ref (adC 0)), (2, .ref (adM 0)), (3, .int i)] []) : lw_LAt p l e s m args below meth c Q D ct adC adM AC AM σ τ 1723 [(0, .ref b), (1, .ref (adC 0)), (2, .ref (adM 0)), (3, .int i)] [] := by
  intro H ls hC hM hl
  have hx := C.1.1
  have hb := C.1.2.1
  have hX := C.2.2.2.2.2.1
  have hbl := C.2.2.2.2.2.2
  have hbA : ¬ AC b := fun z => absurd (C.2.2.1 b z) (by omega)
  refine lv_aload_n hx hb dL_law_1723 rfl (lv_at hl 1 rfl) ?_
  refine lv_aload_n hx hb dL_law_1724 rfl (lv_at hl 0 rfl) ?_
  refine lv_iload_n hx hb dL_law_1725 rfl (lv_at hl 3 rfl) ?_
  refine lv_iconst (v := 1) hx hb dL_law_1726 rfl ?_
  refine lv_iadd hx hb dL_law_1727 ?_
  refine va_sld hx hb hX hbl hbA hC.2 g1 dL_law_1728 ?_
  refine lv_aload_n hx hb dL_law_1729 rfl (lv_at hl 0 rfl) ?_
  refine lv_iload_n hx hb dL_law_1730 rfl (lv_at hl 3 rfl) ?_
  refine lv_iconst (v := 2) hx hb dL_law_1731 rfl ?_
  refine lv_iadd hx hb dL_law_1732 ?_
  refine va_sld hx hb hX hbl hbA hC.2 g2 dL_law_1733 ?_
  obtain ⟨r, r2, σ1, τ1, hf1, hf2, hJ1⟩ := hs σ τ (xs (i + 1).toNatClampNeg) (xs (i + 2).toNatClampNeg) hJ
  refine lw_call (rest := []) C.1 C.2.2.1 (fun q z1 z2 => C.2.2.2.2.1 q z2 z1) C.2.1.2.2.2.2.2.2.2.2.1 hC hM (ctX8_stifle l hf1) kl_RL_256 layC_0 rfl rfl rfl rfl (Nat.le_of_ble_eq_true rfl) dL_law_1734 hl.1 (Nat.le_refl _) (Nat.le_refl _) (fun H hC hM => ?_)
  refine lv_pop hx hb dL_law_1737 rfl ?_
  refine lv_aload_n hx hb dL_law_1738 rfl (lv_at hl 2 rfl) ?_
  refine lv_aload_n hx hb dL_law_1739 rfl (lv_at hl 0 rfl) ?_
  refine lv_iload_n hx hb dL_law_1740 rfl (lv_at hl 3 rfl) ?_
  refine lv_iconst (v := 1) hx hb dL_law_1741 rfl ?_
  refine lv_iadd hx hb dL_law_1742 ?_
  refine va_sld hx hb hX hbl hbA hC.2 g1 dL_law_1743 ?_
  refine lv_aload_n hx hb dL_law_1744 rfl (lv_at hl 0 rfl) ?_
  refine lv_iload_n hx hb dL_law_1745 rfl (lv_at hl 3 rfl) ?_
  refine lv_iconst (v := 2) hx hb dL_law_1746 rfl ?_
  refine lv_iadd hx hb dL_law_1747 ?_
  refine va_sld hx hb hX hbl hbA hC.2 g2 dL_law_1748 ?_
  refine lw_call (rest := []) C.2.1 C.2.2.2.1 C.2.2.2.2.1 C.1.2.2.2.2.2.2.2.2.1 hM hC (ctX9_stifle l hf2) kl_RL_259 layM_0 rfl rfl rfl rfl (Nat.le_of_ble_eq_true rfl) dL_law_1749 hl.1 (Nat.le_refl _) (Nat.le_refl _) (fun H hM hC => ?_)
  refine lv_pop hx hb dL_law_1752 rfl ?_
  refine lv_goto (tgt := 2172) hx hb dL_law_1753 (by decide) ?_
  exact kk σ1 τ1 hJ1 H ls hC hM (lv_sub hl [0, 1, 2, 3] rfl)
theorem lw_case_60 (C : lw_C p s m args meth c b L xs D ct adC adM AC AM) {J J2 : sn_S → sn_S → Prop} (hs : st_60 J J2) {σ τ : sn_S} (hJ : J σ τ) {i : Int32} (g1 : vp_in (i + 1) L) (g2 : vp_in (i + 2) L) (g3 : vp_in (i + 3) L) (g4 : vp_in (i + 4) L) (g5 : vp_in (i + 5) L) (kk : ∀ σ τ, J2 σ τ → lw_LAt p l e s m args below meth c Q D ct adC adM AC AM σ τ 2172 [(0, .ref b), (1, .ref (adC 0)), (2, .ref (adM 0)), (3, .int i)] []) : lw_LAt p l e s m args below meth c Q D ct adC adM AC AM σ τ 1756 [(0, .ref b), (1, .ref (adC 0)), (2, .ref (adM 0)), (3, .int i)] [] := by
  intro H ls hC hM hl
  have hx := C.1.1
  have hb := C.1.2.1
  have hX := C.2.2.2.2.2.1
  have hbl := C.2.2.2.2.2.2
  have hbA : ¬ AC b := fun z => absurd (C.2.2.1 b z) (by omega)
  refine lv_aload_n hx hb dL_law_1756 rfl (lv_at hl 1 rfl) ?_
  refine lv_aload_n hx hb dL_law_1757 rfl (lv_at hl 0 rfl) ?_
  refine lv_iload_n hx hb dL_law_1758 rfl (lv_at hl 3 rfl) ?_
  refine lv_iconst (v := 1) hx hb dL_law_1759 rfl ?_
  refine lv_iadd hx hb dL_law_1760 ?_
  refine va_sld hx hb hX hbl hbA hC.2 g1 dL_law_1761 ?_
  refine lv_aload_n hx hb dL_law_1762 rfl (lv_at hl 0 rfl) ?_
  refine lv_iload_n hx hb dL_law_1763 rfl (lv_at hl 3 rfl) ?_
  refine lv_iconst (v := 2) hx hb dL_law_1764 rfl ?_
  refine lv_iadd hx hb dL_law_1765 ?_
  refine va_sld hx hb hX hbl hbA hC.2 g2 dL_law_1766 ?_
  obtain ⟨r, r2, σ1, τ1, hf1, hf2, hJ1⟩ := hs σ τ (xs (i + 1).toNatClampNeg) (xs (i + 2).toNatClampNeg) hJ
  refine lw_call (rest := []) C.1 C.2.2.1 (fun q z1 z2 => C.2.2.2.2.1 q z2 z1) C.2.1.2.2.2.2.2.2.2.2.1 hC hM (ctX8_sniff l hf1) kl_RL_260 layC_0 rfl rfl rfl rfl (Nat.le_of_ble_eq_true rfl) dL_law_1767 hl.1 (Nat.le_refl _) (Nat.le_refl _) (fun H hC hM => ?_)
  refine lv_pop hx hb dL_law_1770 rfl ?_
  refine lv_aload_n hx hb dL_law_1771 rfl (lv_at hl 2 rfl) ?_
  refine lv_aload_n hx hb dL_law_1772 rfl (lv_at hl 0 rfl) ?_
  refine lv_iload_n hx hb dL_law_1773 rfl (lv_at hl 3 rfl) ?_
  refine lv_iconst (v := 1) hx hb dL_law_1774 rfl ?_
  refine lv_iadd hx hb dL_law_1775 ?_
  refine va_sld hx hb hX hbl hbA hC.2 g1 dL_law_1776 ?_
  refine lv_aload_n hx hb dL_law_1777 rfl (lv_at hl 0 rfl) ?_
  refine lv_iload_n hx hb dL_law_1778 rfl (lv_at hl 3 rfl) ?_
  refine lv_iconst (v := 2) hx hb dL_law_1779 rfl ?_
  refine lv_iadd hx hb dL_law_1780 ?_
  refine va_sld hx hb hX hbl hbA hC.2 g2 dL_law_1781 ?_
  refine lw_call (rest := []) C.2.1 C.2.2.2.1 C.2.2.2.2.1 C.1.2.2.2.2.2.2.2.2.1 hM hC (ctX9_sniff l hf2) kl_RL_263 layM_0 rfl rfl rfl rfl (Nat.le_of_ble_eq_true rfl) dL_law_1782 hl.1 (Nat.le_refl _) (Nat.le_refl _) (fun H hM hC => ?_)
  refine lv_pop hx hb dL_law_1785 rfl ?_
  refine lv_goto (tgt := 2172) hx hb dL_law_1786 (by decide) ?_
  exact kk σ1 τ1 hJ1 H ls hC hM (lv_sub hl [0, 1, 2, 3] rfl)
theorem lw_case_61 (C : lw_C p s m args meth c b L xs D ct adC adM AC AM) {J J2 : sn_S → sn_S → Prop} (hs : st_61 J J2) {σ τ : sn_S} (hJ : J σ τ) {i : Int32} (g1 : vp_in (i + 1) L) (g2 : vp_in (i + 2) L) (g3 : vp_in (i + 3) L) (g4 : vp_in (i + 4) L) (g5 : vp_in (i + 5) L) (kk : ∀ σ τ, J2 σ τ → lw_LAt p l e s m args below meth c Q D ct adC adM AC AM σ τ 2172 [(0, .ref b), (1, .ref (adC 0)), (2, .ref (adM 0)), (3, .int i)] []) : lw_LAt p l e s m args below meth c Q D ct adC adM AC AM σ τ 1789 [(0, .ref b), (1, .ref (adC 0)), (2, .ref (adM 0)), (3, .int i)] [] := by
  intro H ls hC hM hl
  have hx := C.1.1
  have hb := C.1.2.1
  have hX := C.2.2.2.2.2.1
  have hbl := C.2.2.2.2.2.2
  have hbA : ¬ AC b := fun z => absurd (C.2.2.1 b z) (by omega)
  refine lv_aload_n hx hb dL_law_1789 rfl (lv_at hl 1 rfl) ?_
  obtain ⟨r, r2, σ1, τ1, hf1, hf2, hJ1⟩ := hs σ τ  hJ
  refine lw_call (rest := []) C.1 C.2.2.1 (fun q z1 z2 => C.2.2.2.2.1 q z2 z1) C.2.1.2.2.2.2.2.2.2.2.1 hC hM (ctX8_undo l hf1) kl_RL_264 layC_0 rfl rfl rfl rfl (Nat.le_of_ble_eq_true rfl) dL_law_1790 hl.1 (Nat.le_refl _) (Nat.le_refl _) (fun H hC hM => ?_)
  refine lv_pop hx hb dL_law_1793 rfl ?_
  refine lv_aload_n hx hb dL_law_1794 rfl (lv_at hl 2 rfl) ?_
  refine lw_call (rest := []) C.2.1 C.2.2.2.1 C.2.2.2.2.1 C.1.2.2.2.2.2.2.2.2.1 hM hC (ctX9_undo l hf2) kl_RL_267 layM_0 rfl rfl rfl rfl (Nat.le_of_ble_eq_true rfl) dL_law_1795 hl.1 (Nat.le_refl _) (Nat.le_refl _) (fun H hM hC => ?_)
  refine lv_pop hx hb dL_law_1798 rfl ?_
  refine lv_goto (tgt := 2172) hx hb dL_law_1799 (by decide) ?_
  exact kk σ1 τ1 hJ1 H ls hC hM (lv_sub hl [0, 1, 2, 3] rfl)
theorem lw_case_62 (C : lw_C p s m args meth c b L xs D ct adC adM AC AM) {J J2 : sn_S → sn_S → Prop} (hs : st_62 J J2) {σ τ : sn_S} (hJ : J σ τ) {i : Int32} (g1 : vp_in (i + 1) L) (g2 : vp_in (i + 2) L) (g3 : vp_in (i + 3) L) (g4 : vp_in (i + 4) L) (g5 : vp_in (i + 5) L) (kk : ∀ σ τ, J2 σ τ → lw_LAt p l e s m args below meth c Q D ct adC adM AC AM σ τ 2172 [(0, .ref b), (1, .ref (adC 0)), (2, .ref (adM 0)), (3, .int i)] []) : lw_LAt p l e s m args below meth c Q D ct adC adM AC AM σ τ 1802 [(0, .ref b), (1, .ref (adC 0)), (2, .ref (adM 0)), (3, .int i)] [] := by
  intro H ls hC hM hl
  have hx := C.1.1
  have hb := C.1.2.1
  have hX := C.2.2.2.2.2.1
  have hbl := C.2.2.2.2.2.2
  have hbA : ¬ AC b := fun z => absurd (C.2.2.1 b z) (by omega)
  refine lv_aload_n hx hb dL_law_1802 rfl (lv_at hl 1 rfl) ?_
  obtain ⟨r, r2, σ1, τ1, hf1, hf2, hJ1⟩ := hs σ τ  hJ
  refine lw_call (rest := []) C.1 C.2.2.1 (fun q z1 z2 => C.2.2.2.2.1 q z2 z1) C.2.1.2.2.2.2.2.2.2.2.1 hC hM (ctX8_anew l hf1) kl_RL_268 layC_0 rfl rfl rfl rfl (Nat.le_of_ble_eq_true rfl) dL_law_1803 hl.1 (Nat.le_refl _) (Nat.le_refl _) (fun H hC hM => ?_)
  refine lv_pop hx hb dL_law_1806 rfl ?_
  refine lv_aload_n hx hb dL_law_1807 rfl (lv_at hl 2 rfl) ?_
  refine lw_call (rest := []) C.2.1 C.2.2.2.1 C.2.2.2.2.1 C.1.2.2.2.2.2.2.2.2.1 hM hC (ctX9_anew l hf2) kl_RL_271 layM_0 rfl rfl rfl rfl (Nat.le_of_ble_eq_true rfl) dL_law_1808 hl.1 (Nat.le_refl _) (Nat.le_refl _) (fun H hM hC => ?_)
  refine lv_pop hx hb dL_law_1811 rfl ?_
  refine lv_goto (tgt := 2172) hx hb dL_law_1812 (by decide) ?_
  exact kk σ1 τ1 hJ1 H ls hC hM (lv_sub hl [0, 1, 2, 3] rfl)
theorem lw_case_63 (C : lw_C p s m args meth c b L xs D ct adC adM AC AM) {J J2 : sn_S → sn_S → Prop} (hs : st_63 J J2) {σ τ : sn_S} (hJ : J σ τ) {i : Int32} (g1 : vp_in (i + 1) L) (g2 : vp_in (i + 2) L) (g3 : vp_in (i + 3) L) (g4 : vp_in (i + 4) L) (g5 : vp_in (i + 5) L) (kk : ∀ σ τ, J2 σ τ → lw_LAt p l e s m args below meth c Q D ct adC adM AC AM σ τ 2172 [(0, .ref b), (1, .ref (adC 0)), (2, .ref (adM 0)), (3, .int i)] []) : lw_LAt p l e s m args below meth c Q D ct adC adM AC AM σ τ 1815 [(0, .ref b), (1, .ref (adC 0)), (2, .ref (adM 0)), (3, .int i)] [] := by
  intro H ls hC hM hl
  have hx := C.1.1
  have hb := C.1.2.1
  have hX := C.2.2.2.2.2.1
  have hbl := C.2.2.2.2.2.2
  have hbA : ¬ AC b := fun z => absurd (C.2.2.1 b z) (by omega)
  refine lv_aload_n hx hb dL_law_1815 rfl (lv_at hl 1 rfl) ?_
  refine lv_aload_n hx hb dL_law_1816 rfl (lv_at hl 0 rfl) ?_
  refine lv_iload_n hx hb dL_law_1817 rfl (lv_at hl 3 rfl) ?_
  refine lv_iconst (v := 1) hx hb dL_law_1818 rfl ?_
  refine lv_iadd hx hb dL_law_1819 ?_
  refine va_sld hx hb hX hbl hbA hC.2 g1 dL_law_1820 ?_
  refine lv_aload_n hx hb dL_law_1821 rfl (lv_at hl 0 rfl) ?_
  refine lv_iload_n hx hb dL_law_1822 rfl (lv_at hl 3 rfl) ?_
  refine lv_iconst (v := 2) hx hb dL_law_1823 rfl ?_
  refine lv_iadd hx hb dL_law_1824 ?_
  refine va_sld hx hb hX hbl hbA hC.2 g2 dL_law_1825 ?_
  obtain ⟨r, r2, σ1, τ1, hf1, hf2, hJ1⟩ := hs σ τ (xs (i + 1).toNatClampNeg) (xs (i + 2).toNatClampNeg) hJ
  refine lw_call (rest := []) C.1 C.2.2.1 (fun q z1 z2 => C.2.2.2.2.1 q z2 z1) C.2.1.2.2.2.2.2.2.2.2.1 hC hM (ctX8_drawn l hf1) kl_RL_272 layC_0 rfl rfl rfl rfl (Nat.le_of_ble_eq_true rfl) dL_law_1826 hl.1 (Nat.le_refl _) (Nat.le_refl _) (fun H hC hM => ?_)
  refine lv_pop hx hb dL_law_1829 rfl ?_
  refine lv_aload_n hx hb dL_law_1830 rfl (lv_at hl 2 rfl) ?_
  refine lv_aload_n hx hb dL_law_1831 rfl (lv_at hl 0 rfl) ?_
  refine lv_iload_n hx hb dL_law_1832 rfl (lv_at hl 3 rfl) ?_
  refine lv_iconst (v := 1) hx hb dL_law_1833 rfl ?_
  refine lv_iadd hx hb dL_law_1834 ?_
  refine va_sld hx hb hX hbl hbA hC.2 g1 dL_law_1835 ?_
  refine lv_aload_n hx hb dL_law_1836 rfl (lv_at hl 0 rfl) ?_
  refine lv_iload_n hx hb dL_law_1837 rfl (lv_at hl 3 rfl) ?_
  refine lv_iconst (v := 2) hx hb dL_law_1838 rfl ?_
  refine lv_iadd hx hb dL_law_1839 ?_
  refine va_sld hx hb hX hbl hbA hC.2 g2 dL_law_1840 ?_
  refine lw_call (rest := []) C.2.1 C.2.2.2.1 C.2.2.2.2.1 C.1.2.2.2.2.2.2.2.2.1 hM hC (ctX9_drawn l hf2) kl_RL_275 layM_0 rfl rfl rfl rfl (Nat.le_of_ble_eq_true rfl) dL_law_1841 hl.1 (Nat.le_refl _) (Nat.le_refl _) (fun H hM hC => ?_)
  refine lv_pop hx hb dL_law_1844 rfl ?_
  refine lv_goto (tgt := 2172) hx hb dL_law_1845 (by decide) ?_
  exact kk σ1 τ1 hJ1 H ls hC hM (lv_sub hl [0, 1, 2, 3] rfl)
theorem lw_case_64 (C : lw_C p s m args meth c b L xs D ct adC adM AC AM) {J J2 : sn_S → sn_S → Prop} (hs : st_64 J J2) {σ τ : sn_S} (hJ : J σ τ) {i : Int32} (g1 : vp_in (i + 1) L) (g2 : vp_in (i + 2) L) (g3 : vp_in (i + 3) L) (g4 : vp_in (i + 4) L) (g5 : vp_in (i + 5) L) (kk : ∀ σ τ, J2 σ τ → lw_LAt p l e s m args below meth c Q D ct adC adM AC AM σ τ 2172 [(0, .ref b), (1, .ref (adC 0)), (2, .ref (adM 0)), (3, .int i)] []) : lw_LAt p l e s m args below meth c Q D ct adC adM AC AM σ τ 1848 [(0, .ref b), (1, .ref (adC 0)), (2, .ref (adM 0)), (3, .int i)] [] := by
  intro H ls hC hM hl
  have hx := C.1.1
  have hb := C.1.2.1
  have hX := C.2.2.2.2.2.1
  have hbl := C.2.2.2.2.2.2
  have hbA : ¬ AC b := fun z => absurd (C.2.2.1 b z) (by omega)
  refine lv_aload_n hx hb dL_law_1848 rfl (lv_at hl 1 rfl) ?_
  refine lv_aload_n hx hb dL_law_1849 rfl (lv_at hl 0 rfl) ?_
  refine lv_iload_n hx hb dL_law_1850 rfl (lv_at hl 3 rfl) ?_
  refine lv_iconst (v := 1) hx hb dL_law_1851 rfl ?_
  refine lv_iadd hx hb dL_law_1852 ?_
  refine va_sld hx hb hX hbl hbA hC.2 g1 dL_law_1853 ?_
  refine lv_aload_n hx hb dL_law_1854 rfl (lv_at hl 0 rfl) ?_
  refine lv_iload_n hx hb dL_law_1855 rfl (lv_at hl 3 rfl) ?_
  refine lv_iconst (v := 2) hx hb dL_law_1856 rfl ?_
  refine lv_iadd hx hb dL_law_1857 ?_
  refine va_sld hx hb hX hbl hbA hC.2 g2 dL_law_1858 ?_
  refine lv_aload_n hx hb dL_law_1859 rfl (lv_at hl 0 rfl) ?_
  refine lv_iload_n hx hb dL_law_1860 rfl (lv_at hl 3 rfl) ?_
  refine lv_iconst (v := 3) hx hb dL_law_1861 rfl ?_
  refine lv_iadd hx hb dL_law_1862 ?_
  refine va_sld hx hb hX hbl hbA hC.2 g3 dL_law_1863 ?_
  obtain ⟨r, r2, σ1, τ1, hf1, hf2, hJ1⟩ := hs σ τ (xs (i + 1).toNatClampNeg) (xs (i + 2).toNatClampNeg) (xs (i + 3).toNatClampNeg) hJ
  refine lw_call (rest := []) C.1 C.2.2.1 (fun q z1 z2 => C.2.2.2.2.1 q z2 z1) C.2.1.2.2.2.2.2.2.2.2.1 hC hM (ctX8_luck l hf1) kl_RL_276 layC_0 rfl rfl rfl rfl (Nat.le_of_ble_eq_true rfl) dL_law_1864 hl.1 (Nat.le_refl _) (Nat.le_refl _) (fun H hC hM => ?_)
  refine lv_pop hx hb dL_law_1867 rfl ?_
  refine lv_aload_n hx hb dL_law_1868 rfl (lv_at hl 2 rfl) ?_
  refine lv_aload_n hx hb dL_law_1869 rfl (lv_at hl 0 rfl) ?_
  refine lv_iload_n hx hb dL_law_1870 rfl (lv_at hl 3 rfl) ?_
  refine lv_iconst (v := 1) hx hb dL_law_1871 rfl ?_
  refine lv_iadd hx hb dL_law_1872 ?_
  refine va_sld hx hb hX hbl hbA hC.2 g1 dL_law_1873 ?_
  refine lv_aload_n hx hb dL_law_1874 rfl (lv_at hl 0 rfl) ?_
  refine lv_iload_n hx hb dL_law_1875 rfl (lv_at hl 3 rfl) ?_
  refine lv_iconst (v := 2) hx hb dL_law_1876 rfl ?_
  refine lv_iadd hx hb dL_law_1877 ?_
  refine va_sld hx hb hX hbl hbA hC.2 g2 dL_law_1878 ?_
  refine lv_aload_n hx hb dL_law_1879 rfl (lv_at hl 0 rfl) ?_
  refine lv_iload_n hx hb dL_law_1880 rfl (lv_at hl 3 rfl) ?_
  refine lv_iconst (v := 3) hx hb dL_law_1881 rfl ?_
  refine lv_iadd hx hb dL_law_1882 ?_
  refine va_sld hx hb hX hbl hbA hC.2 g3 dL_law_1883 ?_
  refine lw_call (rest := []) C.2.1 C.2.2.2.1 C.2.2.2.2.1 C.1.2.2.2.2.2.2.2.2.1 hM hC (ctX9_luck l hf2) kl_RL_280 layM_0 rfl rfl rfl rfl (Nat.le_of_ble_eq_true rfl) dL_law_1884 hl.1 (Nat.le_refl _) (Nat.le_refl _) (fun H hM hC => ?_)
  refine lv_pop hx hb dL_law_1887 rfl ?_
  refine lv_goto (tgt := 2172) hx hb dL_law_1888 (by decide) ?_
  exact kk σ1 τ1 hJ1 H ls hC hM (lv_sub hl [0, 1, 2, 3] rfl)
theorem lw_case_65 (C : lw_C p s m args meth c b L xs D ct adC adM AC AM) {J J2 : sn_S → sn_S → Prop} (hs : st_65 J J2) {σ τ : sn_S} (hJ : J σ τ) {i : Int32} (g1 : vp_in (i + 1) L) (g2 : vp_in (i + 2) L) (g3 : vp_in (i + 3) L) (g4 : vp_in (i + 4) L) (g5 : vp_in (i + 5) L) (kk : ∀ σ τ, J2 σ τ → lw_LAt p l e s m args below meth c Q D ct adC adM AC AM σ τ 2172 [(0, .ref b), (1, .ref (adC 0)), (2, .ref (adM 0)), (3, .int i)] []) : lw_LAt p l e s m args below meth c Q D ct adC adM AC AM σ τ 1891 [(0, .ref b), (1, .ref (adC 0)), (2, .ref (adM 0)), (3, .int i)] [] := by
  intro H ls hC hM hl
  have hx := C.1.1
  have hb := C.1.2.1
  have hX := C.2.2.2.2.2.1
  have hbl := C.2.2.2.2.2.2
  have hbA : ¬ AC b := fun z => absurd (C.2.2.1 b z) (by omega)
  refine lv_aload_n hx hb dL_law_1891 rfl (lv_at hl 1 rfl) ?_
  refine lv_aload_n hx hb dL_law_1892 rfl (lv_at hl 0 rfl) ?_
  refine lv_iload_n hx hb dL_law_1893 rfl (lv_at hl 3 rfl) ?_
  refine lv_iconst (v := 1) hx hb dL_law_1894 rfl ?_
  refine lv_iadd hx hb dL_law_1895 ?_
  refine va_sld hx hb hX hbl hbA hC.2 g1 dL_law_1896 ?_
  refine lv_aload_n hx hb dL_law_1897 rfl (lv_at hl 0 rfl) ?_
  refine lv_iload_n hx hb dL_law_1898 rfl (lv_at hl 3 rfl) ?_
  refine lv_iconst (v := 2) hx hb dL_law_1899 rfl ?_
  refine lv_iadd hx hb dL_law_1900 ?_
  refine va_sld hx hb hX hbl hbA hC.2 g2 dL_law_1901 ?_
  obtain ⟨r, r2, σ1, τ1, hf1, hf2, hJ1⟩ := hs σ τ (xs (i + 1).toNatClampNeg) (xs (i + 2).toNatClampNeg) hJ
  refine lw_call (rest := []) C.1 C.2.2.1 (fun q z1 z2 => C.2.2.2.2.1 q z2 z1) C.2.1.2.2.2.2.2.2.2.2.1 hC hM (ctX8_rate l hf1) kl_RL_281 layC_0 rfl rfl rfl rfl (Nat.le_of_ble_eq_true rfl) dL_law_1902 hl.1 (Nat.le_refl _) (Nat.le_refl _) (fun H hC hM => ?_)
  refine lv_pop hx hb dL_law_1905 rfl ?_
  refine lv_aload_n hx hb dL_law_1906 rfl (lv_at hl 2 rfl) ?_
  refine lv_aload_n hx hb dL_law_1907 rfl (lv_at hl 0 rfl) ?_
  refine lv_iload_n hx hb dL_law_1908 rfl (lv_at hl 3 rfl) ?_
  refine lv_iconst (v := 1) hx hb dL_law_1909 rfl ?_
  refine lv_iadd hx hb dL_law_1910 ?_
  refine va_sld hx hb hX hbl hbA hC.2 g1 dL_law_1911 ?_
  refine lv_aload_n hx hb dL_law_1912 rfl (lv_at hl 0 rfl) ?_
  refine lv_iload_n hx hb dL_law_1913 rfl (lv_at hl 3 rfl) ?_
  refine lv_iconst (v := 2) hx hb dL_law_1914 rfl ?_
  refine lv_iadd hx hb dL_law_1915 ?_
  refine va_sld hx hb hX hbl hbA hC.2 g2 dL_law_1916 ?_
  refine lw_call (rest := []) C.2.1 C.2.2.2.1 C.2.2.2.2.1 C.1.2.2.2.2.2.2.2.2.1 hM hC (ctX9_rate l hf2) kl_RL_284 layM_0 rfl rfl rfl rfl (Nat.le_of_ble_eq_true rfl) dL_law_1917 hl.1 (Nat.le_refl _) (Nat.le_refl _) (fun H hM hC => ?_)
  refine lv_pop hx hb dL_law_1920 rfl ?_
  refine lv_goto (tgt := 2172) hx hb dL_law_1921 (by decide) ?_
  exact kk σ1 τ1 hJ1 H ls hC hM (lv_sub hl [0, 1, 2, 3] rfl)
theorem lw_case_66 (C : lw_C p s m args meth c b L xs D ct adC adM AC AM) {J J2 : sn_S → sn_S → Prop} (hs : st_66 J J2) {σ τ : sn_S} (hJ : J σ τ) {i : Int32} (g1 : vp_in (i + 1) L) (g2 : vp_in (i + 2) L) (g3 : vp_in (i + 3) L) (g4 : vp_in (i + 4) L) (g5 : vp_in (i + 5) L) (kk : ∀ σ τ, J2 σ τ → lw_LAt p l e s m args below meth c Q D ct adC adM AC AM σ τ 2172 [(0, .ref b), (1, .ref (adC 0)), (2, .ref (adM 0)), (3, .int i)] []) : lw_LAt p l e s m args below meth c Q D ct adC adM AC AM σ τ 1924 [(0, .ref b), (1, .ref (adC 0)), (2, .ref (adM 0)), (3, .int i)] [] := by
  intro H ls hC hM hl
  have hx := C.1.1
  have hb := C.1.2.1
  have hX := C.2.2.2.2.2.1
  have hbl := C.2.2.2.2.2.2
  have hbA : ¬ AC b := fun z => absurd (C.2.2.1 b z) (by omega)
  refine lv_aload_n hx hb dL_law_1924 rfl (lv_at hl 1 rfl) ?_
  refine lv_aload_n hx hb dL_law_1925 rfl (lv_at hl 0 rfl) ?_
  refine lv_iload_n hx hb dL_law_1926 rfl (lv_at hl 3 rfl) ?_
  refine lv_iconst (v := 1) hx hb dL_law_1927 rfl ?_
  refine lv_iadd hx hb dL_law_1928 ?_
  refine va_sld hx hb hX hbl hbA hC.2 g1 dL_law_1929 ?_
  obtain ⟨r, r2, hf1, hf2, hJ1⟩ := hs σ τ (xs (i + 1).toNatClampNeg) hJ
  refine lw_call (rest := []) C.1 C.2.2.1 (fun q z1 z2 => C.2.2.2.2.1 q z2 z1) C.2.1.2.2.2.2.2.2.2.2.1 hC hM (ctX8_count l hf1) kl_RL_285 layC_0 rfl rfl rfl rfl (Nat.le_of_ble_eq_true rfl) dL_law_1930 hl.1 (Nat.le_refl _) (Nat.le_refl _) (fun H hC hM => ?_)
  refine lv_pop hx hb dL_law_1933 rfl ?_
  refine lv_aload_n hx hb dL_law_1934 rfl (lv_at hl 2 rfl) ?_
  refine lv_aload_n hx hb dL_law_1935 rfl (lv_at hl 0 rfl) ?_
  refine lv_iload_n hx hb dL_law_1936 rfl (lv_at hl 3 rfl) ?_
  refine lv_iconst (v := 1) hx hb dL_law_1937 rfl ?_
  refine lv_iadd hx hb dL_law_1938 ?_
  refine va_sld hx hb hX hbl hbA hC.2 g1 dL_law_1939 ?_
  refine lw_call (rest := []) C.2.1 C.2.2.2.1 C.2.2.2.2.1 C.1.2.2.2.2.2.2.2.2.1 hM hC (ctX9_count l hf2) kl_RL_288 layM_0 rfl rfl rfl rfl (Nat.le_of_ble_eq_true rfl) dL_law_1940 hl.1 (Nat.le_refl _) (Nat.le_refl _) (fun H hM hC => ?_)
  refine lv_pop hx hb dL_law_1943 rfl ?_
  refine lv_goto (tgt := 2172) hx hb dL_law_1944 (by decide) ?_
  exact kk σ τ hJ1 H ls hC hM (lv_sub hl [0, 1, 2, 3] rfl)
theorem lw_case_67 (C : lw_C p s m args meth c b L xs D ct adC adM AC AM) {J J2 : sn_S → sn_S → Prop} (hs : st_67 J J2) {σ τ : sn_S} (hJ : J σ τ) {i : Int32} (g1 : vp_in (i + 1) L) (g2 : vp_in (i + 2) L) (g3 : vp_in (i + 3) L) (g4 : vp_in (i + 4) L) (g5 : vp_in (i + 5) L) (kk : ∀ σ τ, J2 σ τ → lw_LAt p l e s m args below meth c Q D ct adC adM AC AM σ τ 2172 [(0, .ref b), (1, .ref (adC 0)), (2, .ref (adM 0)), (3, .int i)] []) : lw_LAt p l e s m args below meth c Q D ct adC adM AC AM σ τ 1947 [(0, .ref b), (1, .ref (adC 0)), (2, .ref (adM 0)), (3, .int i)] [] := by
  intro H ls hC hM hl
  have hx := C.1.1
  have hb := C.1.2.1
  have hX := C.2.2.2.2.2.1
  have hbl := C.2.2.2.2.2.2
  have hbA : ¬ AC b := fun z => absurd (C.2.2.1 b z) (by omega)
  refine lv_aload_n hx hb dL_law_1947 rfl (lv_at hl 1 rfl) ?_
  refine lv_aload_n hx hb dL_law_1948 rfl (lv_at hl 0 rfl) ?_
  refine lv_iload_n hx hb dL_law_1949 rfl (lv_at hl 3 rfl) ?_
  refine lv_iconst (v := 1) hx hb dL_law_1950 rfl ?_
  refine lv_iadd hx hb dL_law_1951 ?_
  refine va_sld hx hb hX hbl hbA hC.2 g1 dL_law_1952 ?_
  obtain ⟨r, r2, σ1, τ1, hf1, hf2, hJ1⟩ := hs σ τ (xs (i + 1).toNatClampNeg) hJ
  refine lw_call (rest := []) C.1 C.2.2.1 (fun q z1 z2 => C.2.2.2.2.1 q z2 z1) C.2.1.2.2.2.2.2.2.2.2.1 hC hM (ctX8_image l hf1) kl_RL_289 layC_0 rfl rfl rfl rfl (Nat.le_of_ble_eq_true rfl) dL_law_1953 hl.1 (Nat.le_refl _) (Nat.le_refl _) (fun H hC hM => ?_)
  refine lv_pop hx hb dL_law_1956 rfl ?_
  refine lv_aload_n hx hb dL_law_1957 rfl (lv_at hl 2 rfl) ?_
  refine lv_aload_n hx hb dL_law_1958 rfl (lv_at hl 0 rfl) ?_
  refine lv_iload_n hx hb dL_law_1959 rfl (lv_at hl 3 rfl) ?_
  refine lv_iconst (v := 1) hx hb dL_law_1960 rfl ?_
  refine lv_iadd hx hb dL_law_1961 ?_
  refine va_sld hx hb hX hbl hbA hC.2 g1 dL_law_1962 ?_
  refine lw_call (rest := []) C.2.1 C.2.2.2.1 C.2.2.2.2.1 C.1.2.2.2.2.2.2.2.2.1 hM hC (ctX9_image l hf2) kl_RL_292 layM_0 rfl rfl rfl rfl (Nat.le_of_ble_eq_true rfl) dL_law_1963 hl.1 (Nat.le_refl _) (Nat.le_refl _) (fun H hM hC => ?_)
  refine lv_pop hx hb dL_law_1966 rfl ?_
  refine lv_goto (tgt := 2172) hx hb dL_law_1967 (by decide) ?_
  exact kk σ1 τ1 hJ1 H ls hC hM (lv_sub hl [0, 1, 2, 3] rfl)
theorem lw_case_68 (C : lw_C p s m args meth c b L xs D ct adC adM AC AM) {J J2 : sn_S → sn_S → Prop} (hs : st_68 J J2) {σ τ : sn_S} (hJ : J σ τ) {i : Int32} (g1 : vp_in (i + 1) L) (g2 : vp_in (i + 2) L) (g3 : vp_in (i + 3) L) (g4 : vp_in (i + 4) L) (g5 : vp_in (i + 5) L) (kk : ∀ σ τ, J2 σ τ → lw_LAt p l e s m args below meth c Q D ct adC adM AC AM σ τ 2172 [(0, .ref b), (1, .ref (adC 0)), (2, .ref (adM 0)), (3, .int i)] []) : lw_LAt p l e s m args below meth c Q D ct adC adM AC AM σ τ 1970 [(0, .ref b), (1, .ref (adC 0)), (2, .ref (adM 0)), (3, .int i)] [] := by
  intro H ls hC hM hl
  have hx := C.1.1
  have hb := C.1.2.1
  have hX := C.2.2.2.2.2.1
  have hbl := C.2.2.2.2.2.2
  have hbA : ¬ AC b := fun z => absurd (C.2.2.1 b z) (by omega)
  refine lv_aload_n hx hb dL_law_1970 rfl (lv_at hl 1 rfl) ?_
  refine lv_aload_n hx hb dL_law_1971 rfl (lv_at hl 0 rfl) ?_
  refine lv_iload_n hx hb dL_law_1972 rfl (lv_at hl 3 rfl) ?_
  refine lv_iconst (v := 1) hx hb dL_law_1973 rfl ?_
  refine lv_iadd hx hb dL_law_1974 ?_
  refine va_sld hx hb hX hbl hbA hC.2 g1 dL_law_1975 ?_
  obtain ⟨r, r2, σ1, τ1, hf1, hf2, hJ1⟩ := hs σ τ (xs (i + 1).toNatClampNeg) hJ
  refine lw_call (rest := []) C.1 C.2.2.1 (fun q z1 z2 => C.2.2.2.2.1 q z2 z1) C.2.1.2.2.2.2.2.2.2.2.1 hC hM (ctX8_back l hf1) kl_RL_293 layC_0 rfl rfl rfl rfl (Nat.le_of_ble_eq_true rfl) dL_law_1976 hl.1 (Nat.le_refl _) (Nat.le_refl _) (fun H hC hM => ?_)
  refine lv_pop hx hb dL_law_1979 rfl ?_
  refine lv_aload_n hx hb dL_law_1980 rfl (lv_at hl 2 rfl) ?_
  refine lv_aload_n hx hb dL_law_1981 rfl (lv_at hl 0 rfl) ?_
  refine lv_iload_n hx hb dL_law_1982 rfl (lv_at hl 3 rfl) ?_
  refine lv_iconst (v := 1) hx hb dL_law_1983 rfl ?_
  refine lv_iadd hx hb dL_law_1984 ?_
  refine va_sld hx hb hX hbl hbA hC.2 g1 dL_law_1985 ?_
  refine lw_call (rest := []) C.2.1 C.2.2.2.1 C.2.2.2.2.1 C.1.2.2.2.2.2.2.2.2.1 hM hC (ctX9_back l hf2) kl_RL_296 layM_0 rfl rfl rfl rfl (Nat.le_of_ble_eq_true rfl) dL_law_1986 hl.1 (Nat.le_refl _) (Nat.le_refl _) (fun H hM hC => ?_)
  refine lv_pop hx hb dL_law_1989 rfl ?_
  refine lv_goto (tgt := 2172) hx hb dL_law_1990 (by decide) ?_
  exact kk σ1 τ1 hJ1 H ls hC hM (lv_sub hl [0, 1, 2, 3] rfl)
theorem lw_case_69 (C : lw_C p s m args meth c b L xs D ct adC adM AC AM) {J J2 : sn_S → sn_S → Prop} (hs : st_69 J J2) {σ τ : sn_S} (hJ : J σ τ) {i : Int32} (g1 : vp_in (i + 1) L) (g2 : vp_in (i + 2) L) (g3 : vp_in (i + 3) L) (g4 : vp_in (i + 4) L) (g5 : vp_in (i + 5) L) (kk : ∀ σ τ, J2 σ τ → lw_LAt p l e s m args below meth c Q D ct adC adM AC AM σ τ 2172 [(0, .ref b), (1, .ref (adC 0)), (2, .ref (adM 0)), (3, .int i)] []) : lw_LAt p l e s m args below meth c Q D ct adC adM AC AM σ τ 1993 [(0, .ref b), (1, .ref (adC 0)), (2, .ref (adM 0)), (3, .int i)] [] := by
  intro H ls hC hM hl
  have hx := C.1.1
  have hb := C.1.2.1
  have hX := C.2.2.2.2.2.1
  have hbl := C.2.2.2.2.2.2
  have hbA : ¬ AC b := fun z => absurd (C.2.2.1 b z) (by omega)
  refine lv_aload_n hx hb dL_law_1993 rfl (lv_at hl 1 rfl) ?_
  refine lv_aload_n hx hb dL_law_1994 rfl (lv_at hl 0 rfl) ?_
  refine lv_iload_n hx hb dL_law_1995 rfl (lv_at hl 3 rfl) ?_
  refine lv_iconst (v := 1) hx hb dL_law_1996 rfl ?_
  refine lv_iadd hx hb dL_law_1997 ?_
  refine va_sld hx hb hX hbl hbA hC.2 g1 dL_law_1998 ?_
  refine lv_aload_n hx hb dL_law_1999 rfl (lv_at hl 0 rfl) ?_
  refine lv_iload_n hx hb dL_law_2000 rfl (lv_at hl 3 rfl) ?_
  refine lv_iconst (v := 2) hx hb dL_law_2001 rfl ?_
  refine lv_iadd hx hb dL_law_2002 ?_
  refine va_sld hx hb hX hbl hbA hC.2 g2 dL_law_2003 ?_
  refine lv_aload_n hx hb dL_law_2004 rfl (lv_at hl 0 rfl) ?_
  refine lv_iload_n hx hb dL_law_2005 rfl (lv_at hl 3 rfl) ?_
  refine lv_iconst (v := 3) hx hb dL_law_2006 rfl ?_
  refine lv_iadd hx hb dL_law_2007 ?_
  refine va_sld hx hb hX hbl hbA hC.2 g3 dL_law_2008 ?_
  obtain ⟨r, r2, σ1, τ1, hf1, hf2, hJ1⟩ := hs σ τ (xs (i + 1).toNatClampNeg) (xs (i + 2).toNatClampNeg) (xs (i + 3).toNatClampNeg) hJ
  refine lw_call (rest := []) C.1 C.2.2.1 (fun q z1 z2 => C.2.2.2.2.1 q z2 z1) C.2.1.2.2.2.2.2.2.2.2.1 hC hM (ctX8_row l hf1) kl_RL_297 layC_0 rfl rfl rfl rfl (Nat.le_of_ble_eq_true rfl) dL_law_2009 hl.1 (Nat.le_refl _) (Nat.le_refl _) (fun H hC hM => ?_)
  refine lv_pop hx hb dL_law_2012 rfl ?_
  refine lv_aload_n hx hb dL_law_2013 rfl (lv_at hl 2 rfl) ?_
  refine lv_aload_n hx hb dL_law_2014 rfl (lv_at hl 0 rfl) ?_
  refine lv_iload_n hx hb dL_law_2015 rfl (lv_at hl 3 rfl) ?_
  refine lv_iconst (v := 1) hx hb dL_law_2016 rfl ?_
  refine lv_iadd hx hb dL_law_2017 ?_
  refine va_sld hx hb hX hbl hbA hC.2 g1 dL_law_2018 ?_
  refine lv_aload_n hx hb dL_law_2019 rfl (lv_at hl 0 rfl) ?_
  refine lv_iload_n hx hb dL_law_2020 rfl (lv_at hl 3 rfl) ?_
  refine lv_iconst (v := 2) hx hb dL_law_2021 rfl ?_
  refine lv_iadd hx hb dL_law_2022 ?_
  refine va_sld hx hb hX hbl hbA hC.2 g2 dL_law_2023 ?_
  refine lv_aload_n hx hb dL_law_2024 rfl (lv_at hl 0 rfl) ?_
  refine lv_iload_n hx hb dL_law_2025 rfl (lv_at hl 3 rfl) ?_
  refine lv_iconst (v := 3) hx hb dL_law_2026 rfl ?_
  refine lv_iadd hx hb dL_law_2027 ?_
  refine va_sld hx hb hX hbl hbA hC.2 g3 dL_law_2028 ?_
  refine lw_call (rest := []) C.2.1 C.2.2.2.1 C.2.2.2.2.1 C.1.2.2.2.2.2.2.2.2.1 hM hC (ctX9_row l hf2) kl_RL_300 layM_0 rfl rfl rfl rfl (Nat.le_of_ble_eq_true rfl) dL_law_2029 hl.1 (Nat.le_refl _) (Nat.le_refl _) (fun H hM hC => ?_)
  refine lv_pop hx hb dL_law_2032 rfl ?_
  refine lv_goto (tgt := 2172) hx hb dL_law_2033 (by decide) ?_
  exact kk σ1 τ1 hJ1 H ls hC hM (lv_sub hl [0, 1, 2, 3] rfl)
theorem lw_case_70 (C : lw_C p s m args meth c b L xs D ct adC adM AC AM) {J J2 : sn_S → sn_S → Prop} (hs : st_70 J J2) {σ τ : sn_S} (hJ : J σ τ) {i : Int32} (g1 : vp_in (i + 1) L) (g2 : vp_in (i + 2) L) (g3 : vp_in (i + 3) L) (g4 : vp_in (i + 4) L) (g5 : vp_in (i + 5) L) (kk : ∀ σ τ, J2 σ τ → lw_LAt p l e s m args below meth c Q D ct adC adM AC AM σ τ 2172 [(0, .ref b), (1, .ref (adC 0)), (2, .ref (adM 0)), (3, .int i)] []) : lw_LAt p l e s m args below meth c Q D ct adC adM AC AM σ τ 2036 [(0, .ref b), (1, .ref (adC 0)), (2, .ref (adM 0)), (3, .int i)] [] := by
  intro H ls hC hM hl
  have hx := C.1.1
  have hb := C.1.2.1
  have hX := C.2.2.2.2.2.1
  have hbl := C.2.2.2.2.2.2
  have hbA : ¬ AC b := fun z => absurd (C.2.2.1 b z) (by omega)
  refine lv_aload_n hx hb dL_law_2036 rfl (lv_at hl 1 rfl) ?_
  refine lv_aload_n hx hb dL_law_2037 rfl (lv_at hl 0 rfl) ?_
  refine lv_iload_n hx hb dL_law_2038 rfl (lv_at hl 3 rfl) ?_
  refine lv_iconst (v := 1) hx hb dL_law_2039 rfl ?_
  refine lv_iadd hx hb dL_law_2040 ?_
  refine va_sld hx hb hX hbl hbA hC.2 g1 dL_law_2041 ?_
  refine lv_aload_n hx hb dL_law_2042 rfl (lv_at hl 0 rfl) ?_
  refine lv_iload_n hx hb dL_law_2043 rfl (lv_at hl 3 rfl) ?_
  refine lv_iconst (v := 2) hx hb dL_law_2044 rfl ?_
  refine lv_iadd hx hb dL_law_2045 ?_
  refine va_sld hx hb hX hbl hbA hC.2 g2 dL_law_2046 ?_
  refine lv_aload_n hx hb dL_law_2047 rfl (lv_at hl 0 rfl) ?_
  refine lv_iload_n hx hb dL_law_2048 rfl (lv_at hl 3 rfl) ?_
  refine lv_iconst (v := 3) hx hb dL_law_2049 rfl ?_
  refine lv_iadd hx hb dL_law_2050 ?_
  refine va_sld hx hb hX hbl hbA hC.2 g3 dL_law_2051 ?_
  refine lv_i2l hx hb dL_law_2052 rfl ?_
  refine lv_bipush (v := 32) hx hb dL_law_2053 (by decide) ?_
  refine lv_lshl hx hb dL_law_2055 rfl ?_
  refine lv_aload_n hx hb dL_law_2056 rfl (lv_at hl 0 rfl) ?_
  refine lv_iload_n hx hb dL_law_2057 rfl (lv_at hl 3 rfl) ?_
  refine lv_iconst (v := 4) hx hb dL_law_2058 rfl ?_
  refine lv_iadd hx hb dL_law_2059 ?_
  refine va_sld hx hb hX hbl hbA hC.2 g4 dL_law_2060 ?_
  refine lv_i2l hx hb dL_law_2061 rfl ?_
  refine lv_ldc2 hx hb C.1.2.2.2.1 (C.1.2.2.2.2.1 _ kk_RL_301) dL_law_2062 ?_
  refine lv_land hx hb dL_law_2065 ?_
  refine lv_lor hx hb dL_law_2066 ?_
  obtain ⟨r, r2, σ1, τ1, hf1, hf2, hJ1⟩ := hs σ τ (xs (i + 1).toNatClampNeg) (xs (i + 2).toNatClampNeg) (((xs (i + 3).toNatClampNeg).toInt64 <<< ((32 : Int32).toInt64 &&& 63)) ||| ((xs (i + 4).toNatClampNeg).toInt64 &&& 4294967295)) hJ
  refine lw_call (rest := []) C.1 C.2.2.1 (fun q z1 z2 => C.2.2.2.2.1 q z2 z1) C.2.1.2.2.2.2.2.2.2.2.1 hC hM (ctX8_write l hf1) kl_RL_303 layC_0 rfl rfl rfl rfl (Nat.le_of_ble_eq_true rfl) dL_law_2067 hl.1 (Nat.le_refl _) (Nat.le_refl _) (fun H hC hM => ?_)
  refine lv_pop hx hb dL_law_2070 rfl ?_
  refine lv_aload_n hx hb dL_law_2071 rfl (lv_at hl 2 rfl) ?_
  refine lv_aload_n hx hb dL_law_2072 rfl (lv_at hl 0 rfl) ?_
  refine lv_iload_n hx hb dL_law_2073 rfl (lv_at hl 3 rfl) ?_
  refine lv_iconst (v := 1) hx hb dL_law_2074 rfl ?_
  refine lv_iadd hx hb dL_law_2075 ?_
  refine va_sld hx hb hX hbl hbA hC.2 g1 dL_law_2076 ?_
  refine lv_aload_n hx hb dL_law_2077 rfl (lv_at hl 0 rfl) ?_
  refine lv_iload_n hx hb dL_law_2078 rfl (lv_at hl 3 rfl) ?_
  refine lv_iconst (v := 2) hx hb dL_law_2079 rfl ?_
  refine lv_iadd hx hb dL_law_2080 ?_
  refine va_sld hx hb hX hbl hbA hC.2 g2 dL_law_2081 ?_
  refine lv_aload_n hx hb dL_law_2082 rfl (lv_at hl 0 rfl) ?_
  refine lv_iload_n hx hb dL_law_2083 rfl (lv_at hl 3 rfl) ?_
  refine lv_iconst (v := 3) hx hb dL_law_2084 rfl ?_
  refine lv_iadd hx hb dL_law_2085 ?_
  refine va_sld hx hb hX hbl hbA hC.2 g3 dL_law_2086 ?_
  refine lv_i2l hx hb dL_law_2087 rfl ?_
  refine lv_bipush (v := 32) hx hb dL_law_2088 (by decide) ?_
  refine lv_lshl hx hb dL_law_2090 rfl ?_
  refine lv_aload_n hx hb dL_law_2091 rfl (lv_at hl 0 rfl) ?_
  refine lv_iload_n hx hb dL_law_2092 rfl (lv_at hl 3 rfl) ?_
  refine lv_iconst (v := 4) hx hb dL_law_2093 rfl ?_
  refine lv_iadd hx hb dL_law_2094 ?_
  refine va_sld hx hb hX hbl hbA hC.2 g4 dL_law_2095 ?_
  refine lv_i2l hx hb dL_law_2096 rfl ?_
  refine lv_ldc2 hx hb C.1.2.2.2.1 (C.1.2.2.2.2.1 _ kk_RL_301) dL_law_2097 ?_
  refine lv_land hx hb dL_law_2100 ?_
  refine lv_lor hx hb dL_law_2101 ?_
  refine lw_call (rest := []) C.2.1 C.2.2.2.1 C.2.2.2.2.1 C.1.2.2.2.2.2.2.2.2.1 hM hC (ctX9_write l hf2) kl_RL_307 layM_0 rfl rfl rfl rfl (Nat.le_of_ble_eq_true rfl) dL_law_2102 hl.1 (Nat.le_refl _) (Nat.le_refl _) (fun H hM hC => ?_)
  refine lv_pop hx hb dL_law_2105 rfl ?_
  refine lv_goto (tgt := 2172) hx hb dL_law_2106 (by decide) ?_
  exact kk σ1 τ1 hJ1 H ls hC hM (lv_sub hl [0, 1, 2, 3] rfl)
theorem lw_case_71 (C : lw_C p s m args meth c b L xs D ct adC adM AC AM) {J J2 : sn_S → sn_S → Prop} (hs : st_71 J J2) {σ τ : sn_S} (hJ : J σ τ) {i : Int32} (g1 : vp_in (i + 1) L) (g2 : vp_in (i + 2) L) (g3 : vp_in (i + 3) L) (g4 : vp_in (i + 4) L) (g5 : vp_in (i + 5) L) (kk : ∀ σ τ, J2 σ τ → lw_LAt p l e s m args below meth c Q D ct adC adM AC AM σ τ 2172 [(0, .ref b), (1, .ref (adC 0)), (2, .ref (adM 0)), (3, .int i)] []) : lw_LAt p l e s m args below meth c Q D ct adC adM AC AM σ τ 2109 [(0, .ref b), (1, .ref (adC 0)), (2, .ref (adM 0)), (3, .int i)] [] := by
  intro H ls hC hM hl
  have hx := C.1.1
  have hb := C.1.2.1
  have hX := C.2.2.2.2.2.1
  have hbl := C.2.2.2.2.2.2
  have hbA : ¬ AC b := fun z => absurd (C.2.2.1 b z) (by omega)
  refine lv_aload_n hx hb dL_law_2109 rfl (lv_at hl 1 rfl) ?_
  refine lv_aload_n hx hb dL_law_2110 rfl (lv_at hl 0 rfl) ?_
  refine lv_iload_n hx hb dL_law_2111 rfl (lv_at hl 3 rfl) ?_
  refine lv_iconst (v := 1) hx hb dL_law_2112 rfl ?_
  refine lv_iadd hx hb dL_law_2113 ?_
  refine va_sld hx hb hX hbl hbA hC.2 g1 dL_law_2114 ?_
  refine lv_aload_n hx hb dL_law_2115 rfl (lv_at hl 0 rfl) ?_
  refine lv_iload_n hx hb dL_law_2116 rfl (lv_at hl 3 rfl) ?_
  refine lv_iconst (v := 2) hx hb dL_law_2117 rfl ?_
  refine lv_iadd hx hb dL_law_2118 ?_
  refine va_sld hx hb hX hbl hbA hC.2 g2 dL_law_2119 ?_
  refine lv_aload_n hx hb dL_law_2120 rfl (lv_at hl 0 rfl) ?_
  refine lv_iload_n hx hb dL_law_2121 rfl (lv_at hl 3 rfl) ?_
  refine lv_iconst (v := 3) hx hb dL_law_2122 rfl ?_
  refine lv_iadd hx hb dL_law_2123 ?_
  refine va_sld hx hb hX hbl hbA hC.2 g3 dL_law_2124 ?_
  refine lv_aload_n hx hb dL_law_2125 rfl (lv_at hl 0 rfl) ?_
  refine lv_iload_n hx hb dL_law_2126 rfl (lv_at hl 3 rfl) ?_
  refine lv_iconst (v := 4) hx hb dL_law_2127 rfl ?_
  refine lv_iadd hx hb dL_law_2128 ?_
  refine va_sld hx hb hX hbl hbA hC.2 g4 dL_law_2129 ?_
  refine lv_aload_n hx hb dL_law_2130 rfl (lv_at hl 0 rfl) ?_
  refine lv_iload_n hx hb dL_law_2131 rfl (lv_at hl 3 rfl) ?_
  refine lv_iconst (v := 5) hx hb dL_law_2132 rfl ?_
  refine lv_iadd hx hb dL_law_2133 ?_
  refine va_sld hx hb hX hbl hbA hC.2 g5 dL_law_2134 ?_
  obtain ⟨r, r2, σ1, τ1, hf1, hf2, hJ1⟩ := hs σ τ (xs (i + 1).toNatClampNeg) (xs (i + 2).toNatClampNeg) (xs (i + 3).toNatClampNeg) (xs (i + 4).toNatClampNeg) (xs (i + 5).toNatClampNeg) hJ
  refine lw_call (rest := []) C.1 C.2.2.1 (fun q z1 z2 => C.2.2.2.2.1 q z2 z1) C.2.1.2.2.2.2.2.2.2.2.1 hC hM (ctX8_paste l hf1) kl_RL_308 layC_0 rfl rfl rfl rfl (Nat.le_of_ble_eq_true rfl) dL_law_2135 hl.1 (Nat.le_refl _) (Nat.le_refl _) (fun H hC hM => ?_)
  refine lv_pop hx hb dL_law_2138 rfl ?_
  refine lv_aload_n hx hb dL_law_2139 rfl (lv_at hl 2 rfl) ?_
  refine lv_aload_n hx hb dL_law_2140 rfl (lv_at hl 0 rfl) ?_
  refine lv_iload_n hx hb dL_law_2141 rfl (lv_at hl 3 rfl) ?_
  refine lv_iconst (v := 1) hx hb dL_law_2142 rfl ?_
  refine lv_iadd hx hb dL_law_2143 ?_
  refine va_sld hx hb hX hbl hbA hC.2 g1 dL_law_2144 ?_
  refine lv_aload_n hx hb dL_law_2145 rfl (lv_at hl 0 rfl) ?_
  refine lv_iload_n hx hb dL_law_2146 rfl (lv_at hl 3 rfl) ?_
  refine lv_iconst (v := 2) hx hb dL_law_2147 rfl ?_
  refine lv_iadd hx hb dL_law_2148 ?_
  refine va_sld hx hb hX hbl hbA hC.2 g2 dL_law_2149 ?_
  refine lv_aload_n hx hb dL_law_2150 rfl (lv_at hl 0 rfl) ?_
  refine lv_iload_n hx hb dL_law_2151 rfl (lv_at hl 3 rfl) ?_
  refine lv_iconst (v := 3) hx hb dL_law_2152 rfl ?_
  refine lv_iadd hx hb dL_law_2153 ?_
  refine va_sld hx hb hX hbl hbA hC.2 g3 dL_law_2154 ?_
  refine lv_aload_n hx hb dL_law_2155 rfl (lv_at hl 0 rfl) ?_
  refine lv_iload_n hx hb dL_law_2156 rfl (lv_at hl 3 rfl) ?_
  refine lv_iconst (v := 4) hx hb dL_law_2157 rfl ?_
  refine lv_iadd hx hb dL_law_2158 ?_
  refine va_sld hx hb hX hbl hbA hC.2 g4 dL_law_2159 ?_
  refine lv_aload_n hx hb dL_law_2160 rfl (lv_at hl 0 rfl) ?_
  refine lv_iload_n hx hb dL_law_2161 rfl (lv_at hl 3 rfl) ?_
  refine lv_iconst (v := 5) hx hb dL_law_2162 rfl ?_
  refine lv_iadd hx hb dL_law_2163 ?_
  refine va_sld hx hb hX hbl hbA hC.2 g5 dL_law_2164 ?_
  refine lw_call (rest := []) C.2.1 C.2.2.2.1 C.2.2.2.2.1 C.1.2.2.2.2.2.2.2.2.1 hM hC (ctX9_paste l hf2) kl_RL_311 layM_0 rfl rfl rfl rfl (Nat.le_of_ble_eq_true rfl) dL_law_2165 hl.1 (Nat.le_refl _) (Nat.le_refl _) (fun H hM hC => ?_)
  refine lv_pop hx hb dL_law_2168 rfl ?_
  refine lv_goto (tgt := 2172) hx hb dL_law_2169 (by decide) ?_
  exact kk σ1 τ1 hJ1 H ls hC hM (lv_sub hl [0, 1, 2, 3] rfl)
end
