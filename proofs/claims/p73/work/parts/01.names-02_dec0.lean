section
/-! the tables by blocks, sixteen rows a step -/
section
variable {x : Cond} {l : List Cond}
theorem lt_h : x ∈ x :: l := List.mem_cons_self
theorem lt_1 {a0 : Cond} (h : x ∈ l) : x ∈ a0 :: l := (List.mem_cons_of_mem _ h)
theorem lt_2 {a0 a1 : Cond} (h : x ∈ l) : x ∈ a0 :: a1 :: l := (List.mem_cons_of_mem _ (List.mem_cons_of_mem _ h))
theorem lt_3 {a0 a1 a2 : Cond} (h : x ∈ l) : x ∈ a0 :: a1 :: a2 :: l := (List.mem_cons_of_mem _ (List.mem_cons_of_mem _ (List.mem_cons_of_mem _ h)))
theorem lt_4 {a0 a1 a2 a3 : Cond} (h : x ∈ l) : x ∈ a0 :: a1 :: a2 :: a3 :: l := (List.mem_cons_of_mem _ (List.mem_cons_of_mem _ (List.mem_cons_of_mem _ (List.mem_cons_of_mem _ h))))
theorem lt_5 {a0 a1 a2 a3 a4 : Cond} (h : x ∈ l) : x ∈ a0 :: a1 :: a2 :: a3 :: a4 :: l := (List.mem_cons_of_mem _ (List.mem_cons_of_mem _ (List.mem_cons_of_mem _ (List.mem_cons_of_mem _ (List.mem_cons_of_mem _ h)))))
theorem lt_6 {a0 a1 a2 a3 a4 a5 : Cond} (h : x ∈ l) : x ∈ a0 :: a1 :: a2 :: a3 :: a4 :: a5 :: l := (List.mem_cons_of_mem _ (List.mem_cons_of_mem _ (List.mem_cons_of_mem _ (List.mem_cons_of_mem _ (List.mem_cons_of_mem _ (List.mem_cons_of_mem _ h))))))
theorem lt_7 {a0 a1 a2 a3 a4 a5 a6 : Cond} (h : x ∈ l) : x ∈ a0 :: a1 :: a2 :: a3 :: a4 :: a5 :: a6 :: l := (List.mem_cons_of_mem _ (List.mem_cons_of_mem _ (List.mem_cons_of_mem _ (List.mem_cons_of_mem _ (List.mem_cons_of_mem _ (List.mem_cons_of_mem _ (List.mem_cons_of_mem _ h)))))))
theorem lt_8 {a0 a1 a2 a3 a4 a5 a6 a7 : Cond} (h : x ∈ l) : x ∈ a0 :: a1 :: a2 :: a3 :: a4 :: a5 :: a6 :: a7 :: l := (List.mem_cons_of_mem _ (List.mem_cons_of_mem _ (List.mem_cons_of_mem _ (List.mem_cons_of_mem _ (List.mem_cons_of_mem _ (List.mem_cons_of_mem _ (List.mem_cons_of_mem _ (List.mem_cons_of_mem _ h))))))))
theorem lt_9 {a0 a1 a2 a3 a4 a5 a6 a7 a8 : Cond} (h : x ∈ l) : x ∈ a0 :: a1 :: a2 :: a3 :: a4 :: a5 :: a6 :: a7 :: a8 :: l := (List.mem_cons_of_mem _ (List.mem_cons_of_mem _ (List.mem_cons_of_mem _ (List.mem_cons_of_mem _ (List.mem_cons_of_mem _ (List.mem_cons_of_mem _ (List.mem_cons_of_mem _ (List.mem_cons_of_mem _ (List.mem_cons_of_mem _ h)))))))))
theorem lt_10 {a0 a1 a2 a3 a4 a5 a6 a7 a8 a9 : Cond} (h : x ∈ l) : x ∈ a0 :: a1 :: a2 :: a3 :: a4 :: a5 :: a6 :: a7 :: a8 :: a9 :: l := (List.mem_cons_of_mem _ (List.mem_cons_of_mem _ (List.mem_cons_of_mem _ (List.mem_cons_of_mem _ (List.mem_cons_of_mem _ (List.mem_cons_of_mem _ (List.mem_cons_of_mem _ (List.mem_cons_of_mem _ (List.mem_cons_of_mem _ (List.mem_cons_of_mem _ h))))))))))
theorem lt_11 {a0 a1 a2 a3 a4 a5 a6 a7 a8 a9 a10 : Cond} (h : x ∈ l) : x ∈ a0 :: a1 :: a2 :: a3 :: a4 :: a5 :: a6 :: a7 :: a8 :: a9 :: a10 :: l := (List.mem_cons_of_mem _ (List.mem_cons_of_mem _ (List.mem_cons_of_mem _ (List.mem_cons_of_mem _ (List.mem_cons_of_mem _ (List.mem_cons_of_mem _ (List.mem_cons_of_mem _ (List.mem_cons_of_mem _ (List.mem_cons_of_mem _ (List.mem_cons_of_mem _ (List.mem_cons_of_mem _ h)))))))))))
theorem lt_12 {a0 a1 a2 a3 a4 a5 a6 a7 a8 a9 a10 a11 : Cond} (h : x ∈ l) : x ∈ a0 :: a1 :: a2 :: a3 :: a4 :: a5 :: a6 :: a7 :: a8 :: a9 :: a10 :: a11 :: l := (List.mem_cons_of_mem _ (List.mem_cons_of_mem _ (List.mem_cons_of_mem _ (List.mem_cons_of_mem _ (List.mem_cons_of_mem _ (List.mem_cons_of_mem _ (List.mem_cons_of_mem _ (List.mem_cons_of_mem _ (List.mem_cons_of_mem _ (List.mem_cons_of_mem _ (List.mem_cons_of_mem _ (List.mem_cons_of_mem _ h))))))))))))
theorem lt_13 {a0 a1 a2 a3 a4 a5 a6 a7 a8 a9 a10 a11 a12 : Cond} (h : x ∈ l) : x ∈ a0 :: a1 :: a2 :: a3 :: a4 :: a5 :: a6 :: a7 :: a8 :: a9 :: a10 :: a11 :: a12 :: l := (List.mem_cons_of_mem _ (List.mem_cons_of_mem _ (List.mem_cons_of_mem _ (List.mem_cons_of_mem _ (List.mem_cons_of_mem _ (List.mem_cons_of_mem _ (List.mem_cons_of_mem _ (List.mem_cons_of_mem _ (List.mem_cons_of_mem _ (List.mem_cons_of_mem _ (List.mem_cons_of_mem _ (List.mem_cons_of_mem _ (List.mem_cons_of_mem _ h)))))))))))))
theorem lt_14 {a0 a1 a2 a3 a4 a5 a6 a7 a8 a9 a10 a11 a12 a13 : Cond} (h : x ∈ l) : x ∈ a0 :: a1 :: a2 :: a3 :: a4 :: a5 :: a6 :: a7 :: a8 :: a9 :: a10 :: a11 :: a12 :: a13 :: l := (List.mem_cons_of_mem _ (List.mem_cons_of_mem _ (List.mem_cons_of_mem _ (List.mem_cons_of_mem _ (List.mem_cons_of_mem _ (List.mem_cons_of_mem _ (List.mem_cons_of_mem _ (List.mem_cons_of_mem _ (List.mem_cons_of_mem _ (List.mem_cons_of_mem _ (List.mem_cons_of_mem _ (List.mem_cons_of_mem _ (List.mem_cons_of_mem _ (List.mem_cons_of_mem _ h))))))))))))))
theorem lt_15 {a0 a1 a2 a3 a4 a5 a6 a7 a8 a9 a10 a11 a12 a13 a14 : Cond} (h : x ∈ l) : x ∈ a0 :: a1 :: a2 :: a3 :: a4 :: a5 :: a6 :: a7 :: a8 :: a9 :: a10 :: a11 :: a12 :: a13 :: a14 :: l := (List.mem_cons_of_mem _ (List.mem_cons_of_mem _ (List.mem_cons_of_mem _ (List.mem_cons_of_mem _ (List.mem_cons_of_mem _ (List.mem_cons_of_mem _ (List.mem_cons_of_mem _ (List.mem_cons_of_mem _ (List.mem_cons_of_mem _ (List.mem_cons_of_mem _ (List.mem_cons_of_mem _ (List.mem_cons_of_mem _ (List.mem_cons_of_mem _ (List.mem_cons_of_mem _ (List.mem_cons_of_mem _ h)))))))))))))))
theorem lt_16 {a0 a1 a2 a3 a4 a5 a6 a7 a8 a9 a10 a11 a12 a13 a14 a15 : Cond} (h : x ∈ l) : x ∈ a0 :: a1 :: a2 :: a3 :: a4 :: a5 :: a6 :: a7 :: a8 :: a9 :: a10 :: a11 :: a12 :: a13 :: a14 :: a15 :: l := (List.mem_cons_of_mem _ (List.mem_cons_of_mem _ (List.mem_cons_of_mem _ (List.mem_cons_of_mem _ (List.mem_cons_of_mem _ (List.mem_cons_of_mem _ (List.mem_cons_of_mem _ (List.mem_cons_of_mem _ (List.mem_cons_of_mem _ (List.mem_cons_of_mem _ (List.mem_cons_of_mem _ (List.mem_cons_of_mem _ (List.mem_cons_of_mem _ (List.mem_cons_of_mem _ (List.mem_cons_of_mem _ (List.mem_cons_of_mem _ h))))))))))))))))
theorem gw_lays {a0 a1 a2 a3} : goodWord (Cond.lays a0 a1 a2 a3) = true := rfl
theorem gw_laysFinal {a0 a1 a2 a3} : goodWord (Cond.laysFinal a0 a1 a2 a3) = true := rfl
theorem gw_code {a0 a1 a2 a3} : goodWord (Cond.code a0 a1 a2 a3) = true := rfl
theorem gw_methodLink {a0 a1 a2} : goodWord (Cond.methodLink a0 a1 a2) = true := rfl
theorem gw_fieldLink {a0 a1 a2 a3 a4} : goodWord (Cond.fieldLink a0 a1 a2 a3 a4) = true := rfl
theorem gw_instanceMethod {a0} : goodWord (Cond.instanceMethod a0) = true := rfl
theorem gw_static {a0} : goodWord (Cond.static a0) = true := rfl
theorem gw_selects {a0 a1 a2} : goodWord (Cond.selects a0 a1 a2) = true := rfl
theorem gw_initialized {a0} : goodWord (Cond.initialized a0) = true := rfl
theorem lb_0 (h : x ∈ tables_1_1) : x ∈ tables_1 := List.mem_append_left _ h
theorem lb_1 (h : x ∈ tables_1_2) : x ∈ tables_1 := List.mem_append_right _ (List.mem_append_left _ h)
theorem lb_2 (h : x ∈ tables_1_3) : x ∈ tables_1 := List.mem_append_right _ (List.mem_append_right _ (List.mem_append_left _ h))
theorem lb_3 (h : x ∈ tables_1_4) : x ∈ tables_1 := List.mem_append_right _ (List.mem_append_right _ (List.mem_append_right _ (List.mem_append_left _ h)))
theorem lb_4 (h : x ∈ tables_1_5) : x ∈ tables_1 := List.mem_append_right _ (List.mem_append_right _ (List.mem_append_right _ (List.mem_append_right _ (List.mem_append_left _ h))))
theorem lb_5 (h : x ∈ tables_1_6) : x ∈ tables_1 := List.mem_append_right _ (List.mem_append_right _ (List.mem_append_right _ (List.mem_append_right _ (List.mem_append_right _ (List.mem_append_left _ h)))))
theorem lb_6 (h : x ∈ tables_1_7) : x ∈ tables_1 := List.mem_append_right _ (List.mem_append_right _ (List.mem_append_right _ (List.mem_append_right _ (List.mem_append_right _ (List.mem_append_right _ (List.mem_append_left _ h))))))
theorem lb_7 (h : x ∈ tables_1_8) : x ∈ tables_1 := List.mem_append_right _ (List.mem_append_right _ (List.mem_append_right _ (List.mem_append_right _ (List.mem_append_right _ (List.mem_append_right _ (List.mem_append_right _ (h)))))))
end
-- ===== PART A: goes FIRST, ahead of the names: the tables' words, and 'selects' of the private methods out of them =====
/-- a private method of a class that the tables say can be made, by its rows of tables_1 -/
def lw_okq (q : MethodName × Nat) : Prop := (q.1.cls ≠ "java/lang/invoke/MethodHandle" ∧ q.1.cls ≠ "java/lang/invoke/VarHandle") ∧ Cond.instantiable q.1.cls q.2 ∈ tables_1 ∧ Cond.privateMethod q.1 ∈ tables_1 ∧ Cond.instanceMethod q.1 ∈ tables_1
theorem lw_p0 : lw_okq (⟨"PepperPolicy$Reader", "step", "()V"⟩, 8) := ⟨⟨by decide +kernel, by decide +kernel⟩, (lb_0 (lt_16 (lt_16 (lt_16 (lt_16 (lt_5 lt_h)))))), (lb_1 (lt_16 (lt_16 (lt_16 (lt_16 (lt_16 (lt_16 (lt_15 lt_h)))))))), (lb_1 (lt_16 (lt_16 (lt_16 (lt_16 (lt_16 (lt_16 (lt_16 lt_h))))))))⟩
theorem lw_p1 : lw_okq (⟨"PepperPolicy$Reader", "kindAt", "(I)I"⟩, 8) := ⟨⟨by decide +kernel, by decide +kernel⟩, (lb_0 (lt_16 (lt_16 (lt_16 (lt_16 (lt_5 lt_h)))))), (lb_1 (lt_16 (lt_16 (lt_16 (lt_16 (lt_16 (lt_16 (lt_16 (lt_3 lt_h))))))))), (lb_1 (lt_16 (lt_16 (lt_16 (lt_16 (lt_16 (lt_16 (lt_16 (lt_4 lt_h)))))))))⟩
theorem lw_p2 : lw_okq (⟨"PepperPolicy$Reader", "readHouse", "()V"⟩, 8) := ⟨⟨by decide +kernel, by decide +kernel⟩, (lb_0 (lt_16 (lt_16 (lt_16 (lt_16 (lt_5 lt_h)))))), (lb_1 (lt_16 (lt_16 (lt_16 (lt_16 (lt_16 (lt_16 (lt_16 (lt_10 lt_h))))))))), (lb_1 (lt_16 (lt_16 (lt_16 (lt_16 (lt_16 (lt_16 (lt_16 (lt_11 lt_h)))))))))⟩
theorem lw_p3 : lw_okq (⟨"PepperPolicy$Reader", "word", "(Ljava/lang/String;)V"⟩, 8) := ⟨⟨by decide +kernel, by decide +kernel⟩, (lb_0 (lt_16 (lt_16 (lt_16 (lt_16 (lt_5 lt_h)))))), (lb_1 (lt_16 (lt_16 (lt_16 (lt_16 (lt_16 (lt_16 (lt_16 (lt_15 lt_h))))))))), (lb_1 (lt_16 (lt_16 (lt_16 (lt_16 (lt_16 (lt_16 (lt_16 (lt_16 lt_h)))))))))⟩
theorem lw_p4 : lw_okq (⟨"PepperPolicy$Reader", "isWord", "(Ljava/lang/String;)Z"⟩, 8) := ⟨⟨by decide +kernel, by decide +kernel⟩, (lb_0 (lt_16 (lt_16 (lt_16 (lt_16 (lt_5 lt_h)))))), (lb_1 (lt_16 (lt_16 (lt_16 (lt_16 (lt_16 (lt_16 (lt_16 (lt_16 (lt_3 lt_h)))))))))), (lb_1 (lt_16 (lt_16 (lt_16 (lt_16 (lt_16 (lt_16 (lt_16 (lt_16 (lt_4 lt_h))))))))))⟩
theorem lw_p5 : lw_okq (⟨"PepperPolicy$Reader", "blame", "(I)V"⟩, 8) := ⟨⟨by decide +kernel, by decide +kernel⟩, (lb_0 (lt_16 (lt_16 (lt_16 (lt_16 (lt_5 lt_h)))))), (lb_1 (lt_16 (lt_16 (lt_16 (lt_16 (lt_16 (lt_16 (lt_16 (lt_16 (lt_16 (lt_16 (lt_16 (lt_7 lt_h))))))))))))), (lb_1 (lt_16 (lt_16 (lt_16 (lt_16 (lt_16 (lt_16 (lt_16 (lt_16 (lt_16 (lt_16 (lt_16 (lt_8 lt_h)))))))))))))⟩
theorem lw_p6 : lw_okq (⟨"PepperPolicy$Reader", "number", "(III)I"⟩, 8) := ⟨⟨by decide +kernel, by decide +kernel⟩, (lb_0 (lt_16 (lt_16 (lt_16 (lt_16 (lt_5 lt_h)))))), (lb_1 (lt_16 (lt_16 (lt_16 (lt_16 (lt_16 (lt_16 (lt_16 (lt_16 (lt_16 (lt_16 (lt_16 (lt_12 lt_h))))))))))))), (lb_1 (lt_16 (lt_16 (lt_16 (lt_16 (lt_16 (lt_16 (lt_16 (lt_16 (lt_16 (lt_16 (lt_16 (lt_13 lt_h)))))))))))))⟩
theorem lw_p7 : lw_okq (⟨"PepperPolicy$Reader", "value", "()I"⟩, 8) := ⟨⟨by decide +kernel, by decide +kernel⟩, (lb_0 (lt_16 (lt_16 (lt_16 (lt_16 (lt_5 lt_h)))))), (lb_1 (lt_16 (lt_16 (lt_16 (lt_16 (lt_16 (lt_16 (lt_16 (lt_16 (lt_16 (lt_16 (lt_16 (lt_16 lt_h))))))))))))), (lb_1 (lt_16 (lt_16 (lt_16 (lt_16 (lt_16 (lt_16 (lt_16 (lt_16 (lt_16 (lt_16 (lt_16 (lt_16 (lt_1 lt_h))))))))))))))⟩
theorem lw_p8 : lw_okq (⟨"PepperPolicy$Reader", "sign", "()V"⟩, 8) := ⟨⟨by decide +kernel, by decide +kernel⟩, (lb_0 (lt_16 (lt_16 (lt_16 (lt_16 (lt_5 lt_h)))))), (lb_1 (lt_16 (lt_16 (lt_16 (lt_16 (lt_16 (lt_16 (lt_16 (lt_16 (lt_16 (lt_16 (lt_16 (lt_16 (lt_9 lt_h)))))))))))))), (lb_1 (lt_16 (lt_16 (lt_16 (lt_16 (lt_16 (lt_16 (lt_16 (lt_16 (lt_16 (lt_16 (lt_16 (lt_16 (lt_10 lt_h))))))))))))))⟩
theorem lw_p9 : lw_okq (⟨"PepperPolicy$Reader", "readLine", "()V"⟩, 8) := ⟨⟨by decide +kernel, by decide +kernel⟩, (lb_0 (lt_16 (lt_16 (lt_16 (lt_16 (lt_5 lt_h)))))), (lb_1 (lt_16 (lt_16 (lt_16 (lt_16 (lt_16 (lt_16 (lt_16 (lt_16 (lt_16 (lt_16 (lt_16 (lt_16 (lt_13 lt_h)))))))))))))), (lb_1 (lt_16 (lt_16 (lt_16 (lt_16 (lt_16 (lt_16 (lt_16 (lt_16 (lt_16 (lt_16 (lt_16 (lt_16 (lt_14 lt_h))))))))))))))⟩
theorem lw_p10 : lw_okq (⟨"PepperPolicy$Reader", "readNose", "(I)V"⟩, 8) := ⟨⟨by decide +kernel, by decide +kernel⟩, (lb_0 (lt_16 (lt_16 (lt_16 (lt_16 (lt_5 lt_h)))))), (lb_1 (lt_16 (lt_16 (lt_16 (lt_16 (lt_16 (lt_16 (lt_16 (lt_16 (lt_16 (lt_16 (lt_16 (lt_16 (lt_16 (lt_2 lt_h))))))))))))))), (lb_1 (lt_16 (lt_16 (lt_16 (lt_16 (lt_16 (lt_16 (lt_16 (lt_16 (lt_16 (lt_16 (lt_16 (lt_16 (lt_16 (lt_3 lt_h)))))))))))))))⟩
theorem lw_p11 : lw_okq (⟨"PepperPolicy$Reader", "readGust", "(I)V"⟩, 8) := ⟨⟨by decide +kernel, by decide +kernel⟩, (lb_0 (lt_16 (lt_16 (lt_16 (lt_16 (lt_5 lt_h)))))), (lb_1 (lt_16 (lt_16 (lt_16 (lt_16 (lt_16 (lt_16 (lt_16 (lt_16 (lt_16 (lt_16 (lt_16 (lt_16 (lt_16 (lt_8 lt_h))))))))))))))), (lb_1 (lt_16 (lt_16 (lt_16 (lt_16 (lt_16 (lt_16 (lt_16 (lt_16 (lt_16 (lt_16 (lt_16 (lt_16 (lt_16 (lt_9 lt_h)))))))))))))))⟩
theorem lw_p12 : lw_okq (⟨"PepperPolicy$Reader", "readNet", "(I)V"⟩, 8) := ⟨⟨by decide +kernel, by decide +kernel⟩, (lb_0 (lt_16 (lt_16 (lt_16 (lt_16 (lt_5 lt_h)))))), (lb_1 (lt_16 (lt_16 (lt_16 (lt_16 (lt_16 (lt_16 (lt_16 (lt_16 (lt_16 (lt_16 (lt_16 (lt_16 (lt_16 (lt_14 lt_h))))))))))))))), (lb_1 (lt_16 (lt_16 (lt_16 (lt_16 (lt_16 (lt_16 (lt_16 (lt_16 (lt_16 (lt_16 (lt_16 (lt_16 (lt_16 (lt_15 lt_h)))))))))))))))⟩
theorem lw_p13 : lw_okq (⟨"PepperPolicy$Reader", "readPolicy", "(I)V"⟩, 8) := ⟨⟨by decide +kernel, by decide +kernel⟩, (lb_0 (lt_16 (lt_16 (lt_16 (lt_16 (lt_5 lt_h)))))), (lb_1 (lt_16 (lt_16 (lt_16 (lt_16 (lt_16 (lt_16 (lt_16 (lt_16 (lt_16 (lt_16 (lt_16 (lt_16 (lt_16 (lt_16 (lt_3 lt_h)))))))))))))))), (lb_1 (lt_16 (lt_16 (lt_16 (lt_16 (lt_16 (lt_16 (lt_16 (lt_16 (lt_16 (lt_16 (lt_16 (lt_16 (lt_16 (lt_16 (lt_4 lt_h))))))))))))))))⟩
theorem lw_p14 : lw_okq (⟨"PepperPolicy", "liveAnew", "()V"⟩, 12) := ⟨⟨by decide +kernel, by decide +kernel⟩, (lb_0 (lt_16 (lt_4 lt_h))), (lb_2 (lt_2 lt_h)), (lb_2 (lt_3 lt_h))⟩
theorem lw_p15 : lw_okq (⟨"PepperPolicy$Day", "tickleByNets", "(I)V"⟩, 14) := ⟨⟨by decide +kernel, by decide +kernel⟩, (lb_0 (lt_16 (lt_16 (lt_16 (lt_16 (lt_16 (lt_16 (lt_16 (lt_16 (lt_1 lt_h)))))))))), (lb_2 (lt_16 (lt_11 lt_h))), (lb_2 (lt_16 (lt_12 lt_h)))⟩
def lw_privs_1 : List (MethodName × Nat) := [(⟨"PepperPolicy$Reader", "step", "()V"⟩, 8), (⟨"PepperPolicy$Reader", "kindAt", "(I)I"⟩, 8), (⟨"PepperPolicy$Reader", "readHouse", "()V"⟩, 8), (⟨"PepperPolicy$Reader", "word", "(Ljava/lang/String;)V"⟩, 8), (⟨"PepperPolicy$Reader", "isWord", "(Ljava/lang/String;)Z"⟩, 8), (⟨"PepperPolicy$Reader", "blame", "(I)V"⟩, 8), (⟨"PepperPolicy$Reader", "number", "(III)I"⟩, 8), (⟨"PepperPolicy$Reader", "value", "()I"⟩, 8), (⟨"PepperPolicy$Reader", "sign", "()V"⟩, 8), (⟨"PepperPolicy$Reader", "readLine", "()V"⟩, 8), (⟨"PepperPolicy$Reader", "readNose", "(I)V"⟩, 8), (⟨"PepperPolicy$Reader", "readGust", "(I)V"⟩, 8), (⟨"PepperPolicy$Reader", "readNet", "(I)V"⟩, 8), (⟨"PepperPolicy$Reader", "readPolicy", "(I)V"⟩, 8), (⟨"PepperPolicy", "liveAnew", "()V"⟩, 12), (⟨"PepperPolicy$Day", "tickleByNets", "(I)V"⟩, 14)]
theorem lw_r1 : ∀ q ∈ lw_privs_1, lw_okq q := List.forall_mem_cons.mpr ⟨lw_p0, List.forall_mem_cons.mpr ⟨lw_p1, List.forall_mem_cons.mpr ⟨lw_p2, List.forall_mem_cons.mpr ⟨lw_p3, List.forall_mem_cons.mpr ⟨lw_p4, List.forall_mem_cons.mpr ⟨lw_p5, List.forall_mem_cons.mpr ⟨lw_p6, List.forall_mem_cons.mpr ⟨lw_p7, List.forall_mem_cons.mpr ⟨lw_p8, List.forall_mem_cons.mpr ⟨lw_p9, List.forall_mem_cons.mpr ⟨lw_p10, List.forall_mem_cons.mpr ⟨lw_p11, List.forall_mem_cons.mpr ⟨lw_p12, List.forall_mem_cons.mpr ⟨lw_p13, List.forall_mem_cons.mpr ⟨lw_p14, List.forall_mem_cons.mpr ⟨lw_p15, fun _ h => absurd h List.not_mem_nil⟩⟩⟩⟩⟩⟩⟩⟩⟩⟩⟩⟩⟩⟩⟩⟩
theorem lw_p16 : lw_okq (⟨"PepperPolicy$Day", "liveMinute", "(I)V"⟩, 14) := ⟨⟨by decide +kernel, by decide +kernel⟩, (lb_0 (lt_16 (lt_16 (lt_16 (lt_16 (lt_16 (lt_16 (lt_16 (lt_16 (lt_1 lt_h)))))))))), (lb_2 (lt_16 (lt_16 (lt_2 lt_h)))), (lb_2 (lt_16 (lt_16 (lt_3 lt_h))))⟩
theorem lw_p17 : lw_okq (⟨"PepperPolicy", "isPerson", "(I)Z"⟩, 12) := ⟨⟨by decide +kernel, by decide +kernel⟩, (lb_0 (lt_16 (lt_4 lt_h))), (lb_2 (lt_16 (lt_16 (lt_16 (lt_7 lt_h))))), (lb_2 (lt_16 (lt_16 (lt_16 (lt_8 lt_h)))))⟩
theorem lw_p18 : lw_okq (⟨"PepperPolicy", "isPolicy", "(I)Z"⟩, 12) := ⟨⟨by decide +kernel, by decide +kernel⟩, (lb_0 (lt_16 (lt_4 lt_h))), (lb_2 (lt_16 (lt_16 (lt_16 (lt_15 lt_h))))), (lb_2 (lt_16 (lt_16 (lt_16 (lt_16 lt_h)))))⟩
theorem lw_p19 : lw_okq (⟨"PepperPolicy", "isMinute", "(I)Z"⟩, 12) := ⟨⟨by decide +kernel, by decide +kernel⟩, (lb_0 (lt_16 (lt_4 lt_h))), (lb_2 (lt_16 (lt_16 (lt_16 (lt_16 (lt_16 (lt_3 lt_h))))))), (lb_2 (lt_16 (lt_16 (lt_16 (lt_16 (lt_16 (lt_4 lt_h)))))))⟩
theorem lw_p20 : lw_okq (⟨"PepperPolicy", "isHouse", "()Z"⟩, 12) := ⟨⟨by decide +kernel, by decide +kernel⟩, (lb_0 (lt_16 (lt_4 lt_h))), (lb_2 (lt_16 (lt_16 (lt_16 (lt_16 (lt_16 (lt_16 (lt_12 lt_h)))))))), (lb_2 (lt_16 (lt_16 (lt_16 (lt_16 (lt_16 (lt_16 (lt_13 lt_h))))))))⟩
theorem lw_p21 : lw_okq (⟨"PepperPolicy", "minutesCovered", "(I)I"⟩, 12) := ⟨⟨by decide +kernel, by decide +kernel⟩, (lb_0 (lt_16 (lt_4 lt_h))), (lb_2 (lt_16 (lt_16 (lt_16 (lt_16 (lt_16 (lt_16 (lt_16 (lt_16 (lt_16 (lt_16 (lt_11 lt_h)))))))))))), (lb_2 (lt_16 (lt_16 (lt_16 (lt_16 (lt_16 (lt_16 (lt_16 (lt_16 (lt_16 (lt_16 (lt_12 lt_h))))))))))))⟩
theorem lw_p22 : lw_okq (⟨"PepperPolicy", "isNet", "(I)Z"⟩, 12) := ⟨⟨by decide +kernel, by decide +kernel⟩, (lb_0 (lt_16 (lt_4 lt_h))), (lb_2 (lt_16 (lt_16 (lt_16 (lt_16 (lt_16 (lt_16 (lt_16 (lt_16 (lt_16 (lt_16 (lt_16 (lt_16 (lt_16 (lt_8 lt_h))))))))))))))), (lb_2 (lt_16 (lt_16 (lt_16 (lt_16 (lt_16 (lt_16 (lt_16 (lt_16 (lt_16 (lt_16 (lt_16 (lt_16 (lt_16 (lt_9 lt_h)))))))))))))))⟩
theorem lw_p23 : lw_okq (⟨"PepperPolicy", "totalWithout", "(I)I"⟩, 12) := ⟨⟨by decide +kernel, by decide +kernel⟩, (lb_0 (lt_16 (lt_4 lt_h))), (lb_2 (lt_16 (lt_16 (lt_16 (lt_16 (lt_16 (lt_16 (lt_16 (lt_16 (lt_16 (lt_16 (lt_16 (lt_16 (lt_16 (lt_12 lt_h))))))))))))))), (lb_2 (lt_16 (lt_16 (lt_16 (lt_16 (lt_16 (lt_16 (lt_16 (lt_16 (lt_16 (lt_16 (lt_16 (lt_16 (lt_16 (lt_13 lt_h)))))))))))))))⟩
theorem lw_p24 : lw_okq (⟨"PepperPolicy", "ledgerNow", "()LPepperPolicy$Ledger;"⟩, 12) := ⟨⟨by decide +kernel, by decide +kernel⟩, (lb_0 (lt_16 (lt_4 lt_h))), (lb_2 (lt_16 (lt_16 (lt_16 (lt_16 (lt_16 (lt_16 (lt_16 (lt_16 (lt_16 (lt_16 (lt_16 (lt_16 (lt_16 (lt_16 (lt_8 lt_h)))))))))))))))), (lb_2 (lt_16 (lt_16 (lt_16 (lt_16 (lt_16 (lt_16 (lt_16 (lt_16 (lt_16 (lt_16 (lt_16 (lt_16 (lt_16 (lt_16 (lt_9 lt_h))))))))))))))))⟩
theorem lw_p25 : lw_okq (⟨"PepperPolicy", "moneyInTheEnd", "(I)I"⟩, 12) := ⟨⟨by decide +kernel, by decide +kernel⟩, (lb_0 (lt_16 (lt_4 lt_h))), (lb_3 (lt_16 (lt_16 (lt_16 (lt_16 (lt_2 lt_h)))))), (lb_3 (lt_16 (lt_16 (lt_16 (lt_16 (lt_3 lt_h))))))⟩
theorem lw_p26 : lw_okq (⟨"PepperPolicy", "bestOfMenu", "(I)I"⟩, 12) := ⟨⟨by decide +kernel, by decide +kernel⟩, (lb_0 (lt_16 (lt_4 lt_h))), (lb_3 (lt_16 (lt_16 (lt_16 (lt_16 (lt_14 lt_h)))))), (lb_3 (lt_16 (lt_16 (lt_16 (lt_16 (lt_15 lt_h))))))⟩
theorem lw_p27 : lw_okq (⟨"PepperPolicy", "gainBy", "(II)I"⟩, 12) := ⟨⟨by decide +kernel, by decide +kernel⟩, (lb_0 (lt_16 (lt_4 lt_h))), (lb_3 (lt_16 (lt_16 (lt_16 (lt_16 (lt_16 (lt_2 lt_h))))))), (lb_3 (lt_16 (lt_16 (lt_16 (lt_16 (lt_16 (lt_3 lt_h)))))))⟩
theorem lw_p28 : lw_okq (⟨"PepperPolicy", "claimAsIfOf", "(II)I"⟩, 12) := ⟨⟨by decide +kernel, by decide +kernel⟩, (lb_0 (lt_16 (lt_4 lt_h))), (lb_3 (lt_16 (lt_16 (lt_16 (lt_16 (lt_16 (lt_6 lt_h))))))), (lb_3 (lt_16 (lt_16 (lt_16 (lt_16 (lt_16 (lt_7 lt_h)))))))⟩
theorem lw_p29 : lw_okq (⟨"PepperPolicy", "priceFor", "(II)I"⟩, 12) := ⟨⟨by decide +kernel, by decide +kernel⟩, (lb_0 (lt_16 (lt_4 lt_h))), (lb_3 (lt_16 (lt_16 (lt_16 (lt_16 (lt_16 (lt_16 (lt_3 lt_h)))))))), (lb_3 (lt_16 (lt_16 (lt_16 (lt_16 (lt_16 (lt_16 (lt_4 lt_h))))))))⟩
theorem lw_p30 : lw_okq (⟨"PepperPolicy$Holding", "goOn", "(LPepperPolicy$Day;IIII)V"⟩, 2) := ⟨⟨by decide +kernel, by decide +kernel⟩, (lb_0 (lt_16 (lt_16 (lt_16 (lt_16 (lt_16 (lt_16 (lt_16 (lt_16 (lt_16 (lt_16 (lt_16 (lt_16 (lt_16 (lt_14 lt_h))))))))))))))), (lb_3 (lt_16 (lt_16 (lt_16 (lt_16 (lt_16 (lt_16 (lt_16 (lt_5 lt_h))))))))), (lb_3 (lt_16 (lt_16 (lt_16 (lt_16 (lt_16 (lt_16 (lt_16 (lt_6 lt_h)))))))))⟩
theorem lw_p31 : lw_okq (⟨"PepperPolicy", "minutesOfFraud", "(I)I"⟩, 12) := ⟨⟨by decide +kernel, by decide +kernel⟩, (lb_0 (lt_16 (lt_4 lt_h))), (lb_3 (lt_16 (lt_16 (lt_16 (lt_16 (lt_16 (lt_16 (lt_16 (lt_16 (lt_14 lt_h)))))))))), (lb_3 (lt_16 (lt_16 (lt_16 (lt_16 (lt_16 (lt_16 (lt_16 (lt_16 (lt_15 lt_h))))))))))⟩
def lw_privs_2 : List (MethodName × Nat) := [(⟨"PepperPolicy$Day", "liveMinute", "(I)V"⟩, 14), (⟨"PepperPolicy", "isPerson", "(I)Z"⟩, 12), (⟨"PepperPolicy", "isPolicy", "(I)Z"⟩, 12), (⟨"PepperPolicy", "isMinute", "(I)Z"⟩, 12), (⟨"PepperPolicy", "isHouse", "()Z"⟩, 12), (⟨"PepperPolicy", "minutesCovered", "(I)I"⟩, 12), (⟨"PepperPolicy", "isNet", "(I)Z"⟩, 12), (⟨"PepperPolicy", "totalWithout", "(I)I"⟩, 12), (⟨"PepperPolicy", "ledgerNow", "()LPepperPolicy$Ledger;"⟩, 12), (⟨"PepperPolicy", "moneyInTheEnd", "(I)I"⟩, 12), (⟨"PepperPolicy", "bestOfMenu", "(I)I"⟩, 12), (⟨"PepperPolicy", "gainBy", "(II)I"⟩, 12), (⟨"PepperPolicy", "claimAsIfOf", "(II)I"⟩, 12), (⟨"PepperPolicy", "priceFor", "(II)I"⟩, 12), (⟨"PepperPolicy$Holding", "goOn", "(LPepperPolicy$Day;IIII)V"⟩, 2), (⟨"PepperPolicy", "minutesOfFraud", "(I)I"⟩, 12)]
theorem lw_r2 : ∀ q ∈ lw_privs_2, lw_okq q := List.forall_mem_cons.mpr ⟨lw_p16, List.forall_mem_cons.mpr ⟨lw_p17, List.forall_mem_cons.mpr ⟨lw_p18, List.forall_mem_cons.mpr ⟨lw_p19, List.forall_mem_cons.mpr ⟨lw_p20, List.forall_mem_cons.mpr ⟨lw_p21, List.forall_mem_cons.mpr ⟨lw_p22, List.forall_mem_cons.mpr ⟨lw_p23, List.forall_mem_cons.mpr ⟨lw_p24, List.forall_mem_cons.mpr ⟨lw_p25, List.forall_mem_cons.mpr ⟨lw_p26, List.forall_mem_cons.mpr ⟨lw_p27, List.forall_mem_cons.mpr ⟨lw_p28, List.forall_mem_cons.mpr ⟨lw_p29, List.forall_mem_cons.mpr ⟨lw_p30, List.forall_mem_cons.mpr ⟨lw_p31, fun _ h => absurd h List.not_mem_nil⟩⟩⟩⟩⟩⟩⟩⟩⟩⟩⟩⟩⟩⟩⟩⟩
theorem lw_p32 : lw_okq (⟨"PepperPolicy", "seek", "(I)I"⟩, 12) := ⟨⟨by decide +kernel, by decide +kernel⟩, (lb_0 (lt_16 (lt_4 lt_h))), (lb_3 (lt_16 (lt_16 (lt_16 (lt_16 (lt_16 (lt_16 (lt_16 (lt_16 (lt_16 (lt_11 lt_h))))))))))), (lb_3 (lt_16 (lt_16 (lt_16 (lt_16 (lt_16 (lt_16 (lt_16 (lt_16 (lt_16 (lt_12 lt_h)))))))))))⟩
theorem lw_p33 : lw_okq (⟨"PepperPolicy$Suspects", "meets", "(LPepperPolicy$Day;I)Z"⟩, 5) := ⟨⟨by decide +kernel, by decide +kernel⟩, (lb_0 (lt_16 (lt_16 (lt_16 (lt_16 (lt_16 (lt_16 (lt_16 (lt_16 (lt_16 (lt_16 (lt_16 (lt_16 (lt_16 (lt_16 (lt_11 lt_h)))))))))))))))), (lb_3 (lt_16 (lt_16 (lt_16 (lt_16 (lt_16 (lt_16 (lt_16 (lt_16 (lt_16 (lt_16 (lt_16 (lt_1 lt_h))))))))))))), (lb_3 (lt_16 (lt_16 (lt_16 (lt_16 (lt_16 (lt_16 (lt_16 (lt_16 (lt_16 (lt_16 (lt_16 (lt_2 lt_h)))))))))))))⟩
theorem lw_p34 : lw_okq (⟨"PepperPolicy$Suspects", "note", "(LPepperPolicy$Day;II)V"⟩, 5) := ⟨⟨by decide +kernel, by decide +kernel⟩, (lb_0 (lt_16 (lt_16 (lt_16 (lt_16 (lt_16 (lt_16 (lt_16 (lt_16 (lt_16 (lt_16 (lt_16 (lt_16 (lt_16 (lt_16 (lt_11 lt_h)))))))))))))))), (lb_3 (lt_16 (lt_16 (lt_16 (lt_16 (lt_16 (lt_16 (lt_16 (lt_16 (lt_16 (lt_16 (lt_16 (lt_6 lt_h))))))))))))), (lb_3 (lt_16 (lt_16 (lt_16 (lt_16 (lt_16 (lt_16 (lt_16 (lt_16 (lt_16 (lt_16 (lt_16 (lt_7 lt_h)))))))))))))⟩
theorem lw_p35 : lw_okq (⟨"PepperPolicy", "lossOf", "(IIII)I"⟩, 12) := ⟨⟨by decide +kernel, by decide +kernel⟩, (lb_0 (lt_16 (lt_4 lt_h))), (lb_3 (lt_16 (lt_16 (lt_16 (lt_16 (lt_16 (lt_16 (lt_16 (lt_16 (lt_16 (lt_16 (lt_16 (lt_16 (lt_16 (lt_9 lt_h))))))))))))))), (lb_3 (lt_16 (lt_16 (lt_16 (lt_16 (lt_16 (lt_16 (lt_16 (lt_16 (lt_16 (lt_16 (lt_16 (lt_16 (lt_16 (lt_10 lt_h)))))))))))))))⟩
theorem lw_p36 : lw_okq (⟨"PepperPolicy", "isPuffMinute", "(I)Z"⟩, 12) := ⟨⟨by decide +kernel, by decide +kernel⟩, (lb_0 (lt_16 (lt_4 lt_h))), (lb_3 (lt_16 (lt_16 (lt_16 (lt_16 (lt_16 (lt_16 (lt_16 (lt_16 (lt_16 (lt_16 (lt_16 (lt_16 (lt_16 (lt_16 (lt_5 lt_h)))))))))))))))), (lb_3 (lt_16 (lt_16 (lt_16 (lt_16 (lt_16 (lt_16 (lt_16 (lt_16 (lt_16 (lt_16 (lt_16 (lt_16 (lt_16 (lt_16 (lt_6 lt_h))))))))))))))))⟩
theorem lw_p37 : lw_okq (⟨"PepperPolicy$Puffs", "weigh", "(II)V"⟩, 5) := ⟨⟨by decide +kernel, by decide +kernel⟩, (lb_1 (lt_16 (lt_5 lt_h))), (lb_3 (lt_16 (lt_16 (lt_16 (lt_16 (lt_16 (lt_16 (lt_16 (lt_16 (lt_16 (lt_16 (lt_16 (lt_16 (lt_16 (lt_16 (lt_14 lt_h)))))))))))))))), (lb_3 (lt_16 (lt_16 (lt_16 (lt_16 (lt_16 (lt_16 (lt_16 (lt_16 (lt_16 (lt_16 (lt_16 (lt_16 (lt_16 (lt_16 (lt_15 lt_h))))))))))))))))⟩
theorem lw_p38 : lw_okq (⟨"PepperPolicy$Puffs", "worth", "(LPepperPolicy$House;III)J"⟩, 5) := ⟨⟨by decide +kernel, by decide +kernel⟩, (lb_1 (lt_16 (lt_5 lt_h))), (lb_4 (lt_7 lt_h)), (lb_4 (lt_8 lt_h))⟩
theorem lw_p39 : lw_okq (⟨"PepperPolicy$Puffs", "lower", "()V"⟩, 5) := ⟨⟨by decide +kernel, by decide +kernel⟩, (lb_1 (lt_16 (lt_5 lt_h))), (lb_4 (lt_14 lt_h)), (lb_4 (lt_15 lt_h))⟩
theorem lw_p40 : lw_okq (⟨"PepperPolicy", "liveDrawn", "(I)I"⟩, 12) := ⟨⟨by decide +kernel, by decide +kernel⟩, (lb_0 (lt_16 (lt_4 lt_h))), (lb_4 (lt_16 (lt_16 (lt_2 lt_h)))), (lb_4 (lt_16 (lt_16 (lt_3 lt_h))))⟩
theorem lw_p41 : lw_okq (⟨"PepperPolicyModel", "advance", "()V"⟩, 46) := ⟨⟨by decide +kernel, by decide +kernel⟩, (lb_4 (lt_16 (lt_16 (lt_16 (lt_16 (lt_16 (lt_16 (lt_16 (lt_2 lt_h))))))))), (lb_5 (lt_16 (lt_16 (lt_14 lt_h)))), (lb_5 (lt_16 (lt_16 (lt_15 lt_h))))⟩
theorem lw_p42 : lw_okq (⟨"PepperPolicyModel", "see", "(I)I"⟩, 46) := ⟨⟨by decide +kernel, by decide +kernel⟩, (lb_4 (lt_16 (lt_16 (lt_16 (lt_16 (lt_16 (lt_16 (lt_16 (lt_2 lt_h))))))))), (lb_5 (lt_16 (lt_16 (lt_16 (lt_2 lt_h))))), (lb_5 (lt_16 (lt_16 (lt_16 (lt_3 lt_h)))))⟩
theorem lw_p43 : lw_okq (⟨"PepperPolicyModel", "good", "()Z"⟩, 46) := ⟨⟨by decide +kernel, by decide +kernel⟩, (lb_4 (lt_16 (lt_16 (lt_16 (lt_16 (lt_16 (lt_16 (lt_16 (lt_2 lt_h))))))))), (lb_5 (lt_16 (lt_16 (lt_16 (lt_12 lt_h))))), (lb_5 (lt_16 (lt_16 (lt_16 (lt_13 lt_h)))))⟩
theorem lw_p44 : lw_okq (⟨"PepperPolicyModel", "readLine", "()V"⟩, 46) := ⟨⟨by decide +kernel, by decide +kernel⟩, (lb_4 (lt_16 (lt_16 (lt_16 (lt_16 (lt_16 (lt_16 (lt_16 (lt_2 lt_h))))))))), (lb_5 (lt_16 (lt_16 (lt_16 (lt_16 lt_h))))), (lb_5 (lt_16 (lt_16 (lt_16 (lt_16 (lt_1 lt_h))))))⟩
theorem lw_p45 : lw_okq (⟨"PepperPolicyModel", "readFirst", "()V"⟩, 46) := ⟨⟨by decide +kernel, by decide +kernel⟩, (lb_4 (lt_16 (lt_16 (lt_16 (lt_16 (lt_16 (lt_16 (lt_16 (lt_2 lt_h))))))))), (lb_5 (lt_16 (lt_16 (lt_16 (lt_16 (lt_4 lt_h)))))), (lb_5 (lt_16 (lt_16 (lt_16 (lt_16 (lt_5 lt_h))))))⟩
theorem lw_p46 : lw_okq (⟨"PepperPolicyModel", "needs", "(Ljava/lang/String;)V"⟩, 46) := ⟨⟨by decide +kernel, by decide +kernel⟩, (lb_4 (lt_16 (lt_16 (lt_16 (lt_16 (lt_16 (lt_16 (lt_16 (lt_2 lt_h))))))))), (lb_5 (lt_16 (lt_16 (lt_16 (lt_16 (lt_9 lt_h)))))), (lb_5 (lt_16 (lt_16 (lt_16 (lt_16 (lt_10 lt_h))))))⟩
theorem lw_p47 : lw_okq (⟨"PepperPolicyModel", "takes", "(Ljava/lang/String;)Z"⟩, 46) := ⟨⟨by decide +kernel, by decide +kernel⟩, (lb_4 (lt_16 (lt_16 (lt_16 (lt_16 (lt_16 (lt_16 (lt_16 (lt_2 lt_h))))))))), (lb_5 (lt_16 (lt_16 (lt_16 (lt_16 (lt_13 lt_h)))))), (lb_5 (lt_16 (lt_16 (lt_16 (lt_16 (lt_14 lt_h))))))⟩
def lw_privs_3 : List (MethodName × Nat) := [(⟨"PepperPolicy", "seek", "(I)I"⟩, 12), (⟨"PepperPolicy$Suspects", "meets", "(LPepperPolicy$Day;I)Z"⟩, 5), (⟨"PepperPolicy$Suspects", "note", "(LPepperPolicy$Day;II)V"⟩, 5), (⟨"PepperPolicy", "lossOf", "(IIII)I"⟩, 12), (⟨"PepperPolicy", "isPuffMinute", "(I)Z"⟩, 12), (⟨"PepperPolicy$Puffs", "weigh", "(II)V"⟩, 5), (⟨"PepperPolicy$Puffs", "worth", "(LPepperPolicy$House;III)J"⟩, 5), (⟨"PepperPolicy$Puffs", "lower", "()V"⟩, 5), (⟨"PepperPolicy", "liveDrawn", "(I)I"⟩, 12), (⟨"PepperPolicyModel", "advance", "()V"⟩, 46), (⟨"PepperPolicyModel", "see", "(I)I"⟩, 46), (⟨"PepperPolicyModel", "good", "()Z"⟩, 46), (⟨"PepperPolicyModel", "readLine", "()V"⟩, 46), (⟨"PepperPolicyModel", "readFirst", "()V"⟩, 46), (⟨"PepperPolicyModel", "needs", "(Ljava/lang/String;)V"⟩, 46), (⟨"PepperPolicyModel", "takes", "(Ljava/lang/String;)Z"⟩, 46)]
theorem lw_r3 : ∀ q ∈ lw_privs_3, lw_okq q := List.forall_mem_cons.mpr ⟨lw_p32, List.forall_mem_cons.mpr ⟨lw_p33, List.forall_mem_cons.mpr ⟨lw_p34, List.forall_mem_cons.mpr ⟨lw_p35, List.forall_mem_cons.mpr ⟨lw_p36, List.forall_mem_cons.mpr ⟨lw_p37, List.forall_mem_cons.mpr ⟨lw_p38, List.forall_mem_cons.mpr ⟨lw_p39, List.forall_mem_cons.mpr ⟨lw_p40, List.forall_mem_cons.mpr ⟨lw_p41, List.forall_mem_cons.mpr ⟨lw_p42, List.forall_mem_cons.mpr ⟨lw_p43, List.forall_mem_cons.mpr ⟨lw_p44, List.forall_mem_cons.mpr ⟨lw_p45, List.forall_mem_cons.mpr ⟨lw_p46, List.forall_mem_cons.mpr ⟨lw_p47, fun _ h => absurd h List.not_mem_nil⟩⟩⟩⟩⟩⟩⟩⟩⟩⟩⟩⟩⟩⟩⟩⟩
theorem lw_p48 : lw_okq (⟨"PepperPolicyModel", "is", "(Ljava/lang/String;)Z"⟩, 46) := ⟨⟨by decide +kernel, by decide +kernel⟩, (lb_4 (lt_16 (lt_16 (lt_16 (lt_16 (lt_16 (lt_16 (lt_16 (lt_2 lt_h))))))))), (lb_5 (lt_16 (lt_16 (lt_16 (lt_16 (lt_16 (lt_1 lt_h))))))), (lb_5 (lt_16 (lt_16 (lt_16 (lt_16 (lt_16 (lt_2 lt_h)))))))⟩
theorem lw_p49 : lw_okq (⟨"PepperPolicyModel", "errs", "(I)V"⟩, 46) := ⟨⟨by decide +kernel, by decide +kernel⟩, (lb_4 (lt_16 (lt_16 (lt_16 (lt_16 (lt_16 (lt_16 (lt_16 (lt_2 lt_h))))))))), (lb_5 (lt_16 (lt_16 (lt_16 (lt_16 (lt_16 (lt_7 lt_h))))))), (lb_5 (lt_16 (lt_16 (lt_16 (lt_16 (lt_16 (lt_8 lt_h)))))))⟩
theorem lw_p50 : lw_okq (⟨"PepperPolicyModel", "told", "(Ljava/lang/String;II)I"⟩, 46) := ⟨⟨by decide +kernel, by decide +kernel⟩, (lb_4 (lt_16 (lt_16 (lt_16 (lt_16 (lt_16 (lt_16 (lt_16 (lt_2 lt_h))))))))), (lb_5 (lt_16 (lt_16 (lt_16 (lt_16 (lt_16 (lt_12 lt_h))))))), (lb_5 (lt_16 (lt_16 (lt_16 (lt_16 (lt_16 (lt_13 lt_h)))))))⟩
theorem lw_p51 : lw_okq (⟨"PepperPolicyModel", "number", "(II)I"⟩, 46) := ⟨⟨by decide +kernel, by decide +kernel⟩, (lb_4 (lt_16 (lt_16 (lt_16 (lt_16 (lt_16 (lt_16 (lt_16 (lt_2 lt_h))))))))), (lb_5 (lt_16 (lt_16 (lt_16 (lt_16 (lt_16 (lt_16 lt_h))))))), (lb_5 (lt_16 (lt_16 (lt_16 (lt_16 (lt_16 (lt_16 (lt_1 lt_h))))))))⟩
theorem lw_p52 : lw_okq (⟨"PepperPolicyModel", "readNext", "()V"⟩, 46) := ⟨⟨by decide +kernel, by decide +kernel⟩, (lb_4 (lt_16 (lt_16 (lt_16 (lt_16 (lt_16 (lt_16 (lt_16 (lt_2 lt_h))))))))), (lb_5 (lt_16 (lt_16 (lt_16 (lt_16 (lt_16 (lt_16 (lt_8 lt_h)))))))), (lb_5 (lt_16 (lt_16 (lt_16 (lt_16 (lt_16 (lt_16 (lt_9 lt_h))))))))⟩
theorem lw_p53 : lw_okq (⟨"PepperPolicyModel", "readNet", "()V"⟩, 46) := ⟨⟨by decide +kernel, by decide +kernel⟩, (lb_4 (lt_16 (lt_16 (lt_16 (lt_16 (lt_16 (lt_16 (lt_16 (lt_2 lt_h))))))))), (lb_5 (lt_16 (lt_16 (lt_16 (lt_16 (lt_16 (lt_16 (lt_16 (lt_2 lt_h))))))))), (lb_5 (lt_16 (lt_16 (lt_16 (lt_16 (lt_16 (lt_16 (lt_16 (lt_3 lt_h)))))))))⟩
theorem lw_p54 : lw_okq (⟨"PepperPolicyModel", "readPolicy", "()V"⟩, 46) := ⟨⟨by decide +kernel, by decide +kernel⟩, (lb_4 (lt_16 (lt_16 (lt_16 (lt_16 (lt_16 (lt_16 (lt_16 (lt_2 lt_h))))))))), (lb_5 (lt_16 (lt_16 (lt_16 (lt_16 (lt_16 (lt_16 (lt_16 (lt_6 lt_h))))))))), (lb_5 (lt_16 (lt_16 (lt_16 (lt_16 (lt_16 (lt_16 (lt_16 (lt_7 lt_h)))))))))⟩
theorem lw_p55 : lw_okq (⟨"PepperPolicyModel", "isPerson", "(J)Z"⟩, 46) := ⟨⟨by decide +kernel, by decide +kernel⟩, (lb_4 (lt_16 (lt_16 (lt_16 (lt_16 (lt_16 (lt_16 (lt_16 (lt_2 lt_h))))))))), (lb_5 (lt_16 (lt_16 (lt_16 (lt_16 (lt_16 (lt_16 (lt_16 (lt_16 (lt_2 lt_h)))))))))), (lb_5 (lt_16 (lt_16 (lt_16 (lt_16 (lt_16 (lt_16 (lt_16 (lt_16 (lt_3 lt_h))))))))))⟩
theorem lw_p56 : lw_okq (⟨"PepperPolicyModel", "isPolicy", "(I)Z"⟩, 46) := ⟨⟨by decide +kernel, by decide +kernel⟩, (lb_4 (lt_16 (lt_16 (lt_16 (lt_16 (lt_16 (lt_16 (lt_16 (lt_2 lt_h))))))))), (lb_5 (lt_16 (lt_16 (lt_16 (lt_16 (lt_16 (lt_16 (lt_16 (lt_16 (lt_10 lt_h)))))))))), (lb_5 (lt_16 (lt_16 (lt_16 (lt_16 (lt_16 (lt_16 (lt_16 (lt_16 (lt_11 lt_h))))))))))⟩
theorem lw_p57 : lw_okq (⟨"PepperPolicyModel", "of", "(II)I"⟩, 46) := ⟨⟨by decide +kernel, by decide +kernel⟩, (lb_4 (lt_16 (lt_16 (lt_16 (lt_16 (lt_16 (lt_16 (lt_16 (lt_2 lt_h))))))))), (lb_5 (lt_16 (lt_16 (lt_16 (lt_16 (lt_16 (lt_16 (lt_16 (lt_16 (lt_15 lt_h)))))))))), (lb_5 (lt_16 (lt_16 (lt_16 (lt_16 (lt_16 (lt_16 (lt_16 (lt_16 (lt_16 lt_h))))))))))⟩
theorem lw_p58 : lw_okq (⟨"PepperPolicyModel", "asItIs", "()V"⟩, 46) := ⟨⟨by decide +kernel, by decide +kernel⟩, (lb_4 (lt_16 (lt_16 (lt_16 (lt_16 (lt_16 (lt_16 (lt_16 (lt_2 lt_h))))))))), (lb_5 (lt_16 (lt_16 (lt_16 (lt_16 (lt_16 (lt_16 (lt_16 (lt_16 (lt_16 (lt_7 lt_h))))))))))), (lb_5 (lt_16 (lt_16 (lt_16 (lt_16 (lt_16 (lt_16 (lt_16 (lt_16 (lt_16 (lt_8 lt_h)))))))))))⟩
theorem lw_p59 : lw_okq (⟨"PepperPolicyModel", "minutes", "()I"⟩, 46) := ⟨⟨by decide +kernel, by decide +kernel⟩, (lb_4 (lt_16 (lt_16 (lt_16 (lt_16 (lt_16 (lt_16 (lt_16 (lt_2 lt_h))))))))), (lb_5 (lt_16 (lt_16 (lt_16 (lt_16 (lt_16 (lt_16 (lt_16 (lt_16 (lt_16 (lt_11 lt_h))))))))))), (lb_5 (lt_16 (lt_16 (lt_16 (lt_16 (lt_16 (lt_16 (lt_16 (lt_16 (lt_16 (lt_12 lt_h)))))))))))⟩
theorem lw_p60 : lw_okq (⟨"PepperPolicyModel", "netsTo", "(II)I"⟩, 46) := ⟨⟨by decide +kernel, by decide +kernel⟩, (lb_4 (lt_16 (lt_16 (lt_16 (lt_16 (lt_16 (lt_16 (lt_16 (lt_2 lt_h))))))))), (lb_5 (lt_16 (lt_16 (lt_16 (lt_16 (lt_16 (lt_16 (lt_16 (lt_16 (lt_16 (lt_15 lt_h))))))))))), (lb_5 (lt_16 (lt_16 (lt_16 (lt_16 (lt_16 (lt_16 (lt_16 (lt_16 (lt_16 (lt_16 lt_h)))))))))))⟩
theorem lw_p61 : lw_okq (⟨"PepperPolicyModel", "asksMinute", "(I)Z"⟩, 46) := ⟨⟨by decide +kernel, by decide +kernel⟩, (lb_4 (lt_16 (lt_16 (lt_16 (lt_16 (lt_16 (lt_16 (lt_16 (lt_2 lt_h))))))))), (lb_5 (lt_16 (lt_16 (lt_16 (lt_16 (lt_16 (lt_16 (lt_16 (lt_16 (lt_16 (lt_16 (lt_10 lt_h)))))))))))), (lb_5 (lt_16 (lt_16 (lt_16 (lt_16 (lt_16 (lt_16 (lt_16 (lt_16 (lt_16 (lt_16 (lt_11 lt_h))))))))))))⟩
theorem lw_p62 : lw_okq (⟨"PepperPolicyModel", "asksHouse", "()Z"⟩, 46) := ⟨⟨by decide +kernel, by decide +kernel⟩, (lb_4 (lt_16 (lt_16 (lt_16 (lt_16 (lt_16 (lt_16 (lt_16 (lt_2 lt_h))))))))), (lb_5 (lt_16 (lt_16 (lt_16 (lt_16 (lt_16 (lt_16 (lt_16 (lt_16 (lt_16 (lt_16 (lt_14 lt_h)))))))))))), (lb_5 (lt_16 (lt_16 (lt_16 (lt_16 (lt_16 (lt_16 (lt_16 (lt_16 (lt_16 (lt_16 (lt_15 lt_h))))))))))))⟩
theorem lw_p63 : lw_okq (⟨"PepperPolicyModel", "goAll", "()V"⟩, 46) := ⟨⟨by decide +kernel, by decide +kernel⟩, (lb_4 (lt_16 (lt_16 (lt_16 (lt_16 (lt_16 (lt_16 (lt_16 (lt_2 lt_h))))))))), (lb_5 (lt_16 (lt_16 (lt_16 (lt_16 (lt_16 (lt_16 (lt_16 (lt_16 (lt_16 (lt_16 (lt_16 (lt_2 lt_h))))))))))))), (lb_5 (lt_16 (lt_16 (lt_16 (lt_16 (lt_16 (lt_16 (lt_16 (lt_16 (lt_16 (lt_16 (lt_16 (lt_3 lt_h)))))))))))))⟩
def lw_privs_4 : List (MethodName × Nat) := [(⟨"PepperPolicyModel", "is", "(Ljava/lang/String;)Z"⟩, 46), (⟨"PepperPolicyModel", "errs", "(I)V"⟩, 46), (⟨"PepperPolicyModel", "told", "(Ljava/lang/String;II)I"⟩, 46), (⟨"PepperPolicyModel", "number", "(II)I"⟩, 46), (⟨"PepperPolicyModel", "readNext", "()V"⟩, 46), (⟨"PepperPolicyModel", "readNet", "()V"⟩, 46), (⟨"PepperPolicyModel", "readPolicy", "()V"⟩, 46), (⟨"PepperPolicyModel", "isPerson", "(J)Z"⟩, 46), (⟨"PepperPolicyModel", "isPolicy", "(I)Z"⟩, 46), (⟨"PepperPolicyModel", "of", "(II)I"⟩, 46), (⟨"PepperPolicyModel", "asItIs", "()V"⟩, 46), (⟨"PepperPolicyModel", "minutes", "()I"⟩, 46), (⟨"PepperPolicyModel", "netsTo", "(II)I"⟩, 46), (⟨"PepperPolicyModel", "asksMinute", "(I)Z"⟩, 46), (⟨"PepperPolicyModel", "asksHouse", "()Z"⟩, 46), (⟨"PepperPolicyModel", "goAll", "()V"⟩, 46)]
theorem lw_r4 : ∀ q ∈ lw_privs_4, lw_okq q := List.forall_mem_cons.mpr ⟨lw_p48, List.forall_mem_cons.mpr ⟨lw_p49, List.forall_mem_cons.mpr ⟨lw_p50, List.forall_mem_cons.mpr ⟨lw_p51, List.forall_mem_cons.mpr ⟨lw_p52, List.forall_mem_cons.mpr ⟨lw_p53, List.forall_mem_cons.mpr ⟨lw_p54, List.forall_mem_cons.mpr ⟨lw_p55, List.forall_mem_cons.mpr ⟨lw_p56, List.forall_mem_cons.mpr ⟨lw_p57, List.forall_mem_cons.mpr ⟨lw_p58, List.forall_mem_cons.mpr ⟨lw_p59, List.forall_mem_cons.mpr ⟨lw_p60, List.forall_mem_cons.mpr ⟨lw_p61, List.forall_mem_cons.mpr ⟨lw_p62, List.forall_mem_cons.mpr ⟨lw_p63, fun _ h => absurd h List.not_mem_nil⟩⟩⟩⟩⟩⟩⟩⟩⟩⟩⟩⟩⟩⟩⟩⟩
theorem lw_p64 : lw_okq (⟨"PepperPolicyModel", "goMinute", "(I)V"⟩, 46) := ⟨⟨by decide +kernel, by decide +kernel⟩, (lb_4 (lt_16 (lt_16 (lt_16 (lt_16 (lt_16 (lt_16 (lt_16 (lt_2 lt_h))))))))), (lb_5 (lt_16 (lt_16 (lt_16 (lt_16 (lt_16 (lt_16 (lt_16 (lt_16 (lt_16 (lt_16 (lt_16 (lt_6 lt_h))))))))))))), (lb_5 (lt_16 (lt_16 (lt_16 (lt_16 (lt_16 (lt_16 (lt_16 (lt_16 (lt_16 (lt_16 (lt_16 (lt_7 lt_h)))))))))))))⟩
theorem lw_p65 : lw_okq (⟨"PepperPolicyModel", "isHouse", "()Z"⟩, 46) := ⟨⟨by decide +kernel, by decide +kernel⟩, (lb_4 (lt_16 (lt_16 (lt_16 (lt_16 (lt_16 (lt_16 (lt_16 (lt_2 lt_h))))))))), (lb_5 (lt_16 (lt_16 (lt_16 (lt_16 (lt_16 (lt_16 (lt_16 (lt_16 (lt_16 (lt_16 (lt_16 (lt_10 lt_h))))))))))))), (lb_5 (lt_16 (lt_16 (lt_16 (lt_16 (lt_16 (lt_16 (lt_16 (lt_16 (lt_16 (lt_16 (lt_16 (lt_11 lt_h)))))))))))))⟩
theorem lw_p66 : lw_okq (⟨"PepperPolicyModel", "isMinute", "(J)Z"⟩, 46) := ⟨⟨by decide +kernel, by decide +kernel⟩, (lb_4 (lt_16 (lt_16 (lt_16 (lt_16 (lt_16 (lt_16 (lt_16 (lt_2 lt_h))))))))), (lb_5 (lt_16 (lt_16 (lt_16 (lt_16 (lt_16 (lt_16 (lt_16 (lt_16 (lt_16 (lt_16 (lt_16 (lt_14 lt_h))))))))))))), (lb_5 (lt_16 (lt_16 (lt_16 (lt_16 (lt_16 (lt_16 (lt_16 (lt_16 (lt_16 (lt_16 (lt_16 (lt_15 lt_h)))))))))))))⟩
theorem lw_p67 : lw_okq (⟨"PepperPolicyModel", "asksPerson", "(I)Z"⟩, 46) := ⟨⟨by decide +kernel, by decide +kernel⟩, (lb_4 (lt_16 (lt_16 (lt_16 (lt_16 (lt_16 (lt_16 (lt_16 (lt_2 lt_h))))))))), (lb_5 (lt_16 (lt_16 (lt_16 (lt_16 (lt_16 (lt_16 (lt_16 (lt_16 (lt_16 (lt_16 (lt_16 (lt_16 (lt_6 lt_h)))))))))))))), (lb_5 (lt_16 (lt_16 (lt_16 (lt_16 (lt_16 (lt_16 (lt_16 (lt_16 (lt_16 (lt_16 (lt_16 (lt_16 (lt_7 lt_h))))))))))))))⟩
theorem lw_p68 : lw_okq (⟨"PepperPolicyModel", "allSneezes", "()I"⟩, 46) := ⟨⟨by decide +kernel, by decide +kernel⟩, (lb_4 (lt_16 (lt_16 (lt_16 (lt_16 (lt_16 (lt_16 (lt_16 (lt_2 lt_h))))))))), (lb_5 (lt_16 (lt_16 (lt_16 (lt_16 (lt_16 (lt_16 (lt_16 (lt_16 (lt_16 (lt_16 (lt_16 (lt_16 (lt_16 (lt_5 lt_h))))))))))))))), (lb_5 (lt_16 (lt_16 (lt_16 (lt_16 (lt_16 (lt_16 (lt_16 (lt_16 (lt_16 (lt_16 (lt_16 (lt_16 (lt_16 (lt_6 lt_h)))))))))))))))⟩
theorem lw_p69 : lw_okq (⟨"PepperPolicyModel", "quietBy", "(IIII)I"⟩, 46) := ⟨⟨by decide +kernel, by decide +kernel⟩, (lb_4 (lt_16 (lt_16 (lt_16 (lt_16 (lt_16 (lt_16 (lt_16 (lt_2 lt_h))))))))), (lb_6 (lt_16 (lt_16 (lt_5 lt_h)))), (lb_6 (lt_16 (lt_16 (lt_6 lt_h))))⟩
theorem lw_p70 : lw_okq (⟨"PepperPolicyModel", "asksPolicy", "(I)Z"⟩, 46) := ⟨⟨by decide +kernel, by decide +kernel⟩, (lb_4 (lt_16 (lt_16 (lt_16 (lt_16 (lt_16 (lt_16 (lt_16 (lt_2 lt_h))))))))), (lb_6 (lt_16 (lt_16 (lt_16 (lt_5 lt_h))))), (lb_6 (lt_16 (lt_16 (lt_16 (lt_6 lt_h)))))⟩
theorem lw_p71 : lw_okq (⟨"PepperPolicyModel", "claimOf", "(I)I"⟩, 46) := ⟨⟨by decide +kernel, by decide +kernel⟩, (lb_4 (lt_16 (lt_16 (lt_16 (lt_16 (lt_16 (lt_16 (lt_16 (lt_2 lt_h))))))))), (lb_6 (lt_16 (lt_16 (lt_16 (lt_9 lt_h))))), (lb_6 (lt_16 (lt_16 (lt_16 (lt_10 lt_h)))))⟩
theorem lw_p72 : lw_okq (⟨"PepperPolicyModel", "claimOf", "(IIZ)I"⟩, 46) := ⟨⟨by decide +kernel, by decide +kernel⟩, (lb_4 (lt_16 (lt_16 (lt_16 (lt_16 (lt_16 (lt_16 (lt_16 (lt_2 lt_h))))))))), (lb_6 (lt_16 (lt_16 (lt_16 (lt_13 lt_h))))), (lb_6 (lt_16 (lt_16 (lt_16 (lt_14 lt_h)))))⟩
theorem lw_p73 : lw_okq (⟨"PepperPolicyModel", "windowOf", "(I)I"⟩, 46) := ⟨⟨by decide +kernel, by decide +kernel⟩, (lb_4 (lt_16 (lt_16 (lt_16 (lt_16 (lt_16 (lt_16 (lt_16 (lt_2 lt_h))))))))), (lb_6 (lt_16 (lt_16 (lt_16 (lt_16 (lt_1 lt_h)))))), (lb_6 (lt_16 (lt_16 (lt_16 (lt_16 (lt_2 lt_h))))))⟩
theorem lw_p74 : lw_okq (⟨"PepperPolicyModel", "ahead", "(I)I"⟩, 46) := ⟨⟨by decide +kernel, by decide +kernel⟩, (lb_4 (lt_16 (lt_16 (lt_16 (lt_16 (lt_16 (lt_16 (lt_16 (lt_2 lt_h))))))))), (lb_6 (lt_16 (lt_16 (lt_16 (lt_16 (lt_5 lt_h)))))), (lb_6 (lt_16 (lt_16 (lt_16 (lt_16 (lt_6 lt_h))))))⟩
theorem lw_p75 : lw_okq (⟨"PepperPolicyModel", "layPaid", "()V"⟩, 46) := ⟨⟨by decide +kernel, by decide +kernel⟩, (lb_4 (lt_16 (lt_16 (lt_16 (lt_16 (lt_16 (lt_16 (lt_16 (lt_2 lt_h))))))))), (lb_6 (lt_16 (lt_16 (lt_16 (lt_16 (lt_16 (lt_6 lt_h))))))), (lb_6 (lt_16 (lt_16 (lt_16 (lt_16 (lt_16 (lt_7 lt_h)))))))⟩
theorem lw_p76 : lw_okq (⟨"PepperPolicyModel", "moneyAt", "(I)I"⟩, 46) := ⟨⟨by decide +kernel, by decide +kernel⟩, (lb_4 (lt_16 (lt_16 (lt_16 (lt_16 (lt_16 (lt_16 (lt_16 (lt_2 lt_h))))))))), (lb_6 (lt_16 (lt_16 (lt_16 (lt_16 (lt_16 (lt_10 lt_h))))))), (lb_6 (lt_16 (lt_16 (lt_16 (lt_16 (lt_16 (lt_11 lt_h)))))))⟩
theorem lw_p77 : lw_okq (⟨"PepperPolicyModel", "ruinOf", "()I"⟩, 46) := ⟨⟨by decide +kernel, by decide +kernel⟩, (lb_4 (lt_16 (lt_16 (lt_16 (lt_16 (lt_16 (lt_16 (lt_16 (lt_2 lt_h))))))))), (lb_6 (lt_16 (lt_16 (lt_16 (lt_16 (lt_16 (lt_16 (lt_2 lt_h)))))))), (lb_6 (lt_16 (lt_16 (lt_16 (lt_16 (lt_16 (lt_16 (lt_3 lt_h))))))))⟩
theorem lw_p78 : lw_okq (⟨"PepperPolicyModel", "coveredOf", "(I)I"⟩, 46) := ⟨⟨by decide +kernel, by decide +kernel⟩, (lb_4 (lt_16 (lt_16 (lt_16 (lt_16 (lt_16 (lt_16 (lt_16 (lt_2 lt_h))))))))), (lb_6 (lt_16 (lt_16 (lt_16 (lt_16 (lt_16 (lt_16 (lt_10 lt_h)))))))), (lb_6 (lt_16 (lt_16 (lt_16 (lt_16 (lt_16 (lt_16 (lt_11 lt_h))))))))⟩
theorem lw_p79 : lw_okq (⟨"PepperPolicyModel", "byLaw", "(I)I"⟩, 46) := ⟨⟨by decide +kernel, by decide +kernel⟩, (lb_4 (lt_16 (lt_16 (lt_16 (lt_16 (lt_16 (lt_16 (lt_16 (lt_2 lt_h))))))))), (lb_6 (lt_16 (lt_16 (lt_16 (lt_16 (lt_16 (lt_16 (lt_16 (lt_16 (lt_14 lt_h)))))))))), (lb_6 (lt_16 (lt_16 (lt_16 (lt_16 (lt_16 (lt_16 (lt_16 (lt_16 (lt_15 lt_h))))))))))⟩
def lw_privs_5 : List (MethodName × Nat) := [(⟨"PepperPolicyModel", "goMinute", "(I)V"⟩, 46), (⟨"PepperPolicyModel", "isHouse", "()Z"⟩, 46), (⟨"PepperPolicyModel", "isMinute", "(J)Z"⟩, 46), (⟨"PepperPolicyModel", "asksPerson", "(I)Z"⟩, 46), (⟨"PepperPolicyModel", "allSneezes", "()I"⟩, 46), (⟨"PepperPolicyModel", "quietBy", "(IIII)I"⟩, 46), (⟨"PepperPolicyModel", "asksPolicy", "(I)Z"⟩, 46), (⟨"PepperPolicyModel", "claimOf", "(I)I"⟩, 46), (⟨"PepperPolicyModel", "claimOf", "(IIZ)I"⟩, 46), (⟨"PepperPolicyModel", "windowOf", "(I)I"⟩, 46), (⟨"PepperPolicyModel", "ahead", "(I)I"⟩, 46), (⟨"PepperPolicyModel", "layPaid", "()V"⟩, 46), (⟨"PepperPolicyModel", "moneyAt", "(I)I"⟩, 46), (⟨"PepperPolicyModel", "ruinOf", "()I"⟩, 46), (⟨"PepperPolicyModel", "coveredOf", "(I)I"⟩, 46), (⟨"PepperPolicyModel", "byLaw", "(I)I"⟩, 46)]
theorem lw_r5 : ∀ q ∈ lw_privs_5, lw_okq q := List.forall_mem_cons.mpr ⟨lw_p64, List.forall_mem_cons.mpr ⟨lw_p65, List.forall_mem_cons.mpr ⟨lw_p66, List.forall_mem_cons.mpr ⟨lw_p67, List.forall_mem_cons.mpr ⟨lw_p68, List.forall_mem_cons.mpr ⟨lw_p69, List.forall_mem_cons.mpr ⟨lw_p70, List.forall_mem_cons.mpr ⟨lw_p71, List.forall_mem_cons.mpr ⟨lw_p72, List.forall_mem_cons.mpr ⟨lw_p73, List.forall_mem_cons.mpr ⟨lw_p74, List.forall_mem_cons.mpr ⟨lw_p75, List.forall_mem_cons.mpr ⟨lw_p76, List.forall_mem_cons.mpr ⟨lw_p77, List.forall_mem_cons.mpr ⟨lw_p78, List.forall_mem_cons.mpr ⟨lw_p79, fun _ h => absurd h List.not_mem_nil⟩⟩⟩⟩⟩⟩⟩⟩⟩⟩⟩⟩⟩⟩⟩⟩
theorem lw_p80 : lw_okq (⟨"PepperPolicyModel", "takesBy", "(III)I"⟩, 46) := ⟨⟨by decide +kernel, by decide +kernel⟩, (lb_4 (lt_16 (lt_16 (lt_16 (lt_16 (lt_16 (lt_16 (lt_16 (lt_2 lt_h))))))))), (lb_6 (lt_16 (lt_16 (lt_16 (lt_16 (lt_16 (lt_16 (lt_16 (lt_16 (lt_16 (lt_10 lt_h))))))))))), (lb_6 (lt_16 (lt_16 (lt_16 (lt_16 (lt_16 (lt_16 (lt_16 (lt_16 (lt_16 (lt_11 lt_h)))))))))))⟩
theorem lw_p81 : lw_okq (⟨"PepperPolicyModel", "isTaken", "(II)Z"⟩, 46) := ⟨⟨by decide +kernel, by decide +kernel⟩, (lb_4 (lt_16 (lt_16 (lt_16 (lt_16 (lt_16 (lt_16 (lt_16 (lt_2 lt_h))))))))), (lb_6 (lt_16 (lt_16 (lt_16 (lt_16 (lt_16 (lt_16 (lt_16 (lt_16 (lt_16 (lt_16 (lt_6 lt_h)))))))))))), (lb_6 (lt_16 (lt_16 (lt_16 (lt_16 (lt_16 (lt_16 (lt_16 (lt_16 (lt_16 (lt_16 (lt_7 lt_h))))))))))))⟩
theorem lw_p82 : lw_okq (⟨"PepperPolicyModel", "layHolds", "(I)Z"⟩, 46) := ⟨⟨by decide +kernel, by decide +kernel⟩, (lb_4 (lt_16 (lt_16 (lt_16 (lt_16 (lt_16 (lt_16 (lt_16 (lt_2 lt_h))))))))), (lb_6 (lt_16 (lt_16 (lt_16 (lt_16 (lt_16 (lt_16 (lt_16 (lt_16 (lt_16 (lt_16 (lt_14 lt_h)))))))))))), (lb_6 (lt_16 (lt_16 (lt_16 (lt_16 (lt_16 (lt_16 (lt_16 (lt_16 (lt_16 (lt_16 (lt_15 lt_h))))))))))))⟩
theorem lw_p83 : lw_okq (⟨"PepperPolicyModel", "layHold", "(IIII)V"⟩, 46) := ⟨⟨by decide +kernel, by decide +kernel⟩, (lb_4 (lt_16 (lt_16 (lt_16 (lt_16 (lt_16 (lt_16 (lt_16 (lt_2 lt_h))))))))), (lb_6 (lt_16 (lt_16 (lt_16 (lt_16 (lt_16 (lt_16 (lt_16 (lt_16 (lt_16 (lt_16 (lt_16 (lt_2 lt_h))))))))))))), (lb_6 (lt_16 (lt_16 (lt_16 (lt_16 (lt_16 (lt_16 (lt_16 (lt_16 (lt_16 (lt_16 (lt_16 (lt_3 lt_h)))))))))))))⟩
theorem lw_p84 : lw_okq (⟨"PepperPolicyModel", "tickleSince", "(III)I"⟩, 46) := ⟨⟨by decide +kernel, by decide +kernel⟩, (lb_4 (lt_16 (lt_16 (lt_16 (lt_16 (lt_16 (lt_16 (lt_16 (lt_2 lt_h))))))))), (lb_6 (lt_16 (lt_16 (lt_16 (lt_16 (lt_16 (lt_16 (lt_16 (lt_16 (lt_16 (lt_16 (lt_16 (lt_6 lt_h))))))))))))), (lb_6 (lt_16 (lt_16 (lt_16 (lt_16 (lt_16 (lt_16 (lt_16 (lt_16 (lt_16 (lt_16 (lt_16 (lt_7 lt_h)))))))))))))⟩
theorem lw_p85 : lw_okq (⟨"PepperPolicyModel", "fraudsOf", "(I)I"⟩, 46) := ⟨⟨by decide +kernel, by decide +kernel⟩, (lb_4 (lt_16 (lt_16 (lt_16 (lt_16 (lt_16 (lt_16 (lt_16 (lt_2 lt_h))))))))), (lb_6 (lt_16 (lt_16 (lt_16 (lt_16 (lt_16 (lt_16 (lt_16 (lt_16 (lt_16 (lt_16 (lt_16 (lt_16 (lt_2 lt_h)))))))))))))), (lb_6 (lt_16 (lt_16 (lt_16 (lt_16 (lt_16 (lt_16 (lt_16 (lt_16 (lt_16 (lt_16 (lt_16 (lt_16 (lt_3 lt_h))))))))))))))⟩
theorem lw_p86 : lw_okq (⟨"PepperPolicyModel", "layPairs", "(I)I"⟩, 46) := ⟨⟨by decide +kernel, by decide +kernel⟩, (lb_4 (lt_16 (lt_16 (lt_16 (lt_16 (lt_16 (lt_16 (lt_16 (lt_2 lt_h))))))))), (lb_6 (lt_16 (lt_16 (lt_16 (lt_16 (lt_16 (lt_16 (lt_16 (lt_16 (lt_16 (lt_16 (lt_16 (lt_16 (lt_14 lt_h)))))))))))))), (lb_6 (lt_16 (lt_16 (lt_16 (lt_16 (lt_16 (lt_16 (lt_16 (lt_16 (lt_16 (lt_16 (lt_16 (lt_16 (lt_15 lt_h))))))))))))))⟩
theorem lw_p87 : lw_okq (⟨"PepperPolicyModel", "numberAt", "(II)J"⟩, 46) := ⟨⟨by decide +kernel, by decide +kernel⟩, (lb_4 (lt_16 (lt_16 (lt_16 (lt_16 (lt_16 (lt_16 (lt_16 (lt_2 lt_h))))))))), (lb_6 (lt_16 (lt_16 (lt_16 (lt_16 (lt_16 (lt_16 (lt_16 (lt_16 (lt_16 (lt_16 (lt_16 (lt_16 (lt_16 (lt_5 lt_h))))))))))))))), (lb_6 (lt_16 (lt_16 (lt_16 (lt_16 (lt_16 (lt_16 (lt_16 (lt_16 (lt_16 (lt_16 (lt_16 (lt_16 (lt_16 (lt_6 lt_h)))))))))))))))⟩
theorem lw_p88 : lw_okq (⟨"PepperPolicyModel", "askOf", "()I"⟩, 46) := ⟨⟨by decide +kernel, by decide +kernel⟩, (lb_4 (lt_16 (lt_16 (lt_16 (lt_16 (lt_16 (lt_16 (lt_16 (lt_2 lt_h))))))))), (lb_6 (lt_16 (lt_16 (lt_16 (lt_16 (lt_16 (lt_16 (lt_16 (lt_16 (lt_16 (lt_16 (lt_16 (lt_16 (lt_16 (lt_16 (lt_5 lt_h)))))))))))))))), (lb_6 (lt_16 (lt_16 (lt_16 (lt_16 (lt_16 (lt_16 (lt_16 (lt_16 (lt_16 (lt_16 (lt_16 (lt_16 (lt_16 (lt_16 (lt_6 lt_h))))))))))))))))⟩
theorem lw_p89 : lw_okq (⟨"PepperPolicyModel", "areTwo", "(II)Z"⟩, 46) := ⟨⟨by decide +kernel, by decide +kernel⟩, (lb_4 (lt_16 (lt_16 (lt_16 (lt_16 (lt_16 (lt_16 (lt_16 (lt_2 lt_h))))))))), (lb_7 (lt_1 lt_h)), (lb_7 (lt_2 lt_h))⟩
theorem lw_p90 : lw_okq (⟨"PepperPolicyModel", "losesBy", "(IIIII)I"⟩, 46) := ⟨⟨by decide +kernel, by decide +kernel⟩, (lb_4 (lt_16 (lt_16 (lt_16 (lt_16 (lt_16 (lt_16 (lt_16 (lt_2 lt_h))))))))), (lb_7 (lt_5 lt_h)), (lb_7 (lt_6 lt_h))⟩
theorem lw_p91 : lw_okq (⟨"PepperPolicyModel", "allWithout", "(I)I"⟩, 46) := ⟨⟨by decide +kernel, by decide +kernel⟩, (lb_4 (lt_16 (lt_16 (lt_16 (lt_16 (lt_16 (lt_16 (lt_16 (lt_2 lt_h))))))))), (lb_7 (lt_16 (lt_1 lt_h))), (lb_7 (lt_16 (lt_2 lt_h)))⟩
theorem lw_p92 : lw_okq (⟨"PepperPolicyModel", "isPuffs", "(II)Z"⟩, 46) := ⟨⟨by decide +kernel, by decide +kernel⟩, (lb_4 (lt_16 (lt_16 (lt_16 (lt_16 (lt_16 (lt_16 (lt_16 (lt_2 lt_h))))))))), (lb_7 (lt_16 (lt_13 lt_h))), (lb_7 (lt_16 (lt_14 lt_h)))⟩
theorem lw_p93 : lw_okq (⟨"PepperPolicyModel", "layPuffs", "(III)V"⟩, 46) := ⟨⟨by decide +kernel, by decide +kernel⟩, (lb_4 (lt_16 (lt_16 (lt_16 (lt_16 (lt_16 (lt_16 (lt_16 (lt_2 lt_h))))))))), (lb_7 (lt_16 (lt_16 (lt_3 lt_h)))), (lb_7 (lt_16 (lt_16 (lt_4 lt_h))))⟩
theorem lw_p94 : lw_okq (⟨"PepperPolicyModel", "keepAct", "(I)I"⟩, 46) := ⟨⟨by decide +kernel, by decide +kernel⟩, (lb_4 (lt_16 (lt_16 (lt_16 (lt_16 (lt_16 (lt_16 (lt_16 (lt_2 lt_h))))))))), (lb_7 (lt_16 (lt_16 (lt_16 (lt_9 lt_h))))), (lb_7 (lt_16 (lt_16 (lt_16 (lt_10 lt_h)))))⟩
theorem lw_p95 : lw_okq (⟨"PepperPolicyModel", "goDrawn", "(J)I"⟩, 46) := ⟨⟨by decide +kernel, by decide +kernel⟩, (lb_4 (lt_16 (lt_16 (lt_16 (lt_16 (lt_16 (lt_16 (lt_16 (lt_2 lt_h))))))))), (lb_7 (lt_16 (lt_16 (lt_16 (lt_16 (lt_16 (lt_1 lt_h))))))), (lb_7 (lt_16 (lt_16 (lt_16 (lt_16 (lt_16 (lt_2 lt_h)))))))⟩
def lw_privs_6 : List (MethodName × Nat) := [(⟨"PepperPolicyModel", "takesBy", "(III)I"⟩, 46), (⟨"PepperPolicyModel", "isTaken", "(II)Z"⟩, 46), (⟨"PepperPolicyModel", "layHolds", "(I)Z"⟩, 46), (⟨"PepperPolicyModel", "layHold", "(IIII)V"⟩, 46), (⟨"PepperPolicyModel", "tickleSince", "(III)I"⟩, 46), (⟨"PepperPolicyModel", "fraudsOf", "(I)I"⟩, 46), (⟨"PepperPolicyModel", "layPairs", "(I)I"⟩, 46), (⟨"PepperPolicyModel", "numberAt", "(II)J"⟩, 46), (⟨"PepperPolicyModel", "askOf", "()I"⟩, 46), (⟨"PepperPolicyModel", "areTwo", "(II)Z"⟩, 46), (⟨"PepperPolicyModel", "losesBy", "(IIIII)I"⟩, 46), (⟨"PepperPolicyModel", "allWithout", "(I)I"⟩, 46), (⟨"PepperPolicyModel", "isPuffs", "(II)Z"⟩, 46), (⟨"PepperPolicyModel", "layPuffs", "(III)V"⟩, 46), (⟨"PepperPolicyModel", "keepAct", "(I)I"⟩, 46), (⟨"PepperPolicyModel", "goDrawn", "(J)I"⟩, 46)]
theorem lw_r6 : ∀ q ∈ lw_privs_6, lw_okq q := List.forall_mem_cons.mpr ⟨lw_p80, List.forall_mem_cons.mpr ⟨lw_p81, List.forall_mem_cons.mpr ⟨lw_p82, List.forall_mem_cons.mpr ⟨lw_p83, List.forall_mem_cons.mpr ⟨lw_p84, List.forall_mem_cons.mpr ⟨lw_p85, List.forall_mem_cons.mpr ⟨lw_p86, List.forall_mem_cons.mpr ⟨lw_p87, List.forall_mem_cons.mpr ⟨lw_p88, List.forall_mem_cons.mpr ⟨lw_p89, List.forall_mem_cons.mpr ⟨lw_p90, List.forall_mem_cons.mpr ⟨lw_p91, List.forall_mem_cons.mpr ⟨lw_p92, List.forall_mem_cons.mpr ⟨lw_p93, List.forall_mem_cons.mpr ⟨lw_p94, List.forall_mem_cons.mpr ⟨lw_p95, fun _ h => absurd h List.not_mem_nil⟩⟩⟩⟩⟩⟩⟩⟩⟩⟩⟩⟩⟩⟩⟩⟩
def lw_privs : List (MethodName × Nat) := lw_privs_1 ++ (lw_privs_2 ++ (lw_privs_3 ++ (lw_privs_4 ++ (lw_privs_5 ++ (lw_privs_6)))))
def lw_tbl : List Cond := k2_sels lw_privs ++ tables_1
theorem lw_privs_ok : ∀ q ∈ lw_privs, lw_okq q := by
  show ∀ q ∈ lw_privs_1 ++ (lw_privs_2 ++ (lw_privs_3 ++ (lw_privs_4 ++ (lw_privs_5 ++ (lw_privs_6))))), lw_okq q
  exact List.forall_mem_append.mpr ⟨lw_r1, List.forall_mem_append.mpr ⟨lw_r2, List.forall_mem_append.mpr ⟨lw_r3, List.forall_mem_append.mpr ⟨lw_r4, List.forall_mem_append.mpr ⟨lw_r5, lw_r6⟩⟩⟩⟩⟩
def RX0 : String := "PepperPolicy$Day"
def TX0 : u_T := fun k => match k with
  | 0 => ("PepperPolicy$Day", "minutes", "I", false)
  | 1 => ("PepperPolicy$Day", "persons", "I", false)
  | 2 => ("PepperPolicy$Day", "netCount", "I", false)
  | 3 => ("PepperPolicy$Day", "without", "I", false)
  | 4 => ("PepperPolicy$Day", "dusts", "[I", true)
  | 5 => ("PepperPolicy$Day", "keen", "[I", true)
  | 6 => ("PepperPolicy$Day", "limits", "[I", true)
  | 7 => ("PepperPolicy$Day", "held", "[I", true)
  | 8 => ("PepperPolicy$Day", "snuffed", "[I", true)
  | 9 => ("PepperPolicy$Day", "nets", "[I", true)
  | 10 => ("PepperPolicy$Day", "tickles", "[I", true)
  | 11 => ("PepperPolicy$Day", "came", "[I", true)
  | 12 => ("PepperPolicy$Day", "sneezers", "[I", true)
  | _ => ("PepperPolicy$Day", "sneezed", "[I", true)
def tyX0 : Nat → FieldType := fun k => match k with
  | 0 => .int
  | 1 => .int
  | 2 => .int
  | 3 => .int
  | 4 => .array .int
  | 5 => .array .int
  | 6 => .array .int
  | 7 => .array .int
  | 8 => .array .int
  | 9 => .array .int
  | 10 => .array .int
  | 11 => .array .int
  | 12 => .array .int
  | _ => .array .int
abbrev wsX00 : List Cond := u_ws RX0 TX0 14
theorem nmX0 : ∀ a, a < 14 → ∀ b, b < 14 → a ≠ b → (TX0 a).2.1 ≠ (TX0 b).2.1 := by decide +kernel
theorem tyX0_ok : ∀ k, k < 14 → parseFieldDescriptor (TX0 k).2.2.1 = some (tyX0 k) := by decide +kernel
abbrev cX0_init : ByteArray := prog_2_method_1_code
def yX0_init : MethodName := ⟨RX0, "<init>", "()V"⟩
abbrev cX0_tellFrom : ByteArray := prog_2_method_2_code
def yX0_tellFrom : MethodName := ⟨RX0, "tellFrom", "(LPepperPolicy$House;)V"⟩
abbrev cX0_copyFrom : ByteArray := prog_2_method_3_code
def yX0_copyFrom : MethodName := ⟨RX0, "copyFrom", "(LPepperPolicy$Day;)V"⟩
abbrev cX0_liveWhole : ByteArray := prog_2_method_4_code
def yX0_liveWhole : MethodName := ⟨RX0, "liveWhole", "()V"⟩
abbrev cX0_live : ByteArray := prog_2_method_5_code
def yX0_live : MethodName := ⟨RX0, "live", "(II)V"⟩
abbrev cX0_tickleByNets : ByteArray := prog_2_method_6_code
def yX0_tickleByNets : MethodName := ⟨RX0, "tickleByNets", "(I)V"⟩
abbrev cX0_liveMinute : ByteArray := prog_2_method_7_code
def yX0_liveMinute : MethodName := ⟨RX0, "liveMinute", "(I)V"⟩
abbrev cX0_comesTo : ByteArray := prog_2_method_8_code
def yX0_comesTo : MethodName := ⟨RX0, "comesTo", "(II)I"⟩
abbrev cX0_cameAt : ByteArray := prog_2_method_9_code
def yX0_cameAt : MethodName := ⟨RX0, "cameAt", "(II)I"⟩
abbrev cX0_tickleAt : ByteArray := prog_2_method_10_code
def yX0_tickleAt : MethodName := ⟨RX0, "tickleAt", "(II)I"⟩
abbrev cX0_total : ByteArray := prog_2_method_11_code
def yX0_total : MethodName := ⟨RX0, "total", "()I"⟩
def RX1 : String := "PepperPolicy$Holding"
def TX1 : u_T := fun k => match k with
  | 0 => ("PepperPolicy$Holding", "fresh", "[J", true)
  | _ => ("PepperPolicy$Holding", "best", "J", false)
def tyX1 : Nat → FieldType := fun k => match k with
  | 0 => .array .long
  | _ => .long
abbrev wsX10 : List Cond := u_ws RX1 TX1 2
theorem nmX1 : ∀ a, a < 2 → ∀ b, b < 2 → a ≠ b → (TX1 a).2.1 ≠ (TX1 b).2.1 := by decide +kernel
theorem tyX1_ok : ∀ k, k < 2 → parseFieldDescriptor (TX1 k).2.2.1 = some (tyX1 k) := by decide +kernel
abbrev cX1_init : ByteArray := prog_3_method_1_code
def yX1_init : MethodName := ⟨RX1, "<init>", "()V"⟩
abbrev cX1_reckon : ByteArray := prog_3_method_2_code
def yX1_reckon : MethodName := ⟨RX1, "reckon", "(LPepperPolicy$House;LPepperPolicy$Day;I)V"⟩
abbrev cX1_goOn : ByteArray := prog_3_method_3_code
def yX1_goOn : MethodName := ⟨RX1, "goOn", "(LPepperPolicy$Day;IIII)V"⟩
abbrev cX1_fewest : ByteArray := prog_3_method_4_code
def yX1_fewest : MethodName := ⟨RX1, "fewest", "()I"⟩
abbrev cX1_minutesHeld : ByteArray := prog_3_method_5_code
def yX1_minutesHeld : MethodName := ⟨RX1, "minutesHeld", "()I"⟩
def RX2 : String := "PepperPolicy$House"
def TX2 : u_T := fun k => match k with
  | 0 => ("PepperPolicy$House", "counts", "[I", true)
  | 1 => ("PepperPolicy$House", "noses", "[I", true)
  | 2 => ("PepperPolicy$House", "gusts", "[I", true)
  | 3 => ("PepperPolicy$House", "nets", "[I", true)
  | 4 => ("PepperPolicy$House", "policies", "[I", true)
  | _ => ("PepperPolicy$House", "acts", "[I", true)
def tyX2 : Nat → FieldType := fun k => match k with
  | 0 => .array .int
  | 1 => .array .int
  | 2 => .array .int
  | 3 => .array .int
  | 4 => .array .int
  | _ => .array .int
abbrev wsX20 : List Cond := u_ws RX2 TX2 6
theorem nmX2 : ∀ a, a < 6 → ∀ b, b < 6 → a ≠ b → (TX2 a).2.1 ≠ (TX2 b).2.1 := by decide +kernel
theorem tyX2_ok : ∀ k, k < 6 → parseFieldDescriptor (TX2 k).2.2.1 = some (tyX2 k) := by decide +kernel
abbrev cX2_init : ByteArray := prog_4_method_1_code
def yX2_init : MethodName := ⟨RX2, "<init>", "()V"⟩
abbrev cX2_clear : ByteArray := prog_4_method_2_code
def yX2_clear : MethodName := ⟨RX2, "clear", "()V"⟩
abbrev cX2_copyFrom : ByteArray := prog_4_method_3_code
def yX2_copyFrom : MethodName := ⟨RX2, "copyFrom", "(LPepperPolicy$House;)V"⟩
abbrev cX2_ofPolicy : ByteArray := prog_4_method_4_code
def yX2_ofPolicy : MethodName := ⟨RX2, "ofPolicy", "(II)I"⟩
abbrev cX2_window : ByteArray := prog_4_method_5_code
def yX2_window : MethodName := ⟨RX2, "window", "(I)I"⟩
abbrev cX2_gustMinutes : ByteArray := prog_4_method_6_code
def yX2_gustMinutes : MethodName := ⟨RX2, "gustMinutes", "()I"⟩
abbrev cX2_neighbours : ByteArray := prog_4_method_7_code
def yX2_neighbours : MethodName := ⟨RX2, "neighbours", "(I)I"⟩
abbrev cX2_act : ByteArray := prog_4_method_8_code
def yX2_act : MethodName := ⟨RX2, "act", "(III)Z"⟩
abbrev cX2_minutesOfActs : ByteArray := prog_4_method_9_code
def yX2_minutesOfActs : MethodName := ⟨RX2, "minutesOfActs", "(II)I"⟩
def RX3 : String := "PepperPolicy$Ledger"
def TX3 : u_T := fun k => match k with
  | 0 => ("PepperPolicy$Ledger", "due", "[I", true)
  | 1 => ("PepperPolicy$Ledger", "paidAt", "[I", true)
  | 2 => ("PepperPolicy$Ledger", "policies", "I", false)
  | _ => ("PepperPolicy$Ledger", "atFirst", "I", false)
def tyX3 : Nat → FieldType := fun k => match k with
  | 0 => .array .int
  | 1 => .array .int
  | 2 => .int
  | _ => .int
abbrev wsX30 : List Cond := u_ws RX3 TX3 4
theorem nmX3 : ∀ a, a < 4 → ∀ b, b < 4 → a ≠ b → (TX3 a).2.1 ≠ (TX3 b).2.1 := by decide +kernel
theorem tyX3_ok : ∀ k, k < 4 → parseFieldDescriptor (TX3 k).2.2.1 = some (tyX3 k) := by decide +kernel
abbrev cX3_init : ByteArray := prog_5_method_1_code
def yX3_init : MethodName := ⟨RX3, "<init>", "()V"⟩
abbrev cX3_reckon : ByteArray := prog_5_method_2_code
def yX3_reckon : MethodName := ⟨RX3, "reckon", "(LPepperPolicy$House;LPepperPolicy$Day;I)V"⟩
abbrev cX3_counting : ByteArray := prog_5_method_3_code
def yX3_counting : MethodName := ⟨RX3, "counting", "(LPepperPolicy$House;III)I"⟩
abbrev cX3_claimBy : ByteArray := prog_5_method_4_code
def yX3_claimBy : MethodName := ⟨RX3, "claimBy", "(LPepperPolicy$House;IIII)I"⟩
abbrev cX3_moneyAt : ByteArray := prog_5_method_5_code
def yX3_moneyAt : MethodName := ⟨RX3, "moneyAt", "(I)I"⟩
abbrev cX3_firstBelow : ByteArray := prog_5_method_6_code
def yX3_firstBelow : MethodName := ⟨RX3, "firstBelow", "(I)I"⟩
abbrev cX3_poorestMinute : ByteArray := prog_5_method_7_code
def yX3_poorestMinute : MethodName := ⟨RX3, "poorestMinute", "(I)I"⟩
def RX4 : String := "PepperPolicy$Puffs"
def TX4 : u_T := fun k => match k with
  | 0 => ("PepperPolicy$Puffs", "above", "J", false)
  | 1 => ("PepperPolicy$Puffs", "below", "J", false)
  | 2 => ("PepperPolicy$Puffs", "weights", "[J", true)
  | 3 => ("PepperPolicy$Puffs", "trial", "LPepperPolicy$Day;", true)
  | _ => ("PepperPolicy$Puffs", "ledger", "LPepperPolicy$Ledger;", true)
def tyX4 : Nat → FieldType := fun k => match k with
  | 0 => .long
  | 1 => .long
  | 2 => .array .long
  | 3 => .object "PepperPolicy$Day"
  | _ => .object "PepperPolicy$Ledger"
abbrev wsX40 : List Cond := u_ws RX4 TX4 5
theorem nmX4 : ∀ a, a < 5 → ∀ b, b < 5 → a ≠ b → (TX4 a).2.1 ≠ (TX4 b).2.1 := by decide +kernel
theorem tyX4_ok : ∀ k, k < 5 → parseFieldDescriptor (TX4 k).2.2.1 = some (tyX4 k) := by decide +kernel
abbrev cX4_init : ByteArray := prog_6_method_1_code
def yX4_init : MethodName := ⟨RX4, "<init>", "()V"⟩
abbrev cX4_reckon : ByteArray := prog_6_method_2_code
def yX4_reckon : MethodName := ⟨RX4, "reckon", "(LPepperPolicy$House;LPepperPolicy$Day;III)V"⟩
abbrev cX4_weigh : ByteArray := prog_6_method_3_code
def yX4_weigh : MethodName := ⟨RX4, "weigh", "(II)V"⟩
abbrev cX4_worth : ByteArray := prog_6_method_4_code
def yX4_worth : MethodName := ⟨RX4, "worth", "(LPepperPolicy$House;III)J"⟩
abbrev cX4_lower : ByteArray := prog_6_method_5_code
def yX4_lower : MethodName := ⟨RX4, "lower", "()V"⟩
def RX5 : String := "PepperPolicy$Reader"
def TX5 : u_T := fun k => match k with
  | 0 => ("PepperPolicy$Reader", "bytes", "[I", true)
  | 1 => ("PepperPolicy$Reader", "length", "I", false)
  | 2 => ("PepperPolicy$Reader", "fault", "I", false)
  | 3 => ("PepperPolicy$Reader", "place", "I", false)
  | 4 => ("PepperPolicy$Reader", "at", "I", false)
  | 5 => ("PepperPolicy$Reader", "stop", "I", false)
  | 6 => ("PepperPolicy$Reader", "kind", "I", false)
  | _ => ("PepperPolicy$Reader", "told", "LPepperPolicy$House;", false)
def tyX5 : Nat → FieldType := fun k => match k with
  | 0 => .array .int
  | 1 => .int
  | 2 => .int
  | 3 => .int
  | 4 => .int
  | 5 => .int
  | 6 => .int
  | _ => .object "PepperPolicy$House"
abbrev wsX50 : List Cond := u_ws RX5 TX5 8
theorem nmX5 : ∀ a, a < 8 → ∀ b, b < 8 → a ≠ b → (TX5 a).2.1 ≠ (TX5 b).2.1 := by decide +kernel
theorem tyX5_ok : ∀ k, k < 8 → parseFieldDescriptor (TX5 k).2.2.1 = some (tyX5 k) := by decide +kernel
abbrev cX5_init : ByteArray := prog_7_method_1_code
def yX5_init : MethodName := ⟨RX5, "<init>", "()V"⟩
abbrev cX5_put : ByteArray := prog_7_method_2_code
def yX5_put : MethodName := ⟨RX5, "put", "(I)V"⟩
abbrev cX5_read : ByteArray := prog_7_method_3_code
def yX5_read : MethodName := ⟨RX5, "read", "(LPepperPolicy$House;)V"⟩
abbrev cX5_readHouse : ByteArray := prog_7_method_4_code
def yX5_readHouse : MethodName := ⟨RX5, "readHouse", "()V"⟩
abbrev cX5_readLine : ByteArray := prog_7_method_5_code
def yX5_readLine : MethodName := ⟨RX5, "readLine", "()V"⟩
abbrev cX5_readNose : ByteArray := prog_7_method_6_code
def yX5_readNose : MethodName := ⟨RX5, "readNose", "(I)V"⟩
abbrev cX5_readGust : ByteArray := prog_7_method_7_code
def yX5_readGust : MethodName := ⟨RX5, "readGust", "(I)V"⟩
abbrev cX5_readNet : ByteArray := prog_7_method_8_code
def yX5_readNet : MethodName := ⟨RX5, "readNet", "(I)V"⟩
abbrev cX5_readPolicy : ByteArray := prog_7_method_9_code
def yX5_readPolicy : MethodName := ⟨RX5, "readPolicy", "(I)V"⟩
abbrev cX5_word : ByteArray := prog_7_method_10_code
def yX5_word : MethodName := ⟨RX5, "word", "(Ljava/lang/String;)V"⟩
abbrev cX5_sign : ByteArray := prog_7_method_11_code
def yX5_sign : MethodName := ⟨RX5, "sign", "()V"⟩
abbrev cX5_number : ByteArray := prog_7_method_12_code
def yX5_number : MethodName := ⟨RX5, "number", "(III)I"⟩
abbrev cX5_value : ByteArray := prog_7_method_13_code
def yX5_value : MethodName := ⟨RX5, "value", "()I"⟩
abbrev cX5_isWord : ByteArray := prog_7_method_14_code
def yX5_isWord : MethodName := ⟨RX5, "isWord", "(Ljava/lang/String;)Z"⟩
abbrev cX5_blame : ByteArray := prog_7_method_15_code
def yX5_blame : MethodName := ⟨RX5, "blame", "(I)V"⟩
abbrev cX5_step : ByteArray := prog_7_method_16_code
def yX5_step : MethodName := ⟨RX5, "step", "()V"⟩
abbrev cX5_kindAt : ByteArray := prog_7_method_17_code
def yX5_kindAt : MethodName := ⟨RX5, "kindAt", "(I)I"⟩
def RX6 : String := "PepperPolicy$Slots"
def TX6 : u_T := fun k => match k with
  | 0 => ("PepperPolicy$Slots", "rows", "[[J", true)
  | 1 => ("PepperPolicy$Slots", "widths", "[I", true)
  | _ => ("PepperPolicy$Slots", "lengths", "[I", true)
def tyX6 : Nat → FieldType := fun k => match k with
  | 0 => .array (.array .long)
  | 1 => .array .int
  | _ => .array .int
abbrev wsX60 : List Cond := u_ws RX6 TX6 3
theorem nmX6 : ∀ a, a < 3 → ∀ b, b < 3 → a ≠ b → (TX6 a).2.1 ≠ (TX6 b).2.1 := by decide +kernel
theorem tyX6_ok : ∀ k, k < 3 → parseFieldDescriptor (TX6 k).2.2.1 = some (tyX6 k) := by decide +kernel
abbrev cX6_init : ByteArray := prog_8_method_1_code
def yX6_init : MethodName := ⟨RX6, "<init>", "()V"⟩
abbrev cX6_isSlot : ByteArray := prog_8_method_2_code
def yX6_isSlot : MethodName := ⟨RX6, "isSlot", "(I)Z"⟩
abbrev cX6_has : ByteArray := prog_8_method_3_code
def yX6_has : MethodName := ⟨RX6, "has", "(I)Z"⟩
abbrev cX6_howMany : ByteArray := prog_8_method_4_code
def yX6_howMany : MethodName := ⟨RX6, "howMany", "()I"⟩
abbrev cX6_make : ByteArray := prog_8_method_5_code
def yX6_make : MethodName := ⟨RX6, "make", "(III)V"⟩
abbrev cX6_put : ByteArray := prog_8_method_6_code
def yX6_put : MethodName := ⟨RX6, "put", "(IIJ)V"⟩
abbrev cX6_spans : ByteArray := prog_8_method_7_code
def yX6_spans : MethodName := ⟨RX6, "spans", "(III)Z"⟩
def RX7 : String := "PepperPolicy$Suspects"
def TX7 : u_T := fun k => match k with
  | 0 => ("PepperPolicy$Suspects", "needed", "[I", true)
  | 1 => ("PepperPolicy$Suspects", "found", "I", false)
  | 2 => ("PepperPolicy$Suspects", "minutes", "I", false)
  | 3 => ("PepperPolicy$Suspects", "firstPair", "I", false)
  | _ => ("PepperPolicy$Suspects", "tally", "[I", true)
def tyX7 : Nat → FieldType := fun k => match k with
  | 0 => .array .int
  | 1 => .int
  | 2 => .int
  | 3 => .int
  | _ => .array .int
abbrev wsX70 : List Cond := u_ws RX7 TX7 5
theorem nmX7 : ∀ a, a < 5 → ∀ b, b < 5 → a ≠ b → (TX7 a).2.1 ≠ (TX7 b).2.1 := by decide +kernel
theorem tyX7_ok : ∀ k, k < 5 → parseFieldDescriptor (TX7 k).2.2.1 = some (tyX7 k) := by decide +kernel
abbrev cX7_init : ByteArray := prog_9_method_1_code
def yX7_init : MethodName := ⟨RX7, "<init>", "()V"⟩
abbrev cX7_forget : ByteArray := prog_9_method_2_code
def yX7_forget : MethodName := ⟨RX7, "forget", "()V"⟩
abbrev cX7_seekIn : ByteArray := prog_9_method_3_code
def yX7_seekIn : MethodName := ⟨RX7, "seekIn", "(LPepperPolicy$Day;LPepperPolicy$Day;)V"⟩
abbrev cX7_meets : ByteArray := prog_9_method_4_code
def yX7_meets : MethodName := ⟨RX7, "meets", "(LPepperPolicy$Day;I)Z"⟩
abbrev cX7_note : ByteArray := prog_9_method_5_code
def yX7_note : MethodName := ⟨RX7, "note", "(LPepperPolicy$Day;II)V"⟩
abbrev cX7_atWorst : ByteArray := prog_9_method_6_code
def yX7_atWorst : MethodName := ⟨RX7, "atWorst", "(I)I"⟩
abbrev cX7_whomToAsk : ByteArray := prog_9_method_7_code
def yX7_whomToAsk : MethodName := ⟨RX7, "whomToAsk", "(I)I"⟩
def RX8 : String := "PepperPolicy"
def TX8 : u_T := fun k => match k with
  | 0 => ("PepperPolicy", "house", "LPepperPolicy$House;", true)
  | 1 => ("PepperPolicy", "draft", "LPepperPolicy$House;", true)
  | 2 => ("PepperPolicy", "images", "[LPepperPolicy$House;", true)
  | 3 => ("PepperPolicy", "kept", "[Z", true)
  | 4 => ("PepperPolicy", "reader", "LPepperPolicy$Reader;", true)
  | 5 => ("PepperPolicy", "slots", "LPepperPolicy$Slots;", true)
  | 6 => ("PepperPolicy", "day", "LPepperPolicy$Day;", true)
  | 7 => ("PepperPolicy", "trial", "LPepperPolicy$Day;", true)
  | 8 => ("PepperPolicy", "ledger", "LPepperPolicy$Ledger;", true)
  | 9 => ("PepperPolicy", "holding", "LPepperPolicy$Holding;", true)
  | 10 => ("PepperPolicy", "suspects", "LPepperPolicy$Suspects;", true)
  | _ => ("PepperPolicy", "puffs", "LPepperPolicy$Puffs;", true)
def tyX8 : Nat → FieldType := fun k => match k with
  | 0 => .object "PepperPolicy$House"
  | 1 => .object "PepperPolicy$House"
  | 2 => .array (.object "PepperPolicy$House")
  | 3 => .array .boolean
  | 4 => .object "PepperPolicy$Reader"
  | 5 => .object "PepperPolicy$Slots"
  | 6 => .object "PepperPolicy$Day"
  | 7 => .object "PepperPolicy$Day"
  | 8 => .object "PepperPolicy$Ledger"
  | 9 => .object "PepperPolicy$Holding"
  | 10 => .object "PepperPolicy$Suspects"
  | _ => .object "PepperPolicy$Puffs"
abbrev wsX80 : List Cond := u_ws RX8 TX8 12
theorem nmX8 : ∀ a, a < 12 → ∀ b, b < 12 → a ≠ b → (TX8 a).2.1 ≠ (TX8 b).2.1 := by decide +kernel
theorem tyX8_ok : ∀ k, k < 12 → parseFieldDescriptor (TX8 k).2.2.1 = some (tyX8 k) := by decide +kernel
abbrev cX8_init : ByteArray := prog_1_method_1_code
def yX8_init : MethodName := ⟨RX8, "<init>", "()V"⟩
abbrev cX8_feed : ByteArray := prog_1_method_2_code
def yX8_feed : MethodName := ⟨RX8, "feed", "(IIIII)I"⟩
abbrev cX8_end : ByteArray := prog_1_method_3_code
def yX8_end : MethodName := ⟨RX8, "end", "(I)I"⟩
abbrev cX8_house : ByteArray := prog_1_method_4_code
def yX8_house : MethodName := ⟨RX8, "house", "()I"⟩
abbrev cX8_fault : ByteArray := prog_1_method_5_code
def yX8_fault : MethodName := ⟨RX8, "fault", "(I)I"⟩
abbrev cX8_nose : ByteArray := prog_1_method_6_code
def yX8_nose : MethodName := ⟨RX8, "nose", "(II)I"⟩
abbrev cX8_policy : ByteArray := prog_1_method_7_code
def yX8_policy : MethodName := ⟨RX8, "policy", "(II)I"⟩
abbrev cX8_beside : ByteArray := prog_1_method_8_code
def yX8_beside : MethodName := ⟨RX8, "beside", "(I)I"⟩
abbrev cX8_dust : ByteArray := prog_1_method_9_code
def yX8_dust : MethodName := ⟨RX8, "dust", "(I)I"⟩
abbrev cX8_sneezes : ByteArray := prog_1_method_10_code
def yX8_sneezes : MethodName := ⟨RX8, "sneezes", "(I)I"⟩
abbrev cX8_first : ByteArray := prog_1_method_11_code
def yX8_first : MethodName := ⟨RX8, "first", "(I)I"⟩
abbrev cX8_all : ByteArray := prog_1_method_12_code
def yX8_all : MethodName := ⟨RX8, "all", "()I"⟩
abbrev cX8_who : ByteArray := prog_1_method_13_code
def yX8_who : MethodName := ⟨RX8, "who", "(I)I"⟩
abbrev cX8_tickle : ByteArray := prog_1_method_14_code
def yX8_tickle : MethodName := ⟨RX8, "tickle", "(II)I"⟩
abbrev cX8_itch : ByteArray := prog_1_method_15_code
def yX8_itch : MethodName := ⟨RX8, "itch", "(I)I"⟩
abbrev cX8_caught : ByteArray := prog_1_method_16_code
def yX8_caught : MethodName := ⟨RX8, "caught", "(I)I"⟩
abbrev cX8_gave : ByteArray := prog_1_method_17_code
def yX8_gave : MethodName := ⟨RX8, "gave", "(I)I"⟩
abbrev cX8_worst : ByteArray := prog_1_method_18_code
def yX8_worst : MethodName := ⟨RX8, "worst", "()I"⟩
abbrev cX8_chorus : ByteArray := prog_1_method_19_code
def yX8_chorus : MethodName := ⟨RX8, "chorus", "()I"⟩
abbrev cX8_calm : ByteArray := prog_1_method_20_code
def yX8_calm : MethodName := ⟨RX8, "calm", "()I"⟩
abbrev cX8_pause : ByteArray := prog_1_method_21_code
def yX8_pause : MethodName := ⟨RX8, "pause", "(I)I"⟩
abbrev cX8_later : ByteArray := prog_1_method_22_code
def yX8_later : MethodName := ⟨RX8, "later", "(II)I"⟩
abbrev cX8_covered : ByteArray := prog_1_method_23_code
def yX8_covered : MethodName := ⟨RX8, "covered", "(I)I"⟩
abbrev cX8_naked : ByteArray := prog_1_method_24_code
def yX8_naked : MethodName := ⟨RX8, "naked", "()I"⟩
abbrev cX8_covers : ByteArray := prog_1_method_25_code
def yX8_covers : MethodName := ⟨RX8, "covers", "(I)I"⟩
abbrev cX8_dull : ByteArray := prog_1_method_26_code
def yX8_dull : MethodName := ⟨RX8, "dull", "(I)I"⟩
abbrev cX8_bears : ByteArray := prog_1_method_27_code
def yX8_bears : MethodName := ⟨RX8, "bears", "(I)I"⟩
abbrev cX8_clean : ByteArray := prog_1_method_28_code
def yX8_clean : MethodName := ⟨RX8, "clean", "()I"⟩
abbrev cX8_spreads : ByteArray := prog_1_method_29_code
def yX8_spreads : MethodName := ⟨RX8, "spreads", "(I)I"⟩
abbrev cX8_web : ByteArray := prog_1_method_30_code
def yX8_web : MethodName := ⟨RX8, "web", "(I)I"⟩
abbrev cX8_cut : ByteArray := prog_1_method_31_code
def yX8_cut : MethodName := ⟨RX8, "cut", "(I)I"⟩
abbrev cX8_cuts : ByteArray := prog_1_method_32_code
def yX8_cuts : MethodName := ⟨RX8, "cuts", "()I"⟩
abbrev cX8_totalWithout : ByteArray := prog_1_method_33_code
def yX8_totalWithout : MethodName := ⟨RX8, "totalWithout", "(I)I"⟩
abbrev cX8_claim : ByteArray := prog_1_method_34_code
def yX8_claim : MethodName := ⟨RX8, "claim", "(I)I"⟩
abbrev cX8_paid : ByteArray := prog_1_method_35_code
def yX8_paid : MethodName := ⟨RX8, "paid", "(I)I"⟩
abbrev cX8_claims : ByteArray := prog_1_method_36_code
def yX8_claims : MethodName := ⟨RX8, "claims", "()I"⟩
abbrev cX8_profit : ByteArray := prog_1_method_37_code
def yX8_profit : MethodName := ⟨RX8, "profit", "(I)I"⟩
abbrev cX8_money : ByteArray := prog_1_method_38_code
def yX8_money : MethodName := ⟨RX8, "money", "(I)I"⟩
abbrev cX8_lowest : ByteArray := prog_1_method_39_code
def yX8_lowest : MethodName := ⟨RX8, "lowest", "()I"⟩
abbrev cX8_ruin : ByteArray := prog_1_method_40_code
def yX8_ruin : MethodName := ⟨RX8, "ruin", "()I"⟩
abbrev cX8_dear : ByteArray := prog_1_method_41_code
def yX8_dear : MethodName := ⟨RX8, "dear", "()I"⟩
abbrev cX8_reserve : ByteArray := prog_1_method_42_code
def yX8_reserve : MethodName := ⟨RX8, "reserve", "()I"⟩
abbrev cX8_by : ByteArray := prog_1_method_43_code
def yX8_by : MethodName := ⟨RX8, "by", "(I)I"⟩
abbrev cX8_law : ByteArray := prog_1_method_44_code
def yX8_law : MethodName := ⟨RX8, "law", "()I"⟩
abbrev cX8_moneyInTheEnd : ByteArray := prog_1_method_45_code
def yX8_moneyInTheEnd : MethodName := ⟨RX8, "moneyInTheEnd", "(I)I"⟩
abbrev cX8_ledgerNow : ByteArray := prog_1_method_46_code
def yX8_ledgerNow : MethodName := ⟨RX8, "ledgerNow", "()LPepperPolicy$Ledger;"⟩
abbrev cX8_takes : ByteArray := prog_1_method_47_code
def yX8_takes : MethodName := ⟨RX8, "takes", "(I)I"⟩
abbrev cX8_gains : ByteArray := prog_1_method_48_code
def yX8_gains : MethodName := ⟨RX8, "gains", "(I)I"⟩
abbrev cX8_price : ByteArray := prog_1_method_49_code
def yX8_price : MethodName := ⟨RX8, "price", "(I)I"⟩
abbrev cX8_bestOfMenu : ByteArray := prog_1_method_50_code
def yX8_bestOfMenu : MethodName := ⟨RX8, "bestOfMenu", "(I)I"⟩
abbrev cX8_gainBy : ByteArray := prog_1_method_51_code
def yX8_gainBy : MethodName := ⟨RX8, "gainBy", "(II)I"⟩
abbrev cX8_claimAsIfOf : ByteArray := prog_1_method_52_code
def yX8_claimAsIfOf : MethodName := ⟨RX8, "claimAsIfOf", "(II)I"⟩
abbrev cX8_priceFor : ByteArray := prog_1_method_53_code
def yX8_priceFor : MethodName := ⟨RX8, "priceFor", "(II)I"⟩
abbrev cX8_hold : ByteArray := prog_1_method_54_code
def yX8_hold : MethodName := ⟨RX8, "hold", "(I)I"⟩
abbrev cX8_holds : ByteArray := prog_1_method_55_code
def yX8_holds : MethodName := ⟨RX8, "holds", "(I)I"⟩
abbrev cX8_snuff : ByteArray := prog_1_method_56_code
def yX8_snuff : MethodName := ⟨RX8, "snuff", "(I)I"⟩
abbrev cX8_frauds : ByteArray := prog_1_method_57_code
def yX8_frauds : MethodName := ⟨RX8, "frauds", "(I)I"⟩
abbrev cX8_minutesOfFraud : ByteArray := prog_1_method_58_code
def yX8_minutesOfFraud : MethodName := ⟨RX8, "minutesOfFraud", "(I)I"⟩
abbrev cX8_which : ByteArray := prog_1_method_59_code
def yX8_which : MethodName := ⟨RX8, "which", "(I)I"⟩
abbrev cX8_when : ByteArray := prog_1_method_60_code
def yX8_when : MethodName := ⟨RX8, "when", "(I)I"⟩
abbrev cX8_gust : ByteArray := prog_1_method_61_code
def yX8_gust : MethodName := ⟨RX8, "gust", "(I)I"⟩
abbrev cX8_ask : ByteArray := prog_1_method_62_code
def yX8_ask : MethodName := ⟨RX8, "ask", "(I)I"⟩
abbrev cX8_leaves : ByteArray := prog_1_method_63_code
def yX8_leaves : MethodName := ⟨RX8, "leaves", "(I)I"⟩
abbrev cX8_seek : ByteArray := prog_1_method_64_code
def yX8_seek : MethodName := ⟨RX8, "seek", "(I)I"⟩
abbrev cX8_rests : ByteArray := prog_1_method_65_code
def yX8_rests : MethodName := ⟨RX8, "rests", "(II)I"⟩
abbrev cX8_loses : ByteArray := prog_1_method_66_code
def yX8_loses : MethodName := ⟨RX8, "loses", "(IIII)I"⟩
abbrev cX8_lossOf : ByteArray := prog_1_method_67_code
def yX8_lossOf : MethodName := ⟨RX8, "lossOf", "(IIII)I"⟩
abbrev cX8_chance : ByteArray := prog_1_method_68_code
def yX8_chance : MethodName := ⟨RX8, "chance", "(III)J"⟩
abbrev cX8_fair : ByteArray := prog_1_method_69_code
def yX8_fair : MethodName := ⟨RX8, "fair", "(III)J"⟩
abbrev cX8_risk : ByteArray := prog_1_method_70_code
def yX8_risk : MethodName := ⟨RX8, "risk", "(II)J"⟩
abbrev cX8_drawn : ByteArray := prog_1_method_71_code
def yX8_drawn : MethodName := ⟨RX8, "drawn", "(II)I"⟩
abbrev cX8_luck : ByteArray := prog_1_method_72_code
def yX8_luck : MethodName := ⟨RX8, "luck", "(III)I"⟩
abbrev cX8_liveDrawn : ByteArray := prog_1_method_73_code
def yX8_liveDrawn : MethodName := ⟨RX8, "liveDrawn", "(I)I"⟩
abbrev cX8_stifle : ByteArray := prog_1_method_74_code
def yX8_stifle : MethodName := ⟨RX8, "stifle", "(II)I"⟩
abbrev cX8_sniff : ByteArray := prog_1_method_75_code
def yX8_sniff : MethodName := ⟨RX8, "sniff", "(II)I"⟩
abbrev cX8_undo : ByteArray := prog_1_method_76_code
def yX8_undo : MethodName := ⟨RX8, "undo", "()I"⟩
abbrev cX8_anew : ByteArray := prog_1_method_77_code
def yX8_anew : MethodName := ⟨RX8, "anew", "()I"⟩
abbrev cX8_rate : ByteArray := prog_1_method_78_code
def yX8_rate : MethodName := ⟨RX8, "rate", "(II)I"⟩
abbrev cX8_count : ByteArray := prog_1_method_79_code
def yX8_count : MethodName := ⟨RX8, "count", "(I)I"⟩
abbrev cX8_image : ByteArray := prog_1_method_80_code
def yX8_image : MethodName := ⟨RX8, "image", "(I)I"⟩
abbrev cX8_back : ByteArray := prog_1_method_81_code
def yX8_back : MethodName := ⟨RX8, "back", "(I)I"⟩
abbrev cX8_row : ByteArray := prog_1_method_82_code
def yX8_row : MethodName := ⟨RX8, "row", "(III)I"⟩
abbrev cX8_write : ByteArray := prog_1_method_83_code
def yX8_write : MethodName := ⟨RX8, "write", "(IIJ)I"⟩
abbrev cX8_paste : ByteArray := prog_1_method_84_code
def yX8_paste : MethodName := ⟨RX8, "paste", "(IIIII)I"⟩
abbrev cX8_liveAnew : ByteArray := prog_1_method_85_code
def yX8_liveAnew : MethodName := ⟨RX8, "liveAnew", "()V"⟩
abbrev cX8_isHouse : ByteArray := prog_1_method_86_code
def yX8_isHouse : MethodName := ⟨RX8, "isHouse", "()Z"⟩
abbrev cX8_isPerson : ByteArray := prog_1_method_87_code
def yX8_isPerson : MethodName := ⟨RX8, "isPerson", "(I)Z"⟩
abbrev cX8_isPolicy : ByteArray := prog_1_method_88_code
def yX8_isPolicy : MethodName := ⟨RX8, "isPolicy", "(I)Z"⟩
abbrev cX8_isNet : ByteArray := prog_1_method_89_code
def yX8_isNet : MethodName := ⟨RX8, "isNet", "(I)Z"⟩
abbrev cX8_isMinute : ByteArray := prog_1_method_90_code
def yX8_isMinute : MethodName := ⟨RX8, "isMinute", "(I)Z"⟩
abbrev cX8_isPuffMinute : ByteArray := prog_1_method_91_code
def yX8_isPuffMinute : MethodName := ⟨RX8, "isPuffMinute", "(I)Z"⟩
abbrev cX8_isSeed : ByteArray := prog_1_method_92_code
def yX8_isSeed : MethodName := ⟨RX8, "isSeed", "(I)Z"⟩
abbrev cX8_minutesCovered : ByteArray := prog_1_method_93_code
def yX8_minutesCovered : MethodName := ⟨RX8, "minutesCovered", "(I)I"⟩
abbrev cX8_hasBit : ByteArray := prog_1_method_94_code
def yX8_hasBit : MethodName := ⟨RX8, "hasBit", "(II)Z"⟩
abbrev cX8_firstMinutes : ByteArray := prog_1_method_95_code
def yX8_firstMinutes : MethodName := ⟨RX8, "firstMinutes", "(I)I"⟩
abbrev cX8_lowestBit : ByteArray := prog_1_method_96_code
def yX8_lowestBit : MethodName := ⟨RX8, "lowestBit", "(I)I"⟩
def RX9 : String := "PepperPolicyModel"
def TX9 : u_T := fun k => match k with
  | 0 => ("PepperPolicyModel", "thrown", "I", false)
  | 1 => ("PepperPolicyModel", "world", "[I", true)
  | 2 => ("PepperPolicyModel", "images", "[I", true)
  | 3 => ("PepperPolicyModel", "hasImage", "[Z", true)
  | 4 => ("PepperPolicyModel", "tape", "[B", true)
  | 5 => ("PepperPolicyModel", "taped", "I", false)
  | 6 => ("PepperPolicyModel", "five", "[I", true)
  | 7 => ("PepperPolicyModel", "size", "I", false)
  | 8 => ("PepperPolicyModel", "at", "I", false)
  | 9 => ("PepperPolicyModel", "from", "I", false)
  | 10 => ("PepperPolicyModel", "token", "I", false)
  | 11 => ("PepperPolicyModel", "value", "I", false)
  | 12 => ("PepperPolicyModel", "faultKind", "I", false)
  | 13 => ("PepperPolicyModel", "faultPlace", "I", false)
  | 14 => ("PepperPolicyModel", "fresh", "[I", true)
  | 15 => ("PepperPolicyModel", "dustAt", "[I", true)
  | 16 => ("PepperPolicyModel", "heldOf", "[I", true)
  | 17 => ("PepperPolicyModel", "snuffOf", "[I", true)
  | 18 => ("PepperPolicyModel", "gustSet", "I", false)
  | 19 => ("PepperPolicyModel", "noNet", "I", false)
  | 20 => ("PepperPolicyModel", "lawNow", "I", false)
  | 21 => ("PepperPolicyModel", "moneyNow", "I", false)
  | 22 => ("PepperPolicyModel", "lastMinute", "I", false)
  | 23 => ("PepperPolicyModel", "sneezesOf", "[I", true)
  | 24 => ("PepperPolicyModel", "sneezeAt", "[I", true)
  | 25 => ("PepperPolicyModel", "tickleAt", "[I", true)
  | 26 => ("PepperPolicyModel", "moreAt", "[I", true)
  | 27 => ("PepperPolicyModel", "caughtOf", "[I", true)
  | 28 => ("PepperPolicyModel", "oftenNow", "[I", true)
  | 29 => ("PepperPolicyModel", "paidAt", "[I", true)
  | 30 => ("PepperPolicyModel", "paidFirst", "I", false)
  | 31 => ("PepperPolicyModel", "gainsMost", "I", false)
  | 32 => ("PepperPolicyModel", "heldFew", "[I", true)
  | 33 => ("PepperPolicyModel", "heldSet", "[I", true)
  | 34 => ("PepperPolicyModel", "pairs", "[I", true)
  | 35 => ("PepperPolicyModel", "oftenBy", "[I", true)
  | 36 => ("PepperPolicyModel", "pairMany", "I", false)
  | 37 => ("PepperPolicyModel", "askWorst", "I", false)
  | 38 => ("PepperPolicyModel", "oftenAll", "J", false)
  | 39 => ("PepperPolicyModel", "oftenSneezes", "J", false)
  | 40 => ("PepperPolicyModel", "oftenClaim", "J", false)
  | 41 => ("PepperPolicyModel", "oftenRuin", "J", false)
  | 42 => ("PepperPolicyModel", "many", "[I", true)
  | 43 => ("PepperPolicyModel", "width", "[I", true)
  | 44 => ("PepperPolicyModel", "numbers", "[J", true)
  | _ => ("PepperPolicyModel", "moving", "[J", true)
def tyX9 : Nat → FieldType := fun k => match k with
  | 0 => .int
  | 1 => .array .int
  | 2 => .array .int
  | 3 => .array .boolean
  | 4 => .array .byte
  | 5 => .int
  | 6 => .array .int
  | 7 => .int
  | 8 => .int
  | 9 => .int
  | 10 => .int
  | 11 => .int
  | 12 => .int
  | 13 => .int
  | 14 => .array .int
  | 15 => .array .int
  | 16 => .array .int
  | 17 => .array .int
  | 18 => .int
  | 19 => .int
  | 20 => .int
  | 21 => .int
  | 22 => .int
  | 23 => .array .int
  | 24 => .array .int
  | 25 => .array .int
  | 26 => .array .int
  | 27 => .array .int
  | 28 => .array .int
  | 29 => .array .int
  | 30 => .int
  | 31 => .int
  | 32 => .array .int
  | 33 => .array .int
  | 34 => .array .int
  | 35 => .array .int
  | 36 => .int
  | 37 => .int
  | 38 => .long
  | 39 => .long
  | 40 => .long
  | 41 => .long
  | 42 => .array .int
  | 43 => .array .int
  | 44 => .array .long
  | _ => .array .long
abbrev wsX90 : List Cond := u_ws RX9 TX9 46
theorem nmX9 : ∀ a, a < 46 → ∀ b, b < 46 → a ≠ b → (TX9 a).2.1 ≠ (TX9 b).2.1 := by decide +kernel
theorem tyX9_ok : ∀ k, k < 46 → parseFieldDescriptor (TX9 k).2.2.1 = some (tyX9 k) := by decide +kernel
abbrev cX9_init : ByteArray := prog_11_method_1_code
def yX9_init : MethodName := ⟨RX9, "<init>", "()V"⟩
abbrev cX9_in : ByteArray := prog_11_method_3_code
def yX9_in : MethodName := ⟨RX9, "in", "(JJJ)Z"⟩
abbrev cX9_bits : ByteArray := prog_11_method_4_code
def yX9_bits : MethodName := ⟨RX9, "bits", "(I)I"⟩
abbrev cX9_bit : ByteArray := prog_11_method_5_code
def yX9_bit : MethodName := ⟨RX9, "bit", "(II)I"⟩
abbrev cX9_image : ByteArray := prog_11_method_6_code
def yX9_image : MethodName := ⟨RX9, "image", "(I)I"⟩
abbrev cX9_back : ByteArray := prog_11_method_7_code
def yX9_back : MethodName := ⟨RX9, "back", "(I)I"⟩
abbrev cX9_isHouse : ByteArray := prog_11_method_8_code
def yX9_isHouse : MethodName := ⟨RX9, "isHouse", "()Z"⟩
abbrev cX9_isMinute : ByteArray := prog_11_method_9_code
def yX9_isMinute : MethodName := ⟨RX9, "isMinute", "(J)Z"⟩
abbrev cX9_isPerson : ByteArray := prog_11_method_10_code
def yX9_isPerson : MethodName := ⟨RX9, "isPerson", "(J)Z"⟩
abbrev cX9_isPolicy : ByteArray := prog_11_method_11_code
def yX9_isPolicy : MethodName := ⟨RX9, "isPolicy", "(I)Z"⟩
abbrev cX9_isLaw : ByteArray := prog_11_method_12_code
def yX9_isLaw : MethodName := ⟨RX9, "isLaw", "(I)Z"⟩
abbrev cX9_of : ByteArray := prog_11_method_13_code
def yX9_of : MethodName := ⟨RX9, "of", "(II)I"⟩
abbrev cX9_minutes : ByteArray := prog_11_method_14_code
def yX9_minutes : MethodName := ⟨RX9, "minutes", "()I"⟩
abbrev cX9_feed : ByteArray := prog_11_method_15_code
def yX9_feed : MethodName := ⟨RX9, "feed", "(IIIII)I"⟩
abbrev cX9_end : ByteArray := prog_11_method_16_code
def yX9_end : MethodName := ⟨RX9, "end", "(I)I"⟩
abbrev cX9_see : ByteArray := prog_11_method_17_code
def yX9_see : MethodName := ⟨RX9, "see", "(I)I"⟩
abbrev cX9_advance : ByteArray := prog_11_method_18_code
def yX9_advance : MethodName := ⟨RX9, "advance", "()V"⟩
abbrev cX9_good : ByteArray := prog_11_method_19_code
def yX9_good : MethodName := ⟨RX9, "good", "()Z"⟩
abbrev cX9_errs : ByteArray := prog_11_method_20_code
def yX9_errs : MethodName := ⟨RX9, "errs", "(I)V"⟩
abbrev cX9_is : ByteArray := prog_11_method_21_code
def yX9_is : MethodName := ⟨RX9, "is", "(Ljava/lang/String;)Z"⟩
abbrev cX9_takes : ByteArray := prog_11_method_22_code
def yX9_takes : MethodName := ⟨RX9, "takes", "(Ljava/lang/String;)Z"⟩
abbrev cX9_needs : ByteArray := prog_11_method_23_code
def yX9_needs : MethodName := ⟨RX9, "needs", "(Ljava/lang/String;)V"⟩
abbrev cX9_number : ByteArray := prog_11_method_24_code
def yX9_number : MethodName := ⟨RX9, "number", "(II)I"⟩
abbrev cX9_told : ByteArray := prog_11_method_25_code
def yX9_told : MethodName := ⟨RX9, "told", "(Ljava/lang/String;II)I"⟩
abbrev cX9_fault : ByteArray := prog_11_method_26_code
def yX9_fault : MethodName := ⟨RX9, "fault", "(I)I"⟩
abbrev cX9_readFirst : ByteArray := prog_11_method_27_code
def yX9_readFirst : MethodName := ⟨RX9, "readFirst", "()V"⟩
abbrev cX9_readNet : ByteArray := prog_11_method_28_code
def yX9_readNet : MethodName := ⟨RX9, "readNet", "()V"⟩
abbrev cX9_readPolicy : ByteArray := prog_11_method_29_code
def yX9_readPolicy : MethodName := ⟨RX9, "readPolicy", "()V"⟩
abbrev cX9_readNext : ByteArray := prog_11_method_30_code
def yX9_readNext : MethodName := ⟨RX9, "readNext", "()V"⟩
abbrev cX9_readLine : ByteArray := prog_11_method_31_code
def yX9_readLine : MethodName := ⟨RX9, "readLine", "()V"⟩
abbrev cX9_house : ByteArray := prog_11_method_32_code
def yX9_house : MethodName := ⟨RX9, "house", "()I"⟩
abbrev cX9_nose : ByteArray := prog_11_method_33_code
def yX9_nose : MethodName := ⟨RX9, "nose", "(II)I"⟩
abbrev cX9_policy : ByteArray := prog_11_method_34_code
def yX9_policy : MethodName := ⟨RX9, "policy", "(II)I"⟩
abbrev cX9_asItIs : ByteArray := prog_11_method_35_code
def yX9_asItIs : MethodName := ⟨RX9, "asItIs", "()V"⟩
abbrev cX9_netsTo : ByteArray := prog_11_method_36_code
def yX9_netsTo : MethodName := ⟨RX9, "netsTo", "(II)I"⟩
abbrev cX9_goMinute : ByteArray := prog_11_method_37_code
def yX9_goMinute : MethodName := ⟨RX9, "goMinute", "(I)V"⟩
abbrev cX9_goAll : ByteArray := prog_11_method_38_code
def yX9_goAll : MethodName := ⟨RX9, "goAll", "()V"⟩
abbrev cX9_asksHouse : ByteArray := prog_11_method_39_code
def yX9_asksHouse : MethodName := ⟨RX9, "asksHouse", "()Z"⟩
abbrev cX9_asksPerson : ByteArray := prog_11_method_40_code
def yX9_asksPerson : MethodName := ⟨RX9, "asksPerson", "(I)Z"⟩
abbrev cX9_asksMinute : ByteArray := prog_11_method_41_code
def yX9_asksMinute : MethodName := ⟨RX9, "asksMinute", "(I)Z"⟩
abbrev cX9_firstOf : ByteArray := prog_11_method_42_code
def yX9_firstOf : MethodName := ⟨RX9, "firstOf", "(I)I"⟩
abbrev cX9_allSneezes : ByteArray := prog_11_method_43_code
def yX9_allSneezes : MethodName := ⟨RX9, "allSneezes", "()I"⟩
abbrev cX9_beside : ByteArray := prog_11_method_44_code
def yX9_beside : MethodName := ⟨RX9, "beside", "(I)I"⟩
abbrev cX9_dust : ByteArray := prog_11_method_45_code
def yX9_dust : MethodName := ⟨RX9, "dust", "(I)I"⟩
abbrev cX9_sneezes : ByteArray := prog_11_method_46_code
def yX9_sneezes : MethodName := ⟨RX9, "sneezes", "(I)I"⟩
abbrev cX9_first : ByteArray := prog_11_method_47_code
def yX9_first : MethodName := ⟨RX9, "first", "(I)I"⟩
abbrev cX9_all : ByteArray := prog_11_method_48_code
def yX9_all : MethodName := ⟨RX9, "all", "()I"⟩
abbrev cX9_who : ByteArray := prog_11_method_49_code
def yX9_who : MethodName := ⟨RX9, "who", "(I)I"⟩
abbrev cX9_tickle : ByteArray := prog_11_method_50_code
def yX9_tickle : MethodName := ⟨RX9, "tickle", "(II)I"⟩
abbrev cX9_itch : ByteArray := prog_11_method_51_code
def yX9_itch : MethodName := ⟨RX9, "itch", "(I)I"⟩
abbrev cX9_caught : ByteArray := prog_11_method_52_code
def yX9_caught : MethodName := ⟨RX9, "caught", "(I)I"⟩
abbrev cX9_gave : ByteArray := prog_11_method_53_code
def yX9_gave : MethodName := ⟨RX9, "gave", "(I)I"⟩
abbrev cX9_worst : ByteArray := prog_11_method_54_code
def yX9_worst : MethodName := ⟨RX9, "worst", "()I"⟩
abbrev cX9_chorus : ByteArray := prog_11_method_55_code
def yX9_chorus : MethodName := ⟨RX9, "chorus", "()I"⟩
abbrev cX9_calm : ByteArray := prog_11_method_56_code
def yX9_calm : MethodName := ⟨RX9, "calm", "()I"⟩
abbrev cX9_firstFrom : ByteArray := prog_11_method_57_code
def yX9_firstFrom : MethodName := ⟨RX9, "firstFrom", "(II)I"⟩
abbrev cX9_pause : ByteArray := prog_11_method_58_code
def yX9_pause : MethodName := ⟨RX9, "pause", "(I)I"⟩
abbrev cX9_later : ByteArray := prog_11_method_59_code
def yX9_later : MethodName := ⟨RX9, "later", "(II)I"⟩
abbrev cX9_web : ByteArray := prog_11_method_60_code
def yX9_web : MethodName := ⟨RX9, "web", "(I)I"⟩
abbrev cX9_spreads : ByteArray := prog_11_method_61_code
def yX9_spreads : MethodName := ⟨RX9, "spreads", "(I)I"⟩
abbrev cX9_quietBy : ByteArray := prog_11_method_62_code
def yX9_quietBy : MethodName := ⟨RX9, "quietBy", "(IIII)I"⟩
abbrev cX9_dull : ByteArray := prog_11_method_63_code
def yX9_dull : MethodName := ⟨RX9, "dull", "(I)I"⟩
abbrev cX9_bears : ByteArray := prog_11_method_64_code
def yX9_bears : MethodName := ⟨RX9, "bears", "(I)I"⟩
abbrev cX9_clean : ByteArray := prog_11_method_65_code
def yX9_clean : MethodName := ⟨RX9, "clean", "()I"⟩
abbrev cX9_windowOf : ByteArray := prog_11_method_66_code
def yX9_windowOf : MethodName := ⟨RX9, "windowOf", "(I)I"⟩
abbrev cX9_ahead : ByteArray := prog_11_method_67_code
def yX9_ahead : MethodName := ⟨RX9, "ahead", "(I)I"⟩
abbrev cX9_claimOf : ByteArray := prog_11_method_68_code
def yX9_claimOf : MethodName := ⟨RX9, "claimOf", "(IIZ)I"⟩
abbrev cX9_claimOf_ : ByteArray := prog_11_method_69_code
def yX9_claimOf_ : MethodName := ⟨RX9, "claimOf", "(I)I"⟩
abbrev cX9_layPaid : ByteArray := prog_11_method_70_code
def yX9_layPaid : MethodName := ⟨RX9, "layPaid", "()V"⟩
abbrev cX9_moneyAt : ByteArray := prog_11_method_71_code
def yX9_moneyAt : MethodName := ⟨RX9, "moneyAt", "(I)I"⟩
abbrev cX9_ruinOf : ByteArray := prog_11_method_72_code
def yX9_ruinOf : MethodName := ⟨RX9, "ruinOf", "()I"⟩
abbrev cX9_asksPolicy : ByteArray := prog_11_method_73_code
def yX9_asksPolicy : MethodName := ⟨RX9, "asksPolicy", "(I)Z"⟩
abbrev cX9_claim : ByteArray := prog_11_method_74_code
def yX9_claim : MethodName := ⟨RX9, "claim", "(I)I"⟩
abbrev cX9_paid : ByteArray := prog_11_method_75_code
def yX9_paid : MethodName := ⟨RX9, "paid", "(I)I"⟩
abbrev cX9_claims : ByteArray := prog_11_method_76_code
def yX9_claims : MethodName := ⟨RX9, "claims", "()I"⟩
abbrev cX9_money : ByteArray := prog_11_method_77_code
def yX9_money : MethodName := ⟨RX9, "money", "(I)I"⟩
abbrev cX9_ruin : ByteArray := prog_11_method_78_code
def yX9_ruin : MethodName := ⟨RX9, "ruin", "()I"⟩
abbrev cX9_coveredOf : ByteArray := prog_11_method_79_code
def yX9_coveredOf : MethodName := ⟨RX9, "coveredOf", "(I)I"⟩
abbrev cX9_covered : ByteArray := prog_11_method_80_code
def yX9_covered : MethodName := ⟨RX9, "covered", "(I)I"⟩
abbrev cX9_naked : ByteArray := prog_11_method_81_code
def yX9_naked : MethodName := ⟨RX9, "naked", "()I"⟩
abbrev cX9_covers : ByteArray := prog_11_method_82_code
def yX9_covers : MethodName := ⟨RX9, "covers", "(I)I"⟩
abbrev cX9_profit : ByteArray := prog_11_method_83_code
def yX9_profit : MethodName := ⟨RX9, "profit", "(I)I"⟩
abbrev cX9_lowest : ByteArray := prog_11_method_84_code
def yX9_lowest : MethodName := ⟨RX9, "lowest", "()I"⟩
abbrev cX9_dear : ByteArray := prog_11_method_85_code
def yX9_dear : MethodName := ⟨RX9, "dear", "()I"⟩
abbrev cX9_reserve : ByteArray := prog_11_method_86_code
def yX9_reserve : MethodName := ⟨RX9, "reserve", "()I"⟩
abbrev cX9_byLaw : ByteArray := prog_11_method_87_code
def yX9_byLaw : MethodName := ⟨RX9, "byLaw", "(I)I"⟩
abbrev cX9_by : ByteArray := prog_11_method_88_code
def yX9_by : MethodName := ⟨RX9, "by", "(I)I"⟩
abbrev cX9_law : ByteArray := prog_11_method_89_code
def yX9_law : MethodName := ⟨RX9, "law", "()I"⟩
abbrev cX9_takesBy : ByteArray := prog_11_method_90_code
def yX9_takesBy : MethodName := ⟨RX9, "takesBy", "(III)I"⟩
abbrev cX9_takes_ : ByteArray := prog_11_method_91_code
def yX9_takes_ : MethodName := ⟨RX9, "takes", "(I)I"⟩
abbrev cX9_gains : ByteArray := prog_11_method_92_code
def yX9_gains : MethodName := ⟨RX9, "gains", "(I)I"⟩
abbrev cX9_isTaken : ByteArray := prog_11_method_93_code
def yX9_isTaken : MethodName := ⟨RX9, "isTaken", "(II)Z"⟩
abbrev cX9_price : ByteArray := prog_11_method_94_code
def yX9_price : MethodName := ⟨RX9, "price", "(I)I"⟩
abbrev cX9_tickleSince : ByteArray := prog_11_method_95_code
def yX9_tickleSince : MethodName := ⟨RX9, "tickleSince", "(III)I"⟩
abbrev cX9_layHold : ByteArray := prog_11_method_96_code
def yX9_layHold : MethodName := ⟨RX9, "layHold", "(IIII)V"⟩
abbrev cX9_layHolds : ByteArray := prog_11_method_97_code
def yX9_layHolds : MethodName := ⟨RX9, "layHolds", "(I)Z"⟩
abbrev cX9_hold : ByteArray := prog_11_method_98_code
def yX9_hold : MethodName := ⟨RX9, "hold", "(I)I"⟩
abbrev cX9_holds : ByteArray := prog_11_method_99_code
def yX9_holds : MethodName := ⟨RX9, "holds", "(I)I"⟩
abbrev cX9_fraudsOf : ByteArray := prog_11_method_100_code
def yX9_fraudsOf : MethodName := ⟨RX9, "fraudsOf", "(I)I"⟩
abbrev cX9_snuff : ByteArray := prog_11_method_101_code
def yX9_snuff : MethodName := ⟨RX9, "snuff", "(I)I"⟩
abbrev cX9_frauds : ByteArray := prog_11_method_102_code
def yX9_frauds : MethodName := ⟨RX9, "frauds", "(I)I"⟩
abbrev cX9_numberAt : ByteArray := prog_11_method_103_code
def yX9_numberAt : MethodName := ⟨RX9, "numberAt", "(II)J"⟩
abbrev cX9_layPairs : ByteArray := prog_11_method_104_code
def yX9_layPairs : MethodName := ⟨RX9, "layPairs", "(I)I"⟩
abbrev cX9_which : ByteArray := prog_11_method_105_code
def yX9_which : MethodName := ⟨RX9, "which", "(I)I"⟩
abbrev cX9_when : ByteArray := prog_11_method_106_code
def yX9_when : MethodName := ⟨RX9, "when", "(I)I"⟩
abbrev cX9_gust : ByteArray := prog_11_method_107_code
def yX9_gust : MethodName := ⟨RX9, "gust", "(I)I"⟩
abbrev cX9_askOf : ByteArray := prog_11_method_108_code
def yX9_askOf : MethodName := ⟨RX9, "askOf", "()I"⟩
abbrev cX9_ask : ByteArray := prog_11_method_109_code
def yX9_ask : MethodName := ⟨RX9, "ask", "(I)I"⟩
abbrev cX9_leaves : ByteArray := prog_11_method_110_code
def yX9_leaves : MethodName := ⟨RX9, "leaves", "(I)I"⟩
abbrev cX9_losesBy : ByteArray := prog_11_method_111_code
def yX9_losesBy : MethodName := ⟨RX9, "losesBy", "(IIIII)I"⟩
abbrev cX9_areTwo : ByteArray := prog_11_method_112_code
def yX9_areTwo : MethodName := ⟨RX9, "areTwo", "(II)Z"⟩
abbrev cX9_rests : ByteArray := prog_11_method_113_code
def yX9_rests : MethodName := ⟨RX9, "rests", "(II)I"⟩
abbrev cX9_loses : ByteArray := prog_11_method_114_code
def yX9_loses : MethodName := ⟨RX9, "loses", "(IIII)I"⟩
abbrev cX9_allWithout : ByteArray := prog_11_method_115_code
def yX9_allWithout : MethodName := ⟨RX9, "allWithout", "(I)I"⟩
abbrev cX9_cut : ByteArray := prog_11_method_116_code
def yX9_cut : MethodName := ⟨RX9, "cut", "(I)I"⟩
abbrev cX9_cuts : ByteArray := prog_11_method_117_code
def yX9_cuts : MethodName := ⟨RX9, "cuts", "()I"⟩
abbrev cX9_divisor : ByteArray := prog_11_method_118_code
def yX9_divisor : MethodName := ⟨RX9, "divisor", "(JJ)J"⟩
abbrev cX9_part : ByteArray := prog_11_method_119_code
def yX9_part : MethodName := ⟨RX9, "part", "(JJI)J"⟩
abbrev cX9_layPuffs : ByteArray := prog_11_method_120_code
def yX9_layPuffs : MethodName := ⟨RX9, "layPuffs", "(III)V"⟩
abbrev cX9_isPuffs : ByteArray := prog_11_method_121_code
def yX9_isPuffs : MethodName := ⟨RX9, "isPuffs", "(II)Z"⟩
abbrev cX9_chance : ByteArray := prog_11_method_122_code
def yX9_chance : MethodName := ⟨RX9, "chance", "(III)J"⟩
abbrev cX9_fair : ByteArray := prog_11_method_123_code
def yX9_fair : MethodName := ⟨RX9, "fair", "(III)J"⟩
abbrev cX9_risk : ByteArray := prog_11_method_124_code
def yX9_risk : MethodName := ⟨RX9, "risk", "(II)J"⟩
abbrev cX9_keepAct : ByteArray := prog_11_method_125_code
def yX9_keepAct : MethodName := ⟨RX9, "keepAct", "(I)I"⟩
abbrev cX9_stifle : ByteArray := prog_11_method_126_code
def yX9_stifle : MethodName := ⟨RX9, "stifle", "(II)I"⟩
abbrev cX9_sniff : ByteArray := prog_11_method_127_code
def yX9_sniff : MethodName := ⟨RX9, "sniff", "(II)I"⟩
abbrev cX9_undo : ByteArray := prog_11_method_128_code
def yX9_undo : MethodName := ⟨RX9, "undo", "()I"⟩
abbrev cX9_anew : ByteArray := prog_11_method_129_code
def yX9_anew : MethodName := ⟨RX9, "anew", "()I"⟩
abbrev cX9_goDrawn : ByteArray := prog_11_method_130_code
def yX9_goDrawn : MethodName := ⟨RX9, "goDrawn", "(J)I"⟩
abbrev cX9_isSeed : ByteArray := prog_11_method_131_code
def yX9_isSeed : MethodName := ⟨RX9, "isSeed", "(I)Z"⟩
abbrev cX9_drawn : ByteArray := prog_11_method_132_code
def yX9_drawn : MethodName := ⟨RX9, "drawn", "(II)I"⟩
abbrev cX9_luck : ByteArray := prog_11_method_133_code
def yX9_luck : MethodName := ⟨RX9, "luck", "(III)I"⟩
abbrev cX9_rate : ByteArray := prog_11_method_134_code
def yX9_rate : MethodName := ⟨RX9, "rate", "(II)I"⟩
abbrev cX9_count : ByteArray := prog_11_method_135_code
def yX9_count : MethodName := ⟨RX9, "count", "(I)I"⟩
abbrev cX9_isSlot : ByteArray := prog_11_method_136_code
def yX9_isSlot : MethodName := ⟨RX9, "isSlot", "(I)Z"⟩
abbrev cX9_cut_ : ByteArray := prog_11_method_137_code
def yX9_cut_ : MethodName := ⟨RX9, "cut", "(JI)J"⟩
abbrev cX9_row : ByteArray := prog_11_method_138_code
def yX9_row : MethodName := ⟨RX9, "row", "(III)I"⟩
abbrev cX9_write : ByteArray := prog_11_method_139_code
def yX9_write : MethodName := ⟨RX9, "write", "(IIJ)I"⟩
abbrev cX9_paste : ByteArray := prog_11_method_140_code
def yX9_paste : MethodName := ⟨RX9, "paste", "(IIIII)I"⟩
def RJx145de : String := "java/io/Serializable"
def TJx145de : u_T := fun k => match k with
  | _ => ("", "", "", false)
def tyJx145de : Nat → FieldType := fun k => match k with
  | _ => .int
abbrev wsJx145de0 : List Cond := u_ws RJx145de TJx145de 0
theorem nmJx145de : ∀ a, a < 0 → ∀ b, b < 0 → a ≠ b → (TJx145de a).2.1 ≠ (TJx145de b).2.1 := by decide +kernel
theorem tyJx145de_ok : ∀ k, k < 0 → parseFieldDescriptor (TJx145de k).2.2.1 = some (tyJx145de k) := by decide +kernel
def RJx9f9b0 : String := "java/lang/CharSequence"
def TJx9f9b0 : u_T := fun k => match k with
  | _ => ("", "", "", false)
def tyJx9f9b0 : Nat → FieldType := fun k => match k with
  | _ => .int
abbrev wsJx9f9b00 : List Cond := u_ws RJx9f9b0 TJx9f9b0 0
theorem nmJx9f9b0 : ∀ a, a < 0 → ∀ b, b < 0 → a ≠ b → (TJx9f9b0 a).2.1 ≠ (TJx9f9b0 b).2.1 := by decide +kernel
theorem tyJx9f9b0_ok : ∀ k, k < 0 → parseFieldDescriptor (TJx9f9b0 k).2.2.1 = some (tyJx9f9b0 k) := by decide +kernel
def RJxb160c : String := "java/lang/Comparable"
def TJxb160c : u_T := fun k => match k with
  | _ => ("", "", "", false)
def tyJxb160c : Nat → FieldType := fun k => match k with
  | _ => .int
abbrev wsJxb160c0 : List Cond := u_ws RJxb160c TJxb160c 0
theorem nmJxb160c : ∀ a, a < 0 → ∀ b, b < 0 → a ≠ b → (TJxb160c a).2.1 ≠ (TJxb160c b).2.1 := by decide +kernel
theorem tyJxb160c_ok : ∀ k, k < 0 → parseFieldDescriptor (TJxb160c k).2.2.1 = some (tyJxb160c k) := by decide +kernel
def RJ6 : String := "java/lang/Integer"
def TJ6 : u_T := fun k => match k with
  | _ => ("", "", "", false)
def tyJ6 : Nat → FieldType := fun k => match k with
  | _ => .int
abbrev wsJ60 : List Cond := u_ws RJ6 TJ6 0
theorem nmJ6 : ∀ a, a < 0 → ∀ b, b < 0 → a ≠ b → (TJ6 a).2.1 ≠ (TJ6 b).2.1 := by decide +kernel
theorem tyJ6_ok : ∀ k, k < 0 → parseFieldDescriptor (TJ6 k).2.2.1 = some (tyJ6 k) := by decide +kernel
abbrev cJ6_bitCount_0f7a4 : ByteArray := prog_12_method_49_code
def yJ6_bitCount_0f7a4 : MethodName := ⟨RJ6, "bitCount", "(I)I"⟩
def RJ9 : String := "java/lang/Math"
def TJ9 : u_T := fun k => match k with
  | _ => ("", "", "", false)
def tyJ9 : Nat → FieldType := fun k => match k with
  | _ => .int
abbrev wsJ90 : List Cond := u_ws RJ9 TJ9 0
theorem nmJ9 : ∀ a, a < 0 → ∀ b, b < 0 → a ≠ b → (TJ9 a).2.1 ≠ (TJ9 b).2.1 := by decide +kernel
theorem tyJ9_ok : ∀ k, k < 0 → parseFieldDescriptor (TJ9 k).2.2.1 = some (tyJ9 k) := by decide +kernel
abbrev cJ9_max_7cf53 : ByteArray := prog_13_method_65_code
def yJ9_max_7cf53 : MethodName := ⟨RJ9, "max", "(II)I"⟩
abbrev cJ9_min_7cf53 : ByteArray := prog_13_method_69_code
def yJ9_min_7cf53 : MethodName := ⟨RJ9, "min", "(II)I"⟩
abbrev cJ9_min_f86c9 : ByteArray := prog_13_method_70_code
def yJ9_min_f86c9 : MethodName := ⟨RJ9, "min", "(JJ)J"⟩
def RJ0 : String := "java/lang/String"
def TJ0 : u_T := fun k => match k with
  | _ => ("", "", "", false)
def tyJ0 : Nat → FieldType := fun k => match k with
  | _ => .int
abbrev wsJ00 : List Cond := u_ws RJ0 TJ0 0
theorem nmJ0 : ∀ a, a < 0 → ∀ b, b < 0 → a ≠ b → (TJ0 a).2.1 ≠ (TJ0 b).2.1 := by decide +kernel
theorem tyJ0_ok : ∀ k, k < 0 → parseFieldDescriptor (TJ0 k).2.2.1 = some (tyJ0 k) := by decide +kernel
abbrev cJ0_length_8abf5 : ByteArray := prog_14_method_54_code
def yJ0_length_8abf5 : MethodName := ⟨RJ0, "length", "()I"⟩
abbrev cJ0_charAt_5068e : ByteArray := prog_14_method_56_code
def yJ0_charAt_5068e : MethodName := ⟨RJ0, "charAt", "(I)C"⟩
abbrev cJ0_coder_7d493 : ByteArray := prog_14_method_152_code
def yJ0_coder_7d493 : MethodName := ⟨RJ0, "coder", "()B"⟩
abbrev cJ0_isLatin1_aae02 : ByteArray := prog_14_method_154_code
def yJ0_isLatin1_aae02 : MethodName := ⟨RJ0, "isLatin1", "()Z"⟩
abbrev cJ0_checkIndex_df160 : ByteArray := prog_14_method_155_code
def yJ0_checkIndex_df160 : MethodName := ⟨RJ0, "checkIndex", "(II)V"⟩
def RJ1 : String := "java/lang/StringLatin1"
def TJ1 : u_T := fun k => match k with
  | _ => ("", "", "", false)
def tyJ1 : Nat → FieldType := fun k => match k with
  | _ => .int
abbrev wsJ10 : List Cond := u_ws RJ1 TJ1 0
theorem nmJ1 : ∀ a, a < 0 → ∀ b, b < 0 → a ≠ b → (TJ1 a).2.1 ≠ (TJ1 b).2.1 := by decide +kernel
theorem tyJ1_ok : ∀ k, k < 0 → parseFieldDescriptor (TJ1 k).2.2.1 = some (tyJ1 k) := by decide +kernel
abbrev cJ1_charAt_3b067 : ByteArray := prog_15_method_2_code
def yJ1_charAt_3b067 : MethodName := ⟨RJ1, "charAt", "([BI)C"⟩
def RJ2 : String := "java/lang/StringUTF16"
def TJ2 : u_T := fun k => match k with
  | _ => ("", "", "", false)
def tyJ2 : Nat → FieldType := fun k => match k with
  | _ => .int
abbrev wsJ20 : List Cond := u_ws RJ2 TJ2 0
theorem nmJ2 : ∀ a, a < 0 → ∀ b, b < 0 → a ≠ b → (TJ2 a).2.1 ≠ (TJ2 b).2.1 := by decide +kernel
theorem tyJ2_ok : ∀ k, k < 0 → parseFieldDescriptor (TJ2 k).2.2.1 = some (tyJ2 k) := by decide +kernel
abbrev cJ2_getChar_3b067 : ByteArray := prog_16_method_5_code
def yJ2_getChar_3b067 : MethodName := ⟨RJ2, "getChar", "([BI)C"⟩
abbrev cJ2_length_9d52b : ByteArray := prog_16_method_6_code
def yJ2_length_9d52b : MethodName := ⟨RJ2, "length", "([B)I"⟩
abbrev cJ2_charAt_3b067 : ByteArray := prog_16_method_83_code
def yJ2_charAt_3b067 : MethodName := ⟨RJ2, "charAt", "([BI)C"⟩
abbrev cJ2_checkIndex_2214a : ByteArray := prog_16_method_91_code
def yJ2_checkIndex_2214a : MethodName := ⟨RJ2, "checkIndex", "(I[B)V"⟩
def RJ10 : String := "java/lang/System"
def TJ10 : u_T := fun k => match k with
  | _ => ("", "", "", false)
def tyJ10 : Nat → FieldType := fun k => match k with
  | _ => .int
abbrev wsJ100 : List Cond := u_ws RJ10 TJ10 0
theorem nmJ10 : ∀ a, a < 0 → ∀ b, b < 0 → a ≠ b → (TJ10 a).2.1 ≠ (TJ10 b).2.1 := by decide +kernel
theorem tyJ10_ok : ∀ k, k < 0 → parseFieldDescriptor (TJ10 k).2.2.1 = some (tyJ10 k) := by decide +kernel
def RJxfd54e : String := "java/lang/constant/Constable"
def TJxfd54e : u_T := fun k => match k with
  | _ => ("", "", "", false)
def tyJxfd54e : Nat → FieldType := fun k => match k with
  | _ => .int
abbrev wsJxfd54e0 : List Cond := u_ws RJxfd54e TJxfd54e 0
theorem nmJxfd54e : ∀ a, a < 0 → ∀ b, b < 0 → a ≠ b → (TJxfd54e a).2.1 ≠ (TJxfd54e b).2.1 := by decide +kernel
theorem tyJxfd54e_ok : ∀ k, k < 0 → parseFieldDescriptor (TJxfd54e k).2.2.1 = some (tyJxfd54e k) := by decide +kernel
def RJx3cf43 : String := "java/lang/constant/ConstantDesc"
def TJx3cf43 : u_T := fun k => match k with
  | _ => ("", "", "", false)
def tyJx3cf43 : Nat → FieldType := fun k => match k with
  | _ => .int
abbrev wsJx3cf430 : List Cond := u_ws RJx3cf43 TJx3cf43 0
theorem nmJx3cf43 : ∀ a, a < 0 → ∀ b, b < 0 → a ≠ b → (TJx3cf43 a).2.1 ≠ (TJx3cf43 b).2.1 := by decide +kernel
theorem tyJx3cf43_ok : ∀ k, k < 0 → parseFieldDescriptor (TJx3cf43 k).2.2.1 = some (tyJx3cf43 k) := by decide +kernel
def RJ7 : String := "java/util/Arrays"
def TJ7 : u_T := fun k => match k with
  | _ => ("", "", "", false)
def tyJ7 : Nat → FieldType := fun k => match k with
  | _ => .int
abbrev wsJ70 : List Cond := u_ws RJ7 TJ7 0
theorem nmJ7 : ∀ a, a < 0 → ∀ b, b < 0 → a ≠ b → (TJ7 a).2.1 ≠ (TJ7 b).2.1 := by decide +kernel
theorem tyJ7_ok : ∀ k, k < 0 → parseFieldDescriptor (TJ7 k).2.2.1 = some (tyJ7 k) := by decide +kernel
abbrev cJ7_fill_d0a16 : ByteArray := prog_18_method_101_code
def yJ7_fill_d0a16 : MethodName := ⟨RJ7, "fill", "([JJ)V"⟩
abbrev cJ7_fill_53178 : ByteArray := prog_18_method_103_code
def yJ7_fill_53178 : MethodName := ⟨RJ7, "fill", "([II)V"⟩
def RJ3 : String := "jdk/internal/util/Preconditions"
def TJ3 : u_T := fun k => match k with
  | _ => ("", "", "", false)
def tyJ3 : Nat → FieldType := fun k => match k with
  | _ => .int
abbrev wsJ30 : List Cond := u_ws RJ3 TJ3 0
theorem nmJ3 : ∀ a, a < 0 → ∀ b, b < 0 → a ≠ b → (TJ3 a).2.1 ≠ (TJ3 b).2.1 := by decide +kernel
theorem tyJ3_ok : ∀ k, k < 0 → parseFieldDescriptor (TJ3 k).2.2.1 = some (tyJ3 k) := by decide +kernel
abbrev cJ3_checkIndex_8e157 : ByteArray := prog_19_method_11_code
def yJ3_checkIndex_8e157 : MethodName := ⟨RJ3, "checkIndex", "(IILjava/util/function/BiFunction;)I"⟩
def RL : String := "PepperPolicyLaw"
abbrev cL_law : ByteArray := code
def yL_law : MethodName := ⟨RL, "law", "([I)Z"⟩
abbrev vwCl : List vw_C := [(RX0, TX0, 14), (RX1, TX1, 2), (RX2, TX2, 6), (RX3, TX3, 4), (RX4, TX4, 5), (RX5, TX5, 8), (RX6, TX6, 3), (RX7, TX7, 5), (RX8, TX8, 12), (RX9, TX9, 46)]
end
section
abbrev dQ_P (cc : ByteArray) (n : Nat) (T : List UInt8) : Prop := ∀ i : Nat, cc.data.toList[i + n]? = T[i]?
/-! bytes by named tails, instructions by lemmas -/
section
variable {cc : ByteArray} {pc : Nat} {a b : UInt8}
theorem ra_bind {α β : Type} (x : Decoder α) (f : α → Decoder β) (cc : ByteArray) (p : Nat) : Reader.runAt (x >>= f) cc p = (Reader.runAt x cc p).bind (fun r => Reader.runAt (f r.1) cc r.2) := rfl
theorem dk_u1 {p : Nat} (h : cc.data.toList[p]? = some a) : Reader.runAt (Reader.u1 : Decoder Nat) cc p = .ok (a.toNat, p + 1) := by
  obtain ⟨hp, e⟩ := List.getElem?_eq_some_iff.mp h
  have hs : p < cc.size := hp
  have e2 : cc[p] = a := e
  have r : Reader.runAt (Reader.u1 : Decoder Nat) cc p = Reader.runAt (if h : p < cc.size then (do set (p + 1); pure cc[p].toNat) else throw (HasTruncated.truncated p) : Decoder Nat) cc p := rfl
  rw [r, dif_pos hs, ← e2]
  rfl
theorem dk_u2 {p : Nat} (h : cc.data.toList[p]? = some a) (h2 : cc.data.toList[p + 1]? = some b) : Reader.runAt (Reader.u2 : Decoder Nat) cc p = .ok (a.toNat * 256 + b.toNat, p + 2) := by
  unfold Reader.u2
  rw [ra_bind, dk_u1 h]
  show Reader.runAt ((Reader.u1 : Decoder Nat) >>= fun lo => pure (a.toNat * 256 + lo)) cc (p + 1) = _
  rw [ra_bind, dk_u1 h2]
  rfl
theorem dk_s1 {p : Nat} (h : cc.data.toList[p]? = some a) : Reader.runAt (Reader.s1 : Decoder Int) cc p = .ok (Reader.signed 8 a.toNat, p + 1) := by
  have r : Reader.runAt (Reader.s1 : Decoder Int) cc p = (Reader.runAt (Reader.u1 : Decoder Nat) cc p).bind (fun r => .ok (Reader.signed 8 r.1, r.2)) := rfl
  rw [r, dk_u1 h]
  rfl
theorem dk_s2 {p : Nat} (h : cc.data.toList[p]? = some a) (h2 : cc.data.toList[p + 1]? = some b) : Reader.runAt (Reader.s2 : Decoder Int) cc p = .ok (Reader.signed 16 (a.toNat * 256 + b.toNat), p + 2) := by
  have r : Reader.runAt (Reader.s2 : Decoder Int) cc p = (Reader.runAt (Reader.u2 : Decoder Nat) cc p).bind (fun r => .ok (Reader.signed 16 r.1, r.2)) := rfl
  rw [r, dk_u2 h h2]
  rfl
theorem dk_dec {i : Instr} {n : Nat} (h : Reader.runAt (Decoder.instr pc) cc pc = .ok (i, pc + n)) : decode cc pc = .ok (i, n) := by
  unfold decode
  rw [h]
  show Except.ok (i, pc + n - pc) = _
  rw [Nat.add_sub_cancel_left]
theorem dk_2 (h : cc.data.toList[pc]? = some 2) : decode cc pc = .ok (.iconst (-1), 1) := by
  have u : Reader.runAt (Reader.u1 : Decoder Nat) cc pc = .ok (2, pc + 1) := dk_u1 h
  refine dk_dec ?_
  unfold Decoder.instr
  rw [ra_bind, u]
  rfl
theorem dk_3 (h : cc.data.toList[pc]? = some 3) : decode cc pc = .ok (.iconst 0, 1) := by
  have u : Reader.runAt (Reader.u1 : Decoder Nat) cc pc = .ok (3, pc + 1) := dk_u1 h
  refine dk_dec ?_
  unfold Decoder.instr
  rw [ra_bind, u]
  rfl
theorem dk_4 (h : cc.data.toList[pc]? = some 4) : decode cc pc = .ok (.iconst 1, 1) := by
  have u : Reader.runAt (Reader.u1 : Decoder Nat) cc pc = .ok (4, pc + 1) := dk_u1 h
  refine dk_dec ?_
  unfold Decoder.instr
  rw [ra_bind, u]
  rfl
theorem dk_5 (h : cc.data.toList[pc]? = some 5) : decode cc pc = .ok (.iconst 2, 1) := by
  have u : Reader.runAt (Reader.u1 : Decoder Nat) cc pc = .ok (5, pc + 1) := dk_u1 h
  refine dk_dec ?_
  unfold Decoder.instr
  rw [ra_bind, u]
  rfl
theorem dk_6 (h : cc.data.toList[pc]? = some 6) : decode cc pc = .ok (.iconst 3, 1) := by
  have u : Reader.runAt (Reader.u1 : Decoder Nat) cc pc = .ok (6, pc + 1) := dk_u1 h
  refine dk_dec ?_
  unfold Decoder.instr
  rw [ra_bind, u]
  rfl
theorem dk_7 (h : cc.data.toList[pc]? = some 7) : decode cc pc = .ok (.iconst 4, 1) := by
  have u : Reader.runAt (Reader.u1 : Decoder Nat) cc pc = .ok (7, pc + 1) := dk_u1 h
  refine dk_dec ?_
  unfold Decoder.instr
  rw [ra_bind, u]
  rfl
theorem dk_8 (h : cc.data.toList[pc]? = some 8) : decode cc pc = .ok (.iconst 5, 1) := by
  have u : Reader.runAt (Reader.u1 : Decoder Nat) cc pc = .ok (8, pc + 1) := dk_u1 h
  refine dk_dec ?_
  unfold Decoder.instr
  rw [ra_bind, u]
  rfl
theorem dk_9 (h : cc.data.toList[pc]? = some 9) : decode cc pc = .ok (.lconst 0, 1) := by
  have u : Reader.runAt (Reader.u1 : Decoder Nat) cc pc = .ok (9, pc + 1) := dk_u1 h
  refine dk_dec ?_
  unfold Decoder.instr
  rw [ra_bind, u]
  rfl
theorem dk_10 (h : cc.data.toList[pc]? = some 10) : decode cc pc = .ok (.lconst 1, 1) := by
  have u : Reader.runAt (Reader.u1 : Decoder Nat) cc pc = .ok (10, pc + 1) := dk_u1 h
  refine dk_dec ?_
  unfold Decoder.instr
  rw [ra_bind, u]
  rfl
theorem dk_16 {n : Int} (h : cc.data.toList[pc]? = some 16) (h1 : cc.data.toList[pc + 1]? = some a) (e : Reader.signed 8 a.toNat = n) : decode cc pc = .ok (.bipush n, 2) := by
  have u : Reader.runAt (Reader.u1 : Decoder Nat) cc pc = .ok (16, pc + 1) := dk_u1 h
  subst e
  refine dk_dec ?_
  unfold Decoder.instr
  rw [ra_bind, u]
  show Reader.runAt ((Reader.s1 : Decoder Int) >>= fun n => pure (.bipush n : Instr)) cc (pc + 1) = _
  rw [ra_bind, dk_s1 h1]
  rfl
theorem dk_17 {n : Int} (h : cc.data.toList[pc]? = some 17) (h1 : cc.data.toList[pc + 1]? = some a) (h2 : cc.data.toList[pc + 2]? = some b) (e : Reader.signed 16 (a.toNat * 256 + b.toNat) = n) : decode cc pc = .ok (.sipush n, 3) := by
  have u : Reader.runAt (Reader.u1 : Decoder Nat) cc pc = .ok (17, pc + 1) := dk_u1 h
  subst e
  refine dk_dec ?_
  unfold Decoder.instr
  rw [ra_bind, u]
  show Reader.runAt ((Reader.s2 : Decoder Int) >>= fun n => pure (.sipush n : Instr)) cc (pc + 1) = _
  rw [ra_bind, dk_s2 h1 h2]
  rfl
theorem dk_18 {n : Nat} (h : cc.data.toList[pc]? = some 18) (h1 : cc.data.toList[pc + 1]? = some a) (e : a.toNat = n) : decode cc pc = .ok (.ldc n, 2) := by
  have u : Reader.runAt (Reader.u1 : Decoder Nat) cc pc = .ok (18, pc + 1) := dk_u1 h
  subst e
  refine dk_dec ?_
  unfold Decoder.instr
  rw [ra_bind, u]
  show Reader.runAt ((Reader.u1 : Decoder Nat) >>= fun n => pure (.ldc n : Instr)) cc (pc + 1) = _
  rw [ra_bind, dk_u1 h1]
  rfl
theorem dk_19 {n : Nat} (h : cc.data.toList[pc]? = some 19) (h1 : cc.data.toList[pc + 1]? = some a) (h2 : cc.data.toList[pc + 2]? = some b) (e : a.toNat * 256 + b.toNat = n) : decode cc pc = .ok (.ldc_w n, 3) := by
  have u : Reader.runAt (Reader.u1 : Decoder Nat) cc pc = .ok (19, pc + 1) := dk_u1 h
  subst e
  refine dk_dec ?_
  unfold Decoder.instr
  rw [ra_bind, u]
  show Reader.runAt ((Reader.u2 : Decoder Nat) >>= fun n => pure (.ldc_w n : Instr)) cc (pc + 1) = _
  rw [ra_bind, dk_u2 h1 h2]
  rfl
theorem dk_20 {n : Nat} (h : cc.data.toList[pc]? = some 20) (h1 : cc.data.toList[pc + 1]? = some a) (h2 : cc.data.toList[pc + 2]? = some b) (e : a.toNat * 256 + b.toNat = n) : decode cc pc = .ok (.ldc2_w n, 3) := by
  have u : Reader.runAt (Reader.u1 : Decoder Nat) cc pc = .ok (20, pc + 1) := dk_u1 h
  subst e
  refine dk_dec ?_
  unfold Decoder.instr
  rw [ra_bind, u]
  show Reader.runAt ((Reader.u2 : Decoder Nat) >>= fun n => pure (.ldc2_w n : Instr)) cc (pc + 1) = _
  rw [ra_bind, dk_u2 h1 h2]
  rfl
theorem dk_21 {n : Nat} (h : cc.data.toList[pc]? = some 21) (h1 : cc.data.toList[pc + 1]? = some a) (e : a.toNat = n) : decode cc pc = .ok (.iload n, 2) := by
  have u : Reader.runAt (Reader.u1 : Decoder Nat) cc pc = .ok (21, pc + 1) := dk_u1 h
  subst e
  refine dk_dec ?_
  unfold Decoder.instr
  rw [ra_bind, u]
  show Reader.runAt ((Reader.u1 : Decoder Nat) >>= fun n => pure (.iload n : Instr)) cc (pc + 1) = _
  rw [ra_bind, dk_u1 h1]
  rfl
theorem dk_22 {n : Nat} (h : cc.data.toList[pc]? = some 22) (h1 : cc.data.toList[pc + 1]? = some a) (e : a.toNat = n) : decode cc pc = .ok (.lload n, 2) := by
  have u : Reader.runAt (Reader.u1 : Decoder Nat) cc pc = .ok (22, pc + 1) := dk_u1 h
  subst e
  refine dk_dec ?_
  unfold Decoder.instr
  rw [ra_bind, u]
  show Reader.runAt ((Reader.u1 : Decoder Nat) >>= fun n => pure (.lload n : Instr)) cc (pc + 1) = _
  rw [ra_bind, dk_u1 h1]
  rfl
theorem dk_26 (h : cc.data.toList[pc]? = some 26) : decode cc pc = .ok (.iload_n 0, 1) := by
  have u : Reader.runAt (Reader.u1 : Decoder Nat) cc pc = .ok (26, pc + 1) := dk_u1 h
  refine dk_dec ?_
  unfold Decoder.instr
  rw [ra_bind, u]
  rfl
theorem dk_27 (h : cc.data.toList[pc]? = some 27) : decode cc pc = .ok (.iload_n 1, 1) := by
  have u : Reader.runAt (Reader.u1 : Decoder Nat) cc pc = .ok (27, pc + 1) := dk_u1 h
  refine dk_dec ?_
  unfold Decoder.instr
  rw [ra_bind, u]
  rfl
theorem dk_28 (h : cc.data.toList[pc]? = some 28) : decode cc pc = .ok (.iload_n 2, 1) := by
  have u : Reader.runAt (Reader.u1 : Decoder Nat) cc pc = .ok (28, pc + 1) := dk_u1 h
  refine dk_dec ?_
  unfold Decoder.instr
  rw [ra_bind, u]
  rfl
theorem dk_29 (h : cc.data.toList[pc]? = some 29) : decode cc pc = .ok (.iload_n 3, 1) := by
  have u : Reader.runAt (Reader.u1 : Decoder Nat) cc pc = .ok (29, pc + 1) := dk_u1 h
  refine dk_dec ?_
  unfold Decoder.instr
  rw [ra_bind, u]
  rfl
theorem dk_30 (h : cc.data.toList[pc]? = some 30) : decode cc pc = .ok (.lload_n 0, 1) := by
  have u : Reader.runAt (Reader.u1 : Decoder Nat) cc pc = .ok (30, pc + 1) := dk_u1 h
  refine dk_dec ?_
  unfold Decoder.instr
  rw [ra_bind, u]
  rfl
theorem dk_31 (h : cc.data.toList[pc]? = some 31) : decode cc pc = .ok (.lload_n 1, 1) := by
  have u : Reader.runAt (Reader.u1 : Decoder Nat) cc pc = .ok (31, pc + 1) := dk_u1 h
  refine dk_dec ?_
  unfold Decoder.instr
  rw [ra_bind, u]
  rfl
theorem dk_32 (h : cc.data.toList[pc]? = some 32) : decode cc pc = .ok (.lload_n 2, 1) := by
  have u : Reader.runAt (Reader.u1 : Decoder Nat) cc pc = .ok (32, pc + 1) := dk_u1 h
  refine dk_dec ?_
  unfold Decoder.instr
  rw [ra_bind, u]
  rfl
theorem dk_33 (h : cc.data.toList[pc]? = some 33) : decode cc pc = .ok (.lload_n 3, 1) := by
  have u : Reader.runAt (Reader.u1 : Decoder Nat) cc pc = .ok (33, pc + 1) := dk_u1 h
  refine dk_dec ?_
  unfold Decoder.instr
  rw [ra_bind, u]
  rfl
theorem dk_42 (h : cc.data.toList[pc]? = some 42) : decode cc pc = .ok (.aload_n 0, 1) := by
  have u : Reader.runAt (Reader.u1 : Decoder Nat) cc pc = .ok (42, pc + 1) := dk_u1 h
  refine dk_dec ?_
  unfold Decoder.instr
  rw [ra_bind, u]
  rfl
theorem dk_43 (h : cc.data.toList[pc]? = some 43) : decode cc pc = .ok (.aload_n 1, 1) := by
  have u : Reader.runAt (Reader.u1 : Decoder Nat) cc pc = .ok (43, pc + 1) := dk_u1 h
  refine dk_dec ?_
  unfold Decoder.instr
  rw [ra_bind, u]
  rfl
theorem dk_44 (h : cc.data.toList[pc]? = some 44) : decode cc pc = .ok (.aload_n 2, 1) := by
  have u : Reader.runAt (Reader.u1 : Decoder Nat) cc pc = .ok (44, pc + 1) := dk_u1 h
  refine dk_dec ?_
  unfold Decoder.instr
  rw [ra_bind, u]
  rfl
theorem dk_46 (h : cc.data.toList[pc]? = some 46) : decode cc pc = .ok (.iaload, 1) := by
  have u : Reader.runAt (Reader.u1 : Decoder Nat) cc pc = .ok (46, pc + 1) := dk_u1 h
  refine dk_dec ?_
  unfold Decoder.instr
  rw [ra_bind, u]
  rfl
theorem dk_47 (h : cc.data.toList[pc]? = some 47) : decode cc pc = .ok (.laload, 1) := by
  have u : Reader.runAt (Reader.u1 : Decoder Nat) cc pc = .ok (47, pc + 1) := dk_u1 h
  refine dk_dec ?_
  unfold Decoder.instr
  rw [ra_bind, u]
  rfl
theorem dk_50 (h : cc.data.toList[pc]? = some 50) : decode cc pc = .ok (.aaload, 1) := by
  have u : Reader.runAt (Reader.u1 : Decoder Nat) cc pc = .ok (50, pc + 1) := dk_u1 h
  refine dk_dec ?_
  unfold Decoder.instr
  rw [ra_bind, u]
  rfl
theorem dk_51 (h : cc.data.toList[pc]? = some 51) : decode cc pc = .ok (.baload, 1) := by
  have u : Reader.runAt (Reader.u1 : Decoder Nat) cc pc = .ok (51, pc + 1) := dk_u1 h
  refine dk_dec ?_
  unfold Decoder.instr
  rw [ra_bind, u]
  rfl
theorem dk_54 {n : Nat} (h : cc.data.toList[pc]? = some 54) (h1 : cc.data.toList[pc + 1]? = some a) (e : a.toNat = n) : decode cc pc = .ok (.istore n, 2) := by
  have u : Reader.runAt (Reader.u1 : Decoder Nat) cc pc = .ok (54, pc + 1) := dk_u1 h
  subst e
  refine dk_dec ?_
  unfold Decoder.instr
  rw [ra_bind, u]
  show Reader.runAt ((Reader.u1 : Decoder Nat) >>= fun n => pure (.istore n : Instr)) cc (pc + 1) = _
  rw [ra_bind, dk_u1 h1]
  rfl
theorem dk_55 {n : Nat} (h : cc.data.toList[pc]? = some 55) (h1 : cc.data.toList[pc + 1]? = some a) (e : a.toNat = n) : decode cc pc = .ok (.lstore n, 2) := by
  have u : Reader.runAt (Reader.u1 : Decoder Nat) cc pc = .ok (55, pc + 1) := dk_u1 h
  subst e
  refine dk_dec ?_
  unfold Decoder.instr
  rw [ra_bind, u]
  show Reader.runAt ((Reader.u1 : Decoder Nat) >>= fun n => pure (.lstore n : Instr)) cc (pc + 1) = _
  rw [ra_bind, dk_u1 h1]
  rfl
theorem dk_59 (h : cc.data.toList[pc]? = some 59) : decode cc pc = .ok (.istore_n 0, 1) := by
  have u : Reader.runAt (Reader.u1 : Decoder Nat) cc pc = .ok (59, pc + 1) := dk_u1 h
  refine dk_dec ?_
  unfold Decoder.instr
  rw [ra_bind, u]
  rfl
theorem dk_60 (h : cc.data.toList[pc]? = some 60) : decode cc pc = .ok (.istore_n 1, 1) := by
  have u : Reader.runAt (Reader.u1 : Decoder Nat) cc pc = .ok (60, pc + 1) := dk_u1 h
  refine dk_dec ?_
  unfold Decoder.instr
  rw [ra_bind, u]
  rfl
theorem dk_61 (h : cc.data.toList[pc]? = some 61) : decode cc pc = .ok (.istore_n 2, 1) := by
  have u : Reader.runAt (Reader.u1 : Decoder Nat) cc pc = .ok (61, pc + 1) := dk_u1 h
  refine dk_dec ?_
  unfold Decoder.instr
  rw [ra_bind, u]
  rfl
theorem dk_62 (h : cc.data.toList[pc]? = some 62) : decode cc pc = .ok (.istore_n 3, 1) := by
  have u : Reader.runAt (Reader.u1 : Decoder Nat) cc pc = .ok (62, pc + 1) := dk_u1 h
  refine dk_dec ?_
  unfold Decoder.instr
  rw [ra_bind, u]
  rfl
theorem dk_64 (h : cc.data.toList[pc]? = some 64) : decode cc pc = .ok (.lstore_n 1, 1) := by
  have u : Reader.runAt (Reader.u1 : Decoder Nat) cc pc = .ok (64, pc + 1) := dk_u1 h
  refine dk_dec ?_
  unfold Decoder.instr
  rw [ra_bind, u]
  rfl
theorem dk_66 (h : cc.data.toList[pc]? = some 66) : decode cc pc = .ok (.lstore_n 3, 1) := by
  have u : Reader.runAt (Reader.u1 : Decoder Nat) cc pc = .ok (66, pc + 1) := dk_u1 h
  refine dk_dec ?_
  unfold Decoder.instr
  rw [ra_bind, u]
  rfl
theorem dk_76 (h : cc.data.toList[pc]? = some 76) : decode cc pc = .ok (.astore_n 1, 1) := by
  have u : Reader.runAt (Reader.u1 : Decoder Nat) cc pc = .ok (76, pc + 1) := dk_u1 h
  refine dk_dec ?_
  unfold Decoder.instr
  rw [ra_bind, u]
  rfl
theorem dk_77 (h : cc.data.toList[pc]? = some 77) : decode cc pc = .ok (.astore_n 2, 1) := by
  have u : Reader.runAt (Reader.u1 : Decoder Nat) cc pc = .ok (77, pc + 1) := dk_u1 h
  refine dk_dec ?_
  unfold Decoder.instr
  rw [ra_bind, u]
  rfl
theorem dk_79 (h : cc.data.toList[pc]? = some 79) : decode cc pc = .ok (.iastore, 1) := by
  have u : Reader.runAt (Reader.u1 : Decoder Nat) cc pc = .ok (79, pc + 1) := dk_u1 h
  refine dk_dec ?_
  unfold Decoder.instr
  rw [ra_bind, u]
  rfl
theorem dk_80 (h : cc.data.toList[pc]? = some 80) : decode cc pc = .ok (.lastore, 1) := by
  have u : Reader.runAt (Reader.u1 : Decoder Nat) cc pc = .ok (80, pc + 1) := dk_u1 h
  refine dk_dec ?_
  unfold Decoder.instr
  rw [ra_bind, u]
  rfl
theorem dk_83 (h : cc.data.toList[pc]? = some 83) : decode cc pc = .ok (.aastore, 1) := by
  have u : Reader.runAt (Reader.u1 : Decoder Nat) cc pc = .ok (83, pc + 1) := dk_u1 h
  refine dk_dec ?_
  unfold Decoder.instr
  rw [ra_bind, u]
  rfl
theorem dk_84 (h : cc.data.toList[pc]? = some 84) : decode cc pc = .ok (.bastore, 1) := by
  have u : Reader.runAt (Reader.u1 : Decoder Nat) cc pc = .ok (84, pc + 1) := dk_u1 h
  refine dk_dec ?_
  unfold Decoder.instr
  rw [ra_bind, u]
  rfl
theorem dk_87 (h : cc.data.toList[pc]? = some 87) : decode cc pc = .ok (.pop, 1) := by
  have u : Reader.runAt (Reader.u1 : Decoder Nat) cc pc = .ok (87, pc + 1) := dk_u1 h
  refine dk_dec ?_
  unfold Decoder.instr
  rw [ra_bind, u]
  rfl
theorem dk_88 (h : cc.data.toList[pc]? = some 88) : decode cc pc = .ok (.pop2, 1) := by
  have u : Reader.runAt (Reader.u1 : Decoder Nat) cc pc = .ok (88, pc + 1) := dk_u1 h
  refine dk_dec ?_
  unfold Decoder.instr
  rw [ra_bind, u]
  rfl
theorem dk_89 (h : cc.data.toList[pc]? = some 89) : decode cc pc = .ok (.dup, 1) := by
  have u : Reader.runAt (Reader.u1 : Decoder Nat) cc pc = .ok (89, pc + 1) := dk_u1 h
  refine dk_dec ?_
  unfold Decoder.instr
  rw [ra_bind, u]
  rfl
theorem dk_92 (h : cc.data.toList[pc]? = some 92) : decode cc pc = .ok (.dup2, 1) := by
  have u : Reader.runAt (Reader.u1 : Decoder Nat) cc pc = .ok (92, pc + 1) := dk_u1 h
  refine dk_dec ?_
  unfold Decoder.instr
  rw [ra_bind, u]
  rfl
theorem dk_96 (h : cc.data.toList[pc]? = some 96) : decode cc pc = .ok (.iadd, 1) := by
  have u : Reader.runAt (Reader.u1 : Decoder Nat) cc pc = .ok (96, pc + 1) := dk_u1 h
  refine dk_dec ?_
  unfold Decoder.instr
  rw [ra_bind, u]
  rfl
theorem dk_97 (h : cc.data.toList[pc]? = some 97) : decode cc pc = .ok (.ladd, 1) := by
  have u : Reader.runAt (Reader.u1 : Decoder Nat) cc pc = .ok (97, pc + 1) := dk_u1 h
  refine dk_dec ?_
  unfold Decoder.instr
  rw [ra_bind, u]
  rfl
theorem dk_100 (h : cc.data.toList[pc]? = some 100) : decode cc pc = .ok (.isub, 1) := by
  have u : Reader.runAt (Reader.u1 : Decoder Nat) cc pc = .ok (100, pc + 1) := dk_u1 h
  refine dk_dec ?_
  unfold Decoder.instr
  rw [ra_bind, u]
  rfl
theorem dk_104 (h : cc.data.toList[pc]? = some 104) : decode cc pc = .ok (.imul, 1) := by
  have u : Reader.runAt (Reader.u1 : Decoder Nat) cc pc = .ok (104, pc + 1) := dk_u1 h
  refine dk_dec ?_
  unfold Decoder.instr
  rw [ra_bind, u]
  rfl
theorem dk_105 (h : cc.data.toList[pc]? = some 105) : decode cc pc = .ok (.lmul, 1) := by
  have u : Reader.runAt (Reader.u1 : Decoder Nat) cc pc = .ok (105, pc + 1) := dk_u1 h
  refine dk_dec ?_
  unfold Decoder.instr
  rw [ra_bind, u]
  rfl
theorem dk_108 (h : cc.data.toList[pc]? = some 108) : decode cc pc = .ok (.idiv, 1) := by
  have u : Reader.runAt (Reader.u1 : Decoder Nat) cc pc = .ok (108, pc + 1) := dk_u1 h
  refine dk_dec ?_
  unfold Decoder.instr
  rw [ra_bind, u]
  rfl
theorem dk_109 (h : cc.data.toList[pc]? = some 109) : decode cc pc = .ok (.ldiv, 1) := by
  have u : Reader.runAt (Reader.u1 : Decoder Nat) cc pc = .ok (109, pc + 1) := dk_u1 h
  refine dk_dec ?_
  unfold Decoder.instr
  rw [ra_bind, u]
  rfl
theorem dk_112 (h : cc.data.toList[pc]? = some 112) : decode cc pc = .ok (.irem, 1) := by
  have u : Reader.runAt (Reader.u1 : Decoder Nat) cc pc = .ok (112, pc + 1) := dk_u1 h
  refine dk_dec ?_
  unfold Decoder.instr
  rw [ra_bind, u]
  rfl
theorem dk_113 (h : cc.data.toList[pc]? = some 113) : decode cc pc = .ok (.lrem, 1) := by
  have u : Reader.runAt (Reader.u1 : Decoder Nat) cc pc = .ok (113, pc + 1) := dk_u1 h
  refine dk_dec ?_
  unfold Decoder.instr
  rw [ra_bind, u]
  rfl
theorem dk_116 (h : cc.data.toList[pc]? = some 116) : decode cc pc = .ok (.ineg, 1) := by
  have u : Reader.runAt (Reader.u1 : Decoder Nat) cc pc = .ok (116, pc + 1) := dk_u1 h
  refine dk_dec ?_
  unfold Decoder.instr
  rw [ra_bind, u]
  rfl
theorem dk_120 (h : cc.data.toList[pc]? = some 120) : decode cc pc = .ok (.ishl, 1) := by
  have u : Reader.runAt (Reader.u1 : Decoder Nat) cc pc = .ok (120, pc + 1) := dk_u1 h
  refine dk_dec ?_
  unfold Decoder.instr
  rw [ra_bind, u]
  rfl
theorem dk_121 (h : cc.data.toList[pc]? = some 121) : decode cc pc = .ok (.lshl, 1) := by
  have u : Reader.runAt (Reader.u1 : Decoder Nat) cc pc = .ok (121, pc + 1) := dk_u1 h
  refine dk_dec ?_
  unfold Decoder.instr
  rw [ra_bind, u]
  rfl
theorem dk_122 (h : cc.data.toList[pc]? = some 122) : decode cc pc = .ok (.ishr, 1) := by
  have u : Reader.runAt (Reader.u1 : Decoder Nat) cc pc = .ok (122, pc + 1) := dk_u1 h
  refine dk_dec ?_
  unfold Decoder.instr
  rw [ra_bind, u]
  rfl
theorem dk_123 (h : cc.data.toList[pc]? = some 123) : decode cc pc = .ok (.lshr, 1) := by
  have u : Reader.runAt (Reader.u1 : Decoder Nat) cc pc = .ok (123, pc + 1) := dk_u1 h
  refine dk_dec ?_
  unfold Decoder.instr
  rw [ra_bind, u]
  rfl
theorem dk_124 (h : cc.data.toList[pc]? = some 124) : decode cc pc = .ok (.iushr, 1) := by
  have u : Reader.runAt (Reader.u1 : Decoder Nat) cc pc = .ok (124, pc + 1) := dk_u1 h
  refine dk_dec ?_
  unfold Decoder.instr
  rw [ra_bind, u]
  rfl
theorem dk_126 (h : cc.data.toList[pc]? = some 126) : decode cc pc = .ok (.iand, 1) := by
  have u : Reader.runAt (Reader.u1 : Decoder Nat) cc pc = .ok (126, pc + 1) := dk_u1 h
  refine dk_dec ?_
  unfold Decoder.instr
  rw [ra_bind, u]
  rfl
theorem dk_127 (h : cc.data.toList[pc]? = some 127) : decode cc pc = .ok (.land, 1) := by
  have u : Reader.runAt (Reader.u1 : Decoder Nat) cc pc = .ok (127, pc + 1) := dk_u1 h
  refine dk_dec ?_
  unfold Decoder.instr
  rw [ra_bind, u]
  rfl
theorem dk_128 (h : cc.data.toList[pc]? = some 128) : decode cc pc = .ok (.ior, 1) := by
  have u : Reader.runAt (Reader.u1 : Decoder Nat) cc pc = .ok (128, pc + 1) := dk_u1 h
  refine dk_dec ?_
  unfold Decoder.instr
  rw [ra_bind, u]
  rfl
theorem dk_129 (h : cc.data.toList[pc]? = some 129) : decode cc pc = .ok (.lor, 1) := by
  have u : Reader.runAt (Reader.u1 : Decoder Nat) cc pc = .ok (129, pc + 1) := dk_u1 h
  refine dk_dec ?_
  unfold Decoder.instr
  rw [ra_bind, u]
  rfl
theorem dk_130 (h : cc.data.toList[pc]? = some 130) : decode cc pc = .ok (.ixor, 1) := by
  have u : Reader.runAt (Reader.u1 : Decoder Nat) cc pc = .ok (130, pc + 1) := dk_u1 h
  refine dk_dec ?_
  unfold Decoder.instr
  rw [ra_bind, u]
  rfl
theorem dk_132 {n : Nat} {k : Int} (h : cc.data.toList[pc]? = some 132) (h1 : cc.data.toList[pc + 1]? = some a) (h2 : cc.data.toList[pc + 2]? = some b) (e : a.toNat = n) (e2 : Reader.signed 8 b.toNat = k) : decode cc pc = .ok (.iinc n k, 3) := by
  have u : Reader.runAt (Reader.u1 : Decoder Nat) cc pc = .ok (132, pc + 1) := dk_u1 h
  subst e e2
  refine dk_dec ?_
  unfold Decoder.instr
  rw [ra_bind, u]
  show Reader.runAt ((Reader.u1 : Decoder Nat) >>= fun n => (Reader.s1 : Decoder Int) >>= fun k => pure (.iinc n k : Instr)) cc (pc + 1) = _
  rw [ra_bind, dk_u1 h1]
  show Reader.runAt ((Reader.s1 : Decoder Int) >>= fun k => pure (.iinc a.toNat k : Instr)) cc (pc + 2) = _
  rw [ra_bind, dk_s1 h2]
  rfl
theorem dk_133 (h : cc.data.toList[pc]? = some 133) : decode cc pc = .ok (.i2l, 1) := by
  have u : Reader.runAt (Reader.u1 : Decoder Nat) cc pc = .ok (133, pc + 1) := dk_u1 h
  refine dk_dec ?_
  unfold Decoder.instr
  rw [ra_bind, u]
  rfl
theorem dk_136 (h : cc.data.toList[pc]? = some 136) : decode cc pc = .ok (.l2i, 1) := by
  have u : Reader.runAt (Reader.u1 : Decoder Nat) cc pc = .ok (136, pc + 1) := dk_u1 h
  refine dk_dec ?_
  unfold Decoder.instr
  rw [ra_bind, u]
  rfl
theorem dk_145 (h : cc.data.toList[pc]? = some 145) : decode cc pc = .ok (.i2b, 1) := by
  have u : Reader.runAt (Reader.u1 : Decoder Nat) cc pc = .ok (145, pc + 1) := dk_u1 h
  refine dk_dec ?_
  unfold Decoder.instr
  rw [ra_bind, u]
  rfl
theorem dk_146 (h : cc.data.toList[pc]? = some 146) : decode cc pc = .ok (.i2c, 1) := by
  have u : Reader.runAt (Reader.u1 : Decoder Nat) cc pc = .ok (146, pc + 1) := dk_u1 h
  refine dk_dec ?_
  unfold Decoder.instr
  rw [ra_bind, u]
  rfl
theorem dk_147 (h : cc.data.toList[pc]? = some 147) : decode cc pc = .ok (.i2s, 1) := by
  have u : Reader.runAt (Reader.u1 : Decoder Nat) cc pc = .ok (147, pc + 1) := dk_u1 h
  refine dk_dec ?_
  unfold Decoder.instr
  rw [ra_bind, u]
  rfl
theorem dk_148 (h : cc.data.toList[pc]? = some 148) : decode cc pc = .ok (.lcmp, 1) := by
  have u : Reader.runAt (Reader.u1 : Decoder Nat) cc pc = .ok (148, pc + 1) := dk_u1 h
  refine dk_dec ?_
  unfold Decoder.instr
  rw [ra_bind, u]
  rfl
theorem dk_153 {n : Int} (h : cc.data.toList[pc]? = some 153) (h1 : cc.data.toList[pc + 1]? = some a) (h2 : cc.data.toList[pc + 2]? = some b) (e : Reader.signed 16 (a.toNat * 256 + b.toNat) = n) : decode cc pc = .ok (.ifCond .eq n, 3) := by
  have u : Reader.runAt (Reader.u1 : Decoder Nat) cc pc = .ok (153, pc + 1) := dk_u1 h
  subst e
  refine dk_dec ?_
  unfold Decoder.instr
  rw [ra_bind, u]
  show Reader.runAt ((Reader.s2 : Decoder Int) >>= fun n => pure (.ifCond .eq n : Instr)) cc (pc + 1) = _
  rw [ra_bind, dk_s2 h1 h2]
  rfl
theorem dk_154 {n : Int} (h : cc.data.toList[pc]? = some 154) (h1 : cc.data.toList[pc + 1]? = some a) (h2 : cc.data.toList[pc + 2]? = some b) (e : Reader.signed 16 (a.toNat * 256 + b.toNat) = n) : decode cc pc = .ok (.ifCond .ne n, 3) := by
  have u : Reader.runAt (Reader.u1 : Decoder Nat) cc pc = .ok (154, pc + 1) := dk_u1 h
  subst e
  refine dk_dec ?_
  unfold Decoder.instr
  rw [ra_bind, u]
  show Reader.runAt ((Reader.s2 : Decoder Int) >>= fun n => pure (.ifCond .ne n : Instr)) cc (pc + 1) = _
  rw [ra_bind, dk_s2 h1 h2]
  rfl
theorem dk_155 {n : Int} (h : cc.data.toList[pc]? = some 155) (h1 : cc.data.toList[pc + 1]? = some a) (h2 : cc.data.toList[pc + 2]? = some b) (e : Reader.signed 16 (a.toNat * 256 + b.toNat) = n) : decode cc pc = .ok (.ifCond .lt n, 3) := by
  have u : Reader.runAt (Reader.u1 : Decoder Nat) cc pc = .ok (155, pc + 1) := dk_u1 h
  subst e
  refine dk_dec ?_
  unfold Decoder.instr
  rw [ra_bind, u]
  show Reader.runAt ((Reader.s2 : Decoder Int) >>= fun n => pure (.ifCond .lt n : Instr)) cc (pc + 1) = _
  rw [ra_bind, dk_s2 h1 h2]
  rfl
theorem dk_156 {n : Int} (h : cc.data.toList[pc]? = some 156) (h1 : cc.data.toList[pc + 1]? = some a) (h2 : cc.data.toList[pc + 2]? = some b) (e : Reader.signed 16 (a.toNat * 256 + b.toNat) = n) : decode cc pc = .ok (.ifCond .ge n, 3) := by
  have u : Reader.runAt (Reader.u1 : Decoder Nat) cc pc = .ok (156, pc + 1) := dk_u1 h
  subst e
  refine dk_dec ?_
  unfold Decoder.instr
  rw [ra_bind, u]
  show Reader.runAt ((Reader.s2 : Decoder Int) >>= fun n => pure (.ifCond .ge n : Instr)) cc (pc + 1) = _
  rw [ra_bind, dk_s2 h1 h2]
  rfl
theorem dk_157 {n : Int} (h : cc.data.toList[pc]? = some 157) (h1 : cc.data.toList[pc + 1]? = some a) (h2 : cc.data.toList[pc + 2]? = some b) (e : Reader.signed 16 (a.toNat * 256 + b.toNat) = n) : decode cc pc = .ok (.ifCond .gt n, 3) := by
  have u : Reader.runAt (Reader.u1 : Decoder Nat) cc pc = .ok (157, pc + 1) := dk_u1 h
  subst e
  refine dk_dec ?_
  unfold Decoder.instr
  rw [ra_bind, u]
  show Reader.runAt ((Reader.s2 : Decoder Int) >>= fun n => pure (.ifCond .gt n : Instr)) cc (pc + 1) = _
  rw [ra_bind, dk_s2 h1 h2]
  rfl
theorem dk_158 {n : Int} (h : cc.data.toList[pc]? = some 158) (h1 : cc.data.toList[pc + 1]? = some a) (h2 : cc.data.toList[pc + 2]? = some b) (e : Reader.signed 16 (a.toNat * 256 + b.toNat) = n) : decode cc pc = .ok (.ifCond .le n, 3) := by
  have u : Reader.runAt (Reader.u1 : Decoder Nat) cc pc = .ok (158, pc + 1) := dk_u1 h
  subst e
  refine dk_dec ?_
  unfold Decoder.instr
  rw [ra_bind, u]
  show Reader.runAt ((Reader.s2 : Decoder Int) >>= fun n => pure (.ifCond .le n : Instr)) cc (pc + 1) = _
  rw [ra_bind, dk_s2 h1 h2]
  rfl
theorem dk_159 {n : Int} (h : cc.data.toList[pc]? = some 159) (h1 : cc.data.toList[pc + 1]? = some a) (h2 : cc.data.toList[pc + 2]? = some b) (e : Reader.signed 16 (a.toNat * 256 + b.toNat) = n) : decode cc pc = .ok (.if_icmp .eq n, 3) := by
  have u : Reader.runAt (Reader.u1 : Decoder Nat) cc pc = .ok (159, pc + 1) := dk_u1 h
  subst e
  refine dk_dec ?_
  unfold Decoder.instr
  rw [ra_bind, u]
  show Reader.runAt ((Reader.s2 : Decoder Int) >>= fun n => pure (.if_icmp .eq n : Instr)) cc (pc + 1) = _
  rw [ra_bind, dk_s2 h1 h2]
  rfl
theorem dk_160 {n : Int} (h : cc.data.toList[pc]? = some 160) (h1 : cc.data.toList[pc + 1]? = some a) (h2 : cc.data.toList[pc + 2]? = some b) (e : Reader.signed 16 (a.toNat * 256 + b.toNat) = n) : decode cc pc = .ok (.if_icmp .ne n, 3) := by
  have u : Reader.runAt (Reader.u1 : Decoder Nat) cc pc = .ok (160, pc + 1) := dk_u1 h
  subst e
  refine dk_dec ?_
  unfold Decoder.instr
  rw [ra_bind, u]
  show Reader.runAt ((Reader.s2 : Decoder Int) >>= fun n => pure (.if_icmp .ne n : Instr)) cc (pc + 1) = _
  rw [ra_bind, dk_s2 h1 h2]
  rfl
theorem dk_161 {n : Int} (h : cc.data.toList[pc]? = some 161) (h1 : cc.data.toList[pc + 1]? = some a) (h2 : cc.data.toList[pc + 2]? = some b) (e : Reader.signed 16 (a.toNat * 256 + b.toNat) = n) : decode cc pc = .ok (.if_icmp .lt n, 3) := by
  have u : Reader.runAt (Reader.u1 : Decoder Nat) cc pc = .ok (161, pc + 1) := dk_u1 h
  subst e
  refine dk_dec ?_
  unfold Decoder.instr
  rw [ra_bind, u]
  show Reader.runAt ((Reader.s2 : Decoder Int) >>= fun n => pure (.if_icmp .lt n : Instr)) cc (pc + 1) = _
  rw [ra_bind, dk_s2 h1 h2]
  rfl
theorem dk_162 {n : Int} (h : cc.data.toList[pc]? = some 162) (h1 : cc.data.toList[pc + 1]? = some a) (h2 : cc.data.toList[pc + 2]? = some b) (e : Reader.signed 16 (a.toNat * 256 + b.toNat) = n) : decode cc pc = .ok (.if_icmp .ge n, 3) := by
  have u : Reader.runAt (Reader.u1 : Decoder Nat) cc pc = .ok (162, pc + 1) := dk_u1 h
  subst e
  refine dk_dec ?_
  unfold Decoder.instr
  rw [ra_bind, u]
  show Reader.runAt ((Reader.s2 : Decoder Int) >>= fun n => pure (.if_icmp .ge n : Instr)) cc (pc + 1) = _
  rw [ra_bind, dk_s2 h1 h2]
  rfl
theorem dk_163 {n : Int} (h : cc.data.toList[pc]? = some 163) (h1 : cc.data.toList[pc + 1]? = some a) (h2 : cc.data.toList[pc + 2]? = some b) (e : Reader.signed 16 (a.toNat * 256 + b.toNat) = n) : decode cc pc = .ok (.if_icmp .gt n, 3) := by
  have u : Reader.runAt (Reader.u1 : Decoder Nat) cc pc = .ok (163, pc + 1) := dk_u1 h
  subst e
  refine dk_dec ?_
  unfold Decoder.instr
  rw [ra_bind, u]
  show Reader.runAt ((Reader.s2 : Decoder Int) >>= fun n => pure (.if_icmp .gt n : Instr)) cc (pc + 1) = _
  rw [ra_bind, dk_s2 h1 h2]
  rfl
theorem dk_164 {n : Int} (h : cc.data.toList[pc]? = some 164) (h1 : cc.data.toList[pc + 1]? = some a) (h2 : cc.data.toList[pc + 2]? = some b) (e : Reader.signed 16 (a.toNat * 256 + b.toNat) = n) : decode cc pc = .ok (.if_icmp .le n, 3) := by
  have u : Reader.runAt (Reader.u1 : Decoder Nat) cc pc = .ok (164, pc + 1) := dk_u1 h
  subst e
  refine dk_dec ?_
  unfold Decoder.instr
  rw [ra_bind, u]
  show Reader.runAt ((Reader.s2 : Decoder Int) >>= fun n => pure (.if_icmp .le n : Instr)) cc (pc + 1) = _
  rw [ra_bind, dk_s2 h1 h2]
  rfl
theorem dk_167 {n : Int} (h : cc.data.toList[pc]? = some 167) (h1 : cc.data.toList[pc + 1]? = some a) (h2 : cc.data.toList[pc + 2]? = some b) (e : Reader.signed 16 (a.toNat * 256 + b.toNat) = n) : decode cc pc = .ok (.goto n, 3) := by
  have u : Reader.runAt (Reader.u1 : Decoder Nat) cc pc = .ok (167, pc + 1) := dk_u1 h
  subst e
  refine dk_dec ?_
  unfold Decoder.instr
  rw [ra_bind, u]
  show Reader.runAt ((Reader.s2 : Decoder Int) >>= fun n => pure (.goto n : Instr)) cc (pc + 1) = _
  rw [ra_bind, dk_s2 h1 h2]
  rfl
theorem dk_172 (h : cc.data.toList[pc]? = some 172) : decode cc pc = .ok (.ireturn, 1) := by
  have u : Reader.runAt (Reader.u1 : Decoder Nat) cc pc = .ok (172, pc + 1) := dk_u1 h
  refine dk_dec ?_
  unfold Decoder.instr
  rw [ra_bind, u]
  rfl
theorem dk_173 (h : cc.data.toList[pc]? = some 173) : decode cc pc = .ok (.lreturn, 1) := by
  have u : Reader.runAt (Reader.u1 : Decoder Nat) cc pc = .ok (173, pc + 1) := dk_u1 h
  refine dk_dec ?_
  unfold Decoder.instr
  rw [ra_bind, u]
  rfl
theorem dk_176 (h : cc.data.toList[pc]? = some 176) : decode cc pc = .ok (.areturn, 1) := by
  have u : Reader.runAt (Reader.u1 : Decoder Nat) cc pc = .ok (176, pc + 1) := dk_u1 h
  refine dk_dec ?_
  unfold Decoder.instr
  rw [ra_bind, u]
  rfl
theorem dk_177 (h : cc.data.toList[pc]? = some 177) : decode cc pc = .ok (.return_, 1) := by
  have u : Reader.runAt (Reader.u1 : Decoder Nat) cc pc = .ok (177, pc + 1) := dk_u1 h
  refine dk_dec ?_
  unfold Decoder.instr
  rw [ra_bind, u]
  rfl
theorem dk_178 {n : Nat} (h : cc.data.toList[pc]? = some 178) (h1 : cc.data.toList[pc + 1]? = some a) (h2 : cc.data.toList[pc + 2]? = some b) (e : a.toNat * 256 + b.toNat = n) : decode cc pc = .ok (.getstatic n, 3) := by
  have u : Reader.runAt (Reader.u1 : Decoder Nat) cc pc = .ok (178, pc + 1) := dk_u1 h
  subst e
  refine dk_dec ?_
  unfold Decoder.instr
  rw [ra_bind, u]
  show Reader.runAt ((Reader.u2 : Decoder Nat) >>= fun n => pure (.getstatic n : Instr)) cc (pc + 1) = _
  rw [ra_bind, dk_u2 h1 h2]
  rfl
theorem dk_180 {n : Nat} (h : cc.data.toList[pc]? = some 180) (h1 : cc.data.toList[pc + 1]? = some a) (h2 : cc.data.toList[pc + 2]? = some b) (e : a.toNat * 256 + b.toNat = n) : decode cc pc = .ok (.getfield n, 3) := by
  have u : Reader.runAt (Reader.u1 : Decoder Nat) cc pc = .ok (180, pc + 1) := dk_u1 h
  subst e
  refine dk_dec ?_
  unfold Decoder.instr
  rw [ra_bind, u]
  show Reader.runAt ((Reader.u2 : Decoder Nat) >>= fun n => pure (.getfield n : Instr)) cc (pc + 1) = _
  rw [ra_bind, dk_u2 h1 h2]
  rfl
theorem dk_181 {n : Nat} (h : cc.data.toList[pc]? = some 181) (h1 : cc.data.toList[pc + 1]? = some a) (h2 : cc.data.toList[pc + 2]? = some b) (e : a.toNat * 256 + b.toNat = n) : decode cc pc = .ok (.putfield n, 3) := by
  have u : Reader.runAt (Reader.u1 : Decoder Nat) cc pc = .ok (181, pc + 1) := dk_u1 h
  subst e
  refine dk_dec ?_
  unfold Decoder.instr
  rw [ra_bind, u]
  show Reader.runAt ((Reader.u2 : Decoder Nat) >>= fun n => pure (.putfield n : Instr)) cc (pc + 1) = _
  rw [ra_bind, dk_u2 h1 h2]
  rfl
theorem dk_182 {n : Nat} (h : cc.data.toList[pc]? = some 182) (h1 : cc.data.toList[pc + 1]? = some a) (h2 : cc.data.toList[pc + 2]? = some b) (e : a.toNat * 256 + b.toNat = n) : decode cc pc = .ok (.invokevirtual n, 3) := by
  have u : Reader.runAt (Reader.u1 : Decoder Nat) cc pc = .ok (182, pc + 1) := dk_u1 h
  subst e
  refine dk_dec ?_
  unfold Decoder.instr
  rw [ra_bind, u]
  show Reader.runAt ((Reader.u2 : Decoder Nat) >>= fun n => pure (.invokevirtual n : Instr)) cc (pc + 1) = _
  rw [ra_bind, dk_u2 h1 h2]
  rfl
theorem dk_183 {n : Nat} (h : cc.data.toList[pc]? = some 183) (h1 : cc.data.toList[pc + 1]? = some a) (h2 : cc.data.toList[pc + 2]? = some b) (e : a.toNat * 256 + b.toNat = n) : decode cc pc = .ok (.invokespecial n, 3) := by
  have u : Reader.runAt (Reader.u1 : Decoder Nat) cc pc = .ok (183, pc + 1) := dk_u1 h
  subst e
  refine dk_dec ?_
  unfold Decoder.instr
  rw [ra_bind, u]
  show Reader.runAt ((Reader.u2 : Decoder Nat) >>= fun n => pure (.invokespecial n : Instr)) cc (pc + 1) = _
  rw [ra_bind, dk_u2 h1 h2]
  rfl
theorem dk_184 {n : Nat} (h : cc.data.toList[pc]? = some 184) (h1 : cc.data.toList[pc + 1]? = some a) (h2 : cc.data.toList[pc + 2]? = some b) (e : a.toNat * 256 + b.toNat = n) : decode cc pc = .ok (.invokestatic n, 3) := by
  have u : Reader.runAt (Reader.u1 : Decoder Nat) cc pc = .ok (184, pc + 1) := dk_u1 h
  subst e
  refine dk_dec ?_
  unfold Decoder.instr
  rw [ra_bind, u]
  show Reader.runAt ((Reader.u2 : Decoder Nat) >>= fun n => pure (.invokestatic n : Instr)) cc (pc + 1) = _
  rw [ra_bind, dk_u2 h1 h2]
  rfl
theorem dk_187 {n : Nat} (h : cc.data.toList[pc]? = some 187) (h1 : cc.data.toList[pc + 1]? = some a) (h2 : cc.data.toList[pc + 2]? = some b) (e : a.toNat * 256 + b.toNat = n) : decode cc pc = .ok (.new n, 3) := by
  have u : Reader.runAt (Reader.u1 : Decoder Nat) cc pc = .ok (187, pc + 1) := dk_u1 h
  subst e
  refine dk_dec ?_
  unfold Decoder.instr
  rw [ra_bind, u]
  show Reader.runAt ((Reader.u2 : Decoder Nat) >>= fun n => pure (.new n : Instr)) cc (pc + 1) = _
  rw [ra_bind, dk_u2 h1 h2]
  rfl
theorem dk_189 {n : Nat} (h : cc.data.toList[pc]? = some 189) (h1 : cc.data.toList[pc + 1]? = some a) (h2 : cc.data.toList[pc + 2]? = some b) (e : a.toNat * 256 + b.toNat = n) : decode cc pc = .ok (.anewarray n, 3) := by
  have u : Reader.runAt (Reader.u1 : Decoder Nat) cc pc = .ok (189, pc + 1) := dk_u1 h
  subst e
  refine dk_dec ?_
  unfold Decoder.instr
  rw [ra_bind, u]
  show Reader.runAt ((Reader.u2 : Decoder Nat) >>= fun n => pure (.anewarray n : Instr)) cc (pc + 1) = _
  rw [ra_bind, dk_u2 h1 h2]
  rfl
theorem dk_190 (h : cc.data.toList[pc]? = some 190) : decode cc pc = .ok (.arraylength, 1) := by
  have u : Reader.runAt (Reader.u1 : Decoder Nat) cc pc = .ok (190, pc + 1) := dk_u1 h
  refine dk_dec ?_
  unfold Decoder.instr
  rw [ra_bind, u]
  rfl
theorem dk_191 (h : cc.data.toList[pc]? = some 191) : decode cc pc = .ok (.athrow, 1) := by
  have u : Reader.runAt (Reader.u1 : Decoder Nat) cc pc = .ok (191, pc + 1) := dk_u1 h
  refine dk_dec ?_
  unfold Decoder.instr
  rw [ra_bind, u]
  rfl
end
theorem dk_t {a0 a1 a2 a3 a4 a5 a6 a7 a8 a9 a10 a11 a12 a13 a14 a15 : UInt8} {l : List UInt8} {i : Nat} : (a0 :: a1 :: a2 :: a3 :: a4 :: a5 :: a6 :: a7 :: a8 :: a9 :: a10 :: a11 :: a12 :: a13 :: a14 :: a15 :: l)[i + 16]? = l[i]? := rfl
theorem dk_j0 {a0 : UInt8} {l : List UInt8} : (a0 :: l)[0]? = some a0 := rfl
theorem dk_j1 {a0 a1 : UInt8} {l : List UInt8} : (a0 :: a1 :: l)[1]? = some a1 := rfl
theorem dk_j2 {a0 a1 a2 : UInt8} {l : List UInt8} : (a0 :: a1 :: a2 :: l)[2]? = some a2 := rfl
theorem dk_j3 {a0 a1 a2 a3 : UInt8} {l : List UInt8} : (a0 :: a1 :: a2 :: a3 :: l)[3]? = some a3 := rfl
theorem dk_j4 {a0 a1 a2 a3 a4 : UInt8} {l : List UInt8} : (a0 :: a1 :: a2 :: a3 :: a4 :: l)[4]? = some a4 := rfl
theorem dk_j5 {a0 a1 a2 a3 a4 a5 : UInt8} {l : List UInt8} : (a0 :: a1 :: a2 :: a3 :: a4 :: a5 :: l)[5]? = some a5 := rfl
theorem dk_j6 {a0 a1 a2 a3 a4 a5 a6 : UInt8} {l : List UInt8} : (a0 :: a1 :: a2 :: a3 :: a4 :: a5 :: a6 :: l)[6]? = some a6 := rfl
theorem dk_j7 {a0 a1 a2 a3 a4 a5 a6 a7 : UInt8} {l : List UInt8} : (a0 :: a1 :: a2 :: a3 :: a4 :: a5 :: a6 :: a7 :: l)[7]? = some a7 := rfl
theorem dk_j8 {a0 a1 a2 a3 a4 a5 a6 a7 a8 : UInt8} {l : List UInt8} : (a0 :: a1 :: a2 :: a3 :: a4 :: a5 :: a6 :: a7 :: a8 :: l)[8]? = some a8 := rfl
theorem dk_j9 {a0 a1 a2 a3 a4 a5 a6 a7 a8 a9 : UInt8} {l : List UInt8} : (a0 :: a1 :: a2 :: a3 :: a4 :: a5 :: a6 :: a7 :: a8 :: a9 :: l)[9]? = some a9 := rfl
theorem dk_j10 {a0 a1 a2 a3 a4 a5 a6 a7 a8 a9 a10 : UInt8} {l : List UInt8} : (a0 :: a1 :: a2 :: a3 :: a4 :: a5 :: a6 :: a7 :: a8 :: a9 :: a10 :: l)[10]? = some a10 := rfl
theorem dk_j11 {a0 a1 a2 a3 a4 a5 a6 a7 a8 a9 a10 a11 : UInt8} {l : List UInt8} : (a0 :: a1 :: a2 :: a3 :: a4 :: a5 :: a6 :: a7 :: a8 :: a9 :: a10 :: a11 :: l)[11]? = some a11 := rfl
theorem dk_j12 {a0 a1 a2 a3 a4 a5 a6 a7 a8 a9 a10 a11 a12 : UInt8} {l : List UInt8} : (a0 :: a1 :: a2 :: a3 :: a4 :: a5 :: a6 :: a7 :: a8 :: a9 :: a10 :: a11 :: a12 :: l)[12]? = some a12 := rfl
theorem dk_j13 {a0 a1 a2 a3 a4 a5 a6 a7 a8 a9 a10 a11 a12 a13 : UInt8} {l : List UInt8} : (a0 :: a1 :: a2 :: a3 :: a4 :: a5 :: a6 :: a7 :: a8 :: a9 :: a10 :: a11 :: a12 :: a13 :: l)[13]? = some a13 := rfl
theorem dk_j14 {a0 a1 a2 a3 a4 a5 a6 a7 a8 a9 a10 a11 a12 a13 a14 : UInt8} {l : List UInt8} : (a0 :: a1 :: a2 :: a3 :: a4 :: a5 :: a6 :: a7 :: a8 :: a9 :: a10 :: a11 :: a12 :: a13 :: a14 :: l)[14]? = some a14 := rfl
theorem dk_j15 {a0 a1 a2 a3 a4 a5 a6 a7 a8 a9 a10 a11 a12 a13 a14 a15 : UInt8} {l : List UInt8} : (a0 :: a1 :: a2 :: a3 :: a4 :: a5 :: a6 :: a7 :: a8 :: a9 :: a10 :: a11 :: a12 :: a13 :: a14 :: a15 :: l)[15]? = some a15 := rfl
def dT_X9_init_13 : List UInt8 := (0xf0 : UInt8) :: (0xbc : UInt8) :: (0x0b : UInt8) :: (0xb5 : UInt8) :: (0x00 : UInt8) :: (0x52 : UInt8) :: (0x2a : UInt8) :: (0x10 : UInt8) :: (0x3c : UInt8) :: (0xbc : UInt8) :: (0x0b : UInt8) :: (0xb5 : UInt8) :: (0x00 : UInt8) :: (0x56 : UInt8) :: (0xb1 : UInt8) :: []
def dT_X9_init_12 : List UInt8 := (0x06 : UInt8) :: (0x02 : UInt8) :: (0x4f : UInt8) :: (0xb5 : UInt8) :: (0x00 : UInt8) :: (0x4c : UInt8) :: (0x2a : UInt8) :: (0x07 : UInt8) :: (0xbc : UInt8) :: (0x0a : UInt8) :: (0xb5 : UInt8) :: (0x00 : UInt8) :: (0x4f : UInt8) :: (0x2a : UInt8) :: (0x11 : UInt8) :: (0x00 : UInt8) :: dT_X9_init_13
def dT_X9_init_11 : List UInt8 := (0x07 : UInt8) :: (0xbc : UInt8) :: (0x0a : UInt8) :: (0x59 : UInt8) :: (0x03 : UInt8) :: (0x02 : UInt8) :: (0x4f : UInt8) :: (0x59 : UInt8) :: (0x04 : UInt8) :: (0x02 : UInt8) :: (0x4f : UInt8) :: (0x59 : UInt8) :: (0x05 : UInt8) :: (0x02 : UInt8) :: (0x4f : UInt8) :: (0x59 : UInt8) :: dT_X9_init_12
def dT_X9_init_10 : List UInt8 := (0x0e : UInt8) :: (0xbc : UInt8) :: (0x0a : UInt8) :: (0xb5 : UInt8) :: (0x00 : UInt8) :: (0x46 : UInt8) :: (0x2a : UInt8) :: (0x11 : UInt8) :: (0x06 : UInt8) :: (0x54 : UInt8) :: (0xbc : UInt8) :: (0x0a : UInt8) :: (0xb5 : UInt8) :: (0x00 : UInt8) :: (0x49 : UInt8) :: (0x2a : UInt8) :: dT_X9_init_11
def dT_X9_init_9 : List UInt8 := (0x0a : UInt8) :: (0xb5 : UInt8) :: (0x00 : UInt8) :: (0x40 : UInt8) :: (0x2a : UInt8) :: (0x11 : UInt8) :: (0x03 : UInt8) :: (0xc1 : UInt8) :: (0xbc : UInt8) :: (0x0a : UInt8) :: (0xb5 : UInt8) :: (0x00 : UInt8) :: (0x43 : UInt8) :: (0x2a : UInt8) :: (0x11 : UInt8) :: (0x01 : UInt8) :: dT_X9_init_10
def dT_X9_init_8 : List UInt8 := (0xb5 : UInt8) :: (0x00 : UInt8) :: (0x3a : UInt8) :: (0x2a : UInt8) :: (0x10 : UInt8) :: (0x1e : UInt8) :: (0xbc : UInt8) :: (0x0a : UInt8) :: (0xb5 : UInt8) :: (0x00 : UInt8) :: (0x3d : UInt8) :: (0x2a : UInt8) :: (0x11 : UInt8) :: (0x03 : UInt8) :: (0xc1 : UInt8) :: (0xbc : UInt8) :: dT_X9_init_9
def dT_X9_init_7 : List UInt8 := (0xb5 : UInt8) :: (0x00 : UInt8) :: (0x34 : UInt8) :: (0x2a : UInt8) :: (0x10 : UInt8) :: (0x06 : UInt8) :: (0xbc : UInt8) :: (0x0a : UInt8) :: (0xb5 : UInt8) :: (0x00 : UInt8) :: (0x37 : UInt8) :: (0x2a : UInt8) :: (0x10 : UInt8) :: (0x06 : UInt8) :: (0xbc : UInt8) :: (0x0a : UInt8) :: dT_X9_init_8
def dT_X9_init_6 : List UInt8 := (0x2e : UInt8) :: (0x2a : UInt8) :: (0x11 : UInt8) :: (0x00 : UInt8) :: (0xb4 : UInt8) :: (0xbc : UInt8) :: (0x0a : UInt8) :: (0xb5 : UInt8) :: (0x00 : UInt8) :: (0x31 : UInt8) :: (0x2a : UInt8) :: (0x11 : UInt8) :: (0x00 : UInt8) :: (0xb4 : UInt8) :: (0xbc : UInt8) :: (0x0a : UInt8) :: dT_X9_init_7
def dT_X9_init_5 : List UInt8 := (0x28 : UInt8) :: (0x2a : UInt8) :: (0x10 : UInt8) :: (0x06 : UInt8) :: (0xbc : UInt8) :: (0x0a : UInt8) :: (0xb5 : UInt8) :: (0x00 : UInt8) :: (0x2b : UInt8) :: (0x2a : UInt8) :: (0x10 : UInt8) :: (0x1e : UInt8) :: (0xbc : UInt8) :: (0x0a : UInt8) :: (0xb5 : UInt8) :: (0x00 : UInt8) :: dT_X9_init_6
def dT_X9_init_4 : List UInt8 := (0x22 : UInt8) :: (0x2a : UInt8) :: (0x10 : UInt8) :: (0x06 : UInt8) :: (0xbc : UInt8) :: (0x0a : UInt8) :: (0xb5 : UInt8) :: (0x00 : UInt8) :: (0x25 : UInt8) :: (0x2a : UInt8) :: (0x10 : UInt8) :: (0x06 : UInt8) :: (0xbc : UInt8) :: (0x0a : UInt8) :: (0xb5 : UInt8) :: (0x00 : UInt8) :: dT_X9_init_5
def dT_X9_init_3 : List UInt8 := (0x1b : UInt8) :: (0x2a : UInt8) :: (0x10 : UInt8) :: (0x77 : UInt8) :: (0xbc : UInt8) :: (0x0a : UInt8) :: (0xb5 : UInt8) :: (0x00 : UInt8) :: (0x1f : UInt8) :: (0x2a : UInt8) :: (0x10 : UInt8) :: (0x1e : UInt8) :: (0xbc : UInt8) :: (0x0a : UInt8) :: (0xb5 : UInt8) :: (0x00 : UInt8) :: dT_X9_init_4
def dT_X9_init_2 : List UInt8 := (0xbc : UInt8) :: (0x08 : UInt8) :: (0xb5 : UInt8) :: (0x00 : UInt8) :: (0x14 : UInt8) :: (0x2a : UInt8) :: (0x08 : UInt8) :: (0xbc : UInt8) :: (0x0a : UInt8) :: (0xb5 : UInt8) :: (0x00 : UInt8) :: (0x18 : UInt8) :: (0x2a : UInt8) :: (0x02 : UInt8) :: (0xb5 : UInt8) :: (0x00 : UInt8) :: dT_X9_init_3
def dT_X9_init_1 : List UInt8 := (0xbc : UInt8) :: (0x0a : UInt8) :: (0xb5 : UInt8) :: (0x00 : UInt8) :: (0x0d : UInt8) :: (0x2a : UInt8) :: (0x06 : UInt8) :: (0xbc : UInt8) :: (0x04 : UInt8) :: (0xb5 : UInt8) :: (0x00 : UInt8) :: (0x10 : UInt8) :: (0x2a : UInt8) :: (0x11 : UInt8) :: (0x03 : UInt8) :: (0x84 : UInt8) :: dT_X9_init_2
def dT_X9_init_0 : List UInt8 := (0x2a : UInt8) :: (0xb7 : UInt8) :: (0x00 : UInt8) :: (0x03 : UInt8) :: (0x2a : UInt8) :: (0x10 : UInt8) :: (0x77 : UInt8) :: (0xbc : UInt8) :: (0x0a : UInt8) :: (0xb5 : UInt8) :: (0x00 : UInt8) :: (0x09 : UInt8) :: (0x2a : UInt8) :: (0x11 : UInt8) :: (0x01 : UInt8) :: (0x65 : UInt8) :: dT_X9_init_1
theorem dT_X9_init : cX9_init.data.toList = dT_X9_init_0 := eq_of_beq (show (cX9_init.data.toList == dT_X9_init_0) = true by decide +kernel)
theorem dQ_X9_init_0 : dQ_P cX9_init 0 dT_X9_init_0 := fun i => by rw [dT_X9_init]; rfl
theorem dQ_X9_init_1 : dQ_P cX9_init 16 dT_X9_init_1 := fun i => (dQ_X9_init_0 (i + 16)).trans dk_t
theorem dQ_X9_init_2 : dQ_P cX9_init 32 dT_X9_init_2 := fun i => (dQ_X9_init_1 (i + 16)).trans dk_t
theorem dQ_X9_init_3 : dQ_P cX9_init 48 dT_X9_init_3 := fun i => (dQ_X9_init_2 (i + 16)).trans dk_t
theorem dQ_X9_init_4 : dQ_P cX9_init 64 dT_X9_init_4 := fun i => (dQ_X9_init_3 (i + 16)).trans dk_t
theorem dQ_X9_init_5 : dQ_P cX9_init 80 dT_X9_init_5 := fun i => (dQ_X9_init_4 (i + 16)).trans dk_t
theorem dQ_X9_init_6 : dQ_P cX9_init 96 dT_X9_init_6 := fun i => (dQ_X9_init_5 (i + 16)).trans dk_t
theorem dQ_X9_init_7 : dQ_P cX9_init 112 dT_X9_init_7 := fun i => (dQ_X9_init_6 (i + 16)).trans dk_t
theorem dQ_X9_init_8 : dQ_P cX9_init 128 dT_X9_init_8 := fun i => (dQ_X9_init_7 (i + 16)).trans dk_t
theorem dQ_X9_init_9 : dQ_P cX9_init 144 dT_X9_init_9 := fun i => (dQ_X9_init_8 (i + 16)).trans dk_t
theorem dQ_X9_init_10 : dQ_P cX9_init 160 dT_X9_init_10 := fun i => (dQ_X9_init_9 (i + 16)).trans dk_t
theorem dQ_X9_init_11 : dQ_P cX9_init 176 dT_X9_init_11 := fun i => (dQ_X9_init_10 (i + 16)).trans dk_t
theorem dQ_X9_init_12 : dQ_P cX9_init 192 dT_X9_init_12 := fun i => (dQ_X9_init_11 (i + 16)).trans dk_t
theorem dQ_X9_init_13 : dQ_P cX9_init 208 dT_X9_init_13 := fun i => (dQ_X9_init_12 (i + 16)).trans dk_t
theorem dX9_init_0 : decode cX9_init 0 = .ok (.aload_n 0, 1) := dk_42 ((dQ_X9_init_0 0).trans dk_j0)
theorem dk_vu2_0_3 : (0x00 : UInt8).toNat * 256 + (0x03 : UInt8).toNat = (3 : Nat) := by decide +kernel
theorem dX9_init_1 : decode cX9_init 1 = .ok (.invokespecial 3, 3) := dk_183 ((dQ_X9_init_0 1).trans dk_j1) ((dQ_X9_init_0 2).trans dk_j2) ((dQ_X9_init_0 3).trans dk_j3) dk_vu2_0_3
theorem dX9_init_4 : decode cX9_init 4 = .ok (.aload_n 0, 1) := dk_42 ((dQ_X9_init_0 4).trans dk_j4)
theorem dk_vs1_119 : Reader.signed 8 (0x77 : UInt8).toNat = (119 : Int) := by decide +kernel
theorem dX9_init_5 : decode cX9_init 5 = .ok (.bipush 119, 2) := dk_16 ((dQ_X9_init_0 5).trans dk_j5) ((dQ_X9_init_0 6).trans dk_j6) dk_vs1_119
theorem dX9_init_7 : decode cX9_init 7 = .ok (.newarray .int, 2) := by decide +kernel
theorem dk_vu2_0_9 : (0x00 : UInt8).toNat * 256 + (0x09 : UInt8).toNat = (9 : Nat) := by decide +kernel
theorem dX9_init_9 : decode cX9_init 9 = .ok (.putfield 9, 3) := dk_181 ((dQ_X9_init_0 9).trans dk_j9) ((dQ_X9_init_0 10).trans dk_j10) ((dQ_X9_init_0 11).trans dk_j11) dk_vu2_0_9
theorem dX9_init_12 : decode cX9_init 12 = .ok (.aload_n 0, 1) := dk_42 ((dQ_X9_init_0 12).trans dk_j12)
theorem dk_vs2_1_101 : Reader.signed 16 ((0x01 : UInt8).toNat * 256 + (0x65 : UInt8).toNat) = (357 : Int) := by decide +kernel
theorem dX9_init_13 : decode cX9_init 13 = .ok (.sipush 357, 3) := dk_17 ((dQ_X9_init_0 13).trans dk_j13) ((dQ_X9_init_0 14).trans dk_j14) ((dQ_X9_init_0 15).trans dk_j15) dk_vs2_1_101
theorem dX9_init_16 : decode cX9_init 16 = .ok (.newarray .int, 2) := by decide +kernel
theorem dk_vu2_0_13 : (0x00 : UInt8).toNat * 256 + (0x0d : UInt8).toNat = (13 : Nat) := by decide +kernel
theorem dX9_init_18 : decode cX9_init 18 = .ok (.putfield 13, 3) := dk_181 ((dQ_X9_init_1 2).trans dk_j2) ((dQ_X9_init_1 3).trans dk_j3) ((dQ_X9_init_1 4).trans dk_j4) dk_vu2_0_13
theorem dX9_init_21 : decode cX9_init 21 = .ok (.aload_n 0, 1) := dk_42 ((dQ_X9_init_1 5).trans dk_j5)
theorem dX9_init_22 : decode cX9_init 22 = .ok (.iconst 3, 1) := dk_6 ((dQ_X9_init_1 6).trans dk_j6)
theorem dX9_init_23 : decode cX9_init 23 = .ok (.newarray .boolean, 2) := by decide +kernel
theorem dk_vu2_0_16 : (0x00 : UInt8).toNat * 256 + (0x10 : UInt8).toNat = (16 : Nat) := by decide +kernel
theorem dX9_init_25 : decode cX9_init 25 = .ok (.putfield 16, 3) := dk_181 ((dQ_X9_init_1 9).trans dk_j9) ((dQ_X9_init_1 10).trans dk_j10) ((dQ_X9_init_1 11).trans dk_j11) dk_vu2_0_16
theorem dX9_init_28 : decode cX9_init 28 = .ok (.aload_n 0, 1) := dk_42 ((dQ_X9_init_1 12).trans dk_j12)
theorem dk_vs2_3_132 : Reader.signed 16 ((0x03 : UInt8).toNat * 256 + (0x84 : UInt8).toNat) = (900 : Int) := by decide +kernel
theorem dX9_init_29 : decode cX9_init 29 = .ok (.sipush 900, 3) := dk_17 ((dQ_X9_init_1 13).trans dk_j13) ((dQ_X9_init_1 14).trans dk_j14) ((dQ_X9_init_1 15).trans dk_j15) dk_vs2_3_132
theorem dX9_init_32 : decode cX9_init 32 = .ok (.newarray .byte, 2) := by decide +kernel
theorem dk_vu2_0_20 : (0x00 : UInt8).toNat * 256 + (0x14 : UInt8).toNat = (20 : Nat) := by decide +kernel
theorem dX9_init_34 : decode cX9_init 34 = .ok (.putfield 20, 3) := dk_181 ((dQ_X9_init_2 2).trans dk_j2) ((dQ_X9_init_2 3).trans dk_j3) ((dQ_X9_init_2 4).trans dk_j4) dk_vu2_0_20
theorem dX9_init_37 : decode cX9_init 37 = .ok (.aload_n 0, 1) := dk_42 ((dQ_X9_init_2 5).trans dk_j5)
theorem dX9_init_38 : decode cX9_init 38 = .ok (.iconst 5, 1) := dk_8 ((dQ_X9_init_2 6).trans dk_j6)
theorem dX9_init_39 : decode cX9_init 39 = .ok (.newarray .int, 2) := by decide +kernel
theorem dk_vu2_0_24 : (0x00 : UInt8).toNat * 256 + (0x18 : UInt8).toNat = (24 : Nat) := by decide +kernel
theorem dX9_init_41 : decode cX9_init 41 = .ok (.putfield 24, 3) := dk_181 ((dQ_X9_init_2 9).trans dk_j9) ((dQ_X9_init_2 10).trans dk_j10) ((dQ_X9_init_2 11).trans dk_j11) dk_vu2_0_24
theorem dX9_init_44 : decode cX9_init 44 = .ok (.aload_n 0, 1) := dk_42 ((dQ_X9_init_2 12).trans dk_j12)
theorem dX9_init_45 : decode cX9_init 45 = .ok (.iconst (-1), 1) := dk_2 ((dQ_X9_init_2 13).trans dk_j13)
theorem dk_vu2_0_27 : (0x00 : UInt8).toNat * 256 + (0x1b : UInt8).toNat = (27 : Nat) := by decide +kernel
theorem dX9_init_46 : decode cX9_init 46 = .ok (.putfield 27, 3) := dk_181 ((dQ_X9_init_2 14).trans dk_j14) ((dQ_X9_init_2 15).trans dk_j15) ((dQ_X9_init_3 0).trans dk_j0) dk_vu2_0_27
theorem dX9_init_49 : decode cX9_init 49 = .ok (.aload_n 0, 1) := dk_42 ((dQ_X9_init_3 1).trans dk_j1)
theorem dX9_init_50 : decode cX9_init 50 = .ok (.bipush 119, 2) := dk_16 ((dQ_X9_init_3 2).trans dk_j2) ((dQ_X9_init_3 3).trans dk_j3) dk_vs1_119
theorem dX9_init_52 : decode cX9_init 52 = .ok (.newarray .int, 2) := by decide +kernel
theorem dk_vu2_0_31 : (0x00 : UInt8).toNat * 256 + (0x1f : UInt8).toNat = (31 : Nat) := by decide +kernel
theorem dX9_init_54 : decode cX9_init 54 = .ok (.putfield 31, 3) := dk_181 ((dQ_X9_init_3 6).trans dk_j6) ((dQ_X9_init_3 7).trans dk_j7) ((dQ_X9_init_3 8).trans dk_j8) dk_vu2_0_31
theorem dX9_init_57 : decode cX9_init 57 = .ok (.aload_n 0, 1) := dk_42 ((dQ_X9_init_3 9).trans dk_j9)
theorem dk_vs1_30 : Reader.signed 8 (0x1e : UInt8).toNat = (30 : Int) := by decide +kernel
theorem dX9_init_58 : decode cX9_init 58 = .ok (.bipush 30, 2) := dk_16 ((dQ_X9_init_3 10).trans dk_j10) ((dQ_X9_init_3 11).trans dk_j11) dk_vs1_30
theorem dX9_init_60 : decode cX9_init 60 = .ok (.newarray .int, 2) := by decide +kernel
theorem dk_vu2_0_34 : (0x00 : UInt8).toNat * 256 + (0x22 : UInt8).toNat = (34 : Nat) := by decide +kernel
theorem dX9_init_62 : decode cX9_init 62 = .ok (.putfield 34, 3) := dk_181 ((dQ_X9_init_3 14).trans dk_j14) ((dQ_X9_init_3 15).trans dk_j15) ((dQ_X9_init_4 0).trans dk_j0) dk_vu2_0_34
theorem dX9_init_65 : decode cX9_init 65 = .ok (.aload_n 0, 1) := dk_42 ((dQ_X9_init_4 1).trans dk_j1)
theorem dk_vs1_6 : Reader.signed 8 (0x06 : UInt8).toNat = (6 : Int) := by decide +kernel
theorem dX9_init_66 : decode cX9_init 66 = .ok (.bipush 6, 2) := dk_16 ((dQ_X9_init_4 2).trans dk_j2) ((dQ_X9_init_4 3).trans dk_j3) dk_vs1_6
theorem dX9_init_68 : decode cX9_init 68 = .ok (.newarray .int, 2) := by decide +kernel
theorem dk_vu2_0_37 : (0x00 : UInt8).toNat * 256 + (0x25 : UInt8).toNat = (37 : Nat) := by decide +kernel
theorem dX9_init_70 : decode cX9_init 70 = .ok (.putfield 37, 3) := dk_181 ((dQ_X9_init_4 6).trans dk_j6) ((dQ_X9_init_4 7).trans dk_j7) ((dQ_X9_init_4 8).trans dk_j8) dk_vu2_0_37
theorem dX9_init_73 : decode cX9_init 73 = .ok (.aload_n 0, 1) := dk_42 ((dQ_X9_init_4 9).trans dk_j9)
theorem dX9_init_74 : decode cX9_init 74 = .ok (.bipush 6, 2) := dk_16 ((dQ_X9_init_4 10).trans dk_j10) ((dQ_X9_init_4 11).trans dk_j11) dk_vs1_6
theorem dX9_init_76 : decode cX9_init 76 = .ok (.newarray .int, 2) := by decide +kernel
theorem dk_vu2_0_40 : (0x00 : UInt8).toNat * 256 + (0x28 : UInt8).toNat = (40 : Nat) := by decide +kernel
theorem dX9_init_78 : decode cX9_init 78 = .ok (.putfield 40, 3) := dk_181 ((dQ_X9_init_4 14).trans dk_j14) ((dQ_X9_init_4 15).trans dk_j15) ((dQ_X9_init_5 0).trans dk_j0) dk_vu2_0_40
theorem dX9_init_81 : decode cX9_init 81 = .ok (.aload_n 0, 1) := dk_42 ((dQ_X9_init_5 1).trans dk_j1)
theorem dX9_init_82 : decode cX9_init 82 = .ok (.bipush 6, 2) := dk_16 ((dQ_X9_init_5 2).trans dk_j2) ((dQ_X9_init_5 3).trans dk_j3) dk_vs1_6
theorem dX9_init_84 : decode cX9_init 84 = .ok (.newarray .int, 2) := by decide +kernel
theorem dk_vu2_0_43 : (0x00 : UInt8).toNat * 256 + (0x2b : UInt8).toNat = (43 : Nat) := by decide +kernel
theorem dX9_init_86 : decode cX9_init 86 = .ok (.putfield 43, 3) := dk_181 ((dQ_X9_init_5 6).trans dk_j6) ((dQ_X9_init_5 7).trans dk_j7) ((dQ_X9_init_5 8).trans dk_j8) dk_vu2_0_43
theorem dX9_init_89 : decode cX9_init 89 = .ok (.aload_n 0, 1) := dk_42 ((dQ_X9_init_5 9).trans dk_j9)
theorem dX9_init_90 : decode cX9_init 90 = .ok (.bipush 30, 2) := dk_16 ((dQ_X9_init_5 10).trans dk_j10) ((dQ_X9_init_5 11).trans dk_j11) dk_vs1_30
theorem dX9_init_92 : decode cX9_init 92 = .ok (.newarray .int, 2) := by decide +kernel
theorem dk_vu2_0_46 : (0x00 : UInt8).toNat * 256 + (0x2e : UInt8).toNat = (46 : Nat) := by decide +kernel
theorem dX9_init_94 : decode cX9_init 94 = .ok (.putfield 46, 3) := dk_181 ((dQ_X9_init_5 14).trans dk_j14) ((dQ_X9_init_5 15).trans dk_j15) ((dQ_X9_init_6 0).trans dk_j0) dk_vu2_0_46
theorem dX9_init_97 : decode cX9_init 97 = .ok (.aload_n 0, 1) := dk_42 ((dQ_X9_init_6 1).trans dk_j1)
theorem dk_vs2_0_180 : Reader.signed 16 ((0x00 : UInt8).toNat * 256 + (0xb4 : UInt8).toNat) = (180 : Int) := by decide +kernel
theorem dX9_init_98 : decode cX9_init 98 = .ok (.sipush 180, 3) := dk_17 ((dQ_X9_init_6 2).trans dk_j2) ((dQ_X9_init_6 3).trans dk_j3) ((dQ_X9_init_6 4).trans dk_j4) dk_vs2_0_180
theorem dX9_init_101 : decode cX9_init 101 = .ok (.newarray .int, 2) := by decide +kernel
theorem dk_vu2_0_49 : (0x00 : UInt8).toNat * 256 + (0x31 : UInt8).toNat = (49 : Nat) := by decide +kernel
theorem dX9_init_103 : decode cX9_init 103 = .ok (.putfield 49, 3) := dk_181 ((dQ_X9_init_6 7).trans dk_j7) ((dQ_X9_init_6 8).trans dk_j8) ((dQ_X9_init_6 9).trans dk_j9) dk_vu2_0_49
theorem dX9_init_106 : decode cX9_init 106 = .ok (.aload_n 0, 1) := dk_42 ((dQ_X9_init_6 10).trans dk_j10)
theorem dX9_init_107 : decode cX9_init 107 = .ok (.sipush 180, 3) := dk_17 ((dQ_X9_init_6 11).trans dk_j11) ((dQ_X9_init_6 12).trans dk_j12) ((dQ_X9_init_6 13).trans dk_j13) dk_vs2_0_180
theorem dX9_init_110 : decode cX9_init 110 = .ok (.newarray .int, 2) := by decide +kernel
theorem dk_vu2_0_52 : (0x00 : UInt8).toNat * 256 + (0x34 : UInt8).toNat = (52 : Nat) := by decide +kernel
theorem dX9_init_112 : decode cX9_init 112 = .ok (.putfield 52, 3) := dk_181 ((dQ_X9_init_7 0).trans dk_j0) ((dQ_X9_init_7 1).trans dk_j1) ((dQ_X9_init_7 2).trans dk_j2) dk_vu2_0_52
theorem dX9_init_115 : decode cX9_init 115 = .ok (.aload_n 0, 1) := dk_42 ((dQ_X9_init_7 3).trans dk_j3)
theorem dX9_init_116 : decode cX9_init 116 = .ok (.bipush 6, 2) := dk_16 ((dQ_X9_init_7 4).trans dk_j4) ((dQ_X9_init_7 5).trans dk_j5) dk_vs1_6
theorem dX9_init_118 : decode cX9_init 118 = .ok (.newarray .int, 2) := by decide +kernel
theorem dk_vu2_0_55 : (0x00 : UInt8).toNat * 256 + (0x37 : UInt8).toNat = (55 : Nat) := by decide +kernel
theorem dX9_init_120 : decode cX9_init 120 = .ok (.putfield 55, 3) := dk_181 ((dQ_X9_init_7 8).trans dk_j8) ((dQ_X9_init_7 9).trans dk_j9) ((dQ_X9_init_7 10).trans dk_j10) dk_vu2_0_55
theorem dX9_init_123 : decode cX9_init 123 = .ok (.aload_n 0, 1) := dk_42 ((dQ_X9_init_7 11).trans dk_j11)
theorem dX9_init_124 : decode cX9_init 124 = .ok (.bipush 6, 2) := dk_16 ((dQ_X9_init_7 12).trans dk_j12) ((dQ_X9_init_7 13).trans dk_j13) dk_vs1_6
theorem dX9_init_126 : decode cX9_init 126 = .ok (.newarray .int, 2) := by decide +kernel
theorem dk_vu2_0_58 : (0x00 : UInt8).toNat * 256 + (0x3a : UInt8).toNat = (58 : Nat) := by decide +kernel
theorem dX9_init_128 : decode cX9_init 128 = .ok (.putfield 58, 3) := dk_181 ((dQ_X9_init_8 0).trans dk_j0) ((dQ_X9_init_8 1).trans dk_j1) ((dQ_X9_init_8 2).trans dk_j2) dk_vu2_0_58
theorem dX9_init_131 : decode cX9_init 131 = .ok (.aload_n 0, 1) := dk_42 ((dQ_X9_init_8 3).trans dk_j3)
theorem dX9_init_132 : decode cX9_init 132 = .ok (.bipush 30, 2) := dk_16 ((dQ_X9_init_8 4).trans dk_j4) ((dQ_X9_init_8 5).trans dk_j5) dk_vs1_30
theorem dX9_init_134 : decode cX9_init 134 = .ok (.newarray .int, 2) := by decide +kernel
theorem dk_vu2_0_61 : (0x00 : UInt8).toNat * 256 + (0x3d : UInt8).toNat = (61 : Nat) := by decide +kernel
theorem dX9_init_136 : decode cX9_init 136 = .ok (.putfield 61, 3) := dk_181 ((dQ_X9_init_8 8).trans dk_j8) ((dQ_X9_init_8 9).trans dk_j9) ((dQ_X9_init_8 10).trans dk_j10) dk_vu2_0_61
theorem dX9_init_139 : decode cX9_init 139 = .ok (.aload_n 0, 1) := dk_42 ((dQ_X9_init_8 11).trans dk_j11)
theorem dk_vs2_3_193 : Reader.signed 16 ((0x03 : UInt8).toNat * 256 + (0xc1 : UInt8).toNat) = (961 : Int) := by decide +kernel
theorem dX9_init_140 : decode cX9_init 140 = .ok (.sipush 961, 3) := dk_17 ((dQ_X9_init_8 12).trans dk_j12) ((dQ_X9_init_8 13).trans dk_j13) ((dQ_X9_init_8 14).trans dk_j14) dk_vs2_3_193
theorem dX9_init_143 : decode cX9_init 143 = .ok (.newarray .int, 2) := by decide +kernel
theorem dk_vu2_0_64 : (0x00 : UInt8).toNat * 256 + (0x40 : UInt8).toNat = (64 : Nat) := by decide +kernel
theorem dX9_init_145 : decode cX9_init 145 = .ok (.putfield 64, 3) := dk_181 ((dQ_X9_init_9 1).trans dk_j1) ((dQ_X9_init_9 2).trans dk_j2) ((dQ_X9_init_9 3).trans dk_j3) dk_vu2_0_64
theorem dX9_init_148 : decode cX9_init 148 = .ok (.aload_n 0, 1) := dk_42 ((dQ_X9_init_9 4).trans dk_j4)
theorem dX9_init_149 : decode cX9_init 149 = .ok (.sipush 961, 3) := dk_17 ((dQ_X9_init_9 5).trans dk_j5) ((dQ_X9_init_9 6).trans dk_j6) ((dQ_X9_init_9 7).trans dk_j7) dk_vs2_3_193
theorem dX9_init_152 : decode cX9_init 152 = .ok (.newarray .int, 2) := by decide +kernel
theorem dk_vu2_0_67 : (0x00 : UInt8).toNat * 256 + (0x43 : UInt8).toNat = (67 : Nat) := by decide +kernel
theorem dX9_init_154 : decode cX9_init 154 = .ok (.putfield 67, 3) := dk_181 ((dQ_X9_init_9 10).trans dk_j10) ((dQ_X9_init_9 11).trans dk_j11) ((dQ_X9_init_9 12).trans dk_j12) dk_vu2_0_67
theorem dX9_init_157 : decode cX9_init 157 = .ok (.aload_n 0, 1) := dk_42 ((dQ_X9_init_9 13).trans dk_j13)
theorem dk_vs2_1_14 : Reader.signed 16 ((0x01 : UInt8).toNat * 256 + (0x0e : UInt8).toNat) = (270 : Int) := by decide +kernel
theorem dX9_init_158 : decode cX9_init 158 = .ok (.sipush 270, 3) := dk_17 ((dQ_X9_init_9 14).trans dk_j14) ((dQ_X9_init_9 15).trans dk_j15) ((dQ_X9_init_10 0).trans dk_j0) dk_vs2_1_14
theorem dX9_init_161 : decode cX9_init 161 = .ok (.newarray .int, 2) := by decide +kernel
theorem dk_vu2_0_70 : (0x00 : UInt8).toNat * 256 + (0x46 : UInt8).toNat = (70 : Nat) := by decide +kernel
theorem dX9_init_163 : decode cX9_init 163 = .ok (.putfield 70, 3) := dk_181 ((dQ_X9_init_10 3).trans dk_j3) ((dQ_X9_init_10 4).trans dk_j4) ((dQ_X9_init_10 5).trans dk_j5) dk_vu2_0_70
theorem dX9_init_166 : decode cX9_init 166 = .ok (.aload_n 0, 1) := dk_42 ((dQ_X9_init_10 6).trans dk_j6)
theorem dk_vs2_6_84 : Reader.signed 16 ((0x06 : UInt8).toNat * 256 + (0x54 : UInt8).toNat) = (1620 : Int) := by decide +kernel
theorem dX9_init_167 : decode cX9_init 167 = .ok (.sipush 1620, 3) := dk_17 ((dQ_X9_init_10 7).trans dk_j7) ((dQ_X9_init_10 8).trans dk_j8) ((dQ_X9_init_10 9).trans dk_j9) dk_vs2_6_84
theorem dX9_init_170 : decode cX9_init 170 = .ok (.newarray .int, 2) := by decide +kernel
theorem dk_vu2_0_73 : (0x00 : UInt8).toNat * 256 + (0x49 : UInt8).toNat = (73 : Nat) := by decide +kernel
theorem dX9_init_172 : decode cX9_init 172 = .ok (.putfield 73, 3) := dk_181 ((dQ_X9_init_10 12).trans dk_j12) ((dQ_X9_init_10 13).trans dk_j13) ((dQ_X9_init_10 14).trans dk_j14) dk_vu2_0_73
theorem dX9_init_175 : decode cX9_init 175 = .ok (.aload_n 0, 1) := dk_42 ((dQ_X9_init_10 15).trans dk_j15)
theorem dX9_init_176 : decode cX9_init 176 = .ok (.iconst 4, 1) := dk_7 ((dQ_X9_init_11 0).trans dk_j0)
theorem dX9_init_177 : decode cX9_init 177 = .ok (.newarray .int, 2) := by decide +kernel
theorem dX9_init_179 : decode cX9_init 179 = .ok (.dup, 1) := dk_89 ((dQ_X9_init_11 3).trans dk_j3)
theorem dX9_init_180 : decode cX9_init 180 = .ok (.iconst 0, 1) := dk_3 ((dQ_X9_init_11 4).trans dk_j4)
theorem dX9_init_181 : decode cX9_init 181 = .ok (.iconst (-1), 1) := dk_2 ((dQ_X9_init_11 5).trans dk_j5)
theorem dX9_init_182 : decode cX9_init 182 = .ok (.iastore, 1) := dk_79 ((dQ_X9_init_11 6).trans dk_j6)
theorem dX9_init_183 : decode cX9_init 183 = .ok (.dup, 1) := dk_89 ((dQ_X9_init_11 7).trans dk_j7)
theorem dX9_init_184 : decode cX9_init 184 = .ok (.iconst 1, 1) := dk_4 ((dQ_X9_init_11 8).trans dk_j8)
theorem dX9_init_185 : decode cX9_init 185 = .ok (.iconst (-1), 1) := dk_2 ((dQ_X9_init_11 9).trans dk_j9)
theorem dX9_init_186 : decode cX9_init 186 = .ok (.iastore, 1) := dk_79 ((dQ_X9_init_11 10).trans dk_j10)
theorem dX9_init_187 : decode cX9_init 187 = .ok (.dup, 1) := dk_89 ((dQ_X9_init_11 11).trans dk_j11)
theorem dX9_init_188 : decode cX9_init 188 = .ok (.iconst 2, 1) := dk_5 ((dQ_X9_init_11 12).trans dk_j12)
theorem dX9_init_189 : decode cX9_init 189 = .ok (.iconst (-1), 1) := dk_2 ((dQ_X9_init_11 13).trans dk_j13)
theorem dX9_init_190 : decode cX9_init 190 = .ok (.iastore, 1) := dk_79 ((dQ_X9_init_11 14).trans dk_j14)
theorem dX9_init_191 : decode cX9_init 191 = .ok (.dup, 1) := dk_89 ((dQ_X9_init_11 15).trans dk_j15)
theorem dX9_init_192 : decode cX9_init 192 = .ok (.iconst 3, 1) := dk_6 ((dQ_X9_init_12 0).trans dk_j0)
theorem dX9_init_193 : decode cX9_init 193 = .ok (.iconst (-1), 1) := dk_2 ((dQ_X9_init_12 1).trans dk_j1)
theorem dX9_init_194 : decode cX9_init 194 = .ok (.iastore, 1) := dk_79 ((dQ_X9_init_12 2).trans dk_j2)
theorem dk_vu2_0_76 : (0x00 : UInt8).toNat * 256 + (0x4c : UInt8).toNat = (76 : Nat) := by decide +kernel
theorem dX9_init_195 : decode cX9_init 195 = .ok (.putfield 76, 3) := dk_181 ((dQ_X9_init_12 3).trans dk_j3) ((dQ_X9_init_12 4).trans dk_j4) ((dQ_X9_init_12 5).trans dk_j5) dk_vu2_0_76
theorem dX9_init_198 : decode cX9_init 198 = .ok (.aload_n 0, 1) := dk_42 ((dQ_X9_init_12 6).trans dk_j6)
theorem dX9_init_199 : decode cX9_init 199 = .ok (.iconst 4, 1) := dk_7 ((dQ_X9_init_12 7).trans dk_j7)
theorem dX9_init_200 : decode cX9_init 200 = .ok (.newarray .int, 2) := by decide +kernel
theorem dk_vu2_0_79 : (0x00 : UInt8).toNat * 256 + (0x4f : UInt8).toNat = (79 : Nat) := by decide +kernel
theorem dX9_init_202 : decode cX9_init 202 = .ok (.putfield 79, 3) := dk_181 ((dQ_X9_init_12 10).trans dk_j10) ((dQ_X9_init_12 11).trans dk_j11) ((dQ_X9_init_12 12).trans dk_j12) dk_vu2_0_79
theorem dX9_init_205 : decode cX9_init 205 = .ok (.aload_n 0, 1) := dk_42 ((dQ_X9_init_12 13).trans dk_j13)
theorem dk_vs2_0_240 : Reader.signed 16 ((0x00 : UInt8).toNat * 256 + (0xf0 : UInt8).toNat) = (240 : Int) := by decide +kernel
theorem dX9_init_206 : decode cX9_init 206 = .ok (.sipush 240, 3) := dk_17 ((dQ_X9_init_12 14).trans dk_j14) ((dQ_X9_init_12 15).trans dk_j15) ((dQ_X9_init_13 0).trans dk_j0) dk_vs2_0_240
theorem dX9_init_209 : decode cX9_init 209 = .ok (.newarray .long, 2) := by decide +kernel
theorem dk_vu2_0_82 : (0x00 : UInt8).toNat * 256 + (0x52 : UInt8).toNat = (82 : Nat) := by decide +kernel
theorem dX9_init_211 : decode cX9_init 211 = .ok (.putfield 82, 3) := dk_181 ((dQ_X9_init_13 3).trans dk_j3) ((dQ_X9_init_13 4).trans dk_j4) ((dQ_X9_init_13 5).trans dk_j5) dk_vu2_0_82
theorem dX9_init_214 : decode cX9_init 214 = .ok (.aload_n 0, 1) := dk_42 ((dQ_X9_init_13 6).trans dk_j6)
theorem dk_vs1_60 : Reader.signed 8 (0x3c : UInt8).toNat = (60 : Int) := by decide +kernel
theorem dX9_init_215 : decode cX9_init 215 = .ok (.bipush 60, 2) := dk_16 ((dQ_X9_init_13 7).trans dk_j7) ((dQ_X9_init_13 8).trans dk_j8) dk_vs1_60
theorem dX9_init_217 : decode cX9_init 217 = .ok (.newarray .long, 2) := by decide +kernel
theorem dk_vu2_0_86 : (0x00 : UInt8).toNat * 256 + (0x56 : UInt8).toNat = (86 : Nat) := by decide +kernel
theorem dX9_init_219 : decode cX9_init 219 = .ok (.putfield 86, 3) := dk_181 ((dQ_X9_init_13 11).trans dk_j11) ((dQ_X9_init_13 12).trans dk_j12) ((dQ_X9_init_13 13).trans dk_j13) dk_vu2_0_86
theorem dX9_init_222 : decode cX9_init 222 = .ok (.return_, 1) := dk_177 ((dQ_X9_init_13 14).trans dk_j14)
def dT_X9_in_1 : List UInt8 := (0x04 : UInt8) :: (0x03 : UInt8) :: (0xac : UInt8) :: []
def dT_X9_in_0 : List UInt8 := (0x1e : UInt8) :: (0x20 : UInt8) :: (0x94 : UInt8) :: (0x9b : UInt8) :: (0x00 : UInt8) :: (0x0e : UInt8) :: (0x1e : UInt8) :: (0x16 : UInt8) :: (0x04 : UInt8) :: (0x94 : UInt8) :: (0x9d : UInt8) :: (0x00 : UInt8) :: (0x07 : UInt8) :: (0x04 : UInt8) :: (0xa7 : UInt8) :: (0x00 : UInt8) :: dT_X9_in_1
theorem dT_X9_in : cX9_in.data.toList = dT_X9_in_0 := eq_of_beq (show (cX9_in.data.toList == dT_X9_in_0) = true by decide +kernel)
theorem dQ_X9_in_0 : dQ_P cX9_in 0 dT_X9_in_0 := fun i => by rw [dT_X9_in]; rfl
theorem dQ_X9_in_1 : dQ_P cX9_in 16 dT_X9_in_1 := fun i => (dQ_X9_in_0 (i + 16)).trans dk_t
theorem dX9_in_0 : decode cX9_in 0 = .ok (.lload_n 0, 1) := dk_30 ((dQ_X9_in_0 0).trans dk_j0)
theorem dX9_in_1 : decode cX9_in 1 = .ok (.lload_n 2, 1) := dk_32 ((dQ_X9_in_0 1).trans dk_j1)
theorem dX9_in_2 : decode cX9_in 2 = .ok (.lcmp, 1) := dk_148 ((dQ_X9_in_0 2).trans dk_j2)
theorem dk_vs2_0_14 : Reader.signed 16 ((0x00 : UInt8).toNat * 256 + (0x0e : UInt8).toNat) = (14 : Int) := by decide +kernel
theorem dX9_in_3 : decode cX9_in 3 = .ok (.ifCond .lt 14, 3) := dk_155 ((dQ_X9_in_0 3).trans dk_j3) ((dQ_X9_in_0 4).trans dk_j4) ((dQ_X9_in_0 5).trans dk_j5) dk_vs2_0_14
theorem dX9_in_6 : decode cX9_in 6 = .ok (.lload_n 0, 1) := dk_30 ((dQ_X9_in_0 6).trans dk_j6)
theorem dk_vu1_4 : (0x04 : UInt8).toNat = (4 : Nat) := by decide +kernel
theorem dX9_in_7 : decode cX9_in 7 = .ok (.lload 4, 2) := dk_22 ((dQ_X9_in_0 7).trans dk_j7) ((dQ_X9_in_0 8).trans dk_j8) dk_vu1_4
theorem dX9_in_9 : decode cX9_in 9 = .ok (.lcmp, 1) := dk_148 ((dQ_X9_in_0 9).trans dk_j9)
theorem dk_vs2_0_7 : Reader.signed 16 ((0x00 : UInt8).toNat * 256 + (0x07 : UInt8).toNat) = (7 : Int) := by decide +kernel
theorem dX9_in_10 : decode cX9_in 10 = .ok (.ifCond .gt 7, 3) := dk_157 ((dQ_X9_in_0 10).trans dk_j10) ((dQ_X9_in_0 11).trans dk_j11) ((dQ_X9_in_0 12).trans dk_j12) dk_vs2_0_7
theorem dX9_in_13 : decode cX9_in 13 = .ok (.iconst 1, 1) := dk_4 ((dQ_X9_in_0 13).trans dk_j13)
theorem dk_vs2_0_4 : Reader.signed 16 ((0x00 : UInt8).toNat * 256 + (0x04 : UInt8).toNat) = (4 : Int) := by decide +kernel
theorem dX9_in_14 : decode cX9_in 14 = .ok (.goto 4, 3) := dk_167 ((dQ_X9_in_0 14).trans dk_j14) ((dQ_X9_in_0 15).trans dk_j15) ((dQ_X9_in_1 0).trans dk_j0) dk_vs2_0_4
theorem dX9_in_17 : decode cX9_in 17 = .ok (.iconst 0, 1) := dk_3 ((dQ_X9_in_1 1).trans dk_j1)
theorem dX9_in_18 : decode cX9_in 18 = .ok (.ireturn, 1) := dk_172 ((dQ_X9_in_1 2).trans dk_j2)
def dT_X9_bits_1 : List UInt8 := (0x60 : UInt8) :: (0x3c : UInt8) :: (0x84 : UInt8) :: (0x02 : UInt8) :: (0x01 : UInt8) :: (0xa7 : UInt8) :: (0xff : UInt8) :: (0xef : UInt8) :: (0x1b : UInt8) :: (0xac : UInt8) :: []
def dT_X9_bits_0 : List UInt8 := (0x03 : UInt8) :: (0x3c : UInt8) :: (0x03 : UInt8) :: (0x3d : UInt8) :: (0x1c : UInt8) :: (0x10 : UInt8) :: (0x1e : UInt8) :: (0xa2 : UInt8) :: (0x00 : UInt8) :: (0x11 : UInt8) :: (0x1b : UInt8) :: (0x1a : UInt8) :: (0x1c : UInt8) :: (0x7a : UInt8) :: (0x04 : UInt8) :: (0x7e : UInt8) :: dT_X9_bits_1
theorem dT_X9_bits : cX9_bits.data.toList = dT_X9_bits_0 := eq_of_beq (show (cX9_bits.data.toList == dT_X9_bits_0) = true by decide +kernel)
theorem dQ_X9_bits_0 : dQ_P cX9_bits 0 dT_X9_bits_0 := fun i => by rw [dT_X9_bits]; rfl
theorem dQ_X9_bits_1 : dQ_P cX9_bits 16 dT_X9_bits_1 := fun i => (dQ_X9_bits_0 (i + 16)).trans dk_t
theorem dX9_bits_0 : decode cX9_bits 0 = .ok (.iconst 0, 1) := dk_3 ((dQ_X9_bits_0 0).trans dk_j0)
theorem dX9_bits_1 : decode cX9_bits 1 = .ok (.istore_n 1, 1) := dk_60 ((dQ_X9_bits_0 1).trans dk_j1)
theorem dX9_bits_2 : decode cX9_bits 2 = .ok (.iconst 0, 1) := dk_3 ((dQ_X9_bits_0 2).trans dk_j2)
theorem dX9_bits_3 : decode cX9_bits 3 = .ok (.istore_n 2, 1) := dk_61 ((dQ_X9_bits_0 3).trans dk_j3)
theorem dX9_bits_4 : decode cX9_bits 4 = .ok (.iload_n 2, 1) := dk_28 ((dQ_X9_bits_0 4).trans dk_j4)
theorem dX9_bits_5 : decode cX9_bits 5 = .ok (.bipush 30, 2) := dk_16 ((dQ_X9_bits_0 5).trans dk_j5) ((dQ_X9_bits_0 6).trans dk_j6) dk_vs1_30
theorem dk_vs2_0_17 : Reader.signed 16 ((0x00 : UInt8).toNat * 256 + (0x11 : UInt8).toNat) = (17 : Int) := by decide +kernel
theorem dX9_bits_7 : decode cX9_bits 7 = .ok (.if_icmp .ge 17, 3) := dk_162 ((dQ_X9_bits_0 7).trans dk_j7) ((dQ_X9_bits_0 8).trans dk_j8) ((dQ_X9_bits_0 9).trans dk_j9) dk_vs2_0_17
theorem dX9_bits_10 : decode cX9_bits 10 = .ok (.iload_n 1, 1) := dk_27 ((dQ_X9_bits_0 10).trans dk_j10)
theorem dX9_bits_11 : decode cX9_bits 11 = .ok (.iload_n 0, 1) := dk_26 ((dQ_X9_bits_0 11).trans dk_j11)
theorem dX9_bits_12 : decode cX9_bits 12 = .ok (.iload_n 2, 1) := dk_28 ((dQ_X9_bits_0 12).trans dk_j12)
theorem dX9_bits_13 : decode cX9_bits 13 = .ok (.ishr, 1) := dk_122 ((dQ_X9_bits_0 13).trans dk_j13)
theorem dX9_bits_14 : decode cX9_bits 14 = .ok (.iconst 1, 1) := dk_4 ((dQ_X9_bits_0 14).trans dk_j14)
theorem dX9_bits_15 : decode cX9_bits 15 = .ok (.iand, 1) := dk_126 ((dQ_X9_bits_0 15).trans dk_j15)
theorem dX9_bits_16 : decode cX9_bits 16 = .ok (.iadd, 1) := dk_96 ((dQ_X9_bits_1 0).trans dk_j0)
theorem dX9_bits_17 : decode cX9_bits 17 = .ok (.istore_n 1, 1) := dk_60 ((dQ_X9_bits_1 1).trans dk_j1)
theorem dk_vu1_2 : (0x02 : UInt8).toNat = (2 : Nat) := by decide +kernel
theorem dk_vs1_1 : Reader.signed 8 (0x01 : UInt8).toNat = (1 : Int) := by decide +kernel
theorem dX9_bits_18 : decode cX9_bits 18 = .ok (.iinc 2 1, 3) := dk_132 ((dQ_X9_bits_1 2).trans dk_j2) ((dQ_X9_bits_1 3).trans dk_j3) ((dQ_X9_bits_1 4).trans dk_j4) dk_vu1_2 dk_vs1_1
theorem dk_vs2_255_239 : Reader.signed 16 ((0xff : UInt8).toNat * 256 + (0xef : UInt8).toNat) = (-17 : Int) := by decide +kernel
theorem dX9_bits_21 : decode cX9_bits 21 = .ok (.goto (-17), 3) := dk_167 ((dQ_X9_bits_1 5).trans dk_j5) ((dQ_X9_bits_1 6).trans dk_j6) ((dQ_X9_bits_1 7).trans dk_j7) dk_vs2_255_239
theorem dX9_bits_24 : decode cX9_bits 24 = .ok (.iload_n 1, 1) := dk_27 ((dQ_X9_bits_1 8).trans dk_j8)
theorem dX9_bits_25 : decode cX9_bits 25 = .ok (.ireturn, 1) := dk_172 ((dQ_X9_bits_1 9).trans dk_j9)
def dT_X9_bit_0 : List UInt8 := (0x1a : UInt8) :: (0x1b : UInt8) :: (0x7a : UInt8) :: (0x04 : UInt8) :: (0x7e : UInt8) :: (0xac : UInt8) :: []
theorem dT_X9_bit : cX9_bit.data.toList = dT_X9_bit_0 := eq_of_beq (show (cX9_bit.data.toList == dT_X9_bit_0) = true by decide +kernel)
theorem dQ_X9_bit_0 : dQ_P cX9_bit 0 dT_X9_bit_0 := fun i => by rw [dT_X9_bit]; rfl
theorem dX9_bit_0 : decode cX9_bit 0 = .ok (.iload_n 0, 1) := dk_26 ((dQ_X9_bit_0 0).trans dk_j0)
theorem dX9_bit_1 : decode cX9_bit 1 = .ok (.iload_n 1, 1) := dk_27 ((dQ_X9_bit_0 1).trans dk_j1)
theorem dX9_bit_2 : decode cX9_bit 2 = .ok (.ishr, 1) := dk_122 ((dQ_X9_bit_0 2).trans dk_j2)
theorem dX9_bit_3 : decode cX9_bit 3 = .ok (.iconst 1, 1) := dk_4 ((dQ_X9_bit_0 3).trans dk_j3)
theorem dX9_bit_4 : decode cX9_bit 4 = .ok (.iand, 1) := dk_126 ((dQ_X9_bit_0 4).trans dk_j4)
theorem dX9_bit_5 : decode cX9_bit 5 = .ok (.ireturn, 1) := dk_172 ((dQ_X9_bit_0 5).trans dk_j5)
def dT_X9_image_3 : List UInt8 := (0x00 : UInt8) :: (0x10 : UInt8) :: (0x1b : UInt8) :: (0x04 : UInt8) :: (0x54 : UInt8) :: (0x03 : UInt8) :: (0xac : UInt8) :: []
def dT_X9_image_2 : List UInt8 := (0x60 : UInt8) :: (0x2a : UInt8) :: (0xb4 : UInt8) :: (0x00 : UInt8) :: (0x09 : UInt8) :: (0x1c : UInt8) :: (0x2e : UInt8) :: (0x4f : UInt8) :: (0x84 : UInt8) :: (0x02 : UInt8) :: (0x01 : UInt8) :: (0xa7 : UInt8) :: (0xff : UInt8) :: (0xe6 : UInt8) :: (0x2a : UInt8) :: (0xb4 : UInt8) :: dT_X9_image_3
def dT_X9_image_1 : List UInt8 := (0x3d : UInt8) :: (0x1c : UInt8) :: (0x10 : UInt8) :: (0x77 : UInt8) :: (0xa2 : UInt8) :: (0x00 : UInt8) :: (0x1a : UInt8) :: (0x2a : UInt8) :: (0xb4 : UInt8) :: (0x00 : UInt8) :: (0x0d : UInt8) :: (0x10 : UInt8) :: (0x77 : UInt8) :: (0x1b : UInt8) :: (0x68 : UInt8) :: (0x1c : UInt8) :: dT_X9_image_2
def dT_X9_image_0 : List UInt8 := (0x1b : UInt8) :: (0x85 : UInt8) :: (0x09 : UInt8) :: (0x14 : UInt8) :: (0x00 : UInt8) :: (0x5c : UInt8) :: (0xb8 : UInt8) :: (0x00 : UInt8) :: (0x5e : UInt8) :: (0x9a : UInt8) :: (0x00 : UInt8) :: (0x06 : UInt8) :: (0x10 : UInt8) :: (0xfe : UInt8) :: (0xac : UInt8) :: (0x03 : UInt8) :: dT_X9_image_1
theorem dT_X9_image : cX9_image.data.toList = dT_X9_image_0 := eq_of_beq (show (cX9_image.data.toList == dT_X9_image_0) = true by decide +kernel)
theorem dQ_X9_image_0 : dQ_P cX9_image 0 dT_X9_image_0 := fun i => by rw [dT_X9_image]; rfl
theorem dQ_X9_image_1 : dQ_P cX9_image 16 dT_X9_image_1 := fun i => (dQ_X9_image_0 (i + 16)).trans dk_t
theorem dQ_X9_image_2 : dQ_P cX9_image 32 dT_X9_image_2 := fun i => (dQ_X9_image_1 (i + 16)).trans dk_t
theorem dQ_X9_image_3 : dQ_P cX9_image 48 dT_X9_image_3 := fun i => (dQ_X9_image_2 (i + 16)).trans dk_t
theorem dX9_image_0 : decode cX9_image 0 = .ok (.iload_n 1, 1) := dk_27 ((dQ_X9_image_0 0).trans dk_j0)
theorem dX9_image_1 : decode cX9_image 1 = .ok (.i2l, 1) := dk_133 ((dQ_X9_image_0 1).trans dk_j1)
theorem dX9_image_2 : decode cX9_image 2 = .ok (.lconst 0, 1) := dk_9 ((dQ_X9_image_0 2).trans dk_j2)
theorem dk_vu2_0_92 : (0x00 : UInt8).toNat * 256 + (0x5c : UInt8).toNat = (92 : Nat) := by decide +kernel
theorem dX9_image_3 : decode cX9_image 3 = .ok (.ldc2_w 92, 3) := dk_20 ((dQ_X9_image_0 3).trans dk_j3) ((dQ_X9_image_0 4).trans dk_j4) ((dQ_X9_image_0 5).trans dk_j5) dk_vu2_0_92
theorem dk_vu2_0_94 : (0x00 : UInt8).toNat * 256 + (0x5e : UInt8).toNat = (94 : Nat) := by decide +kernel
theorem dX9_image_6 : decode cX9_image 6 = .ok (.invokestatic 94, 3) := dk_184 ((dQ_X9_image_0 6).trans dk_j6) ((dQ_X9_image_0 7).trans dk_j7) ((dQ_X9_image_0 8).trans dk_j8) dk_vu2_0_94
theorem dk_vs2_0_6 : Reader.signed 16 ((0x00 : UInt8).toNat * 256 + (0x06 : UInt8).toNat) = (6 : Int) := by decide +kernel
theorem dX9_image_9 : decode cX9_image 9 = .ok (.ifCond .ne 6, 3) := dk_154 ((dQ_X9_image_0 9).trans dk_j9) ((dQ_X9_image_0 10).trans dk_j10) ((dQ_X9_image_0 11).trans dk_j11) dk_vs2_0_6
theorem dk_vs1_254 : Reader.signed 8 (0xfe : UInt8).toNat = (-2 : Int) := by decide +kernel
theorem dX9_image_12 : decode cX9_image 12 = .ok (.bipush (-2), 2) := dk_16 ((dQ_X9_image_0 12).trans dk_j12) ((dQ_X9_image_0 13).trans dk_j13) dk_vs1_254
theorem dX9_image_14 : decode cX9_image 14 = .ok (.ireturn, 1) := dk_172 ((dQ_X9_image_0 14).trans dk_j14)
theorem dX9_image_15 : decode cX9_image 15 = .ok (.iconst 0, 1) := dk_3 ((dQ_X9_image_0 15).trans dk_j15)
theorem dX9_image_16 : decode cX9_image 16 = .ok (.istore_n 2, 1) := dk_61 ((dQ_X9_image_1 0).trans dk_j0)
theorem dX9_image_17 : decode cX9_image 17 = .ok (.iload_n 2, 1) := dk_28 ((dQ_X9_image_1 1).trans dk_j1)
theorem dX9_image_18 : decode cX9_image 18 = .ok (.bipush 119, 2) := dk_16 ((dQ_X9_image_1 2).trans dk_j2) ((dQ_X9_image_1 3).trans dk_j3) dk_vs1_119
theorem dk_vs2_0_26 : Reader.signed 16 ((0x00 : UInt8).toNat * 256 + (0x1a : UInt8).toNat) = (26 : Int) := by decide +kernel
theorem dX9_image_20 : decode cX9_image 20 = .ok (.if_icmp .ge 26, 3) := dk_162 ((dQ_X9_image_1 4).trans dk_j4) ((dQ_X9_image_1 5).trans dk_j5) ((dQ_X9_image_1 6).trans dk_j6) dk_vs2_0_26
theorem dX9_image_23 : decode cX9_image 23 = .ok (.aload_n 0, 1) := dk_42 ((dQ_X9_image_1 7).trans dk_j7)
theorem dX9_image_24 : decode cX9_image 24 = .ok (.getfield 13, 3) := dk_180 ((dQ_X9_image_1 8).trans dk_j8) ((dQ_X9_image_1 9).trans dk_j9) ((dQ_X9_image_1 10).trans dk_j10) dk_vu2_0_13
theorem dX9_image_27 : decode cX9_image 27 = .ok (.bipush 119, 2) := dk_16 ((dQ_X9_image_1 11).trans dk_j11) ((dQ_X9_image_1 12).trans dk_j12) dk_vs1_119
theorem dX9_image_29 : decode cX9_image 29 = .ok (.iload_n 1, 1) := dk_27 ((dQ_X9_image_1 13).trans dk_j13)
theorem dX9_image_30 : decode cX9_image 30 = .ok (.imul, 1) := dk_104 ((dQ_X9_image_1 14).trans dk_j14)
theorem dX9_image_31 : decode cX9_image 31 = .ok (.iload_n 2, 1) := dk_28 ((dQ_X9_image_1 15).trans dk_j15)
theorem dX9_image_32 : decode cX9_image 32 = .ok (.iadd, 1) := dk_96 ((dQ_X9_image_2 0).trans dk_j0)
theorem dX9_image_33 : decode cX9_image 33 = .ok (.aload_n 0, 1) := dk_42 ((dQ_X9_image_2 1).trans dk_j1)
theorem dX9_image_34 : decode cX9_image 34 = .ok (.getfield 9, 3) := dk_180 ((dQ_X9_image_2 2).trans dk_j2) ((dQ_X9_image_2 3).trans dk_j3) ((dQ_X9_image_2 4).trans dk_j4) dk_vu2_0_9
theorem dX9_image_37 : decode cX9_image 37 = .ok (.iload_n 2, 1) := dk_28 ((dQ_X9_image_2 5).trans dk_j5)
theorem dX9_image_38 : decode cX9_image 38 = .ok (.iaload, 1) := dk_46 ((dQ_X9_image_2 6).trans dk_j6)
theorem dX9_image_39 : decode cX9_image 39 = .ok (.iastore, 1) := dk_79 ((dQ_X9_image_2 7).trans dk_j7)
theorem dX9_image_40 : decode cX9_image 40 = .ok (.iinc 2 1, 3) := dk_132 ((dQ_X9_image_2 8).trans dk_j8) ((dQ_X9_image_2 9).trans dk_j9) ((dQ_X9_image_2 10).trans dk_j10) dk_vu1_2 dk_vs1_1
theorem dk_vs2_255_230 : Reader.signed 16 ((0xff : UInt8).toNat * 256 + (0xe6 : UInt8).toNat) = (-26 : Int) := by decide +kernel
theorem dX9_image_43 : decode cX9_image 43 = .ok (.goto (-26), 3) := dk_167 ((dQ_X9_image_2 11).trans dk_j11) ((dQ_X9_image_2 12).trans dk_j12) ((dQ_X9_image_2 13).trans dk_j13) dk_vs2_255_230
theorem dX9_image_46 : decode cX9_image 46 = .ok (.aload_n 0, 1) := dk_42 ((dQ_X9_image_2 14).trans dk_j14)
theorem dX9_image_47 : decode cX9_image 47 = .ok (.getfield 16, 3) := dk_180 ((dQ_X9_image_2 15).trans dk_j15) ((dQ_X9_image_3 0).trans dk_j0) ((dQ_X9_image_3 1).trans dk_j1) dk_vu2_0_16
theorem dX9_image_50 : decode cX9_image 50 = .ok (.iload_n 1, 1) := dk_27 ((dQ_X9_image_3 2).trans dk_j2)
theorem dX9_image_51 : decode cX9_image 51 = .ok (.iconst 1, 1) := dk_4 ((dQ_X9_image_3 3).trans dk_j3)
theorem dX9_image_52 : decode cX9_image 52 = .ok (.bastore, 1) := dk_84 ((dQ_X9_image_3 4).trans dk_j4)
theorem dX9_image_53 : decode cX9_image 53 = .ok (.iconst 0, 1) := dk_3 ((dQ_X9_image_3 5).trans dk_j5)
theorem dX9_image_54 : decode cX9_image 54 = .ok (.ireturn, 1) := dk_172 ((dQ_X9_image_3 6).trans dk_j6)
def dT_X9_back_3 : List UInt8 := (0x1c : UInt8) :: (0x60 : UInt8) :: (0x2e : UInt8) :: (0x4f : UInt8) :: (0x84 : UInt8) :: (0x02 : UInt8) :: (0x01 : UInt8) :: (0xa7 : UInt8) :: (0xff : UInt8) :: (0xe6 : UInt8) :: (0x03 : UInt8) :: (0xac : UInt8) :: []
def dT_X9_back_2 : List UInt8 := (0xa2 : UInt8) :: (0x00 : UInt8) :: (0x1a : UInt8) :: (0x2a : UInt8) :: (0xb4 : UInt8) :: (0x00 : UInt8) :: (0x09 : UInt8) :: (0x1c : UInt8) :: (0x2a : UInt8) :: (0xb4 : UInt8) :: (0x00 : UInt8) :: (0x0d : UInt8) :: (0x10 : UInt8) :: (0x77 : UInt8) :: (0x1b : UInt8) :: (0x68 : UInt8) :: dT_X9_back_3
def dT_X9_back_1 : List UInt8 := (0xb4 : UInt8) :: (0x00 : UInt8) :: (0x10 : UInt8) :: (0x1b : UInt8) :: (0x33 : UInt8) :: (0x9a : UInt8) :: (0x00 : UInt8) :: (0x06 : UInt8) :: (0x10 : UInt8) :: (0xfa : UInt8) :: (0xac : UInt8) :: (0x03 : UInt8) :: (0x3d : UInt8) :: (0x1c : UInt8) :: (0x10 : UInt8) :: (0x77 : UInt8) :: dT_X9_back_2
def dT_X9_back_0 : List UInt8 := (0x1b : UInt8) :: (0x85 : UInt8) :: (0x09 : UInt8) :: (0x14 : UInt8) :: (0x00 : UInt8) :: (0x5c : UInt8) :: (0xb8 : UInt8) :: (0x00 : UInt8) :: (0x5e : UInt8) :: (0x9a : UInt8) :: (0x00 : UInt8) :: (0x06 : UInt8) :: (0x10 : UInt8) :: (0xfe : UInt8) :: (0xac : UInt8) :: (0x2a : UInt8) :: dT_X9_back_1
theorem dT_X9_back : cX9_back.data.toList = dT_X9_back_0 := eq_of_beq (show (cX9_back.data.toList == dT_X9_back_0) = true by decide +kernel)
theorem dQ_X9_back_0 : dQ_P cX9_back 0 dT_X9_back_0 := fun i => by rw [dT_X9_back]; rfl
theorem dQ_X9_back_1 : dQ_P cX9_back 16 dT_X9_back_1 := fun i => (dQ_X9_back_0 (i + 16)).trans dk_t
theorem dQ_X9_back_2 : dQ_P cX9_back 32 dT_X9_back_2 := fun i => (dQ_X9_back_1 (i + 16)).trans dk_t
theorem dQ_X9_back_3 : dQ_P cX9_back 48 dT_X9_back_3 := fun i => (dQ_X9_back_2 (i + 16)).trans dk_t
theorem dX9_back_0 : decode cX9_back 0 = .ok (.iload_n 1, 1) := dk_27 ((dQ_X9_back_0 0).trans dk_j0)
theorem dX9_back_1 : decode cX9_back 1 = .ok (.i2l, 1) := dk_133 ((dQ_X9_back_0 1).trans dk_j1)
theorem dX9_back_2 : decode cX9_back 2 = .ok (.lconst 0, 1) := dk_9 ((dQ_X9_back_0 2).trans dk_j2)
theorem dX9_back_3 : decode cX9_back 3 = .ok (.ldc2_w 92, 3) := dk_20 ((dQ_X9_back_0 3).trans dk_j3) ((dQ_X9_back_0 4).trans dk_j4) ((dQ_X9_back_0 5).trans dk_j5) dk_vu2_0_92
theorem dX9_back_6 : decode cX9_back 6 = .ok (.invokestatic 94, 3) := dk_184 ((dQ_X9_back_0 6).trans dk_j6) ((dQ_X9_back_0 7).trans dk_j7) ((dQ_X9_back_0 8).trans dk_j8) dk_vu2_0_94
theorem dX9_back_9 : decode cX9_back 9 = .ok (.ifCond .ne 6, 3) := dk_154 ((dQ_X9_back_0 9).trans dk_j9) ((dQ_X9_back_0 10).trans dk_j10) ((dQ_X9_back_0 11).trans dk_j11) dk_vs2_0_6
theorem dX9_back_12 : decode cX9_back 12 = .ok (.bipush (-2), 2) := dk_16 ((dQ_X9_back_0 12).trans dk_j12) ((dQ_X9_back_0 13).trans dk_j13) dk_vs1_254
theorem dX9_back_14 : decode cX9_back 14 = .ok (.ireturn, 1) := dk_172 ((dQ_X9_back_0 14).trans dk_j14)
theorem dX9_back_15 : decode cX9_back 15 = .ok (.aload_n 0, 1) := dk_42 ((dQ_X9_back_0 15).trans dk_j15)
theorem dX9_back_16 : decode cX9_back 16 = .ok (.getfield 16, 3) := dk_180 ((dQ_X9_back_1 0).trans dk_j0) ((dQ_X9_back_1 1).trans dk_j1) ((dQ_X9_back_1 2).trans dk_j2) dk_vu2_0_16
theorem dX9_back_19 : decode cX9_back 19 = .ok (.iload_n 1, 1) := dk_27 ((dQ_X9_back_1 3).trans dk_j3)
theorem dX9_back_20 : decode cX9_back 20 = .ok (.baload, 1) := dk_51 ((dQ_X9_back_1 4).trans dk_j4)
theorem dX9_back_21 : decode cX9_back 21 = .ok (.ifCond .ne 6, 3) := dk_154 ((dQ_X9_back_1 5).trans dk_j5) ((dQ_X9_back_1 6).trans dk_j6) ((dQ_X9_back_1 7).trans dk_j7) dk_vs2_0_6
theorem dk_vs1_250 : Reader.signed 8 (0xfa : UInt8).toNat = (-6 : Int) := by decide +kernel
theorem dX9_back_24 : decode cX9_back 24 = .ok (.bipush (-6), 2) := dk_16 ((dQ_X9_back_1 8).trans dk_j8) ((dQ_X9_back_1 9).trans dk_j9) dk_vs1_250
theorem dX9_back_26 : decode cX9_back 26 = .ok (.ireturn, 1) := dk_172 ((dQ_X9_back_1 10).trans dk_j10)
theorem dX9_back_27 : decode cX9_back 27 = .ok (.iconst 0, 1) := dk_3 ((dQ_X9_back_1 11).trans dk_j11)
theorem dX9_back_28 : decode cX9_back 28 = .ok (.istore_n 2, 1) := dk_61 ((dQ_X9_back_1 12).trans dk_j12)
theorem dX9_back_29 : decode cX9_back 29 = .ok (.iload_n 2, 1) := dk_28 ((dQ_X9_back_1 13).trans dk_j13)
theorem dX9_back_30 : decode cX9_back 30 = .ok (.bipush 119, 2) := dk_16 ((dQ_X9_back_1 14).trans dk_j14) ((dQ_X9_back_1 15).trans dk_j15) dk_vs1_119
theorem dX9_back_32 : decode cX9_back 32 = .ok (.if_icmp .ge 26, 3) := dk_162 ((dQ_X9_back_2 0).trans dk_j0) ((dQ_X9_back_2 1).trans dk_j1) ((dQ_X9_back_2 2).trans dk_j2) dk_vs2_0_26
theorem dX9_back_35 : decode cX9_back 35 = .ok (.aload_n 0, 1) := dk_42 ((dQ_X9_back_2 3).trans dk_j3)
theorem dX9_back_36 : decode cX9_back 36 = .ok (.getfield 9, 3) := dk_180 ((dQ_X9_back_2 4).trans dk_j4) ((dQ_X9_back_2 5).trans dk_j5) ((dQ_X9_back_2 6).trans dk_j6) dk_vu2_0_9
theorem dX9_back_39 : decode cX9_back 39 = .ok (.iload_n 2, 1) := dk_28 ((dQ_X9_back_2 7).trans dk_j7)
theorem dX9_back_40 : decode cX9_back 40 = .ok (.aload_n 0, 1) := dk_42 ((dQ_X9_back_2 8).trans dk_j8)
theorem dX9_back_41 : decode cX9_back 41 = .ok (.getfield 13, 3) := dk_180 ((dQ_X9_back_2 9).trans dk_j9) ((dQ_X9_back_2 10).trans dk_j10) ((dQ_X9_back_2 11).trans dk_j11) dk_vu2_0_13
theorem dX9_back_44 : decode cX9_back 44 = .ok (.bipush 119, 2) := dk_16 ((dQ_X9_back_2 12).trans dk_j12) ((dQ_X9_back_2 13).trans dk_j13) dk_vs1_119
theorem dX9_back_46 : decode cX9_back 46 = .ok (.iload_n 1, 1) := dk_27 ((dQ_X9_back_2 14).trans dk_j14)
theorem dX9_back_47 : decode cX9_back 47 = .ok (.imul, 1) := dk_104 ((dQ_X9_back_2 15).trans dk_j15)
theorem dX9_back_48 : decode cX9_back 48 = .ok (.iload_n 2, 1) := dk_28 ((dQ_X9_back_3 0).trans dk_j0)
theorem dX9_back_49 : decode cX9_back 49 = .ok (.iadd, 1) := dk_96 ((dQ_X9_back_3 1).trans dk_j1)
theorem dX9_back_50 : decode cX9_back 50 = .ok (.iaload, 1) := dk_46 ((dQ_X9_back_3 2).trans dk_j2)
theorem dX9_back_51 : decode cX9_back 51 = .ok (.iastore, 1) := dk_79 ((dQ_X9_back_3 3).trans dk_j3)
theorem dX9_back_52 : decode cX9_back 52 = .ok (.iinc 2 1, 3) := dk_132 ((dQ_X9_back_3 4).trans dk_j4) ((dQ_X9_back_3 5).trans dk_j5) ((dQ_X9_back_3 6).trans dk_j6) dk_vu1_2 dk_vs1_1
theorem dX9_back_55 : decode cX9_back 55 = .ok (.goto (-26), 3) := dk_167 ((dQ_X9_back_3 7).trans dk_j7) ((dQ_X9_back_3 8).trans dk_j8) ((dQ_X9_back_3 9).trans dk_j9) dk_vs2_255_230
theorem dX9_back_58 : decode cX9_back 58 = .ok (.iconst 0, 1) := dk_3 ((dQ_X9_back_3 10).trans dk_j10)
theorem dX9_back_59 : decode cX9_back 59 = .ok (.ireturn, 1) := dk_172 ((dQ_X9_back_3 11).trans dk_j11)
def dT_X9_isHouse_0 : List UInt8 := (0x2a : UInt8) :: (0xb4 : UInt8) :: (0x00 : UInt8) :: (0x09 : UInt8) :: (0x10 : UInt8) :: (0x0a : UInt8) :: (0x2e : UInt8) :: (0x9e : UInt8) :: (0x00 : UInt8) :: (0x07 : UInt8) :: (0x04 : UInt8) :: (0xa7 : UInt8) :: (0x00 : UInt8) :: (0x04 : UInt8) :: (0x03 : UInt8) :: (0xac : UInt8) :: []
theorem dT_X9_isHouse : cX9_isHouse.data.toList = dT_X9_isHouse_0 := eq_of_beq (show (cX9_isHouse.data.toList == dT_X9_isHouse_0) = true by decide +kernel)
theorem dQ_X9_isHouse_0 : dQ_P cX9_isHouse 0 dT_X9_isHouse_0 := fun i => by rw [dT_X9_isHouse]; rfl
theorem dX9_isHouse_0 : decode cX9_isHouse 0 = .ok (.aload_n 0, 1) := dk_42 ((dQ_X9_isHouse_0 0).trans dk_j0)
theorem dX9_isHouse_1 : decode cX9_isHouse 1 = .ok (.getfield 9, 3) := dk_180 ((dQ_X9_isHouse_0 1).trans dk_j1) ((dQ_X9_isHouse_0 2).trans dk_j2) ((dQ_X9_isHouse_0 3).trans dk_j3) dk_vu2_0_9
theorem dk_vs1_10 : Reader.signed 8 (0x0a : UInt8).toNat = (10 : Int) := by decide +kernel
theorem dX9_isHouse_4 : decode cX9_isHouse 4 = .ok (.bipush 10, 2) := dk_16 ((dQ_X9_isHouse_0 4).trans dk_j4) ((dQ_X9_isHouse_0 5).trans dk_j5) dk_vs1_10
theorem dX9_isHouse_6 : decode cX9_isHouse 6 = .ok (.iaload, 1) := dk_46 ((dQ_X9_isHouse_0 6).trans dk_j6)
theorem dX9_isHouse_7 : decode cX9_isHouse 7 = .ok (.ifCond .le 7, 3) := dk_158 ((dQ_X9_isHouse_0 7).trans dk_j7) ((dQ_X9_isHouse_0 8).trans dk_j8) ((dQ_X9_isHouse_0 9).trans dk_j9) dk_vs2_0_7
theorem dX9_isHouse_10 : decode cX9_isHouse 10 = .ok (.iconst 1, 1) := dk_4 ((dQ_X9_isHouse_0 10).trans dk_j10)
theorem dX9_isHouse_11 : decode cX9_isHouse 11 = .ok (.goto 4, 3) := dk_167 ((dQ_X9_isHouse_0 11).trans dk_j11) ((dQ_X9_isHouse_0 12).trans dk_j12) ((dQ_X9_isHouse_0 13).trans dk_j13) dk_vs2_0_4
theorem dX9_isHouse_14 : decode cX9_isHouse 14 = .ok (.iconst 0, 1) := dk_3 ((dQ_X9_isHouse_0 14).trans dk_j14)
theorem dX9_isHouse_15 : decode cX9_isHouse 15 = .ok (.ireturn, 1) := dk_172 ((dQ_X9_isHouse_0 15).trans dk_j15)
def dT_X9_isMinute_0 : List UInt8 := (0x1f : UInt8) :: (0x09 : UInt8) :: (0x2a : UInt8) :: (0xb4 : UInt8) :: (0x00 : UInt8) :: (0x09 : UInt8) :: (0x03 : UInt8) :: (0x2e : UInt8) :: (0x04 : UInt8) :: (0x64 : UInt8) :: (0x85 : UInt8) :: (0xb8 : UInt8) :: (0x00 : UInt8) :: (0x5e : UInt8) :: (0xac : UInt8) :: []
theorem dT_X9_isMinute : cX9_isMinute.data.toList = dT_X9_isMinute_0 := eq_of_beq (show (cX9_isMinute.data.toList == dT_X9_isMinute_0) = true by decide +kernel)
theorem dQ_X9_isMinute_0 : dQ_P cX9_isMinute 0 dT_X9_isMinute_0 := fun i => by rw [dT_X9_isMinute]; rfl
theorem dX9_isMinute_0 : decode cX9_isMinute 0 = .ok (.lload_n 1, 1) := dk_31 ((dQ_X9_isMinute_0 0).trans dk_j0)
theorem dX9_isMinute_1 : decode cX9_isMinute 1 = .ok (.lconst 0, 1) := dk_9 ((dQ_X9_isMinute_0 1).trans dk_j1)
theorem dX9_isMinute_2 : decode cX9_isMinute 2 = .ok (.aload_n 0, 1) := dk_42 ((dQ_X9_isMinute_0 2).trans dk_j2)
theorem dX9_isMinute_3 : decode cX9_isMinute 3 = .ok (.getfield 9, 3) := dk_180 ((dQ_X9_isMinute_0 3).trans dk_j3) ((dQ_X9_isMinute_0 4).trans dk_j4) ((dQ_X9_isMinute_0 5).trans dk_j5) dk_vu2_0_9
theorem dX9_isMinute_6 : decode cX9_isMinute 6 = .ok (.iconst 0, 1) := dk_3 ((dQ_X9_isMinute_0 6).trans dk_j6)
theorem dX9_isMinute_7 : decode cX9_isMinute 7 = .ok (.iaload, 1) := dk_46 ((dQ_X9_isMinute_0 7).trans dk_j7)
theorem dX9_isMinute_8 : decode cX9_isMinute 8 = .ok (.iconst 1, 1) := dk_4 ((dQ_X9_isMinute_0 8).trans dk_j8)
theorem dX9_isMinute_9 : decode cX9_isMinute 9 = .ok (.isub, 1) := dk_100 ((dQ_X9_isMinute_0 9).trans dk_j9)
theorem dX9_isMinute_10 : decode cX9_isMinute 10 = .ok (.i2l, 1) := dk_133 ((dQ_X9_isMinute_0 10).trans dk_j10)
theorem dX9_isMinute_11 : decode cX9_isMinute 11 = .ok (.invokestatic 94, 3) := dk_184 ((dQ_X9_isMinute_0 11).trans dk_j11) ((dQ_X9_isMinute_0 12).trans dk_j12) ((dQ_X9_isMinute_0 13).trans dk_j13) dk_vu2_0_94
theorem dX9_isMinute_14 : decode cX9_isMinute 14 = .ok (.ireturn, 1) := dk_172 ((dQ_X9_isMinute_0 14).trans dk_j14)
def dT_X9_isPerson_0 : List UInt8 := (0x1f : UInt8) :: (0x09 : UInt8) :: (0x2a : UInt8) :: (0xb4 : UInt8) :: (0x00 : UInt8) :: (0x09 : UInt8) :: (0x08 : UInt8) :: (0x2e : UInt8) :: (0x04 : UInt8) :: (0x64 : UInt8) :: (0x85 : UInt8) :: (0xb8 : UInt8) :: (0x00 : UInt8) :: (0x5e : UInt8) :: (0xac : UInt8) :: []
theorem dT_X9_isPerson : cX9_isPerson.data.toList = dT_X9_isPerson_0 := eq_of_beq (show (cX9_isPerson.data.toList == dT_X9_isPerson_0) = true by decide +kernel)
theorem dQ_X9_isPerson_0 : dQ_P cX9_isPerson 0 dT_X9_isPerson_0 := fun i => by rw [dT_X9_isPerson]; rfl
theorem dX9_isPerson_0 : decode cX9_isPerson 0 = .ok (.lload_n 1, 1) := dk_31 ((dQ_X9_isPerson_0 0).trans dk_j0)
theorem dX9_isPerson_1 : decode cX9_isPerson 1 = .ok (.lconst 0, 1) := dk_9 ((dQ_X9_isPerson_0 1).trans dk_j1)
theorem dX9_isPerson_2 : decode cX9_isPerson 2 = .ok (.aload_n 0, 1) := dk_42 ((dQ_X9_isPerson_0 2).trans dk_j2)
theorem dX9_isPerson_3 : decode cX9_isPerson 3 = .ok (.getfield 9, 3) := dk_180 ((dQ_X9_isPerson_0 3).trans dk_j3) ((dQ_X9_isPerson_0 4).trans dk_j4) ((dQ_X9_isPerson_0 5).trans dk_j5) dk_vu2_0_9
theorem dX9_isPerson_6 : decode cX9_isPerson 6 = .ok (.iconst 5, 1) := dk_8 ((dQ_X9_isPerson_0 6).trans dk_j6)
theorem dX9_isPerson_7 : decode cX9_isPerson 7 = .ok (.iaload, 1) := dk_46 ((dQ_X9_isPerson_0 7).trans dk_j7)
theorem dX9_isPerson_8 : decode cX9_isPerson 8 = .ok (.iconst 1, 1) := dk_4 ((dQ_X9_isPerson_0 8).trans dk_j8)
theorem dX9_isPerson_9 : decode cX9_isPerson 9 = .ok (.isub, 1) := dk_100 ((dQ_X9_isPerson_0 9).trans dk_j9)
theorem dX9_isPerson_10 : decode cX9_isPerson 10 = .ok (.i2l, 1) := dk_133 ((dQ_X9_isPerson_0 10).trans dk_j10)
theorem dX9_isPerson_11 : decode cX9_isPerson 11 = .ok (.invokestatic 94, 3) := dk_184 ((dQ_X9_isPerson_0 11).trans dk_j11) ((dQ_X9_isPerson_0 12).trans dk_j12) ((dQ_X9_isPerson_0 13).trans dk_j13) dk_vu2_0_94
theorem dX9_isPerson_14 : decode cX9_isPerson 14 = .ok (.ireturn, 1) := dk_172 ((dQ_X9_isPerson_0 14).trans dk_j14)
def dT_X9_isPolicy_1 : List UInt8 := (0xac : UInt8) :: []
def dT_X9_isPolicy_0 : List UInt8 := (0x1b : UInt8) :: (0x85 : UInt8) :: (0x09 : UInt8) :: (0x2a : UInt8) :: (0xb4 : UInt8) :: (0x00 : UInt8) :: (0x09 : UInt8) :: (0x10 : UInt8) :: (0x08 : UInt8) :: (0x2e : UInt8) :: (0x04 : UInt8) :: (0x64 : UInt8) :: (0x85 : UInt8) :: (0xb8 : UInt8) :: (0x00 : UInt8) :: (0x5e : UInt8) :: dT_X9_isPolicy_1
theorem dT_X9_isPolicy : cX9_isPolicy.data.toList = dT_X9_isPolicy_0 := eq_of_beq (show (cX9_isPolicy.data.toList == dT_X9_isPolicy_0) = true by decide +kernel)
theorem dQ_X9_isPolicy_0 : dQ_P cX9_isPolicy 0 dT_X9_isPolicy_0 := fun i => by rw [dT_X9_isPolicy]; rfl
theorem dQ_X9_isPolicy_1 : dQ_P cX9_isPolicy 16 dT_X9_isPolicy_1 := fun i => (dQ_X9_isPolicy_0 (i + 16)).trans dk_t
theorem dX9_isPolicy_0 : decode cX9_isPolicy 0 = .ok (.iload_n 1, 1) := dk_27 ((dQ_X9_isPolicy_0 0).trans dk_j0)
theorem dX9_isPolicy_1 : decode cX9_isPolicy 1 = .ok (.i2l, 1) := dk_133 ((dQ_X9_isPolicy_0 1).trans dk_j1)
theorem dX9_isPolicy_2 : decode cX9_isPolicy 2 = .ok (.lconst 0, 1) := dk_9 ((dQ_X9_isPolicy_0 2).trans dk_j2)
theorem dX9_isPolicy_3 : decode cX9_isPolicy 3 = .ok (.aload_n 0, 1) := dk_42 ((dQ_X9_isPolicy_0 3).trans dk_j3)
theorem dX9_isPolicy_4 : decode cX9_isPolicy 4 = .ok (.getfield 9, 3) := dk_180 ((dQ_X9_isPolicy_0 4).trans dk_j4) ((dQ_X9_isPolicy_0 5).trans dk_j5) ((dQ_X9_isPolicy_0 6).trans dk_j6) dk_vu2_0_9
theorem dk_vs1_8 : Reader.signed 8 (0x08 : UInt8).toNat = (8 : Int) := by decide +kernel
theorem dX9_isPolicy_7 : decode cX9_isPolicy 7 = .ok (.bipush 8, 2) := dk_16 ((dQ_X9_isPolicy_0 7).trans dk_j7) ((dQ_X9_isPolicy_0 8).trans dk_j8) dk_vs1_8
theorem dX9_isPolicy_9 : decode cX9_isPolicy 9 = .ok (.iaload, 1) := dk_46 ((dQ_X9_isPolicy_0 9).trans dk_j9)
theorem dX9_isPolicy_10 : decode cX9_isPolicy 10 = .ok (.iconst 1, 1) := dk_4 ((dQ_X9_isPolicy_0 10).trans dk_j10)
theorem dX9_isPolicy_11 : decode cX9_isPolicy 11 = .ok (.isub, 1) := dk_100 ((dQ_X9_isPolicy_0 11).trans dk_j11)
theorem dX9_isPolicy_12 : decode cX9_isPolicy 12 = .ok (.i2l, 1) := dk_133 ((dQ_X9_isPolicy_0 12).trans dk_j12)
theorem dX9_isPolicy_13 : decode cX9_isPolicy 13 = .ok (.invokestatic 94, 3) := dk_184 ((dQ_X9_isPolicy_0 13).trans dk_j13) ((dQ_X9_isPolicy_0 14).trans dk_j14) ((dQ_X9_isPolicy_0 15).trans dk_j15) dk_vu2_0_94
theorem dX9_isPolicy_16 : decode cX9_isPolicy 16 = .ok (.ireturn, 1) := dk_172 ((dQ_X9_isPolicy_1 0).trans dk_j0)
def dT_X9_isLaw_0 : List UInt8 := (0x1a : UInt8) :: (0x85 : UInt8) :: (0x09 : UInt8) :: (0x14 : UInt8) :: (0x00 : UInt8) :: (0x62 : UInt8) :: (0xb8 : UInt8) :: (0x00 : UInt8) :: (0x5e : UInt8) :: (0xac : UInt8) :: []
theorem dT_X9_isLaw : cX9_isLaw.data.toList = dT_X9_isLaw_0 := eq_of_beq (show (cX9_isLaw.data.toList == dT_X9_isLaw_0) = true by decide +kernel)
theorem dQ_X9_isLaw_0 : dQ_P cX9_isLaw 0 dT_X9_isLaw_0 := fun i => by rw [dT_X9_isLaw]; rfl
theorem dX9_isLaw_0 : decode cX9_isLaw 0 = .ok (.iload_n 0, 1) := dk_26 ((dQ_X9_isLaw_0 0).trans dk_j0)
theorem dX9_isLaw_1 : decode cX9_isLaw 1 = .ok (.i2l, 1) := dk_133 ((dQ_X9_isLaw_0 1).trans dk_j1)
theorem dX9_isLaw_2 : decode cX9_isLaw 2 = .ok (.lconst 0, 1) := dk_9 ((dQ_X9_isLaw_0 2).trans dk_j2)
theorem dk_vu2_0_98 : (0x00 : UInt8).toNat * 256 + (0x62 : UInt8).toNat = (98 : Nat) := by decide +kernel
theorem dX9_isLaw_3 : decode cX9_isLaw 3 = .ok (.ldc2_w 98, 3) := dk_20 ((dQ_X9_isLaw_0 3).trans dk_j3) ((dQ_X9_isLaw_0 4).trans dk_j4) ((dQ_X9_isLaw_0 5).trans dk_j5) dk_vu2_0_98
theorem dX9_isLaw_6 : decode cX9_isLaw 6 = .ok (.invokestatic 94, 3) := dk_184 ((dQ_X9_isLaw_0 6).trans dk_j6) ((dQ_X9_isLaw_0 7).trans dk_j7) ((dQ_X9_isLaw_0 8).trans dk_j8) dk_vu2_0_94
theorem dX9_isLaw_9 : decode cX9_isLaw 9 = .ok (.ireturn, 1) := dk_172 ((dQ_X9_isLaw_0 9).trans dk_j9)
def dT_X9_of_0 : List UInt8 := (0x2a : UInt8) :: (0xb4 : UInt8) :: (0x00 : UInt8) :: (0x09 : UInt8) :: (0x10 : UInt8) :: (0x31 : UInt8) :: (0x08 : UInt8) :: (0x1b : UInt8) :: (0x68 : UInt8) :: (0x60 : UInt8) :: (0x1c : UInt8) :: (0x60 : UInt8) :: (0x2e : UInt8) :: (0xac : UInt8) :: []
theorem dT_X9_of : cX9_of.data.toList = dT_X9_of_0 := eq_of_beq (show (cX9_of.data.toList == dT_X9_of_0) = true by decide +kernel)
theorem dQ_X9_of_0 : dQ_P cX9_of 0 dT_X9_of_0 := fun i => by rw [dT_X9_of]; rfl
theorem dX9_of_0 : decode cX9_of 0 = .ok (.aload_n 0, 1) := dk_42 ((dQ_X9_of_0 0).trans dk_j0)
theorem dX9_of_1 : decode cX9_of 1 = .ok (.getfield 9, 3) := dk_180 ((dQ_X9_of_0 1).trans dk_j1) ((dQ_X9_of_0 2).trans dk_j2) ((dQ_X9_of_0 3).trans dk_j3) dk_vu2_0_9
theorem dk_vs1_49 : Reader.signed 8 (0x31 : UInt8).toNat = (49 : Int) := by decide +kernel
theorem dX9_of_4 : decode cX9_of 4 = .ok (.bipush 49, 2) := dk_16 ((dQ_X9_of_0 4).trans dk_j4) ((dQ_X9_of_0 5).trans dk_j5) dk_vs1_49
theorem dX9_of_6 : decode cX9_of 6 = .ok (.iconst 5, 1) := dk_8 ((dQ_X9_of_0 6).trans dk_j6)
theorem dX9_of_7 : decode cX9_of 7 = .ok (.iload_n 1, 1) := dk_27 ((dQ_X9_of_0 7).trans dk_j7)
theorem dX9_of_8 : decode cX9_of 8 = .ok (.imul, 1) := dk_104 ((dQ_X9_of_0 8).trans dk_j8)
theorem dX9_of_9 : decode cX9_of 9 = .ok (.iadd, 1) := dk_96 ((dQ_X9_of_0 9).trans dk_j9)
theorem dX9_of_10 : decode cX9_of 10 = .ok (.iload_n 2, 1) := dk_28 ((dQ_X9_of_0 10).trans dk_j10)
theorem dX9_of_11 : decode cX9_of 11 = .ok (.iadd, 1) := dk_96 ((dQ_X9_of_0 11).trans dk_j11)
theorem dX9_of_12 : decode cX9_of 12 = .ok (.iaload, 1) := dk_46 ((dQ_X9_of_0 12).trans dk_j12)
theorem dX9_of_13 : decode cX9_of 13 = .ok (.ireturn, 1) := dk_172 ((dQ_X9_of_0 13).trans dk_j13)
def dT_X9_minutes_0 : List UInt8 := (0x2a : UInt8) :: (0xb4 : UInt8) :: (0x00 : UInt8) :: (0x09 : UInt8) :: (0x03 : UInt8) :: (0x2e : UInt8) :: (0xac : UInt8) :: []
theorem dT_X9_minutes : cX9_minutes.data.toList = dT_X9_minutes_0 := eq_of_beq (show (cX9_minutes.data.toList == dT_X9_minutes_0) = true by decide +kernel)
theorem dQ_X9_minutes_0 : dQ_P cX9_minutes 0 dT_X9_minutes_0 := fun i => by rw [dT_X9_minutes]; rfl
theorem dX9_minutes_0 : decode cX9_minutes 0 = .ok (.aload_n 0, 1) := dk_42 ((dQ_X9_minutes_0 0).trans dk_j0)
theorem dX9_minutes_1 : decode cX9_minutes 1 = .ok (.getfield 9, 3) := dk_180 ((dQ_X9_minutes_0 1).trans dk_j1) ((dQ_X9_minutes_0 2).trans dk_j2) ((dQ_X9_minutes_0 3).trans dk_j3) dk_vu2_0_9
theorem dX9_minutes_4 : decode cX9_minutes 4 = .ok (.iconst 0, 1) := dk_3 ((dQ_X9_minutes_0 4).trans dk_j4)
theorem dX9_minutes_5 : decode cX9_minutes 5 = .ok (.iaload, 1) := dk_46 ((dQ_X9_minutes_0 5).trans dk_j5)
theorem dX9_minutes_6 : decode cX9_minutes 6 = .ok (.ireturn, 1) := dk_172 ((dQ_X9_minutes_0 6).trans dk_j6)
def dT_X9_feed_7 : List UInt8 := (0x2a : UInt8) :: (0xb4 : UInt8) :: (0x00 : UInt8) :: (0x64 : UInt8) :: (0xac : UInt8) :: []
def dT_X9_feed_6 : List UInt8 := (0x06 : UInt8) :: (0x01 : UInt8) :: (0xa7 : UInt8) :: (0xff : UInt8) :: (0xd5 : UInt8) :: (0x2a : UInt8) :: (0x59 : UInt8) :: (0xb4 : UInt8) :: (0x00 : UInt8) :: (0x64 : UInt8) :: (0x10 : UInt8) :: (0x14 : UInt8) :: (0x60 : UInt8) :: (0xb5 : UInt8) :: (0x00 : UInt8) :: (0x64 : UInt8) :: dT_X9_feed_7
def dT_X9_feed_5 : List UInt8 := (0x6c : UInt8) :: (0x2e : UInt8) :: (0x10 : UInt8) :: (0x18 : UInt8) :: (0x10 : UInt8) :: (0x08 : UInt8) :: (0x15 : UInt8) :: (0x06 : UInt8) :: (0x07 : UInt8) :: (0x70 : UInt8) :: (0x68 : UInt8) :: (0x64 : UInt8) :: (0x7a : UInt8) :: (0x91 : UInt8) :: (0x54 : UInt8) :: (0x84 : UInt8) :: dT_X9_feed_6
def dT_X9_feed_4 : List UInt8 := (0x00 : UInt8) :: (0x14 : UInt8) :: (0x2a : UInt8) :: (0xb4 : UInt8) :: (0x00 : UInt8) :: (0x64 : UInt8) :: (0x15 : UInt8) :: (0x06 : UInt8) :: (0x60 : UInt8) :: (0x2a : UInt8) :: (0xb4 : UInt8) :: (0x00 : UInt8) :: (0x18 : UInt8) :: (0x15 : UInt8) :: (0x06 : UInt8) :: (0x07 : UInt8) :: dT_X9_feed_5
def dT_X9_feed_3 : List UInt8 := (0x07 : UInt8) :: (0x15 : UInt8) :: (0x05 : UInt8) :: (0x4f : UInt8) :: (0x03 : UInt8) :: (0x36 : UInt8) :: (0x06 : UInt8) :: (0x15 : UInt8) :: (0x06 : UInt8) :: (0x10 : UInt8) :: (0x14 : UInt8) :: (0xa2 : UInt8) :: (0x00 : UInt8) :: (0x2a : UInt8) :: (0x2a : UInt8) :: (0xb4 : UInt8) :: dT_X9_feed_4
def dT_X9_feed_2 : List UInt8 := (0x18 : UInt8) :: (0x05 : UInt8) :: (0x1d : UInt8) :: (0x4f : UInt8) :: (0x2a : UInt8) :: (0xb4 : UInt8) :: (0x00 : UInt8) :: (0x18 : UInt8) :: (0x06 : UInt8) :: (0x15 : UInt8) :: (0x04 : UInt8) :: (0x4f : UInt8) :: (0x2a : UInt8) :: (0xb4 : UInt8) :: (0x00 : UInt8) :: (0x18 : UInt8) :: dT_X9_feed_3
def dT_X9_feed_1 : List UInt8 := (0xb4 : UInt8) :: (0x00 : UInt8) :: (0x18 : UInt8) :: (0x03 : UInt8) :: (0x1b : UInt8) :: (0x4f : UInt8) :: (0x2a : UInt8) :: (0xb4 : UInt8) :: (0x00 : UInt8) :: (0x18 : UInt8) :: (0x04 : UInt8) :: (0x1c : UInt8) :: (0x4f : UInt8) :: (0x2a : UInt8) :: (0xb4 : UInt8) :: (0x00 : UInt8) :: dT_X9_feed_2
def dT_X9_feed_0 : List UInt8 := (0x2a : UInt8) :: (0xb4 : UInt8) :: (0x00 : UInt8) :: (0x64 : UInt8) :: (0x10 : UInt8) :: (0x14 : UInt8) :: (0x60 : UInt8) :: (0x11 : UInt8) :: (0x03 : UInt8) :: (0x84 : UInt8) :: (0xa4 : UInt8) :: (0x00 : UInt8) :: (0x05 : UInt8) :: (0x02 : UInt8) :: (0xac : UInt8) :: (0x2a : UInt8) :: dT_X9_feed_1
theorem dT_X9_feed : cX9_feed.data.toList = dT_X9_feed_0 := eq_of_beq (show (cX9_feed.data.toList == dT_X9_feed_0) = true by decide +kernel)
theorem dQ_X9_feed_0 : dQ_P cX9_feed 0 dT_X9_feed_0 := fun i => by rw [dT_X9_feed]; rfl
theorem dQ_X9_feed_1 : dQ_P cX9_feed 16 dT_X9_feed_1 := fun i => (dQ_X9_feed_0 (i + 16)).trans dk_t
theorem dQ_X9_feed_2 : dQ_P cX9_feed 32 dT_X9_feed_2 := fun i => (dQ_X9_feed_1 (i + 16)).trans dk_t
theorem dQ_X9_feed_3 : dQ_P cX9_feed 48 dT_X9_feed_3 := fun i => (dQ_X9_feed_2 (i + 16)).trans dk_t
theorem dQ_X9_feed_4 : dQ_P cX9_feed 64 dT_X9_feed_4 := fun i => (dQ_X9_feed_3 (i + 16)).trans dk_t
theorem dQ_X9_feed_5 : dQ_P cX9_feed 80 dT_X9_feed_5 := fun i => (dQ_X9_feed_4 (i + 16)).trans dk_t
theorem dQ_X9_feed_6 : dQ_P cX9_feed 96 dT_X9_feed_6 := fun i => (dQ_X9_feed_5 (i + 16)).trans dk_t
theorem dQ_X9_feed_7 : dQ_P cX9_feed 112 dT_X9_feed_7 := fun i => (dQ_X9_feed_6 (i + 16)).trans dk_t
theorem dX9_feed_0 : decode cX9_feed 0 = .ok (.aload_n 0, 1) := dk_42 ((dQ_X9_feed_0 0).trans dk_j0)
theorem dk_vu2_0_100 : (0x00 : UInt8).toNat * 256 + (0x64 : UInt8).toNat = (100 : Nat) := by decide +kernel
theorem dX9_feed_1 : decode cX9_feed 1 = .ok (.getfield 100, 3) := dk_180 ((dQ_X9_feed_0 1).trans dk_j1) ((dQ_X9_feed_0 2).trans dk_j2) ((dQ_X9_feed_0 3).trans dk_j3) dk_vu2_0_100
theorem dk_vs1_20 : Reader.signed 8 (0x14 : UInt8).toNat = (20 : Int) := by decide +kernel
theorem dX9_feed_4 : decode cX9_feed 4 = .ok (.bipush 20, 2) := dk_16 ((dQ_X9_feed_0 4).trans dk_j4) ((dQ_X9_feed_0 5).trans dk_j5) dk_vs1_20
theorem dX9_feed_6 : decode cX9_feed 6 = .ok (.iadd, 1) := dk_96 ((dQ_X9_feed_0 6).trans dk_j6)
theorem dX9_feed_7 : decode cX9_feed 7 = .ok (.sipush 900, 3) := dk_17 ((dQ_X9_feed_0 7).trans dk_j7) ((dQ_X9_feed_0 8).trans dk_j8) ((dQ_X9_feed_0 9).trans dk_j9) dk_vs2_3_132
theorem dk_vs2_0_5 : Reader.signed 16 ((0x00 : UInt8).toNat * 256 + (0x05 : UInt8).toNat) = (5 : Int) := by decide +kernel
theorem dX9_feed_10 : decode cX9_feed 10 = .ok (.if_icmp .le 5, 3) := dk_164 ((dQ_X9_feed_0 10).trans dk_j10) ((dQ_X9_feed_0 11).trans dk_j11) ((dQ_X9_feed_0 12).trans dk_j12) dk_vs2_0_5
theorem dX9_feed_13 : decode cX9_feed 13 = .ok (.iconst (-1), 1) := dk_2 ((dQ_X9_feed_0 13).trans dk_j13)
theorem dX9_feed_14 : decode cX9_feed 14 = .ok (.ireturn, 1) := dk_172 ((dQ_X9_feed_0 14).trans dk_j14)
theorem dX9_feed_15 : decode cX9_feed 15 = .ok (.aload_n 0, 1) := dk_42 ((dQ_X9_feed_0 15).trans dk_j15)
theorem dX9_feed_16 : decode cX9_feed 16 = .ok (.getfield 24, 3) := dk_180 ((dQ_X9_feed_1 0).trans dk_j0) ((dQ_X9_feed_1 1).trans dk_j1) ((dQ_X9_feed_1 2).trans dk_j2) dk_vu2_0_24
theorem dX9_feed_19 : decode cX9_feed 19 = .ok (.iconst 0, 1) := dk_3 ((dQ_X9_feed_1 3).trans dk_j3)
theorem dX9_feed_20 : decode cX9_feed 20 = .ok (.iload_n 1, 1) := dk_27 ((dQ_X9_feed_1 4).trans dk_j4)
theorem dX9_feed_21 : decode cX9_feed 21 = .ok (.iastore, 1) := dk_79 ((dQ_X9_feed_1 5).trans dk_j5)
theorem dX9_feed_22 : decode cX9_feed 22 = .ok (.aload_n 0, 1) := dk_42 ((dQ_X9_feed_1 6).trans dk_j6)
theorem dX9_feed_23 : decode cX9_feed 23 = .ok (.getfield 24, 3) := dk_180 ((dQ_X9_feed_1 7).trans dk_j7) ((dQ_X9_feed_1 8).trans dk_j8) ((dQ_X9_feed_1 9).trans dk_j9) dk_vu2_0_24
theorem dX9_feed_26 : decode cX9_feed 26 = .ok (.iconst 1, 1) := dk_4 ((dQ_X9_feed_1 10).trans dk_j10)
theorem dX9_feed_27 : decode cX9_feed 27 = .ok (.iload_n 2, 1) := dk_28 ((dQ_X9_feed_1 11).trans dk_j11)
theorem dX9_feed_28 : decode cX9_feed 28 = .ok (.iastore, 1) := dk_79 ((dQ_X9_feed_1 12).trans dk_j12)
theorem dX9_feed_29 : decode cX9_feed 29 = .ok (.aload_n 0, 1) := dk_42 ((dQ_X9_feed_1 13).trans dk_j13)
theorem dX9_feed_30 : decode cX9_feed 30 = .ok (.getfield 24, 3) := dk_180 ((dQ_X9_feed_1 14).trans dk_j14) ((dQ_X9_feed_1 15).trans dk_j15) ((dQ_X9_feed_2 0).trans dk_j0) dk_vu2_0_24
theorem dX9_feed_33 : decode cX9_feed 33 = .ok (.iconst 2, 1) := dk_5 ((dQ_X9_feed_2 1).trans dk_j1)
theorem dX9_feed_34 : decode cX9_feed 34 = .ok (.iload_n 3, 1) := dk_29 ((dQ_X9_feed_2 2).trans dk_j2)
theorem dX9_feed_35 : decode cX9_feed 35 = .ok (.iastore, 1) := dk_79 ((dQ_X9_feed_2 3).trans dk_j3)
theorem dX9_feed_36 : decode cX9_feed 36 = .ok (.aload_n 0, 1) := dk_42 ((dQ_X9_feed_2 4).trans dk_j4)
theorem dX9_feed_37 : decode cX9_feed 37 = .ok (.getfield 24, 3) := dk_180 ((dQ_X9_feed_2 5).trans dk_j5) ((dQ_X9_feed_2 6).trans dk_j6) ((dQ_X9_feed_2 7).trans dk_j7) dk_vu2_0_24
theorem dX9_feed_40 : decode cX9_feed 40 = .ok (.iconst 3, 1) := dk_6 ((dQ_X9_feed_2 8).trans dk_j8)
theorem dX9_feed_41 : decode cX9_feed 41 = .ok (.iload 4, 2) := dk_21 ((dQ_X9_feed_2 9).trans dk_j9) ((dQ_X9_feed_2 10).trans dk_j10) dk_vu1_4
theorem dX9_feed_43 : decode cX9_feed 43 = .ok (.iastore, 1) := dk_79 ((dQ_X9_feed_2 11).trans dk_j11)
theorem dX9_feed_44 : decode cX9_feed 44 = .ok (.aload_n 0, 1) := dk_42 ((dQ_X9_feed_2 12).trans dk_j12)
theorem dX9_feed_45 : decode cX9_feed 45 = .ok (.getfield 24, 3) := dk_180 ((dQ_X9_feed_2 13).trans dk_j13) ((dQ_X9_feed_2 14).trans dk_j14) ((dQ_X9_feed_2 15).trans dk_j15) dk_vu2_0_24
theorem dX9_feed_48 : decode cX9_feed 48 = .ok (.iconst 4, 1) := dk_7 ((dQ_X9_feed_3 0).trans dk_j0)
theorem dk_vu1_5 : (0x05 : UInt8).toNat = (5 : Nat) := by decide +kernel
theorem dX9_feed_49 : decode cX9_feed 49 = .ok (.iload 5, 2) := dk_21 ((dQ_X9_feed_3 1).trans dk_j1) ((dQ_X9_feed_3 2).trans dk_j2) dk_vu1_5
theorem dX9_feed_51 : decode cX9_feed 51 = .ok (.iastore, 1) := dk_79 ((dQ_X9_feed_3 3).trans dk_j3)
theorem dX9_feed_52 : decode cX9_feed 52 = .ok (.iconst 0, 1) := dk_3 ((dQ_X9_feed_3 4).trans dk_j4)
theorem dk_vu1_6 : (0x06 : UInt8).toNat = (6 : Nat) := by decide +kernel
theorem dX9_feed_53 : decode cX9_feed 53 = .ok (.istore 6, 2) := dk_54 ((dQ_X9_feed_3 5).trans dk_j5) ((dQ_X9_feed_3 6).trans dk_j6) dk_vu1_6
theorem dX9_feed_55 : decode cX9_feed 55 = .ok (.iload 6, 2) := dk_21 ((dQ_X9_feed_3 7).trans dk_j7) ((dQ_X9_feed_3 8).trans dk_j8) dk_vu1_6
theorem dX9_feed_57 : decode cX9_feed 57 = .ok (.bipush 20, 2) := dk_16 ((dQ_X9_feed_3 9).trans dk_j9) ((dQ_X9_feed_3 10).trans dk_j10) dk_vs1_20
theorem dk_vs2_0_42 : Reader.signed 16 ((0x00 : UInt8).toNat * 256 + (0x2a : UInt8).toNat) = (42 : Int) := by decide +kernel
theorem dX9_feed_59 : decode cX9_feed 59 = .ok (.if_icmp .ge 42, 3) := dk_162 ((dQ_X9_feed_3 11).trans dk_j11) ((dQ_X9_feed_3 12).trans dk_j12) ((dQ_X9_feed_3 13).trans dk_j13) dk_vs2_0_42
theorem dX9_feed_62 : decode cX9_feed 62 = .ok (.aload_n 0, 1) := dk_42 ((dQ_X9_feed_3 14).trans dk_j14)
theorem dX9_feed_63 : decode cX9_feed 63 = .ok (.getfield 20, 3) := dk_180 ((dQ_X9_feed_3 15).trans dk_j15) ((dQ_X9_feed_4 0).trans dk_j0) ((dQ_X9_feed_4 1).trans dk_j1) dk_vu2_0_20
theorem dX9_feed_66 : decode cX9_feed 66 = .ok (.aload_n 0, 1) := dk_42 ((dQ_X9_feed_4 2).trans dk_j2)
theorem dX9_feed_67 : decode cX9_feed 67 = .ok (.getfield 100, 3) := dk_180 ((dQ_X9_feed_4 3).trans dk_j3) ((dQ_X9_feed_4 4).trans dk_j4) ((dQ_X9_feed_4 5).trans dk_j5) dk_vu2_0_100
theorem dX9_feed_70 : decode cX9_feed 70 = .ok (.iload 6, 2) := dk_21 ((dQ_X9_feed_4 6).trans dk_j6) ((dQ_X9_feed_4 7).trans dk_j7) dk_vu1_6
theorem dX9_feed_72 : decode cX9_feed 72 = .ok (.iadd, 1) := dk_96 ((dQ_X9_feed_4 8).trans dk_j8)
theorem dX9_feed_73 : decode cX9_feed 73 = .ok (.aload_n 0, 1) := dk_42 ((dQ_X9_feed_4 9).trans dk_j9)
theorem dX9_feed_74 : decode cX9_feed 74 = .ok (.getfield 24, 3) := dk_180 ((dQ_X9_feed_4 10).trans dk_j10) ((dQ_X9_feed_4 11).trans dk_j11) ((dQ_X9_feed_4 12).trans dk_j12) dk_vu2_0_24
theorem dX9_feed_77 : decode cX9_feed 77 = .ok (.iload 6, 2) := dk_21 ((dQ_X9_feed_4 13).trans dk_j13) ((dQ_X9_feed_4 14).trans dk_j14) dk_vu1_6
theorem dX9_feed_79 : decode cX9_feed 79 = .ok (.iconst 4, 1) := dk_7 ((dQ_X9_feed_4 15).trans dk_j15)
theorem dX9_feed_80 : decode cX9_feed 80 = .ok (.idiv, 1) := dk_108 ((dQ_X9_feed_5 0).trans dk_j0)
theorem dX9_feed_81 : decode cX9_feed 81 = .ok (.iaload, 1) := dk_46 ((dQ_X9_feed_5 1).trans dk_j1)
theorem dk_vs1_24 : Reader.signed 8 (0x18 : UInt8).toNat = (24 : Int) := by decide +kernel
theorem dX9_feed_82 : decode cX9_feed 82 = .ok (.bipush 24, 2) := dk_16 ((dQ_X9_feed_5 2).trans dk_j2) ((dQ_X9_feed_5 3).trans dk_j3) dk_vs1_24
theorem dX9_feed_84 : decode cX9_feed 84 = .ok (.bipush 8, 2) := dk_16 ((dQ_X9_feed_5 4).trans dk_j4) ((dQ_X9_feed_5 5).trans dk_j5) dk_vs1_8
theorem dX9_feed_86 : decode cX9_feed 86 = .ok (.iload 6, 2) := dk_21 ((dQ_X9_feed_5 6).trans dk_j6) ((dQ_X9_feed_5 7).trans dk_j7) dk_vu1_6
theorem dX9_feed_88 : decode cX9_feed 88 = .ok (.iconst 4, 1) := dk_7 ((dQ_X9_feed_5 8).trans dk_j8)
theorem dX9_feed_89 : decode cX9_feed 89 = .ok (.irem, 1) := dk_112 ((dQ_X9_feed_5 9).trans dk_j9)
theorem dX9_feed_90 : decode cX9_feed 90 = .ok (.imul, 1) := dk_104 ((dQ_X9_feed_5 10).trans dk_j10)
theorem dX9_feed_91 : decode cX9_feed 91 = .ok (.isub, 1) := dk_100 ((dQ_X9_feed_5 11).trans dk_j11)
theorem dX9_feed_92 : decode cX9_feed 92 = .ok (.ishr, 1) := dk_122 ((dQ_X9_feed_5 12).trans dk_j12)
theorem dX9_feed_93 : decode cX9_feed 93 = .ok (.i2b, 1) := dk_145 ((dQ_X9_feed_5 13).trans dk_j13)
theorem dX9_feed_94 : decode cX9_feed 94 = .ok (.bastore, 1) := dk_84 ((dQ_X9_feed_5 14).trans dk_j14)
theorem dX9_feed_95 : decode cX9_feed 95 = .ok (.iinc 6 1, 3) := dk_132 ((dQ_X9_feed_5 15).trans dk_j15) ((dQ_X9_feed_6 0).trans dk_j0) ((dQ_X9_feed_6 1).trans dk_j1) dk_vu1_6 dk_vs1_1
theorem dk_vs2_255_213 : Reader.signed 16 ((0xff : UInt8).toNat * 256 + (0xd5 : UInt8).toNat) = (-43 : Int) := by decide +kernel
theorem dX9_feed_98 : decode cX9_feed 98 = .ok (.goto (-43), 3) := dk_167 ((dQ_X9_feed_6 2).trans dk_j2) ((dQ_X9_feed_6 3).trans dk_j3) ((dQ_X9_feed_6 4).trans dk_j4) dk_vs2_255_213
theorem dX9_feed_101 : decode cX9_feed 101 = .ok (.aload_n 0, 1) := dk_42 ((dQ_X9_feed_6 5).trans dk_j5)
theorem dX9_feed_102 : decode cX9_feed 102 = .ok (.dup, 1) := dk_89 ((dQ_X9_feed_6 6).trans dk_j6)
theorem dX9_feed_103 : decode cX9_feed 103 = .ok (.getfield 100, 3) := dk_180 ((dQ_X9_feed_6 7).trans dk_j7) ((dQ_X9_feed_6 8).trans dk_j8) ((dQ_X9_feed_6 9).trans dk_j9) dk_vu2_0_100
theorem dX9_feed_106 : decode cX9_feed 106 = .ok (.bipush 20, 2) := dk_16 ((dQ_X9_feed_6 10).trans dk_j10) ((dQ_X9_feed_6 11).trans dk_j11) dk_vs1_20
theorem dX9_feed_108 : decode cX9_feed 108 = .ok (.iadd, 1) := dk_96 ((dQ_X9_feed_6 12).trans dk_j12)
theorem dX9_feed_109 : decode cX9_feed 109 = .ok (.putfield 100, 3) := dk_181 ((dQ_X9_feed_6 13).trans dk_j13) ((dQ_X9_feed_6 14).trans dk_j14) ((dQ_X9_feed_6 15).trans dk_j15) dk_vu2_0_100
theorem dX9_feed_112 : decode cX9_feed 112 = .ok (.aload_n 0, 1) := dk_42 ((dQ_X9_feed_7 0).trans dk_j0)
theorem dX9_feed_113 : decode cX9_feed 113 = .ok (.getfield 100, 3) := dk_180 ((dQ_X9_feed_7 1).trans dk_j1) ((dQ_X9_feed_7 2).trans dk_j2) ((dQ_X9_feed_7 3).trans dk_j3) dk_vu2_0_100
theorem dX9_feed_116 : decode cX9_feed 116 = .ok (.ireturn, 1) := dk_172 ((dQ_X9_feed_7 4).trans dk_j4)
def dT_X9_end_1 : List UInt8 := (0x2a : UInt8) :: (0x1b : UInt8) :: (0xb5 : UInt8) :: (0x00 : UInt8) :: (0x64 : UInt8) :: (0x1b : UInt8) :: (0xac : UInt8) :: []
def dT_X9_end_0 : List UInt8 := (0x1b : UInt8) :: (0x85 : UInt8) :: (0x09 : UInt8) :: (0x2a : UInt8) :: (0xb4 : UInt8) :: (0x00 : UInt8) :: (0x64 : UInt8) :: (0x85 : UInt8) :: (0xb8 : UInt8) :: (0x00 : UInt8) :: (0x5e : UInt8) :: (0x9a : UInt8) :: (0x00 : UInt8) :: (0x05 : UInt8) :: (0x02 : UInt8) :: (0xac : UInt8) :: dT_X9_end_1
theorem dT_X9_end : cX9_end.data.toList = dT_X9_end_0 := eq_of_beq (show (cX9_end.data.toList == dT_X9_end_0) = true by decide +kernel)
theorem dQ_X9_end_0 : dQ_P cX9_end 0 dT_X9_end_0 := fun i => by rw [dT_X9_end]; rfl
theorem dQ_X9_end_1 : dQ_P cX9_end 16 dT_X9_end_1 := fun i => (dQ_X9_end_0 (i + 16)).trans dk_t
theorem dX9_end_0 : decode cX9_end 0 = .ok (.iload_n 1, 1) := dk_27 ((dQ_X9_end_0 0).trans dk_j0)
theorem dX9_end_1 : decode cX9_end 1 = .ok (.i2l, 1) := dk_133 ((dQ_X9_end_0 1).trans dk_j1)
theorem dX9_end_2 : decode cX9_end 2 = .ok (.lconst 0, 1) := dk_9 ((dQ_X9_end_0 2).trans dk_j2)
theorem dX9_end_3 : decode cX9_end 3 = .ok (.aload_n 0, 1) := dk_42 ((dQ_X9_end_0 3).trans dk_j3)
theorem dX9_end_4 : decode cX9_end 4 = .ok (.getfield 100, 3) := dk_180 ((dQ_X9_end_0 4).trans dk_j4) ((dQ_X9_end_0 5).trans dk_j5) ((dQ_X9_end_0 6).trans dk_j6) dk_vu2_0_100
theorem dX9_end_7 : decode cX9_end 7 = .ok (.i2l, 1) := dk_133 ((dQ_X9_end_0 7).trans dk_j7)
theorem dX9_end_8 : decode cX9_end 8 = .ok (.invokestatic 94, 3) := dk_184 ((dQ_X9_end_0 8).trans dk_j8) ((dQ_X9_end_0 9).trans dk_j9) ((dQ_X9_end_0 10).trans dk_j10) dk_vu2_0_94
theorem dX9_end_11 : decode cX9_end 11 = .ok (.ifCond .ne 5, 3) := dk_154 ((dQ_X9_end_0 11).trans dk_j11) ((dQ_X9_end_0 12).trans dk_j12) ((dQ_X9_end_0 13).trans dk_j13) dk_vs2_0_5
theorem dX9_end_14 : decode cX9_end 14 = .ok (.iconst (-1), 1) := dk_2 ((dQ_X9_end_0 14).trans dk_j14)
theorem dX9_end_15 : decode cX9_end 15 = .ok (.ireturn, 1) := dk_172 ((dQ_X9_end_0 15).trans dk_j15)
theorem dX9_end_16 : decode cX9_end 16 = .ok (.aload_n 0, 1) := dk_42 ((dQ_X9_end_1 0).trans dk_j0)
theorem dX9_end_17 : decode cX9_end 17 = .ok (.iload_n 1, 1) := dk_27 ((dQ_X9_end_1 1).trans dk_j1)
theorem dX9_end_18 : decode cX9_end 18 = .ok (.putfield 100, 3) := dk_181 ((dQ_X9_end_1 2).trans dk_j2) ((dQ_X9_end_1 3).trans dk_j3) ((dQ_X9_end_1 4).trans dk_j4) dk_vu2_0_100
theorem dX9_end_21 : decode cX9_end 21 = .ok (.iload_n 1, 1) := dk_27 ((dQ_X9_end_1 5).trans dk_j5)
theorem dX9_end_22 : decode cX9_end 22 = .ok (.ireturn, 1) := dk_172 ((dQ_X9_end_1 6).trans dk_j6)
def dT_X9_see_1 : List UInt8 := (0xff : UInt8) :: (0x7e : UInt8) :: (0xa7 : UInt8) :: (0x00 : UInt8) :: (0x04 : UInt8) :: (0x02 : UInt8) :: (0xac : UInt8) :: []
def dT_X9_see_0 : List UInt8 := (0x1b : UInt8) :: (0x2a : UInt8) :: (0xb4 : UInt8) :: (0x00 : UInt8) :: (0x67 : UInt8) :: (0xa2 : UInt8) :: (0x00 : UInt8) :: (0x10 : UInt8) :: (0x2a : UInt8) :: (0xb4 : UInt8) :: (0x00 : UInt8) :: (0x14 : UInt8) :: (0x1b : UInt8) :: (0x33 : UInt8) :: (0x11 : UInt8) :: (0x00 : UInt8) :: dT_X9_see_1
theorem dT_X9_see : cX9_see.data.toList = dT_X9_see_0 := eq_of_beq (show (cX9_see.data.toList == dT_X9_see_0) = true by decide +kernel)
theorem dQ_X9_see_0 : dQ_P cX9_see 0 dT_X9_see_0 := fun i => by rw [dT_X9_see]; rfl
theorem dQ_X9_see_1 : dQ_P cX9_see 16 dT_X9_see_1 := fun i => (dQ_X9_see_0 (i + 16)).trans dk_t
theorem dX9_see_0 : decode cX9_see 0 = .ok (.iload_n 1, 1) := dk_27 ((dQ_X9_see_0 0).trans dk_j0)
theorem dX9_see_1 : decode cX9_see 1 = .ok (.aload_n 0, 1) := dk_42 ((dQ_X9_see_0 1).trans dk_j1)
theorem dk_vu2_0_103 : (0x00 : UInt8).toNat * 256 + (0x67 : UInt8).toNat = (103 : Nat) := by decide +kernel
theorem dX9_see_2 : decode cX9_see 2 = .ok (.getfield 103, 3) := dk_180 ((dQ_X9_see_0 2).trans dk_j2) ((dQ_X9_see_0 3).trans dk_j3) ((dQ_X9_see_0 4).trans dk_j4) dk_vu2_0_103
theorem dk_vs2_0_16 : Reader.signed 16 ((0x00 : UInt8).toNat * 256 + (0x10 : UInt8).toNat) = (16 : Int) := by decide +kernel
theorem dX9_see_5 : decode cX9_see 5 = .ok (.if_icmp .ge 16, 3) := dk_162 ((dQ_X9_see_0 5).trans dk_j5) ((dQ_X9_see_0 6).trans dk_j6) ((dQ_X9_see_0 7).trans dk_j7) dk_vs2_0_16
theorem dX9_see_8 : decode cX9_see 8 = .ok (.aload_n 0, 1) := dk_42 ((dQ_X9_see_0 8).trans dk_j8)
theorem dX9_see_9 : decode cX9_see 9 = .ok (.getfield 20, 3) := dk_180 ((dQ_X9_see_0 9).trans dk_j9) ((dQ_X9_see_0 10).trans dk_j10) ((dQ_X9_see_0 11).trans dk_j11) dk_vu2_0_20
theorem dX9_see_12 : decode cX9_see 12 = .ok (.iload_n 1, 1) := dk_27 ((dQ_X9_see_0 12).trans dk_j12)
theorem dX9_see_13 : decode cX9_see 13 = .ok (.baload, 1) := dk_51 ((dQ_X9_see_0 13).trans dk_j13)
theorem dk_vs2_0_255 : Reader.signed 16 ((0x00 : UInt8).toNat * 256 + (0xff : UInt8).toNat) = (255 : Int) := by decide +kernel
theorem dX9_see_14 : decode cX9_see 14 = .ok (.sipush 255, 3) := dk_17 ((dQ_X9_see_0 14).trans dk_j14) ((dQ_X9_see_0 15).trans dk_j15) ((dQ_X9_see_1 0).trans dk_j0) dk_vs2_0_255
theorem dX9_see_17 : decode cX9_see 17 = .ok (.iand, 1) := dk_126 ((dQ_X9_see_1 1).trans dk_j1)
theorem dX9_see_18 : decode cX9_see 18 = .ok (.goto 4, 3) := dk_167 ((dQ_X9_see_1 2).trans dk_j2) ((dQ_X9_see_1 3).trans dk_j3) ((dQ_X9_see_1 4).trans dk_j4) dk_vs2_0_4
theorem dX9_see_21 : decode cX9_see 21 = .ok (.iconst (-1), 1) := dk_2 ((dQ_X9_see_1 5).trans dk_j5)
theorem dX9_see_22 : decode cX9_see 22 = .ok (.ireturn, 1) := dk_172 ((dQ_X9_see_1 6).trans dk_j6)
def dT_X9_advance_14 : List UInt8 := (0x04 : UInt8) :: (0x07 : UInt8) :: (0xb5 : UInt8) :: (0x00 : UInt8) :: (0x74 : UInt8) :: (0x2a : UInt8) :: (0x59 : UInt8) :: (0xb4 : UInt8) :: (0x00 : UInt8) :: (0x6a : UInt8) :: (0x04 : UInt8) :: (0x60 : UInt8) :: (0xb5 : UInt8) :: (0x00 : UInt8) :: (0x6a : UInt8) :: (0xb1 : UInt8) :: []
def dT_X9_advance_13 : List UInt8 := (0xb5 : UInt8) :: (0x00 : UInt8) :: (0x74 : UInt8) :: (0xa7 : UInt8) :: (0x00 : UInt8) :: (0x1c : UInt8) :: (0x2a : UInt8) :: (0x1b : UInt8) :: (0x10 : UInt8) :: (0x3b : UInt8) :: (0xa0 : UInt8) :: (0x00 : UInt8) :: (0x07 : UInt8) :: (0x06 : UInt8) :: (0xa7 : UInt8) :: (0x00 : UInt8) :: dT_X9_advance_14
def dT_X9_advance_12 : List UInt8 := (0x7f : UInt8) :: (0x2a : UInt8) :: (0x59 : UInt8) :: (0xb4 : UInt8) :: (0x00 : UInt8) :: (0x6a : UInt8) :: (0x04 : UInt8) :: (0x60 : UInt8) :: (0xb5 : UInt8) :: (0x00 : UInt8) :: (0x6a : UInt8) :: (0xa7 : UInt8) :: (0xff : UInt8) :: (0xc5 : UInt8) :: (0x2a : UInt8) :: (0x05 : UInt8) :: dT_X9_advance_13
def dT_X9_advance_11 : List UInt8 := (0x2a : UInt8) :: (0xb4 : UInt8) :: (0x00 : UInt8) :: (0x6a : UInt8) :: (0xb6 : UInt8) :: (0x00 : UInt8) :: (0x6d : UInt8) :: (0x60 : UInt8) :: (0x10 : UInt8) :: (0x30 : UInt8) :: (0x64 : UInt8) :: (0xb8 : UInt8) :: (0x00 : UInt8) :: (0x83 : UInt8) :: (0xb5 : UInt8) :: (0x00 : UInt8) :: dT_X9_advance_12
def dT_X9_advance_10 : List UInt8 := (0x00 : UInt8) :: (0x5e : UInt8) :: (0x99 : UInt8) :: (0x00 : UInt8) :: (0x2c : UInt8) :: (0x2a : UInt8) :: (0x12 : UInt8) :: (0x82 : UInt8) :: (0x10 : UInt8) :: (0x0a : UInt8) :: (0x2a : UInt8) :: (0xb4 : UInt8) :: (0x00 : UInt8) :: (0x7f : UInt8) :: (0x68 : UInt8) :: (0x2a : UInt8) :: dT_X9_advance_11
def dT_X9_advance_9 : List UInt8 := (0x2a : UInt8) :: (0x2a : UInt8) :: (0xb4 : UInt8) :: (0x00 : UInt8) :: (0x6a : UInt8) :: (0xb6 : UInt8) :: (0x00 : UInt8) :: (0x6d : UInt8) :: (0x85 : UInt8) :: (0x14 : UInt8) :: (0x00 : UInt8) :: (0x7b : UInt8) :: (0x14 : UInt8) :: (0x00 : UInt8) :: (0x7d : UInt8) :: (0xb8 : UInt8) :: dT_X9_advance_10
def dT_X9_advance_8 : List UInt8 := (0x00 : UInt8) :: (0x7b : UInt8) :: (0x14 : UInt8) :: (0x00 : UInt8) :: (0x7d : UInt8) :: (0xb8 : UInt8) :: (0x00 : UInt8) :: (0x5e : UInt8) :: (0x99 : UInt8) :: (0x00 : UInt8) :: (0x4e : UInt8) :: (0x2a : UInt8) :: (0x03 : UInt8) :: (0xb5 : UInt8) :: (0x00 : UInt8) :: (0x7f : UInt8) :: dT_X9_advance_9
def dT_X9_advance_7 : List UInt8 := (0x00 : UInt8) :: (0x6a : UInt8) :: (0xa7 : UInt8) :: (0xff : UInt8) :: (0xe1 : UInt8) :: (0x2a : UInt8) :: (0x04 : UInt8) :: (0xb5 : UInt8) :: (0x00 : UInt8) :: (0x74 : UInt8) :: (0xa7 : UInt8) :: (0x00 : UInt8) :: (0x75 : UInt8) :: (0x1b : UInt8) :: (0x85 : UInt8) :: (0x14 : UInt8) :: dT_X9_advance_8
def dT_X9_advance_6 : List UInt8 := (0x00 : UInt8) :: (0x79 : UInt8) :: (0xb8 : UInt8) :: (0x00 : UInt8) :: (0x5e : UInt8) :: (0x99 : UInt8) :: (0x00 : UInt8) :: (0x10 : UInt8) :: (0x2a : UInt8) :: (0x59 : UInt8) :: (0xb4 : UInt8) :: (0x00 : UInt8) :: (0x6a : UInt8) :: (0x04 : UInt8) :: (0x60 : UInt8) :: (0xb5 : UInt8) :: dT_X9_advance_7
def dT_X9_advance_5 : List UInt8 := (0x99 : UInt8) :: (0x00 : UInt8) :: (0x2d : UInt8) :: (0x2a : UInt8) :: (0x2a : UInt8) :: (0xb4 : UInt8) :: (0x00 : UInt8) :: (0x6a : UInt8) :: (0xb6 : UInt8) :: (0x00 : UInt8) :: (0x6d : UInt8) :: (0x85 : UInt8) :: (0x14 : UInt8) :: (0x00 : UInt8) :: (0x77 : UInt8) :: (0x14 : UInt8) :: dT_X9_advance_6
def dT_X9_advance_4 : List UInt8 := (0x00 : UInt8) :: (0x74 : UInt8) :: (0xa7 : UInt8) :: (0x00 : UInt8) :: (0xad : UInt8) :: (0x1b : UInt8) :: (0x85 : UInt8) :: (0x14 : UInt8) :: (0x00 : UInt8) :: (0x77 : UInt8) :: (0x14 : UInt8) :: (0x00 : UInt8) :: (0x79 : UInt8) :: (0xb8 : UInt8) :: (0x00 : UInt8) :: (0x5e : UInt8) :: dT_X9_advance_5
def dT_X9_advance_3 : List UInt8 := (0x2a : UInt8) :: (0xb4 : UInt8) :: (0x00 : UInt8) :: (0x6a : UInt8) :: (0xb6 : UInt8) :: (0x00 : UInt8) :: (0x6d : UInt8) :: (0x3c : UInt8) :: (0x1b : UInt8) :: (0x02 : UInt8) :: (0xa0 : UInt8) :: (0x00 : UInt8) :: (0x0b : UInt8) :: (0x2a : UInt8) :: (0x03 : UInt8) :: (0xb5 : UInt8) :: dT_X9_advance_4
def dT_X9_advance_2 : List UInt8 := (0x60 : UInt8) :: (0xb5 : UInt8) :: (0x00 : UInt8) :: (0x6a : UInt8) :: (0xa7 : UInt8) :: (0xff : UInt8) :: (0xdc : UInt8) :: (0x2a : UInt8) :: (0x2a : UInt8) :: (0xb4 : UInt8) :: (0x00 : UInt8) :: (0x6a : UInt8) :: (0xb5 : UInt8) :: (0x00 : UInt8) :: (0x71 : UInt8) :: (0x2a : UInt8) :: dT_X9_advance_3
def dT_X9_advance_1 : List UInt8 := (0x00 : UInt8) :: (0x6a : UInt8) :: (0xb6 : UInt8) :: (0x00 : UInt8) :: (0x6d : UInt8) :: (0x10 : UInt8) :: (0x0a : UInt8) :: (0xa0 : UInt8) :: (0x00 : UInt8) :: (0x10 : UInt8) :: (0x2a : UInt8) :: (0x59 : UInt8) :: (0xb4 : UInt8) :: (0x00 : UInt8) :: (0x6a : UInt8) :: (0x04 : UInt8) :: dT_X9_advance_2
def dT_X9_advance_0 : List UInt8 := (0x2a : UInt8) :: (0x2a : UInt8) :: (0xb4 : UInt8) :: (0x00 : UInt8) :: (0x6a : UInt8) :: (0xb6 : UInt8) :: (0x00 : UInt8) :: (0x6d : UInt8) :: (0x10 : UInt8) :: (0x20 : UInt8) :: (0x9f : UInt8) :: (0x00 : UInt8) :: (0x10 : UInt8) :: (0x2a : UInt8) :: (0x2a : UInt8) :: (0xb4 : UInt8) :: dT_X9_advance_1
theorem dT_X9_advance : cX9_advance.data.toList = dT_X9_advance_0 := eq_of_beq (show (cX9_advance.data.toList == dT_X9_advance_0) = true by decide +kernel)
theorem dQ_X9_advance_0 : dQ_P cX9_advance 0 dT_X9_advance_0 := fun i => by rw [dT_X9_advance]; rfl
theorem dQ_X9_advance_1 : dQ_P cX9_advance 16 dT_X9_advance_1 := fun i => (dQ_X9_advance_0 (i + 16)).trans dk_t
theorem dQ_X9_advance_2 : dQ_P cX9_advance 32 dT_X9_advance_2 := fun i => (dQ_X9_advance_1 (i + 16)).trans dk_t
theorem dQ_X9_advance_3 : dQ_P cX9_advance 48 dT_X9_advance_3 := fun i => (dQ_X9_advance_2 (i + 16)).trans dk_t
theorem dQ_X9_advance_4 : dQ_P cX9_advance 64 dT_X9_advance_4 := fun i => (dQ_X9_advance_3 (i + 16)).trans dk_t
theorem dQ_X9_advance_5 : dQ_P cX9_advance 80 dT_X9_advance_5 := fun i => (dQ_X9_advance_4 (i + 16)).trans dk_t
theorem dQ_X9_advance_6 : dQ_P cX9_advance 96 dT_X9_advance_6 := fun i => (dQ_X9_advance_5 (i + 16)).trans dk_t
theorem dQ_X9_advance_7 : dQ_P cX9_advance 112 dT_X9_advance_7 := fun i => (dQ_X9_advance_6 (i + 16)).trans dk_t
theorem dQ_X9_advance_8 : dQ_P cX9_advance 128 dT_X9_advance_8 := fun i => (dQ_X9_advance_7 (i + 16)).trans dk_t
theorem dQ_X9_advance_9 : dQ_P cX9_advance 144 dT_X9_advance_9 := fun i => (dQ_X9_advance_8 (i + 16)).trans dk_t
theorem dQ_X9_advance_10 : dQ_P cX9_advance 160 dT_X9_advance_10 := fun i => (dQ_X9_advance_9 (i + 16)).trans dk_t
theorem dQ_X9_advance_11 : dQ_P cX9_advance 176 dT_X9_advance_11 := fun i => (dQ_X9_advance_10 (i + 16)).trans dk_t
theorem dQ_X9_advance_12 : dQ_P cX9_advance 192 dT_X9_advance_12 := fun i => (dQ_X9_advance_11 (i + 16)).trans dk_t
theorem dQ_X9_advance_13 : dQ_P cX9_advance 208 dT_X9_advance_13 := fun i => (dQ_X9_advance_12 (i + 16)).trans dk_t
theorem dQ_X9_advance_14 : dQ_P cX9_advance 224 dT_X9_advance_14 := fun i => (dQ_X9_advance_13 (i + 16)).trans dk_t
theorem dX9_advance_0 : decode cX9_advance 0 = .ok (.aload_n 0, 1) := dk_42 ((dQ_X9_advance_0 0).trans dk_j0)
theorem dX9_advance_1 : decode cX9_advance 1 = .ok (.aload_n 0, 1) := dk_42 ((dQ_X9_advance_0 1).trans dk_j1)
theorem dk_vu2_0_106 : (0x00 : UInt8).toNat * 256 + (0x6a : UInt8).toNat = (106 : Nat) := by decide +kernel
theorem dX9_advance_2 : decode cX9_advance 2 = .ok (.getfield 106, 3) := dk_180 ((dQ_X9_advance_0 2).trans dk_j2) ((dQ_X9_advance_0 3).trans dk_j3) ((dQ_X9_advance_0 4).trans dk_j4) dk_vu2_0_106
theorem dk_vu2_0_109 : (0x00 : UInt8).toNat * 256 + (0x6d : UInt8).toNat = (109 : Nat) := by decide +kernel
theorem dX9_advance_5 : decode cX9_advance 5 = .ok (.invokevirtual 109, 3) := dk_182 ((dQ_X9_advance_0 5).trans dk_j5) ((dQ_X9_advance_0 6).trans dk_j6) ((dQ_X9_advance_0 7).trans dk_j7) dk_vu2_0_109
theorem dk_vs1_32 : Reader.signed 8 (0x20 : UInt8).toNat = (32 : Int) := by decide +kernel
theorem dX9_advance_8 : decode cX9_advance 8 = .ok (.bipush 32, 2) := dk_16 ((dQ_X9_advance_0 8).trans dk_j8) ((dQ_X9_advance_0 9).trans dk_j9) dk_vs1_32
theorem dX9_advance_10 : decode cX9_advance 10 = .ok (.if_icmp .eq 16, 3) := dk_159 ((dQ_X9_advance_0 10).trans dk_j10) ((dQ_X9_advance_0 11).trans dk_j11) ((dQ_X9_advance_0 12).trans dk_j12) dk_vs2_0_16
theorem dX9_advance_13 : decode cX9_advance 13 = .ok (.aload_n 0, 1) := dk_42 ((dQ_X9_advance_0 13).trans dk_j13)
theorem dX9_advance_14 : decode cX9_advance 14 = .ok (.aload_n 0, 1) := dk_42 ((dQ_X9_advance_0 14).trans dk_j14)
theorem dX9_advance_15 : decode cX9_advance 15 = .ok (.getfield 106, 3) := dk_180 ((dQ_X9_advance_0 15).trans dk_j15) ((dQ_X9_advance_1 0).trans dk_j0) ((dQ_X9_advance_1 1).trans dk_j1) dk_vu2_0_106
theorem dX9_advance_18 : decode cX9_advance 18 = .ok (.invokevirtual 109, 3) := dk_182 ((dQ_X9_advance_1 2).trans dk_j2) ((dQ_X9_advance_1 3).trans dk_j3) ((dQ_X9_advance_1 4).trans dk_j4) dk_vu2_0_109
theorem dX9_advance_21 : decode cX9_advance 21 = .ok (.bipush 10, 2) := dk_16 ((dQ_X9_advance_1 5).trans dk_j5) ((dQ_X9_advance_1 6).trans dk_j6) dk_vs1_10
theorem dX9_advance_23 : decode cX9_advance 23 = .ok (.if_icmp .ne 16, 3) := dk_160 ((dQ_X9_advance_1 7).trans dk_j7) ((dQ_X9_advance_1 8).trans dk_j8) ((dQ_X9_advance_1 9).trans dk_j9) dk_vs2_0_16
theorem dX9_advance_26 : decode cX9_advance 26 = .ok (.aload_n 0, 1) := dk_42 ((dQ_X9_advance_1 10).trans dk_j10)
theorem dX9_advance_27 : decode cX9_advance 27 = .ok (.dup, 1) := dk_89 ((dQ_X9_advance_1 11).trans dk_j11)
theorem dX9_advance_28 : decode cX9_advance 28 = .ok (.getfield 106, 3) := dk_180 ((dQ_X9_advance_1 12).trans dk_j12) ((dQ_X9_advance_1 13).trans dk_j13) ((dQ_X9_advance_1 14).trans dk_j14) dk_vu2_0_106
theorem dX9_advance_31 : decode cX9_advance 31 = .ok (.iconst 1, 1) := dk_4 ((dQ_X9_advance_1 15).trans dk_j15)
theorem dX9_advance_32 : decode cX9_advance 32 = .ok (.iadd, 1) := dk_96 ((dQ_X9_advance_2 0).trans dk_j0)
theorem dX9_advance_33 : decode cX9_advance 33 = .ok (.putfield 106, 3) := dk_181 ((dQ_X9_advance_2 1).trans dk_j1) ((dQ_X9_advance_2 2).trans dk_j2) ((dQ_X9_advance_2 3).trans dk_j3) dk_vu2_0_106
theorem dk_vs2_255_220 : Reader.signed 16 ((0xff : UInt8).toNat * 256 + (0xdc : UInt8).toNat) = (-36 : Int) := by decide +kernel
theorem dX9_advance_36 : decode cX9_advance 36 = .ok (.goto (-36), 3) := dk_167 ((dQ_X9_advance_2 4).trans dk_j4) ((dQ_X9_advance_2 5).trans dk_j5) ((dQ_X9_advance_2 6).trans dk_j6) dk_vs2_255_220
theorem dX9_advance_39 : decode cX9_advance 39 = .ok (.aload_n 0, 1) := dk_42 ((dQ_X9_advance_2 7).trans dk_j7)
theorem dX9_advance_40 : decode cX9_advance 40 = .ok (.aload_n 0, 1) := dk_42 ((dQ_X9_advance_2 8).trans dk_j8)
theorem dX9_advance_41 : decode cX9_advance 41 = .ok (.getfield 106, 3) := dk_180 ((dQ_X9_advance_2 9).trans dk_j9) ((dQ_X9_advance_2 10).trans dk_j10) ((dQ_X9_advance_2 11).trans dk_j11) dk_vu2_0_106
theorem dk_vu2_0_113 : (0x00 : UInt8).toNat * 256 + (0x71 : UInt8).toNat = (113 : Nat) := by decide +kernel
theorem dX9_advance_44 : decode cX9_advance 44 = .ok (.putfield 113, 3) := dk_181 ((dQ_X9_advance_2 12).trans dk_j12) ((dQ_X9_advance_2 13).trans dk_j13) ((dQ_X9_advance_2 14).trans dk_j14) dk_vu2_0_113
theorem dX9_advance_47 : decode cX9_advance 47 = .ok (.aload_n 0, 1) := dk_42 ((dQ_X9_advance_2 15).trans dk_j15)
theorem dX9_advance_48 : decode cX9_advance 48 = .ok (.aload_n 0, 1) := dk_42 ((dQ_X9_advance_3 0).trans dk_j0)
theorem dX9_advance_49 : decode cX9_advance 49 = .ok (.getfield 106, 3) := dk_180 ((dQ_X9_advance_3 1).trans dk_j1) ((dQ_X9_advance_3 2).trans dk_j2) ((dQ_X9_advance_3 3).trans dk_j3) dk_vu2_0_106
theorem dX9_advance_52 : decode cX9_advance 52 = .ok (.invokevirtual 109, 3) := dk_182 ((dQ_X9_advance_3 4).trans dk_j4) ((dQ_X9_advance_3 5).trans dk_j5) ((dQ_X9_advance_3 6).trans dk_j6) dk_vu2_0_109
theorem dX9_advance_55 : decode cX9_advance 55 = .ok (.istore_n 1, 1) := dk_60 ((dQ_X9_advance_3 7).trans dk_j7)
theorem dX9_advance_56 : decode cX9_advance 56 = .ok (.iload_n 1, 1) := dk_27 ((dQ_X9_advance_3 8).trans dk_j8)
theorem dX9_advance_57 : decode cX9_advance 57 = .ok (.iconst (-1), 1) := dk_2 ((dQ_X9_advance_3 9).trans dk_j9)
theorem dk_vs2_0_11 : Reader.signed 16 ((0x00 : UInt8).toNat * 256 + (0x0b : UInt8).toNat) = (11 : Int) := by decide +kernel
theorem dX9_advance_58 : decode cX9_advance 58 = .ok (.if_icmp .ne 11, 3) := dk_160 ((dQ_X9_advance_3 10).trans dk_j10) ((dQ_X9_advance_3 11).trans dk_j11) ((dQ_X9_advance_3 12).trans dk_j12) dk_vs2_0_11
theorem dX9_advance_61 : decode cX9_advance 61 = .ok (.aload_n 0, 1) := dk_42 ((dQ_X9_advance_3 13).trans dk_j13)
theorem dX9_advance_62 : decode cX9_advance 62 = .ok (.iconst 0, 1) := dk_3 ((dQ_X9_advance_3 14).trans dk_j14)
theorem dk_vu2_0_116 : (0x00 : UInt8).toNat * 256 + (0x74 : UInt8).toNat = (116 : Nat) := by decide +kernel
theorem dX9_advance_63 : decode cX9_advance 63 = .ok (.putfield 116, 3) := dk_181 ((dQ_X9_advance_3 15).trans dk_j15) ((dQ_X9_advance_4 0).trans dk_j0) ((dQ_X9_advance_4 1).trans dk_j1) dk_vu2_0_116
theorem dk_vs2_0_173 : Reader.signed 16 ((0x00 : UInt8).toNat * 256 + (0xad : UInt8).toNat) = (173 : Int) := by decide +kernel
theorem dX9_advance_66 : decode cX9_advance 66 = .ok (.goto 173, 3) := dk_167 ((dQ_X9_advance_4 2).trans dk_j2) ((dQ_X9_advance_4 3).trans dk_j3) ((dQ_X9_advance_4 4).trans dk_j4) dk_vs2_0_173
theorem dX9_advance_69 : decode cX9_advance 69 = .ok (.iload_n 1, 1) := dk_27 ((dQ_X9_advance_4 5).trans dk_j5)
theorem dX9_advance_70 : decode cX9_advance 70 = .ok (.i2l, 1) := dk_133 ((dQ_X9_advance_4 6).trans dk_j6)
theorem dk_vu2_0_119 : (0x00 : UInt8).toNat * 256 + (0x77 : UInt8).toNat = (119 : Nat) := by decide +kernel
theorem dX9_advance_71 : decode cX9_advance 71 = .ok (.ldc2_w 119, 3) := dk_20 ((dQ_X9_advance_4 7).trans dk_j7) ((dQ_X9_advance_4 8).trans dk_j8) ((dQ_X9_advance_4 9).trans dk_j9) dk_vu2_0_119
theorem dk_vu2_0_121 : (0x00 : UInt8).toNat * 256 + (0x79 : UInt8).toNat = (121 : Nat) := by decide +kernel
theorem dX9_advance_74 : decode cX9_advance 74 = .ok (.ldc2_w 121, 3) := dk_20 ((dQ_X9_advance_4 10).trans dk_j10) ((dQ_X9_advance_4 11).trans dk_j11) ((dQ_X9_advance_4 12).trans dk_j12) dk_vu2_0_121
theorem dX9_advance_77 : decode cX9_advance 77 = .ok (.invokestatic 94, 3) := dk_184 ((dQ_X9_advance_4 13).trans dk_j13) ((dQ_X9_advance_4 14).trans dk_j14) ((dQ_X9_advance_4 15).trans dk_j15) dk_vu2_0_94
theorem dk_vs2_0_45 : Reader.signed 16 ((0x00 : UInt8).toNat * 256 + (0x2d : UInt8).toNat) = (45 : Int) := by decide +kernel
theorem dX9_advance_80 : decode cX9_advance 80 = .ok (.ifCond .eq 45, 3) := dk_153 ((dQ_X9_advance_5 0).trans dk_j0) ((dQ_X9_advance_5 1).trans dk_j1) ((dQ_X9_advance_5 2).trans dk_j2) dk_vs2_0_45
theorem dX9_advance_83 : decode cX9_advance 83 = .ok (.aload_n 0, 1) := dk_42 ((dQ_X9_advance_5 3).trans dk_j3)
theorem dX9_advance_84 : decode cX9_advance 84 = .ok (.aload_n 0, 1) := dk_42 ((dQ_X9_advance_5 4).trans dk_j4)
theorem dX9_advance_85 : decode cX9_advance 85 = .ok (.getfield 106, 3) := dk_180 ((dQ_X9_advance_5 5).trans dk_j5) ((dQ_X9_advance_5 6).trans dk_j6) ((dQ_X9_advance_5 7).trans dk_j7) dk_vu2_0_106
theorem dX9_advance_88 : decode cX9_advance 88 = .ok (.invokevirtual 109, 3) := dk_182 ((dQ_X9_advance_5 8).trans dk_j8) ((dQ_X9_advance_5 9).trans dk_j9) ((dQ_X9_advance_5 10).trans dk_j10) dk_vu2_0_109
theorem dX9_advance_91 : decode cX9_advance 91 = .ok (.i2l, 1) := dk_133 ((dQ_X9_advance_5 11).trans dk_j11)
theorem dX9_advance_92 : decode cX9_advance 92 = .ok (.ldc2_w 119, 3) := dk_20 ((dQ_X9_advance_5 12).trans dk_j12) ((dQ_X9_advance_5 13).trans dk_j13) ((dQ_X9_advance_5 14).trans dk_j14) dk_vu2_0_119
theorem dX9_advance_95 : decode cX9_advance 95 = .ok (.ldc2_w 121, 3) := dk_20 ((dQ_X9_advance_5 15).trans dk_j15) ((dQ_X9_advance_6 0).trans dk_j0) ((dQ_X9_advance_6 1).trans dk_j1) dk_vu2_0_121
theorem dX9_advance_98 : decode cX9_advance 98 = .ok (.invokestatic 94, 3) := dk_184 ((dQ_X9_advance_6 2).trans dk_j2) ((dQ_X9_advance_6 3).trans dk_j3) ((dQ_X9_advance_6 4).trans dk_j4) dk_vu2_0_94
theorem dX9_advance_101 : decode cX9_advance 101 = .ok (.ifCond .eq 16, 3) := dk_153 ((dQ_X9_advance_6 5).trans dk_j5) ((dQ_X9_advance_6 6).trans dk_j6) ((dQ_X9_advance_6 7).trans dk_j7) dk_vs2_0_16
theorem dX9_advance_104 : decode cX9_advance 104 = .ok (.aload_n 0, 1) := dk_42 ((dQ_X9_advance_6 8).trans dk_j8)
theorem dX9_advance_105 : decode cX9_advance 105 = .ok (.dup, 1) := dk_89 ((dQ_X9_advance_6 9).trans dk_j9)
theorem dX9_advance_106 : decode cX9_advance 106 = .ok (.getfield 106, 3) := dk_180 ((dQ_X9_advance_6 10).trans dk_j10) ((dQ_X9_advance_6 11).trans dk_j11) ((dQ_X9_advance_6 12).trans dk_j12) dk_vu2_0_106
theorem dX9_advance_109 : decode cX9_advance 109 = .ok (.iconst 1, 1) := dk_4 ((dQ_X9_advance_6 13).trans dk_j13)
theorem dX9_advance_110 : decode cX9_advance 110 = .ok (.iadd, 1) := dk_96 ((dQ_X9_advance_6 14).trans dk_j14)
theorem dX9_advance_111 : decode cX9_advance 111 = .ok (.putfield 106, 3) := dk_181 ((dQ_X9_advance_6 15).trans dk_j15) ((dQ_X9_advance_7 0).trans dk_j0) ((dQ_X9_advance_7 1).trans dk_j1) dk_vu2_0_106
theorem dk_vs2_255_225 : Reader.signed 16 ((0xff : UInt8).toNat * 256 + (0xe1 : UInt8).toNat) = (-31 : Int) := by decide +kernel
theorem dX9_advance_114 : decode cX9_advance 114 = .ok (.goto (-31), 3) := dk_167 ((dQ_X9_advance_7 2).trans dk_j2) ((dQ_X9_advance_7 3).trans dk_j3) ((dQ_X9_advance_7 4).trans dk_j4) dk_vs2_255_225
theorem dX9_advance_117 : decode cX9_advance 117 = .ok (.aload_n 0, 1) := dk_42 ((dQ_X9_advance_7 5).trans dk_j5)
theorem dX9_advance_118 : decode cX9_advance 118 = .ok (.iconst 1, 1) := dk_4 ((dQ_X9_advance_7 6).trans dk_j6)
theorem dX9_advance_119 : decode cX9_advance 119 = .ok (.putfield 116, 3) := dk_181 ((dQ_X9_advance_7 7).trans dk_j7) ((dQ_X9_advance_7 8).trans dk_j8) ((dQ_X9_advance_7 9).trans dk_j9) dk_vu2_0_116
theorem dk_vs2_0_117 : Reader.signed 16 ((0x00 : UInt8).toNat * 256 + (0x75 : UInt8).toNat) = (117 : Int) := by decide +kernel
theorem dX9_advance_122 : decode cX9_advance 122 = .ok (.goto 117, 3) := dk_167 ((dQ_X9_advance_7 10).trans dk_j10) ((dQ_X9_advance_7 11).trans dk_j11) ((dQ_X9_advance_7 12).trans dk_j12) dk_vs2_0_117
theorem dX9_advance_125 : decode cX9_advance 125 = .ok (.iload_n 1, 1) := dk_27 ((dQ_X9_advance_7 13).trans dk_j13)
theorem dX9_advance_126 : decode cX9_advance 126 = .ok (.i2l, 1) := dk_133 ((dQ_X9_advance_7 14).trans dk_j14)
theorem dk_vu2_0_123 : (0x00 : UInt8).toNat * 256 + (0x7b : UInt8).toNat = (123 : Nat) := by decide +kernel
theorem dX9_advance_127 : decode cX9_advance 127 = .ok (.ldc2_w 123, 3) := dk_20 ((dQ_X9_advance_7 15).trans dk_j15) ((dQ_X9_advance_8 0).trans dk_j0) ((dQ_X9_advance_8 1).trans dk_j1) dk_vu2_0_123
theorem dk_vu2_0_125 : (0x00 : UInt8).toNat * 256 + (0x7d : UInt8).toNat = (125 : Nat) := by decide +kernel
theorem dX9_advance_130 : decode cX9_advance 130 = .ok (.ldc2_w 125, 3) := dk_20 ((dQ_X9_advance_8 2).trans dk_j2) ((dQ_X9_advance_8 3).trans dk_j3) ((dQ_X9_advance_8 4).trans dk_j4) dk_vu2_0_125
theorem dX9_advance_133 : decode cX9_advance 133 = .ok (.invokestatic 94, 3) := dk_184 ((dQ_X9_advance_8 5).trans dk_j5) ((dQ_X9_advance_8 6).trans dk_j6) ((dQ_X9_advance_8 7).trans dk_j7) dk_vu2_0_94
theorem dk_vs2_0_78 : Reader.signed 16 ((0x00 : UInt8).toNat * 256 + (0x4e : UInt8).toNat) = (78 : Int) := by decide +kernel
theorem dX9_advance_136 : decode cX9_advance 136 = .ok (.ifCond .eq 78, 3) := dk_153 ((dQ_X9_advance_8 8).trans dk_j8) ((dQ_X9_advance_8 9).trans dk_j9) ((dQ_X9_advance_8 10).trans dk_j10) dk_vs2_0_78
theorem dX9_advance_139 : decode cX9_advance 139 = .ok (.aload_n 0, 1) := dk_42 ((dQ_X9_advance_8 11).trans dk_j11)
theorem dX9_advance_140 : decode cX9_advance 140 = .ok (.iconst 0, 1) := dk_3 ((dQ_X9_advance_8 12).trans dk_j12)
theorem dk_vu2_0_127 : (0x00 : UInt8).toNat * 256 + (0x7f : UInt8).toNat = (127 : Nat) := by decide +kernel
theorem dX9_advance_141 : decode cX9_advance 141 = .ok (.putfield 127, 3) := dk_181 ((dQ_X9_advance_8 13).trans dk_j13) ((dQ_X9_advance_8 14).trans dk_j14) ((dQ_X9_advance_8 15).trans dk_j15) dk_vu2_0_127
theorem dX9_advance_144 : decode cX9_advance 144 = .ok (.aload_n 0, 1) := dk_42 ((dQ_X9_advance_9 0).trans dk_j0)
theorem dX9_advance_145 : decode cX9_advance 145 = .ok (.aload_n 0, 1) := dk_42 ((dQ_X9_advance_9 1).trans dk_j1)
theorem dX9_advance_146 : decode cX9_advance 146 = .ok (.getfield 106, 3) := dk_180 ((dQ_X9_advance_9 2).trans dk_j2) ((dQ_X9_advance_9 3).trans dk_j3) ((dQ_X9_advance_9 4).trans dk_j4) dk_vu2_0_106
theorem dX9_advance_149 : decode cX9_advance 149 = .ok (.invokevirtual 109, 3) := dk_182 ((dQ_X9_advance_9 5).trans dk_j5) ((dQ_X9_advance_9 6).trans dk_j6) ((dQ_X9_advance_9 7).trans dk_j7) dk_vu2_0_109
theorem dX9_advance_152 : decode cX9_advance 152 = .ok (.i2l, 1) := dk_133 ((dQ_X9_advance_9 8).trans dk_j8)
theorem dX9_advance_153 : decode cX9_advance 153 = .ok (.ldc2_w 123, 3) := dk_20 ((dQ_X9_advance_9 9).trans dk_j9) ((dQ_X9_advance_9 10).trans dk_j10) ((dQ_X9_advance_9 11).trans dk_j11) dk_vu2_0_123
theorem dX9_advance_156 : decode cX9_advance 156 = .ok (.ldc2_w 125, 3) := dk_20 ((dQ_X9_advance_9 12).trans dk_j12) ((dQ_X9_advance_9 13).trans dk_j13) ((dQ_X9_advance_9 14).trans dk_j14) dk_vu2_0_125
theorem dX9_advance_159 : decode cX9_advance 159 = .ok (.invokestatic 94, 3) := dk_184 ((dQ_X9_advance_9 15).trans dk_j15) ((dQ_X9_advance_10 0).trans dk_j0) ((dQ_X9_advance_10 1).trans dk_j1) dk_vu2_0_94
theorem dk_vs2_0_44 : Reader.signed 16 ((0x00 : UInt8).toNat * 256 + (0x2c : UInt8).toNat) = (44 : Int) := by decide +kernel
theorem dX9_advance_162 : decode cX9_advance 162 = .ok (.ifCond .eq 44, 3) := dk_153 ((dQ_X9_advance_10 2).trans dk_j2) ((dQ_X9_advance_10 3).trans dk_j3) ((dQ_X9_advance_10 4).trans dk_j4) dk_vs2_0_44
theorem dX9_advance_165 : decode cX9_advance 165 = .ok (.aload_n 0, 1) := dk_42 ((dQ_X9_advance_10 5).trans dk_j5)
theorem dk_vu1_130 : (0x82 : UInt8).toNat = (130 : Nat) := by decide +kernel
theorem dX9_advance_166 : decode cX9_advance 166 = .ok (.ldc 130, 2) := dk_18 ((dQ_X9_advance_10 6).trans dk_j6) ((dQ_X9_advance_10 7).trans dk_j7) dk_vu1_130
theorem dX9_advance_168 : decode cX9_advance 168 = .ok (.bipush 10, 2) := dk_16 ((dQ_X9_advance_10 8).trans dk_j8) ((dQ_X9_advance_10 9).trans dk_j9) dk_vs1_10
theorem dX9_advance_170 : decode cX9_advance 170 = .ok (.aload_n 0, 1) := dk_42 ((dQ_X9_advance_10 10).trans dk_j10)
theorem dX9_advance_171 : decode cX9_advance 171 = .ok (.getfield 127, 3) := dk_180 ((dQ_X9_advance_10 11).trans dk_j11) ((dQ_X9_advance_10 12).trans dk_j12) ((dQ_X9_advance_10 13).trans dk_j13) dk_vu2_0_127
theorem dX9_advance_174 : decode cX9_advance 174 = .ok (.imul, 1) := dk_104 ((dQ_X9_advance_10 14).trans dk_j14)
theorem dX9_advance_175 : decode cX9_advance 175 = .ok (.aload_n 0, 1) := dk_42 ((dQ_X9_advance_10 15).trans dk_j15)
theorem dX9_advance_176 : decode cX9_advance 176 = .ok (.aload_n 0, 1) := dk_42 ((dQ_X9_advance_11 0).trans dk_j0)
theorem dX9_advance_177 : decode cX9_advance 177 = .ok (.getfield 106, 3) := dk_180 ((dQ_X9_advance_11 1).trans dk_j1) ((dQ_X9_advance_11 2).trans dk_j2) ((dQ_X9_advance_11 3).trans dk_j3) dk_vu2_0_106
theorem dX9_advance_180 : decode cX9_advance 180 = .ok (.invokevirtual 109, 3) := dk_182 ((dQ_X9_advance_11 4).trans dk_j4) ((dQ_X9_advance_11 5).trans dk_j5) ((dQ_X9_advance_11 6).trans dk_j6) dk_vu2_0_109
theorem dX9_advance_183 : decode cX9_advance 183 = .ok (.iadd, 1) := dk_96 ((dQ_X9_advance_11 7).trans dk_j7)
theorem dk_vs1_48 : Reader.signed 8 (0x30 : UInt8).toNat = (48 : Int) := by decide +kernel
theorem dX9_advance_184 : decode cX9_advance 184 = .ok (.bipush 48, 2) := dk_16 ((dQ_X9_advance_11 8).trans dk_j8) ((dQ_X9_advance_11 9).trans dk_j9) dk_vs1_48
theorem dX9_advance_186 : decode cX9_advance 186 = .ok (.isub, 1) := dk_100 ((dQ_X9_advance_11 10).trans dk_j10)
theorem dk_vu2_0_131 : (0x00 : UInt8).toNat * 256 + (0x83 : UInt8).toNat = (131 : Nat) := by decide +kernel
theorem dX9_advance_187 : decode cX9_advance 187 = .ok (.invokestatic 131, 3) := dk_184 ((dQ_X9_advance_11 11).trans dk_j11) ((dQ_X9_advance_11 12).trans dk_j12) ((dQ_X9_advance_11 13).trans dk_j13) dk_vu2_0_131
theorem dX9_advance_190 : decode cX9_advance 190 = .ok (.putfield 127, 3) := dk_181 ((dQ_X9_advance_11 14).trans dk_j14) ((dQ_X9_advance_11 15).trans dk_j15) ((dQ_X9_advance_12 0).trans dk_j0) dk_vu2_0_127
theorem dX9_advance_193 : decode cX9_advance 193 = .ok (.aload_n 0, 1) := dk_42 ((dQ_X9_advance_12 1).trans dk_j1)
theorem dX9_advance_194 : decode cX9_advance 194 = .ok (.dup, 1) := dk_89 ((dQ_X9_advance_12 2).trans dk_j2)
theorem dX9_advance_195 : decode cX9_advance 195 = .ok (.getfield 106, 3) := dk_180 ((dQ_X9_advance_12 3).trans dk_j3) ((dQ_X9_advance_12 4).trans dk_j4) ((dQ_X9_advance_12 5).trans dk_j5) dk_vu2_0_106
theorem dX9_advance_198 : decode cX9_advance 198 = .ok (.iconst 1, 1) := dk_4 ((dQ_X9_advance_12 6).trans dk_j6)
theorem dX9_advance_199 : decode cX9_advance 199 = .ok (.iadd, 1) := dk_96 ((dQ_X9_advance_12 7).trans dk_j7)
theorem dX9_advance_200 : decode cX9_advance 200 = .ok (.putfield 106, 3) := dk_181 ((dQ_X9_advance_12 8).trans dk_j8) ((dQ_X9_advance_12 9).trans dk_j9) ((dQ_X9_advance_12 10).trans dk_j10) dk_vu2_0_106
theorem dk_vs2_255_197 : Reader.signed 16 ((0xff : UInt8).toNat * 256 + (0xc5 : UInt8).toNat) = (-59 : Int) := by decide +kernel
theorem dX9_advance_203 : decode cX9_advance 203 = .ok (.goto (-59), 3) := dk_167 ((dQ_X9_advance_12 11).trans dk_j11) ((dQ_X9_advance_12 12).trans dk_j12) ((dQ_X9_advance_12 13).trans dk_j13) dk_vs2_255_197
theorem dX9_advance_206 : decode cX9_advance 206 = .ok (.aload_n 0, 1) := dk_42 ((dQ_X9_advance_12 14).trans dk_j14)
theorem dX9_advance_207 : decode cX9_advance 207 = .ok (.iconst 2, 1) := dk_5 ((dQ_X9_advance_12 15).trans dk_j15)
theorem dX9_advance_208 : decode cX9_advance 208 = .ok (.putfield 116, 3) := dk_181 ((dQ_X9_advance_13 0).trans dk_j0) ((dQ_X9_advance_13 1).trans dk_j1) ((dQ_X9_advance_13 2).trans dk_j2) dk_vu2_0_116
theorem dk_vs2_0_28 : Reader.signed 16 ((0x00 : UInt8).toNat * 256 + (0x1c : UInt8).toNat) = (28 : Int) := by decide +kernel
theorem dX9_advance_211 : decode cX9_advance 211 = .ok (.goto 28, 3) := dk_167 ((dQ_X9_advance_13 3).trans dk_j3) ((dQ_X9_advance_13 4).trans dk_j4) ((dQ_X9_advance_13 5).trans dk_j5) dk_vs2_0_28
theorem dX9_advance_214 : decode cX9_advance 214 = .ok (.aload_n 0, 1) := dk_42 ((dQ_X9_advance_13 6).trans dk_j6)
theorem dX9_advance_215 : decode cX9_advance 215 = .ok (.iload_n 1, 1) := dk_27 ((dQ_X9_advance_13 7).trans dk_j7)
theorem dk_vs1_59 : Reader.signed 8 (0x3b : UInt8).toNat = (59 : Int) := by decide +kernel
theorem dX9_advance_216 : decode cX9_advance 216 = .ok (.bipush 59, 2) := dk_16 ((dQ_X9_advance_13 8).trans dk_j8) ((dQ_X9_advance_13 9).trans dk_j9) dk_vs1_59
theorem dX9_advance_218 : decode cX9_advance 218 = .ok (.if_icmp .ne 7, 3) := dk_160 ((dQ_X9_advance_13 10).trans dk_j10) ((dQ_X9_advance_13 11).trans dk_j11) ((dQ_X9_advance_13 12).trans dk_j12) dk_vs2_0_7
theorem dX9_advance_221 : decode cX9_advance 221 = .ok (.iconst 3, 1) := dk_6 ((dQ_X9_advance_13 13).trans dk_j13)
theorem dX9_advance_222 : decode cX9_advance 222 = .ok (.goto 4, 3) := dk_167 ((dQ_X9_advance_13 14).trans dk_j14) ((dQ_X9_advance_13 15).trans dk_j15) ((dQ_X9_advance_14 0).trans dk_j0) dk_vs2_0_4
theorem dX9_advance_225 : decode cX9_advance 225 = .ok (.iconst 4, 1) := dk_7 ((dQ_X9_advance_14 1).trans dk_j1)
theorem dX9_advance_226 : decode cX9_advance 226 = .ok (.putfield 116, 3) := dk_181 ((dQ_X9_advance_14 2).trans dk_j2) ((dQ_X9_advance_14 3).trans dk_j3) ((dQ_X9_advance_14 4).trans dk_j4) dk_vu2_0_116
theorem dX9_advance_229 : decode cX9_advance 229 = .ok (.aload_n 0, 1) := dk_42 ((dQ_X9_advance_14 5).trans dk_j5)
theorem dX9_advance_230 : decode cX9_advance 230 = .ok (.dup, 1) := dk_89 ((dQ_X9_advance_14 6).trans dk_j6)
theorem dX9_advance_231 : decode cX9_advance 231 = .ok (.getfield 106, 3) := dk_180 ((dQ_X9_advance_14 7).trans dk_j7) ((dQ_X9_advance_14 8).trans dk_j8) ((dQ_X9_advance_14 9).trans dk_j9) dk_vu2_0_106
theorem dX9_advance_234 : decode cX9_advance 234 = .ok (.iconst 1, 1) := dk_4 ((dQ_X9_advance_14 10).trans dk_j10)
theorem dX9_advance_235 : decode cX9_advance 235 = .ok (.iadd, 1) := dk_96 ((dQ_X9_advance_14 11).trans dk_j11)
theorem dX9_advance_236 : decode cX9_advance 236 = .ok (.putfield 106, 3) := dk_181 ((dQ_X9_advance_14 12).trans dk_j12) ((dQ_X9_advance_14 13).trans dk_j13) ((dQ_X9_advance_14 14).trans dk_j14) dk_vu2_0_106
theorem dX9_advance_239 : decode cX9_advance 239 = .ok (.return_, 1) := dk_177 ((dQ_X9_advance_14 15).trans dk_j15)
def dT_X9_good_0 : List UInt8 := (0x2a : UInt8) :: (0xb4 : UInt8) :: (0x00 : UInt8) :: (0x89 : UInt8) :: (0x9a : UInt8) :: (0x00 : UInt8) :: (0x07 : UInt8) :: (0x04 : UInt8) :: (0xa7 : UInt8) :: (0x00 : UInt8) :: (0x04 : UInt8) :: (0x03 : UInt8) :: (0xac : UInt8) :: []
theorem dT_X9_good : cX9_good.data.toList = dT_X9_good_0 := eq_of_beq (show (cX9_good.data.toList == dT_X9_good_0) = true by decide +kernel)
theorem dQ_X9_good_0 : dQ_P cX9_good 0 dT_X9_good_0 := fun i => by rw [dT_X9_good]; rfl
theorem dX9_good_0 : decode cX9_good 0 = .ok (.aload_n 0, 1) := dk_42 ((dQ_X9_good_0 0).trans dk_j0)
theorem dk_vu2_0_137 : (0x00 : UInt8).toNat * 256 + (0x89 : UInt8).toNat = (137 : Nat) := by decide +kernel
theorem dX9_good_1 : decode cX9_good 1 = .ok (.getfield 137, 3) := dk_180 ((dQ_X9_good_0 1).trans dk_j1) ((dQ_X9_good_0 2).trans dk_j2) ((dQ_X9_good_0 3).trans dk_j3) dk_vu2_0_137
theorem dX9_good_4 : decode cX9_good 4 = .ok (.ifCond .ne 7, 3) := dk_154 ((dQ_X9_good_0 4).trans dk_j4) ((dQ_X9_good_0 5).trans dk_j5) ((dQ_X9_good_0 6).trans dk_j6) dk_vs2_0_7
theorem dX9_good_7 : decode cX9_good 7 = .ok (.iconst 1, 1) := dk_4 ((dQ_X9_good_0 7).trans dk_j7)
theorem dX9_good_8 : decode cX9_good 8 = .ok (.goto 4, 3) := dk_167 ((dQ_X9_good_0 8).trans dk_j8) ((dQ_X9_good_0 9).trans dk_j9) ((dQ_X9_good_0 10).trans dk_j10) dk_vs2_0_4
theorem dX9_good_11 : decode cX9_good 11 = .ok (.iconst 0, 1) := dk_3 ((dQ_X9_good_0 11).trans dk_j11)
theorem dX9_good_12 : decode cX9_good 12 = .ok (.ireturn, 1) := dk_172 ((dQ_X9_good_0 12).trans dk_j12)
def dT_X9_errs_1 : List UInt8 := (0x00 : UInt8) :: (0x71 : UInt8) :: (0xb5 : UInt8) :: (0x00 : UInt8) :: (0x1b : UInt8) :: (0xb1 : UInt8) :: []
def dT_X9_errs_0 : List UInt8 := (0x2a : UInt8) :: (0xb6 : UInt8) :: (0x00 : UInt8) :: (0x8c : UInt8) :: (0x9a : UInt8) :: (0x00 : UInt8) :: (0x04 : UInt8) :: (0xb1 : UInt8) :: (0x2a : UInt8) :: (0x1b : UInt8) :: (0xb5 : UInt8) :: (0x00 : UInt8) :: (0x89 : UInt8) :: (0x2a : UInt8) :: (0x2a : UInt8) :: (0xb4 : UInt8) :: dT_X9_errs_1
theorem dT_X9_errs : cX9_errs.data.toList = dT_X9_errs_0 := eq_of_beq (show (cX9_errs.data.toList == dT_X9_errs_0) = true by decide +kernel)
theorem dQ_X9_errs_0 : dQ_P cX9_errs 0 dT_X9_errs_0 := fun i => by rw [dT_X9_errs]; rfl
theorem dQ_X9_errs_1 : dQ_P cX9_errs 16 dT_X9_errs_1 := fun i => (dQ_X9_errs_0 (i + 16)).trans dk_t
theorem dX9_errs_0 : decode cX9_errs 0 = .ok (.aload_n 0, 1) := dk_42 ((dQ_X9_errs_0 0).trans dk_j0)
theorem dk_vu2_0_140 : (0x00 : UInt8).toNat * 256 + (0x8c : UInt8).toNat = (140 : Nat) := by decide +kernel
theorem dX9_errs_1 : decode cX9_errs 1 = .ok (.invokevirtual 140, 3) := dk_182 ((dQ_X9_errs_0 1).trans dk_j1) ((dQ_X9_errs_0 2).trans dk_j2) ((dQ_X9_errs_0 3).trans dk_j3) dk_vu2_0_140
theorem dX9_errs_4 : decode cX9_errs 4 = .ok (.ifCond .ne 4, 3) := dk_154 ((dQ_X9_errs_0 4).trans dk_j4) ((dQ_X9_errs_0 5).trans dk_j5) ((dQ_X9_errs_0 6).trans dk_j6) dk_vs2_0_4
theorem dX9_errs_7 : decode cX9_errs 7 = .ok (.return_, 1) := dk_177 ((dQ_X9_errs_0 7).trans dk_j7)
theorem dX9_errs_8 : decode cX9_errs 8 = .ok (.aload_n 0, 1) := dk_42 ((dQ_X9_errs_0 8).trans dk_j8)
theorem dX9_errs_9 : decode cX9_errs 9 = .ok (.iload_n 1, 1) := dk_27 ((dQ_X9_errs_0 9).trans dk_j9)
theorem dX9_errs_10 : decode cX9_errs 10 = .ok (.putfield 137, 3) := dk_181 ((dQ_X9_errs_0 10).trans dk_j10) ((dQ_X9_errs_0 11).trans dk_j11) ((dQ_X9_errs_0 12).trans dk_j12) dk_vu2_0_137
theorem dX9_errs_13 : decode cX9_errs 13 = .ok (.aload_n 0, 1) := dk_42 ((dQ_X9_errs_0 13).trans dk_j13)
theorem dX9_errs_14 : decode cX9_errs 14 = .ok (.aload_n 0, 1) := dk_42 ((dQ_X9_errs_0 14).trans dk_j14)
theorem dX9_errs_15 : decode cX9_errs 15 = .ok (.getfield 113, 3) := dk_180 ((dQ_X9_errs_0 15).trans dk_j15) ((dQ_X9_errs_1 0).trans dk_j0) ((dQ_X9_errs_1 1).trans dk_j1) dk_vu2_0_113
theorem dX9_errs_18 : decode cX9_errs 18 = .ok (.putfield 27, 3) := dk_181 ((dQ_X9_errs_1 2).trans dk_j2) ((dQ_X9_errs_1 3).trans dk_j3) ((dQ_X9_errs_1 4).trans dk_j4) dk_vu2_0_27
theorem dX9_errs_21 : decode cX9_errs 21 = .ok (.return_, 1) := dk_177 ((dQ_X9_errs_1 5).trans dk_j5)
def dT_X9_is_5 : List UInt8 := (0xff : UInt8) :: (0xd8 : UInt8) :: (0x1c : UInt8) :: (0xac : UInt8) :: []
def dT_X9_is_4 : List UInt8 := (0xb6 : UInt8) :: (0x00 : UInt8) :: (0x96 : UInt8) :: (0xa0 : UInt8) :: (0x00 : UInt8) :: (0x07 : UInt8) :: (0x04 : UInt8) :: (0xa7 : UInt8) :: (0x00 : UInt8) :: (0x04 : UInt8) :: (0x03 : UInt8) :: (0x3d : UInt8) :: (0x84 : UInt8) :: (0x03 : UInt8) :: (0x01 : UInt8) :: (0xa7 : UInt8) :: dT_X9_is_5
def dT_X9_is_3 : List UInt8 := (0x99 : UInt8) :: (0x00 : UInt8) :: (0x22 : UInt8) :: (0x2a : UInt8) :: (0xb4 : UInt8) :: (0x00 : UInt8) :: (0x14 : UInt8) :: (0x2a : UInt8) :: (0xb4 : UInt8) :: (0x00 : UInt8) :: (0x71 : UInt8) :: (0x1d : UInt8) :: (0x60 : UInt8) :: (0x33 : UInt8) :: (0x2b : UInt8) :: (0x1d : UInt8) :: dT_X9_is_4
def dT_X9_is_2 : List UInt8 := (0xa7 : UInt8) :: (0x00 : UInt8) :: (0x04 : UInt8) :: (0x03 : UInt8) :: (0x3d : UInt8) :: (0x03 : UInt8) :: (0x3e : UInt8) :: (0x1d : UInt8) :: (0x2b : UInt8) :: (0xb6 : UInt8) :: (0x00 : UInt8) :: (0x90 : UInt8) :: (0xa2 : UInt8) :: (0x00 : UInt8) :: (0x26 : UInt8) :: (0x1c : UInt8) :: dT_X9_is_3
def dT_X9_is_1 : List UInt8 := (0xb4 : UInt8) :: (0x00 : UInt8) :: (0x6a : UInt8) :: (0x2a : UInt8) :: (0xb4 : UInt8) :: (0x00 : UInt8) :: (0x71 : UInt8) :: (0x64 : UInt8) :: (0x2b : UInt8) :: (0xb6 : UInt8) :: (0x00 : UInt8) :: (0x90 : UInt8) :: (0xa0 : UInt8) :: (0x00 : UInt8) :: (0x07 : UInt8) :: (0x04 : UInt8) :: dT_X9_is_2
def dT_X9_is_0 : List UInt8 := (0x2a : UInt8) :: (0xb6 : UInt8) :: (0x00 : UInt8) :: (0x8c : UInt8) :: (0x99 : UInt8) :: (0x00 : UInt8) :: (0x1f : UInt8) :: (0x2a : UInt8) :: (0xb4 : UInt8) :: (0x00 : UInt8) :: (0x74 : UInt8) :: (0x04 : UInt8) :: (0xa0 : UInt8) :: (0x00 : UInt8) :: (0x17 : UInt8) :: (0x2a : UInt8) :: dT_X9_is_1
theorem dT_X9_is : cX9_is.data.toList = dT_X9_is_0 := eq_of_beq (show (cX9_is.data.toList == dT_X9_is_0) = true by decide +kernel)
theorem dQ_X9_is_0 : dQ_P cX9_is 0 dT_X9_is_0 := fun i => by rw [dT_X9_is]; rfl
theorem dQ_X9_is_1 : dQ_P cX9_is 16 dT_X9_is_1 := fun i => (dQ_X9_is_0 (i + 16)).trans dk_t
theorem dQ_X9_is_2 : dQ_P cX9_is 32 dT_X9_is_2 := fun i => (dQ_X9_is_1 (i + 16)).trans dk_t
theorem dQ_X9_is_3 : dQ_P cX9_is 48 dT_X9_is_3 := fun i => (dQ_X9_is_2 (i + 16)).trans dk_t
theorem dQ_X9_is_4 : dQ_P cX9_is 64 dT_X9_is_4 := fun i => (dQ_X9_is_3 (i + 16)).trans dk_t
theorem dQ_X9_is_5 : dQ_P cX9_is 80 dT_X9_is_5 := fun i => (dQ_X9_is_4 (i + 16)).trans dk_t
theorem dX9_is_0 : decode cX9_is 0 = .ok (.aload_n 0, 1) := dk_42 ((dQ_X9_is_0 0).trans dk_j0)
theorem dX9_is_1 : decode cX9_is 1 = .ok (.invokevirtual 140, 3) := dk_182 ((dQ_X9_is_0 1).trans dk_j1) ((dQ_X9_is_0 2).trans dk_j2) ((dQ_X9_is_0 3).trans dk_j3) dk_vu2_0_140
theorem dk_vs2_0_31 : Reader.signed 16 ((0x00 : UInt8).toNat * 256 + (0x1f : UInt8).toNat) = (31 : Int) := by decide +kernel
theorem dX9_is_4 : decode cX9_is 4 = .ok (.ifCond .eq 31, 3) := dk_153 ((dQ_X9_is_0 4).trans dk_j4) ((dQ_X9_is_0 5).trans dk_j5) ((dQ_X9_is_0 6).trans dk_j6) dk_vs2_0_31
theorem dX9_is_7 : decode cX9_is 7 = .ok (.aload_n 0, 1) := dk_42 ((dQ_X9_is_0 7).trans dk_j7)
theorem dX9_is_8 : decode cX9_is 8 = .ok (.getfield 116, 3) := dk_180 ((dQ_X9_is_0 8).trans dk_j8) ((dQ_X9_is_0 9).trans dk_j9) ((dQ_X9_is_0 10).trans dk_j10) dk_vu2_0_116
theorem dX9_is_11 : decode cX9_is 11 = .ok (.iconst 1, 1) := dk_4 ((dQ_X9_is_0 11).trans dk_j11)
theorem dk_vs2_0_23 : Reader.signed 16 ((0x00 : UInt8).toNat * 256 + (0x17 : UInt8).toNat) = (23 : Int) := by decide +kernel
theorem dX9_is_12 : decode cX9_is 12 = .ok (.if_icmp .ne 23, 3) := dk_160 ((dQ_X9_is_0 12).trans dk_j12) ((dQ_X9_is_0 13).trans dk_j13) ((dQ_X9_is_0 14).trans dk_j14) dk_vs2_0_23
theorem dX9_is_15 : decode cX9_is 15 = .ok (.aload_n 0, 1) := dk_42 ((dQ_X9_is_0 15).trans dk_j15)
theorem dX9_is_16 : decode cX9_is 16 = .ok (.getfield 106, 3) := dk_180 ((dQ_X9_is_1 0).trans dk_j0) ((dQ_X9_is_1 1).trans dk_j1) ((dQ_X9_is_1 2).trans dk_j2) dk_vu2_0_106
theorem dX9_is_19 : decode cX9_is 19 = .ok (.aload_n 0, 1) := dk_42 ((dQ_X9_is_1 3).trans dk_j3)
theorem dX9_is_20 : decode cX9_is 20 = .ok (.getfield 113, 3) := dk_180 ((dQ_X9_is_1 4).trans dk_j4) ((dQ_X9_is_1 5).trans dk_j5) ((dQ_X9_is_1 6).trans dk_j6) dk_vu2_0_113
theorem dX9_is_23 : decode cX9_is 23 = .ok (.isub, 1) := dk_100 ((dQ_X9_is_1 7).trans dk_j7)
theorem dX9_is_24 : decode cX9_is 24 = .ok (.aload_n 1, 1) := dk_43 ((dQ_X9_is_1 8).trans dk_j8)
theorem dk_vu2_0_144 : (0x00 : UInt8).toNat * 256 + (0x90 : UInt8).toNat = (144 : Nat) := by decide +kernel
theorem dX9_is_25 : decode cX9_is 25 = .ok (.invokevirtual 144, 3) := dk_182 ((dQ_X9_is_1 9).trans dk_j9) ((dQ_X9_is_1 10).trans dk_j10) ((dQ_X9_is_1 11).trans dk_j11) dk_vu2_0_144
theorem dX9_is_28 : decode cX9_is 28 = .ok (.if_icmp .ne 7, 3) := dk_160 ((dQ_X9_is_1 12).trans dk_j12) ((dQ_X9_is_1 13).trans dk_j13) ((dQ_X9_is_1 14).trans dk_j14) dk_vs2_0_7
theorem dX9_is_31 : decode cX9_is 31 = .ok (.iconst 1, 1) := dk_4 ((dQ_X9_is_1 15).trans dk_j15)
theorem dX9_is_32 : decode cX9_is 32 = .ok (.goto 4, 3) := dk_167 ((dQ_X9_is_2 0).trans dk_j0) ((dQ_X9_is_2 1).trans dk_j1) ((dQ_X9_is_2 2).trans dk_j2) dk_vs2_0_4
theorem dX9_is_35 : decode cX9_is 35 = .ok (.iconst 0, 1) := dk_3 ((dQ_X9_is_2 3).trans dk_j3)
theorem dX9_is_36 : decode cX9_is 36 = .ok (.istore_n 2, 1) := dk_61 ((dQ_X9_is_2 4).trans dk_j4)
theorem dX9_is_37 : decode cX9_is 37 = .ok (.iconst 0, 1) := dk_3 ((dQ_X9_is_2 5).trans dk_j5)
theorem dX9_is_38 : decode cX9_is 38 = .ok (.istore_n 3, 1) := dk_62 ((dQ_X9_is_2 6).trans dk_j6)
theorem dX9_is_39 : decode cX9_is 39 = .ok (.iload_n 3, 1) := dk_29 ((dQ_X9_is_2 7).trans dk_j7)
theorem dX9_is_40 : decode cX9_is 40 = .ok (.aload_n 1, 1) := dk_43 ((dQ_X9_is_2 8).trans dk_j8)
theorem dX9_is_41 : decode cX9_is 41 = .ok (.invokevirtual 144, 3) := dk_182 ((dQ_X9_is_2 9).trans dk_j9) ((dQ_X9_is_2 10).trans dk_j10) ((dQ_X9_is_2 11).trans dk_j11) dk_vu2_0_144
theorem dk_vs2_0_38 : Reader.signed 16 ((0x00 : UInt8).toNat * 256 + (0x26 : UInt8).toNat) = (38 : Int) := by decide +kernel
theorem dX9_is_44 : decode cX9_is 44 = .ok (.if_icmp .ge 38, 3) := dk_162 ((dQ_X9_is_2 12).trans dk_j12) ((dQ_X9_is_2 13).trans dk_j13) ((dQ_X9_is_2 14).trans dk_j14) dk_vs2_0_38
theorem dX9_is_47 : decode cX9_is 47 = .ok (.iload_n 2, 1) := dk_28 ((dQ_X9_is_2 15).trans dk_j15)
theorem dk_vs2_0_34 : Reader.signed 16 ((0x00 : UInt8).toNat * 256 + (0x22 : UInt8).toNat) = (34 : Int) := by decide +kernel
theorem dX9_is_48 : decode cX9_is 48 = .ok (.ifCond .eq 34, 3) := dk_153 ((dQ_X9_is_3 0).trans dk_j0) ((dQ_X9_is_3 1).trans dk_j1) ((dQ_X9_is_3 2).trans dk_j2) dk_vs2_0_34
theorem dX9_is_51 : decode cX9_is 51 = .ok (.aload_n 0, 1) := dk_42 ((dQ_X9_is_3 3).trans dk_j3)
theorem dX9_is_52 : decode cX9_is 52 = .ok (.getfield 20, 3) := dk_180 ((dQ_X9_is_3 4).trans dk_j4) ((dQ_X9_is_3 5).trans dk_j5) ((dQ_X9_is_3 6).trans dk_j6) dk_vu2_0_20
theorem dX9_is_55 : decode cX9_is 55 = .ok (.aload_n 0, 1) := dk_42 ((dQ_X9_is_3 7).trans dk_j7)
theorem dX9_is_56 : decode cX9_is 56 = .ok (.getfield 113, 3) := dk_180 ((dQ_X9_is_3 8).trans dk_j8) ((dQ_X9_is_3 9).trans dk_j9) ((dQ_X9_is_3 10).trans dk_j10) dk_vu2_0_113
theorem dX9_is_59 : decode cX9_is 59 = .ok (.iload_n 3, 1) := dk_29 ((dQ_X9_is_3 11).trans dk_j11)
theorem dX9_is_60 : decode cX9_is 60 = .ok (.iadd, 1) := dk_96 ((dQ_X9_is_3 12).trans dk_j12)
theorem dX9_is_61 : decode cX9_is 61 = .ok (.baload, 1) := dk_51 ((dQ_X9_is_3 13).trans dk_j13)
theorem dX9_is_62 : decode cX9_is 62 = .ok (.aload_n 1, 1) := dk_43 ((dQ_X9_is_3 14).trans dk_j14)
theorem dX9_is_63 : decode cX9_is 63 = .ok (.iload_n 3, 1) := dk_29 ((dQ_X9_is_3 15).trans dk_j15)
theorem dk_vu2_0_150 : (0x00 : UInt8).toNat * 256 + (0x96 : UInt8).toNat = (150 : Nat) := by decide +kernel
theorem dX9_is_64 : decode cX9_is 64 = .ok (.invokevirtual 150, 3) := dk_182 ((dQ_X9_is_4 0).trans dk_j0) ((dQ_X9_is_4 1).trans dk_j1) ((dQ_X9_is_4 2).trans dk_j2) dk_vu2_0_150
theorem dX9_is_67 : decode cX9_is 67 = .ok (.if_icmp .ne 7, 3) := dk_160 ((dQ_X9_is_4 3).trans dk_j3) ((dQ_X9_is_4 4).trans dk_j4) ((dQ_X9_is_4 5).trans dk_j5) dk_vs2_0_7
theorem dX9_is_70 : decode cX9_is 70 = .ok (.iconst 1, 1) := dk_4 ((dQ_X9_is_4 6).trans dk_j6)
theorem dX9_is_71 : decode cX9_is 71 = .ok (.goto 4, 3) := dk_167 ((dQ_X9_is_4 7).trans dk_j7) ((dQ_X9_is_4 8).trans dk_j8) ((dQ_X9_is_4 9).trans dk_j9) dk_vs2_0_4
theorem dX9_is_74 : decode cX9_is 74 = .ok (.iconst 0, 1) := dk_3 ((dQ_X9_is_4 10).trans dk_j10)
theorem dX9_is_75 : decode cX9_is 75 = .ok (.istore_n 2, 1) := dk_61 ((dQ_X9_is_4 11).trans dk_j11)
theorem dk_vu1_3 : (0x03 : UInt8).toNat = (3 : Nat) := by decide +kernel
theorem dX9_is_76 : decode cX9_is 76 = .ok (.iinc 3 1, 3) := dk_132 ((dQ_X9_is_4 12).trans dk_j12) ((dQ_X9_is_4 13).trans dk_j13) ((dQ_X9_is_4 14).trans dk_j14) dk_vu1_3 dk_vs1_1
theorem dk_vs2_255_216 : Reader.signed 16 ((0xff : UInt8).toNat * 256 + (0xd8 : UInt8).toNat) = (-40 : Int) := by decide +kernel
theorem dX9_is_79 : decode cX9_is 79 = .ok (.goto (-40), 3) := dk_167 ((dQ_X9_is_4 15).trans dk_j15) ((dQ_X9_is_5 0).trans dk_j0) ((dQ_X9_is_5 1).trans dk_j1) dk_vs2_255_216
theorem dX9_is_82 : decode cX9_is 82 = .ok (.iload_n 2, 1) := dk_28 ((dQ_X9_is_5 2).trans dk_j2)
theorem dX9_is_83 : decode cX9_is 83 = .ok (.ireturn, 1) := dk_172 ((dQ_X9_is_5 3).trans dk_j3)
def dT_X9_takes_0 : List UInt8 := (0x2a : UInt8) :: (0x2b : UInt8) :: (0xb6 : UInt8) :: (0x00 : UInt8) :: (0x9a : UInt8) :: (0x3d : UInt8) :: (0x1c : UInt8) :: (0x99 : UInt8) :: (0x00 : UInt8) :: (0x07 : UInt8) :: (0x2a : UInt8) :: (0xb6 : UInt8) :: (0x00 : UInt8) :: (0x9e : UInt8) :: (0x1c : UInt8) :: (0xac : UInt8) :: []
theorem dT_X9_takes : cX9_takes.data.toList = dT_X9_takes_0 := eq_of_beq (show (cX9_takes.data.toList == dT_X9_takes_0) = true by decide +kernel)
theorem dQ_X9_takes_0 : dQ_P cX9_takes 0 dT_X9_takes_0 := fun i => by rw [dT_X9_takes]; rfl
theorem dX9_takes_0 : decode cX9_takes 0 = .ok (.aload_n 0, 1) := dk_42 ((dQ_X9_takes_0 0).trans dk_j0)
theorem dX9_takes_1 : decode cX9_takes 1 = .ok (.aload_n 1, 1) := dk_43 ((dQ_X9_takes_0 1).trans dk_j1)
theorem dk_vu2_0_154 : (0x00 : UInt8).toNat * 256 + (0x9a : UInt8).toNat = (154 : Nat) := by decide +kernel
theorem dX9_takes_2 : decode cX9_takes 2 = .ok (.invokevirtual 154, 3) := dk_182 ((dQ_X9_takes_0 2).trans dk_j2) ((dQ_X9_takes_0 3).trans dk_j3) ((dQ_X9_takes_0 4).trans dk_j4) dk_vu2_0_154
theorem dX9_takes_5 : decode cX9_takes 5 = .ok (.istore_n 2, 1) := dk_61 ((dQ_X9_takes_0 5).trans dk_j5)
theorem dX9_takes_6 : decode cX9_takes 6 = .ok (.iload_n 2, 1) := dk_28 ((dQ_X9_takes_0 6).trans dk_j6)
theorem dX9_takes_7 : decode cX9_takes 7 = .ok (.ifCond .eq 7, 3) := dk_153 ((dQ_X9_takes_0 7).trans dk_j7) ((dQ_X9_takes_0 8).trans dk_j8) ((dQ_X9_takes_0 9).trans dk_j9) dk_vs2_0_7
theorem dX9_takes_10 : decode cX9_takes 10 = .ok (.aload_n 0, 1) := dk_42 ((dQ_X9_takes_0 10).trans dk_j10)
theorem dk_vu2_0_158 : (0x00 : UInt8).toNat * 256 + (0x9e : UInt8).toNat = (158 : Nat) := by decide +kernel
theorem dX9_takes_11 : decode cX9_takes 11 = .ok (.invokevirtual 158, 3) := dk_182 ((dQ_X9_takes_0 11).trans dk_j11) ((dQ_X9_takes_0 12).trans dk_j12) ((dQ_X9_takes_0 13).trans dk_j13) dk_vu2_0_158
theorem dX9_takes_14 : decode cX9_takes 14 = .ok (.iload_n 2, 1) := dk_28 ((dQ_X9_takes_0 14).trans dk_j14)
theorem dX9_takes_15 : decode cX9_takes 15 = .ok (.ireturn, 1) := dk_172 ((dQ_X9_takes_0 15).trans dk_j15)
def dT_X9_needs_0 : List UInt8 := (0x2a : UInt8) :: (0x2b : UInt8) :: (0xb6 : UInt8) :: (0x00 : UInt8) :: (0xa1 : UInt8) :: (0x9a : UInt8) :: (0x00 : UInt8) :: (0x08 : UInt8) :: (0x2a : UInt8) :: (0x04 : UInt8) :: (0xb6 : UInt8) :: (0x00 : UInt8) :: (0xa4 : UInt8) :: (0xb1 : UInt8) :: []
theorem dT_X9_needs : cX9_needs.data.toList = dT_X9_needs_0 := eq_of_beq (show (cX9_needs.data.toList == dT_X9_needs_0) = true by decide +kernel)
theorem dQ_X9_needs_0 : dQ_P cX9_needs 0 dT_X9_needs_0 := fun i => by rw [dT_X9_needs]; rfl
theorem dX9_needs_0 : decode cX9_needs 0 = .ok (.aload_n 0, 1) := dk_42 ((dQ_X9_needs_0 0).trans dk_j0)
theorem dX9_needs_1 : decode cX9_needs 1 = .ok (.aload_n 1, 1) := dk_43 ((dQ_X9_needs_0 1).trans dk_j1)
theorem dk_vu2_0_161 : (0x00 : UInt8).toNat * 256 + (0xa1 : UInt8).toNat = (161 : Nat) := by decide +kernel
theorem dX9_needs_2 : decode cX9_needs 2 = .ok (.invokevirtual 161, 3) := dk_182 ((dQ_X9_needs_0 2).trans dk_j2) ((dQ_X9_needs_0 3).trans dk_j3) ((dQ_X9_needs_0 4).trans dk_j4) dk_vu2_0_161
theorem dk_vs2_0_8 : Reader.signed 16 ((0x00 : UInt8).toNat * 256 + (0x08 : UInt8).toNat) = (8 : Int) := by decide +kernel
theorem dX9_needs_5 : decode cX9_needs 5 = .ok (.ifCond .ne 8, 3) := dk_154 ((dQ_X9_needs_0 5).trans dk_j5) ((dQ_X9_needs_0 6).trans dk_j6) ((dQ_X9_needs_0 7).trans dk_j7) dk_vs2_0_8
theorem dX9_needs_8 : decode cX9_needs 8 = .ok (.aload_n 0, 1) := dk_42 ((dQ_X9_needs_0 8).trans dk_j8)
theorem dX9_needs_9 : decode cX9_needs 9 = .ok (.iconst 1, 1) := dk_4 ((dQ_X9_needs_0 9).trans dk_j9)
theorem dk_vu2_0_164 : (0x00 : UInt8).toNat * 256 + (0xa4 : UInt8).toNat = (164 : Nat) := by decide +kernel
theorem dX9_needs_10 : decode cX9_needs 10 = .ok (.invokevirtual 164, 3) := dk_182 ((dQ_X9_needs_0 10).trans dk_j10) ((dQ_X9_needs_0 11).trans dk_j11) ((dQ_X9_needs_0 12).trans dk_j12) dk_vu2_0_164
theorem dX9_needs_13 : decode cX9_needs 13 = .ok (.return_, 1) := dk_177 ((dQ_X9_needs_0 13).trans dk_j13)
def dT_X9_number_4 : List UInt8 := (0x9e : UInt8) :: (0x1d : UInt8) :: (0xac : UInt8) :: []
def dT_X9_number_3 : List UInt8 := (0xb6 : UInt8) :: (0x00 : UInt8) :: (0x8c : UInt8) :: (0x9a : UInt8) :: (0x00 : UInt8) :: (0x05 : UInt8) :: (0x03 : UInt8) :: (0xac : UInt8) :: (0x2a : UInt8) :: (0xb4 : UInt8) :: (0x00 : UInt8) :: (0x7f : UInt8) :: (0x3e : UInt8) :: (0x2a : UInt8) :: (0xb6 : UInt8) :: (0x00 : UInt8) :: dT_X9_number_4
def dT_X9_number_2 : List UInt8 := (0x1b : UInt8) :: (0x85 : UInt8) :: (0x1c : UInt8) :: (0x85 : UInt8) :: (0xb8 : UInt8) :: (0x00 : UInt8) :: (0x5e : UInt8) :: (0x9a : UInt8) :: (0x00 : UInt8) :: (0x08 : UInt8) :: (0x2a : UInt8) :: (0x05 : UInt8) :: (0xb6 : UInt8) :: (0x00 : UInt8) :: (0xa4 : UInt8) :: (0x2a : UInt8) :: dT_X9_number_3
def dT_X9_number_1 : List UInt8 := (0x04 : UInt8) :: (0xb6 : UInt8) :: (0x00 : UInt8) :: (0xa4 : UInt8) :: (0x2a : UInt8) :: (0xb6 : UInt8) :: (0x00 : UInt8) :: (0x8c : UInt8) :: (0x99 : UInt8) :: (0x00 : UInt8) :: (0x17 : UInt8) :: (0x2a : UInt8) :: (0xb4 : UInt8) :: (0x00 : UInt8) :: (0x7f : UInt8) :: (0x85 : UInt8) :: dT_X9_number_2
def dT_X9_number_0 : List UInt8 := (0x2a : UInt8) :: (0xb6 : UInt8) :: (0x00 : UInt8) :: (0x8c : UInt8) :: (0x99 : UInt8) :: (0x00 : UInt8) :: (0x10 : UInt8) :: (0x2a : UInt8) :: (0xb4 : UInt8) :: (0x00 : UInt8) :: (0x74 : UInt8) :: (0x05 : UInt8) :: (0x9f : UInt8) :: (0x00 : UInt8) :: (0x08 : UInt8) :: (0x2a : UInt8) :: dT_X9_number_1
theorem dT_X9_number : cX9_number.data.toList = dT_X9_number_0 := eq_of_beq (show (cX9_number.data.toList == dT_X9_number_0) = true by decide +kernel)
theorem dQ_X9_number_0 : dQ_P cX9_number 0 dT_X9_number_0 := fun i => by rw [dT_X9_number]; rfl
theorem dQ_X9_number_1 : dQ_P cX9_number 16 dT_X9_number_1 := fun i => (dQ_X9_number_0 (i + 16)).trans dk_t
theorem dQ_X9_number_2 : dQ_P cX9_number 32 dT_X9_number_2 := fun i => (dQ_X9_number_1 (i + 16)).trans dk_t
theorem dQ_X9_number_3 : dQ_P cX9_number 48 dT_X9_number_3 := fun i => (dQ_X9_number_2 (i + 16)).trans dk_t
theorem dQ_X9_number_4 : dQ_P cX9_number 64 dT_X9_number_4 := fun i => (dQ_X9_number_3 (i + 16)).trans dk_t
theorem dX9_number_0 : decode cX9_number 0 = .ok (.aload_n 0, 1) := dk_42 ((dQ_X9_number_0 0).trans dk_j0)
theorem dX9_number_1 : decode cX9_number 1 = .ok (.invokevirtual 140, 3) := dk_182 ((dQ_X9_number_0 1).trans dk_j1) ((dQ_X9_number_0 2).trans dk_j2) ((dQ_X9_number_0 3).trans dk_j3) dk_vu2_0_140
theorem dX9_number_4 : decode cX9_number 4 = .ok (.ifCond .eq 16, 3) := dk_153 ((dQ_X9_number_0 4).trans dk_j4) ((dQ_X9_number_0 5).trans dk_j5) ((dQ_X9_number_0 6).trans dk_j6) dk_vs2_0_16
theorem dX9_number_7 : decode cX9_number 7 = .ok (.aload_n 0, 1) := dk_42 ((dQ_X9_number_0 7).trans dk_j7)
theorem dX9_number_8 : decode cX9_number 8 = .ok (.getfield 116, 3) := dk_180 ((dQ_X9_number_0 8).trans dk_j8) ((dQ_X9_number_0 9).trans dk_j9) ((dQ_X9_number_0 10).trans dk_j10) dk_vu2_0_116
theorem dX9_number_11 : decode cX9_number 11 = .ok (.iconst 2, 1) := dk_5 ((dQ_X9_number_0 11).trans dk_j11)
theorem dX9_number_12 : decode cX9_number 12 = .ok (.if_icmp .eq 8, 3) := dk_159 ((dQ_X9_number_0 12).trans dk_j12) ((dQ_X9_number_0 13).trans dk_j13) ((dQ_X9_number_0 14).trans dk_j14) dk_vs2_0_8
theorem dX9_number_15 : decode cX9_number 15 = .ok (.aload_n 0, 1) := dk_42 ((dQ_X9_number_0 15).trans dk_j15)
theorem dX9_number_16 : decode cX9_number 16 = .ok (.iconst 1, 1) := dk_4 ((dQ_X9_number_1 0).trans dk_j0)
theorem dX9_number_17 : decode cX9_number 17 = .ok (.invokevirtual 164, 3) := dk_182 ((dQ_X9_number_1 1).trans dk_j1) ((dQ_X9_number_1 2).trans dk_j2) ((dQ_X9_number_1 3).trans dk_j3) dk_vu2_0_164
theorem dX9_number_20 : decode cX9_number 20 = .ok (.aload_n 0, 1) := dk_42 ((dQ_X9_number_1 4).trans dk_j4)
theorem dX9_number_21 : decode cX9_number 21 = .ok (.invokevirtual 140, 3) := dk_182 ((dQ_X9_number_1 5).trans dk_j5) ((dQ_X9_number_1 6).trans dk_j6) ((dQ_X9_number_1 7).trans dk_j7) dk_vu2_0_140
theorem dX9_number_24 : decode cX9_number 24 = .ok (.ifCond .eq 23, 3) := dk_153 ((dQ_X9_number_1 8).trans dk_j8) ((dQ_X9_number_1 9).trans dk_j9) ((dQ_X9_number_1 10).trans dk_j10) dk_vs2_0_23
theorem dX9_number_27 : decode cX9_number 27 = .ok (.aload_n 0, 1) := dk_42 ((dQ_X9_number_1 11).trans dk_j11)
theorem dX9_number_28 : decode cX9_number 28 = .ok (.getfield 127, 3) := dk_180 ((dQ_X9_number_1 12).trans dk_j12) ((dQ_X9_number_1 13).trans dk_j13) ((dQ_X9_number_1 14).trans dk_j14) dk_vu2_0_127
theorem dX9_number_31 : decode cX9_number 31 = .ok (.i2l, 1) := dk_133 ((dQ_X9_number_1 15).trans dk_j15)
theorem dX9_number_32 : decode cX9_number 32 = .ok (.iload_n 1, 1) := dk_27 ((dQ_X9_number_2 0).trans dk_j0)
theorem dX9_number_33 : decode cX9_number 33 = .ok (.i2l, 1) := dk_133 ((dQ_X9_number_2 1).trans dk_j1)
theorem dX9_number_34 : decode cX9_number 34 = .ok (.iload_n 2, 1) := dk_28 ((dQ_X9_number_2 2).trans dk_j2)
theorem dX9_number_35 : decode cX9_number 35 = .ok (.i2l, 1) := dk_133 ((dQ_X9_number_2 3).trans dk_j3)
theorem dX9_number_36 : decode cX9_number 36 = .ok (.invokestatic 94, 3) := dk_184 ((dQ_X9_number_2 4).trans dk_j4) ((dQ_X9_number_2 5).trans dk_j5) ((dQ_X9_number_2 6).trans dk_j6) dk_vu2_0_94
theorem dX9_number_39 : decode cX9_number 39 = .ok (.ifCond .ne 8, 3) := dk_154 ((dQ_X9_number_2 7).trans dk_j7) ((dQ_X9_number_2 8).trans dk_j8) ((dQ_X9_number_2 9).trans dk_j9) dk_vs2_0_8
theorem dX9_number_42 : decode cX9_number 42 = .ok (.aload_n 0, 1) := dk_42 ((dQ_X9_number_2 10).trans dk_j10)
theorem dX9_number_43 : decode cX9_number 43 = .ok (.iconst 2, 1) := dk_5 ((dQ_X9_number_2 11).trans dk_j11)
theorem dX9_number_44 : decode cX9_number 44 = .ok (.invokevirtual 164, 3) := dk_182 ((dQ_X9_number_2 12).trans dk_j12) ((dQ_X9_number_2 13).trans dk_j13) ((dQ_X9_number_2 14).trans dk_j14) dk_vu2_0_164
theorem dX9_number_47 : decode cX9_number 47 = .ok (.aload_n 0, 1) := dk_42 ((dQ_X9_number_2 15).trans dk_j15)
theorem dX9_number_48 : decode cX9_number 48 = .ok (.invokevirtual 140, 3) := dk_182 ((dQ_X9_number_3 0).trans dk_j0) ((dQ_X9_number_3 1).trans dk_j1) ((dQ_X9_number_3 2).trans dk_j2) dk_vu2_0_140
theorem dX9_number_51 : decode cX9_number 51 = .ok (.ifCond .ne 5, 3) := dk_154 ((dQ_X9_number_3 3).trans dk_j3) ((dQ_X9_number_3 4).trans dk_j4) ((dQ_X9_number_3 5).trans dk_j5) dk_vs2_0_5
theorem dX9_number_54 : decode cX9_number 54 = .ok (.iconst 0, 1) := dk_3 ((dQ_X9_number_3 6).trans dk_j6)
theorem dX9_number_55 : decode cX9_number 55 = .ok (.ireturn, 1) := dk_172 ((dQ_X9_number_3 7).trans dk_j7)
theorem dX9_number_56 : decode cX9_number 56 = .ok (.aload_n 0, 1) := dk_42 ((dQ_X9_number_3 8).trans dk_j8)
theorem dX9_number_57 : decode cX9_number 57 = .ok (.getfield 127, 3) := dk_180 ((dQ_X9_number_3 9).trans dk_j9) ((dQ_X9_number_3 10).trans dk_j10) ((dQ_X9_number_3 11).trans dk_j11) dk_vu2_0_127
theorem dX9_number_60 : decode cX9_number 60 = .ok (.istore_n 3, 1) := dk_62 ((dQ_X9_number_3 12).trans dk_j12)
theorem dX9_number_61 : decode cX9_number 61 = .ok (.aload_n 0, 1) := dk_42 ((dQ_X9_number_3 13).trans dk_j13)
theorem dX9_number_62 : decode cX9_number 62 = .ok (.invokevirtual 158, 3) := dk_182 ((dQ_X9_number_3 14).trans dk_j14) ((dQ_X9_number_3 15).trans dk_j15) ((dQ_X9_number_4 0).trans dk_j0) dk_vu2_0_158
theorem dX9_number_65 : decode cX9_number 65 = .ok (.iload_n 3, 1) := dk_29 ((dQ_X9_number_4 1).trans dk_j1)
theorem dX9_number_66 : decode cX9_number 66 = .ok (.ireturn, 1) := dk_172 ((dQ_X9_number_4 2).trans dk_j2)
def dT_X9_told_0 : List UInt8 := (0x2a : UInt8) :: (0x2b : UInt8) :: (0xb6 : UInt8) :: (0x00 : UInt8) :: (0xa8 : UInt8) :: (0x2a : UInt8) :: (0x1c : UInt8) :: (0x1d : UInt8) :: (0xb6 : UInt8) :: (0x00 : UInt8) :: (0xac : UInt8) :: (0xac : UInt8) :: []
theorem dT_X9_told : cX9_told.data.toList = dT_X9_told_0 := eq_of_beq (show (cX9_told.data.toList == dT_X9_told_0) = true by decide +kernel)
theorem dQ_X9_told_0 : dQ_P cX9_told 0 dT_X9_told_0 := fun i => by rw [dT_X9_told]; rfl
theorem dX9_told_0 : decode cX9_told 0 = .ok (.aload_n 0, 1) := dk_42 ((dQ_X9_told_0 0).trans dk_j0)
theorem dX9_told_1 : decode cX9_told 1 = .ok (.aload_n 1, 1) := dk_43 ((dQ_X9_told_0 1).trans dk_j1)
theorem dk_vu2_0_168 : (0x00 : UInt8).toNat * 256 + (0xa8 : UInt8).toNat = (168 : Nat) := by decide +kernel
theorem dX9_told_2 : decode cX9_told 2 = .ok (.invokevirtual 168, 3) := dk_182 ((dQ_X9_told_0 2).trans dk_j2) ((dQ_X9_told_0 3).trans dk_j3) ((dQ_X9_told_0 4).trans dk_j4) dk_vu2_0_168
theorem dX9_told_5 : decode cX9_told 5 = .ok (.aload_n 0, 1) := dk_42 ((dQ_X9_told_0 5).trans dk_j5)
theorem dX9_told_6 : decode cX9_told 6 = .ok (.iload_n 2, 1) := dk_28 ((dQ_X9_told_0 6).trans dk_j6)
theorem dX9_told_7 : decode cX9_told 7 = .ok (.iload_n 3, 1) := dk_29 ((dQ_X9_told_0 7).trans dk_j7)
theorem dk_vu2_0_172 : (0x00 : UInt8).toNat * 256 + (0xac : UInt8).toNat = (172 : Nat) := by decide +kernel
theorem dX9_told_8 : decode cX9_told 8 = .ok (.invokevirtual 172, 3) := dk_182 ((dQ_X9_told_0 8).trans dk_j8) ((dQ_X9_told_0 9).trans dk_j9) ((dQ_X9_told_0 10).trans dk_j10) dk_vu2_0_172
theorem dX9_told_11 : decode cX9_told 11 = .ok (.ireturn, 1) := dk_172 ((dQ_X9_told_0 11).trans dk_j11)
def dT_X9_fault_1 : List UInt8 := (0x2a : UInt8) :: (0xb4 : UInt8) :: (0x00 : UInt8) :: (0x1b : UInt8) :: (0xa7 : UInt8) :: (0x00 : UInt8) :: (0x04 : UInt8) :: (0x02 : UInt8) :: (0xac : UInt8) :: []
def dT_X9_fault_0 : List UInt8 := (0x1b : UInt8) :: (0x9a : UInt8) :: (0x00 : UInt8) :: (0x0a : UInt8) :: (0x2a : UInt8) :: (0xb4 : UInt8) :: (0x00 : UInt8) :: (0x89 : UInt8) :: (0xa7 : UInt8) :: (0x00 : UInt8) :: (0x10 : UInt8) :: (0x1b : UInt8) :: (0x04 : UInt8) :: (0xa0 : UInt8) :: (0x00 : UInt8) :: (0x0a : UInt8) :: dT_X9_fault_1
theorem dT_X9_fault : cX9_fault.data.toList = dT_X9_fault_0 := eq_of_beq (show (cX9_fault.data.toList == dT_X9_fault_0) = true by decide +kernel)
theorem dQ_X9_fault_0 : dQ_P cX9_fault 0 dT_X9_fault_0 := fun i => by rw [dT_X9_fault]; rfl
theorem dQ_X9_fault_1 : dQ_P cX9_fault 16 dT_X9_fault_1 := fun i => (dQ_X9_fault_0 (i + 16)).trans dk_t
theorem dX9_fault_0 : decode cX9_fault 0 = .ok (.iload_n 1, 1) := dk_27 ((dQ_X9_fault_0 0).trans dk_j0)
theorem dk_vs2_0_10 : Reader.signed 16 ((0x00 : UInt8).toNat * 256 + (0x0a : UInt8).toNat) = (10 : Int) := by decide +kernel
theorem dX9_fault_1 : decode cX9_fault 1 = .ok (.ifCond .ne 10, 3) := dk_154 ((dQ_X9_fault_0 1).trans dk_j1) ((dQ_X9_fault_0 2).trans dk_j2) ((dQ_X9_fault_0 3).trans dk_j3) dk_vs2_0_10
theorem dX9_fault_4 : decode cX9_fault 4 = .ok (.aload_n 0, 1) := dk_42 ((dQ_X9_fault_0 4).trans dk_j4)
theorem dX9_fault_5 : decode cX9_fault 5 = .ok (.getfield 137, 3) := dk_180 ((dQ_X9_fault_0 5).trans dk_j5) ((dQ_X9_fault_0 6).trans dk_j6) ((dQ_X9_fault_0 7).trans dk_j7) dk_vu2_0_137
theorem dX9_fault_8 : decode cX9_fault 8 = .ok (.goto 16, 3) := dk_167 ((dQ_X9_fault_0 8).trans dk_j8) ((dQ_X9_fault_0 9).trans dk_j9) ((dQ_X9_fault_0 10).trans dk_j10) dk_vs2_0_16
theorem dX9_fault_11 : decode cX9_fault 11 = .ok (.iload_n 1, 1) := dk_27 ((dQ_X9_fault_0 11).trans dk_j11)
theorem dX9_fault_12 : decode cX9_fault 12 = .ok (.iconst 1, 1) := dk_4 ((dQ_X9_fault_0 12).trans dk_j12)
theorem dX9_fault_13 : decode cX9_fault 13 = .ok (.if_icmp .ne 10, 3) := dk_160 ((dQ_X9_fault_0 13).trans dk_j13) ((dQ_X9_fault_0 14).trans dk_j14) ((dQ_X9_fault_0 15).trans dk_j15) dk_vs2_0_10
theorem dX9_fault_16 : decode cX9_fault 16 = .ok (.aload_n 0, 1) := dk_42 ((dQ_X9_fault_1 0).trans dk_j0)
theorem dX9_fault_17 : decode cX9_fault 17 = .ok (.getfield 27, 3) := dk_180 ((dQ_X9_fault_1 1).trans dk_j1) ((dQ_X9_fault_1 2).trans dk_j2) ((dQ_X9_fault_1 3).trans dk_j3) dk_vu2_0_27
theorem dX9_fault_20 : decode cX9_fault 20 = .ok (.goto 4, 3) := dk_167 ((dQ_X9_fault_1 4).trans dk_j4) ((dQ_X9_fault_1 5).trans dk_j5) ((dQ_X9_fault_1 6).trans dk_j6) dk_vs2_0_4
theorem dX9_fault_23 : decode cX9_fault 23 = .ok (.iconst (-1), 1) := dk_2 ((dQ_X9_fault_1 7).trans dk_j7)
theorem dX9_fault_24 : decode cX9_fault 24 = .ok (.ireturn, 1) := dk_172 ((dQ_X9_fault_1 8).trans dk_j8)
def dT_X9_readFirst_5 : List UInt8 := (0x4f : UInt8) :: (0xb1 : UInt8) :: []
def dT_X9_readFirst_4 : List UInt8 := (0xb3 : UInt8) :: (0x4f : UInt8) :: (0x2a : UInt8) :: (0xb4 : UInt8) :: (0x00 : UInt8) :: (0x1f : UInt8) :: (0x07 : UInt8) :: (0x2a : UInt8) :: (0x12 : UInt8) :: (0xbd : UInt8) :: (0x03 : UInt8) :: (0x10 : UInt8) :: (0x0a : UInt8) :: (0xb6 : UInt8) :: (0x00 : UInt8) :: (0xb3 : UInt8) :: dT_X9_readFirst_5
def dT_X9_readFirst_3 : List UInt8 := (0xb3 : UInt8) :: (0x4f : UInt8) :: (0x2a : UInt8) :: (0xb4 : UInt8) :: (0x00 : UInt8) :: (0x1f : UInt8) :: (0x06 : UInt8) :: (0x2a : UInt8) :: (0x12 : UInt8) :: (0xbb : UInt8) :: (0x03 : UInt8) :: (0x11 : UInt8) :: (0x03 : UInt8) :: (0xe7 : UInt8) :: (0xb6 : UInt8) :: (0x00 : UInt8) :: dT_X9_readFirst_4
def dT_X9_readFirst_2 : List UInt8 := (0xb6 : UInt8) :: (0x00 : UInt8) :: (0xb3 : UInt8) :: (0x4f : UInt8) :: (0x2a : UInt8) :: (0xb4 : UInt8) :: (0x00 : UInt8) :: (0x1f : UInt8) :: (0x05 : UInt8) :: (0x2a : UInt8) :: (0x12 : UInt8) :: (0xb9 : UInt8) :: (0x03 : UInt8) :: (0x06 : UInt8) :: (0xb6 : UInt8) :: (0x00 : UInt8) :: dT_X9_readFirst_3
def dT_X9_readFirst_1 : List UInt8 := (0x1e : UInt8) :: (0xb6 : UInt8) :: (0x00 : UInt8) :: (0xb3 : UInt8) :: (0x4f : UInt8) :: (0x2a : UInt8) :: (0xb4 : UInt8) :: (0x00 : UInt8) :: (0x1f : UInt8) :: (0x04 : UInt8) :: (0x2a : UInt8) :: (0x12 : UInt8) :: (0xb7 : UInt8) :: (0x03 : UInt8) :: (0x10 : UInt8) :: (0x09 : UInt8) :: dT_X9_readFirst_2
def dT_X9_readFirst_0 : List UInt8 := (0x2a : UInt8) :: (0x12 : UInt8) :: (0xaf : UInt8) :: (0xb6 : UInt8) :: (0x00 : UInt8) :: (0xa8 : UInt8) :: (0x2a : UInt8) :: (0xb4 : UInt8) :: (0x00 : UInt8) :: (0x1f : UInt8) :: (0x03 : UInt8) :: (0x2a : UInt8) :: (0x12 : UInt8) :: (0xb1 : UInt8) :: (0x04 : UInt8) :: (0x10 : UInt8) :: dT_X9_readFirst_1
theorem dT_X9_readFirst : cX9_readFirst.data.toList = dT_X9_readFirst_0 := eq_of_beq (show (cX9_readFirst.data.toList == dT_X9_readFirst_0) = true by decide +kernel)
theorem dQ_X9_readFirst_0 : dQ_P cX9_readFirst 0 dT_X9_readFirst_0 := fun i => by rw [dT_X9_readFirst]; rfl
theorem dQ_X9_readFirst_1 : dQ_P cX9_readFirst 16 dT_X9_readFirst_1 := fun i => (dQ_X9_readFirst_0 (i + 16)).trans dk_t
theorem dQ_X9_readFirst_2 : dQ_P cX9_readFirst 32 dT_X9_readFirst_2 := fun i => (dQ_X9_readFirst_1 (i + 16)).trans dk_t
theorem dQ_X9_readFirst_3 : dQ_P cX9_readFirst 48 dT_X9_readFirst_3 := fun i => (dQ_X9_readFirst_2 (i + 16)).trans dk_t
theorem dQ_X9_readFirst_4 : dQ_P cX9_readFirst 64 dT_X9_readFirst_4 := fun i => (dQ_X9_readFirst_3 (i + 16)).trans dk_t
theorem dQ_X9_readFirst_5 : dQ_P cX9_readFirst 80 dT_X9_readFirst_5 := fun i => (dQ_X9_readFirst_4 (i + 16)).trans dk_t
theorem dX9_readFirst_0 : decode cX9_readFirst 0 = .ok (.aload_n 0, 1) := dk_42 ((dQ_X9_readFirst_0 0).trans dk_j0)
theorem dk_vu1_175 : (0xaf : UInt8).toNat = (175 : Nat) := by decide +kernel
theorem dX9_readFirst_1 : decode cX9_readFirst 1 = .ok (.ldc 175, 2) := dk_18 ((dQ_X9_readFirst_0 1).trans dk_j1) ((dQ_X9_readFirst_0 2).trans dk_j2) dk_vu1_175
theorem dX9_readFirst_3 : decode cX9_readFirst 3 = .ok (.invokevirtual 168, 3) := dk_182 ((dQ_X9_readFirst_0 3).trans dk_j3) ((dQ_X9_readFirst_0 4).trans dk_j4) ((dQ_X9_readFirst_0 5).trans dk_j5) dk_vu2_0_168
theorem dX9_readFirst_6 : decode cX9_readFirst 6 = .ok (.aload_n 0, 1) := dk_42 ((dQ_X9_readFirst_0 6).trans dk_j6)
theorem dX9_readFirst_7 : decode cX9_readFirst 7 = .ok (.getfield 31, 3) := dk_180 ((dQ_X9_readFirst_0 7).trans dk_j7) ((dQ_X9_readFirst_0 8).trans dk_j8) ((dQ_X9_readFirst_0 9).trans dk_j9) dk_vu2_0_31
theorem dX9_readFirst_10 : decode cX9_readFirst 10 = .ok (.iconst 0, 1) := dk_3 ((dQ_X9_readFirst_0 10).trans dk_j10)
theorem dX9_readFirst_11 : decode cX9_readFirst 11 = .ok (.aload_n 0, 1) := dk_42 ((dQ_X9_readFirst_0 11).trans dk_j11)
theorem dk_vu1_177 : (0xb1 : UInt8).toNat = (177 : Nat) := by decide +kernel
theorem dX9_readFirst_12 : decode cX9_readFirst 12 = .ok (.ldc 177, 2) := dk_18 ((dQ_X9_readFirst_0 12).trans dk_j12) ((dQ_X9_readFirst_0 13).trans dk_j13) dk_vu1_177
theorem dX9_readFirst_14 : decode cX9_readFirst 14 = .ok (.iconst 1, 1) := dk_4 ((dQ_X9_readFirst_0 14).trans dk_j14)
theorem dX9_readFirst_15 : decode cX9_readFirst 15 = .ok (.bipush 30, 2) := dk_16 ((dQ_X9_readFirst_0 15).trans dk_j15) ((dQ_X9_readFirst_1 0).trans dk_j0) dk_vs1_30
theorem dk_vu2_0_179 : (0x00 : UInt8).toNat * 256 + (0xb3 : UInt8).toNat = (179 : Nat) := by decide +kernel
theorem dX9_readFirst_17 : decode cX9_readFirst 17 = .ok (.invokevirtual 179, 3) := dk_182 ((dQ_X9_readFirst_1 1).trans dk_j1) ((dQ_X9_readFirst_1 2).trans dk_j2) ((dQ_X9_readFirst_1 3).trans dk_j3) dk_vu2_0_179
theorem dX9_readFirst_20 : decode cX9_readFirst 20 = .ok (.iastore, 1) := dk_79 ((dQ_X9_readFirst_1 4).trans dk_j4)
theorem dX9_readFirst_21 : decode cX9_readFirst 21 = .ok (.aload_n 0, 1) := dk_42 ((dQ_X9_readFirst_1 5).trans dk_j5)
theorem dX9_readFirst_22 : decode cX9_readFirst 22 = .ok (.getfield 31, 3) := dk_180 ((dQ_X9_readFirst_1 6).trans dk_j6) ((dQ_X9_readFirst_1 7).trans dk_j7) ((dQ_X9_readFirst_1 8).trans dk_j8) dk_vu2_0_31
theorem dX9_readFirst_25 : decode cX9_readFirst 25 = .ok (.iconst 1, 1) := dk_4 ((dQ_X9_readFirst_1 9).trans dk_j9)
theorem dX9_readFirst_26 : decode cX9_readFirst 26 = .ok (.aload_n 0, 1) := dk_42 ((dQ_X9_readFirst_1 10).trans dk_j10)
theorem dk_vu1_183 : (0xb7 : UInt8).toNat = (183 : Nat) := by decide +kernel
theorem dX9_readFirst_27 : decode cX9_readFirst 27 = .ok (.ldc 183, 2) := dk_18 ((dQ_X9_readFirst_1 11).trans dk_j11) ((dQ_X9_readFirst_1 12).trans dk_j12) dk_vu1_183
theorem dX9_readFirst_29 : decode cX9_readFirst 29 = .ok (.iconst 0, 1) := dk_3 ((dQ_X9_readFirst_1 13).trans dk_j13)
theorem dk_vs1_9 : Reader.signed 8 (0x09 : UInt8).toNat = (9 : Int) := by decide +kernel
theorem dX9_readFirst_30 : decode cX9_readFirst 30 = .ok (.bipush 9, 2) := dk_16 ((dQ_X9_readFirst_1 14).trans dk_j14) ((dQ_X9_readFirst_1 15).trans dk_j15) dk_vs1_9
theorem dX9_readFirst_32 : decode cX9_readFirst 32 = .ok (.invokevirtual 179, 3) := dk_182 ((dQ_X9_readFirst_2 0).trans dk_j0) ((dQ_X9_readFirst_2 1).trans dk_j1) ((dQ_X9_readFirst_2 2).trans dk_j2) dk_vu2_0_179
theorem dX9_readFirst_35 : decode cX9_readFirst 35 = .ok (.iastore, 1) := dk_79 ((dQ_X9_readFirst_2 3).trans dk_j3)
theorem dX9_readFirst_36 : decode cX9_readFirst 36 = .ok (.aload_n 0, 1) := dk_42 ((dQ_X9_readFirst_2 4).trans dk_j4)
theorem dX9_readFirst_37 : decode cX9_readFirst 37 = .ok (.getfield 31, 3) := dk_180 ((dQ_X9_readFirst_2 5).trans dk_j5) ((dQ_X9_readFirst_2 6).trans dk_j6) ((dQ_X9_readFirst_2 7).trans dk_j7) dk_vu2_0_31
theorem dX9_readFirst_40 : decode cX9_readFirst 40 = .ok (.iconst 2, 1) := dk_5 ((dQ_X9_readFirst_2 8).trans dk_j8)
theorem dX9_readFirst_41 : decode cX9_readFirst 41 = .ok (.aload_n 0, 1) := dk_42 ((dQ_X9_readFirst_2 9).trans dk_j9)
theorem dk_vu1_185 : (0xb9 : UInt8).toNat = (185 : Nat) := by decide +kernel
theorem dX9_readFirst_42 : decode cX9_readFirst 42 = .ok (.ldc 185, 2) := dk_18 ((dQ_X9_readFirst_2 10).trans dk_j10) ((dQ_X9_readFirst_2 11).trans dk_j11) dk_vu1_185
theorem dX9_readFirst_44 : decode cX9_readFirst 44 = .ok (.iconst 0, 1) := dk_3 ((dQ_X9_readFirst_2 12).trans dk_j12)
theorem dX9_readFirst_45 : decode cX9_readFirst 45 = .ok (.iconst 3, 1) := dk_6 ((dQ_X9_readFirst_2 13).trans dk_j13)
theorem dX9_readFirst_46 : decode cX9_readFirst 46 = .ok (.invokevirtual 179, 3) := dk_182 ((dQ_X9_readFirst_2 14).trans dk_j14) ((dQ_X9_readFirst_2 15).trans dk_j15) ((dQ_X9_readFirst_3 0).trans dk_j0) dk_vu2_0_179
theorem dX9_readFirst_49 : decode cX9_readFirst 49 = .ok (.iastore, 1) := dk_79 ((dQ_X9_readFirst_3 1).trans dk_j1)
theorem dX9_readFirst_50 : decode cX9_readFirst 50 = .ok (.aload_n 0, 1) := dk_42 ((dQ_X9_readFirst_3 2).trans dk_j2)
theorem dX9_readFirst_51 : decode cX9_readFirst 51 = .ok (.getfield 31, 3) := dk_180 ((dQ_X9_readFirst_3 3).trans dk_j3) ((dQ_X9_readFirst_3 4).trans dk_j4) ((dQ_X9_readFirst_3 5).trans dk_j5) dk_vu2_0_31
theorem dX9_readFirst_54 : decode cX9_readFirst 54 = .ok (.iconst 3, 1) := dk_6 ((dQ_X9_readFirst_3 6).trans dk_j6)
theorem dX9_readFirst_55 : decode cX9_readFirst 55 = .ok (.aload_n 0, 1) := dk_42 ((dQ_X9_readFirst_3 7).trans dk_j7)
theorem dk_vu1_187 : (0xbb : UInt8).toNat = (187 : Nat) := by decide +kernel
theorem dX9_readFirst_56 : decode cX9_readFirst 56 = .ok (.ldc 187, 2) := dk_18 ((dQ_X9_readFirst_3 8).trans dk_j8) ((dQ_X9_readFirst_3 9).trans dk_j9) dk_vu1_187
theorem dX9_readFirst_58 : decode cX9_readFirst 58 = .ok (.iconst 0, 1) := dk_3 ((dQ_X9_readFirst_3 10).trans dk_j10)
theorem dk_vs2_3_231 : Reader.signed 16 ((0x03 : UInt8).toNat * 256 + (0xe7 : UInt8).toNat) = (999 : Int) := by decide +kernel
theorem dX9_readFirst_59 : decode cX9_readFirst 59 = .ok (.sipush 999, 3) := dk_17 ((dQ_X9_readFirst_3 11).trans dk_j11) ((dQ_X9_readFirst_3 12).trans dk_j12) ((dQ_X9_readFirst_3 13).trans dk_j13) dk_vs2_3_231
theorem dX9_readFirst_62 : decode cX9_readFirst 62 = .ok (.invokevirtual 179, 3) := dk_182 ((dQ_X9_readFirst_3 14).trans dk_j14) ((dQ_X9_readFirst_3 15).trans dk_j15) ((dQ_X9_readFirst_4 0).trans dk_j0) dk_vu2_0_179
theorem dX9_readFirst_65 : decode cX9_readFirst 65 = .ok (.iastore, 1) := dk_79 ((dQ_X9_readFirst_4 1).trans dk_j1)
theorem dX9_readFirst_66 : decode cX9_readFirst 66 = .ok (.aload_n 0, 1) := dk_42 ((dQ_X9_readFirst_4 2).trans dk_j2)
theorem dX9_readFirst_67 : decode cX9_readFirst 67 = .ok (.getfield 31, 3) := dk_180 ((dQ_X9_readFirst_4 3).trans dk_j3) ((dQ_X9_readFirst_4 4).trans dk_j4) ((dQ_X9_readFirst_4 5).trans dk_j5) dk_vu2_0_31
theorem dX9_readFirst_70 : decode cX9_readFirst 70 = .ok (.iconst 4, 1) := dk_7 ((dQ_X9_readFirst_4 6).trans dk_j6)
theorem dX9_readFirst_71 : decode cX9_readFirst 71 = .ok (.aload_n 0, 1) := dk_42 ((dQ_X9_readFirst_4 7).trans dk_j7)
theorem dk_vu1_189 : (0xbd : UInt8).toNat = (189 : Nat) := by decide +kernel
theorem dX9_readFirst_72 : decode cX9_readFirst 72 = .ok (.ldc 189, 2) := dk_18 ((dQ_X9_readFirst_4 8).trans dk_j8) ((dQ_X9_readFirst_4 9).trans dk_j9) dk_vu1_189
theorem dX9_readFirst_74 : decode cX9_readFirst 74 = .ok (.iconst 0, 1) := dk_3 ((dQ_X9_readFirst_4 10).trans dk_j10)
theorem dX9_readFirst_75 : decode cX9_readFirst 75 = .ok (.bipush 10, 2) := dk_16 ((dQ_X9_readFirst_4 11).trans dk_j11) ((dQ_X9_readFirst_4 12).trans dk_j12) dk_vs1_10
theorem dX9_readFirst_77 : decode cX9_readFirst 77 = .ok (.invokevirtual 179, 3) := dk_182 ((dQ_X9_readFirst_4 13).trans dk_j13) ((dQ_X9_readFirst_4 14).trans dk_j14) ((dQ_X9_readFirst_4 15).trans dk_j15) dk_vu2_0_179
theorem dX9_readFirst_80 : decode cX9_readFirst 80 = .ok (.iastore, 1) := dk_79 ((dQ_X9_readFirst_5 0).trans dk_j0)
theorem dX9_readFirst_81 : decode cX9_readFirst 81 = .ok (.return_, 1) := dk_177 ((dQ_X9_readFirst_5 1).trans dk_j1)
def dT_X9_readNet_5 : List UInt8 := (0x4f : UInt8) :: (0x2a : UInt8) :: (0xb4 : UInt8) :: (0x00 : UInt8) :: (0x1f : UInt8) :: (0x10 : UInt8) :: (0x07 : UInt8) :: (0x5c : UInt8) :: (0x2e : UInt8) :: (0x04 : UInt8) :: (0x60 : UInt8) :: (0x4f : UInt8) :: (0xb1 : UInt8) :: []
def dT_X9_readNet_4 : List UInt8 := (0xb6 : UInt8) :: (0x00 : UInt8) :: (0xa4 : UInt8) :: (0x2a : UInt8) :: (0xb4 : UInt8) :: (0x00 : UInt8) :: (0x1f : UInt8) :: (0x1b : UInt8) :: (0x04 : UInt8) :: (0x60 : UInt8) :: (0x2a : UInt8) :: (0x03 : UInt8) :: (0x1c : UInt8) :: (0xb6 : UInt8) :: (0x00 : UInt8) :: (0xac : UInt8) :: dT_X9_readNet_5
def dT_X9_readNet_3 : List UInt8 := (0x15 : UInt8) :: (0x2a : UInt8) :: (0xb4 : UInt8) :: (0x00 : UInt8) :: (0x7f : UInt8) :: (0x2a : UInt8) :: (0xb4 : UInt8) :: (0x00 : UInt8) :: (0x1f : UInt8) :: (0x1b : UInt8) :: (0x2e : UInt8) :: (0xa0 : UInt8) :: (0x00 : UInt8) :: (0x08 : UInt8) :: (0x2a : UInt8) :: (0x05 : UInt8) :: dT_X9_readNet_4
def dT_X9_readNet_2 : List UInt8 := (0xac : UInt8) :: (0x4f : UInt8) :: (0x2a : UInt8) :: (0xb6 : UInt8) :: (0x00 : UInt8) :: (0x8c : UInt8) :: (0x99 : UInt8) :: (0x00 : UInt8) :: (0x1d : UInt8) :: (0x2a : UInt8) :: (0xb4 : UInt8) :: (0x00 : UInt8) :: (0x74 : UInt8) :: (0x05 : UInt8) :: (0xa0 : UInt8) :: (0x00 : UInt8) :: dT_X9_readNet_3
def dT_X9_readNet_1 : List UInt8 := (0x1f : UInt8) :: (0x08 : UInt8) :: (0x2e : UInt8) :: (0x04 : UInt8) :: (0x64 : UInt8) :: (0x3d : UInt8) :: (0x2a : UInt8) :: (0xb4 : UInt8) :: (0x00 : UInt8) :: (0x1f : UInt8) :: (0x1b : UInt8) :: (0x2a : UInt8) :: (0x03 : UInt8) :: (0x1c : UInt8) :: (0xb6 : UInt8) :: (0x00 : UInt8) :: dT_X9_readNet_2
def dT_X9_readNet_0 : List UInt8 := (0x10 : UInt8) :: (0x21 : UInt8) :: (0x05 : UInt8) :: (0x2a : UInt8) :: (0xb4 : UInt8) :: (0x00 : UInt8) :: (0x1f : UInt8) :: (0x10 : UInt8) :: (0x07 : UInt8) :: (0x2e : UInt8) :: (0x68 : UInt8) :: (0x60 : UInt8) :: (0x3c : UInt8) :: (0x2a : UInt8) :: (0xb4 : UInt8) :: (0x00 : UInt8) :: dT_X9_readNet_1
theorem dT_X9_readNet : cX9_readNet.data.toList = dT_X9_readNet_0 := eq_of_beq (show (cX9_readNet.data.toList == dT_X9_readNet_0) = true by decide +kernel)
theorem dQ_X9_readNet_0 : dQ_P cX9_readNet 0 dT_X9_readNet_0 := fun i => by rw [dT_X9_readNet]; rfl
theorem dQ_X9_readNet_1 : dQ_P cX9_readNet 16 dT_X9_readNet_1 := fun i => (dQ_X9_readNet_0 (i + 16)).trans dk_t
theorem dQ_X9_readNet_2 : dQ_P cX9_readNet 32 dT_X9_readNet_2 := fun i => (dQ_X9_readNet_1 (i + 16)).trans dk_t
theorem dQ_X9_readNet_3 : dQ_P cX9_readNet 48 dT_X9_readNet_3 := fun i => (dQ_X9_readNet_2 (i + 16)).trans dk_t
theorem dQ_X9_readNet_4 : dQ_P cX9_readNet 64 dT_X9_readNet_4 := fun i => (dQ_X9_readNet_3 (i + 16)).trans dk_t
theorem dQ_X9_readNet_5 : dQ_P cX9_readNet 80 dT_X9_readNet_5 := fun i => (dQ_X9_readNet_4 (i + 16)).trans dk_t
theorem dk_vs1_33 : Reader.signed 8 (0x21 : UInt8).toNat = (33 : Int) := by decide +kernel
theorem dX9_readNet_0 : decode cX9_readNet 0 = .ok (.bipush 33, 2) := dk_16 ((dQ_X9_readNet_0 0).trans dk_j0) ((dQ_X9_readNet_0 1).trans dk_j1) dk_vs1_33
theorem dX9_readNet_2 : decode cX9_readNet 2 = .ok (.iconst 2, 1) := dk_5 ((dQ_X9_readNet_0 2).trans dk_j2)
theorem dX9_readNet_3 : decode cX9_readNet 3 = .ok (.aload_n 0, 1) := dk_42 ((dQ_X9_readNet_0 3).trans dk_j3)
theorem dX9_readNet_4 : decode cX9_readNet 4 = .ok (.getfield 31, 3) := dk_180 ((dQ_X9_readNet_0 4).trans dk_j4) ((dQ_X9_readNet_0 5).trans dk_j5) ((dQ_X9_readNet_0 6).trans dk_j6) dk_vu2_0_31
theorem dk_vs1_7 : Reader.signed 8 (0x07 : UInt8).toNat = (7 : Int) := by decide +kernel
theorem dX9_readNet_7 : decode cX9_readNet 7 = .ok (.bipush 7, 2) := dk_16 ((dQ_X9_readNet_0 7).trans dk_j7) ((dQ_X9_readNet_0 8).trans dk_j8) dk_vs1_7
theorem dX9_readNet_9 : decode cX9_readNet 9 = .ok (.iaload, 1) := dk_46 ((dQ_X9_readNet_0 9).trans dk_j9)
theorem dX9_readNet_10 : decode cX9_readNet 10 = .ok (.imul, 1) := dk_104 ((dQ_X9_readNet_0 10).trans dk_j10)
theorem dX9_readNet_11 : decode cX9_readNet 11 = .ok (.iadd, 1) := dk_96 ((dQ_X9_readNet_0 11).trans dk_j11)
theorem dX9_readNet_12 : decode cX9_readNet 12 = .ok (.istore_n 1, 1) := dk_60 ((dQ_X9_readNet_0 12).trans dk_j12)
theorem dX9_readNet_13 : decode cX9_readNet 13 = .ok (.aload_n 0, 1) := dk_42 ((dQ_X9_readNet_0 13).trans dk_j13)
theorem dX9_readNet_14 : decode cX9_readNet 14 = .ok (.getfield 31, 3) := dk_180 ((dQ_X9_readNet_0 14).trans dk_j14) ((dQ_X9_readNet_0 15).trans dk_j15) ((dQ_X9_readNet_1 0).trans dk_j0) dk_vu2_0_31
theorem dX9_readNet_17 : decode cX9_readNet 17 = .ok (.iconst 5, 1) := dk_8 ((dQ_X9_readNet_1 1).trans dk_j1)
theorem dX9_readNet_18 : decode cX9_readNet 18 = .ok (.iaload, 1) := dk_46 ((dQ_X9_readNet_1 2).trans dk_j2)
theorem dX9_readNet_19 : decode cX9_readNet 19 = .ok (.iconst 1, 1) := dk_4 ((dQ_X9_readNet_1 3).trans dk_j3)
theorem dX9_readNet_20 : decode cX9_readNet 20 = .ok (.isub, 1) := dk_100 ((dQ_X9_readNet_1 4).trans dk_j4)
theorem dX9_readNet_21 : decode cX9_readNet 21 = .ok (.istore_n 2, 1) := dk_61 ((dQ_X9_readNet_1 5).trans dk_j5)
theorem dX9_readNet_22 : decode cX9_readNet 22 = .ok (.aload_n 0, 1) := dk_42 ((dQ_X9_readNet_1 6).trans dk_j6)
theorem dX9_readNet_23 : decode cX9_readNet 23 = .ok (.getfield 31, 3) := dk_180 ((dQ_X9_readNet_1 7).trans dk_j7) ((dQ_X9_readNet_1 8).trans dk_j8) ((dQ_X9_readNet_1 9).trans dk_j9) dk_vu2_0_31
theorem dX9_readNet_26 : decode cX9_readNet 26 = .ok (.iload_n 1, 1) := dk_27 ((dQ_X9_readNet_1 10).trans dk_j10)
theorem dX9_readNet_27 : decode cX9_readNet 27 = .ok (.aload_n 0, 1) := dk_42 ((dQ_X9_readNet_1 11).trans dk_j11)
theorem dX9_readNet_28 : decode cX9_readNet 28 = .ok (.iconst 0, 1) := dk_3 ((dQ_X9_readNet_1 12).trans dk_j12)
theorem dX9_readNet_29 : decode cX9_readNet 29 = .ok (.iload_n 2, 1) := dk_28 ((dQ_X9_readNet_1 13).trans dk_j13)
theorem dX9_readNet_30 : decode cX9_readNet 30 = .ok (.invokevirtual 172, 3) := dk_182 ((dQ_X9_readNet_1 14).trans dk_j14) ((dQ_X9_readNet_1 15).trans dk_j15) ((dQ_X9_readNet_2 0).trans dk_j0) dk_vu2_0_172
theorem dX9_readNet_33 : decode cX9_readNet 33 = .ok (.iastore, 1) := dk_79 ((dQ_X9_readNet_2 1).trans dk_j1)
theorem dX9_readNet_34 : decode cX9_readNet 34 = .ok (.aload_n 0, 1) := dk_42 ((dQ_X9_readNet_2 2).trans dk_j2)
theorem dX9_readNet_35 : decode cX9_readNet 35 = .ok (.invokevirtual 140, 3) := dk_182 ((dQ_X9_readNet_2 3).trans dk_j3) ((dQ_X9_readNet_2 4).trans dk_j4) ((dQ_X9_readNet_2 5).trans dk_j5) dk_vu2_0_140
theorem dk_vs2_0_29 : Reader.signed 16 ((0x00 : UInt8).toNat * 256 + (0x1d : UInt8).toNat) = (29 : Int) := by decide +kernel
theorem dX9_readNet_38 : decode cX9_readNet 38 = .ok (.ifCond .eq 29, 3) := dk_153 ((dQ_X9_readNet_2 6).trans dk_j6) ((dQ_X9_readNet_2 7).trans dk_j7) ((dQ_X9_readNet_2 8).trans dk_j8) dk_vs2_0_29
theorem dX9_readNet_41 : decode cX9_readNet 41 = .ok (.aload_n 0, 1) := dk_42 ((dQ_X9_readNet_2 9).trans dk_j9)
theorem dX9_readNet_42 : decode cX9_readNet 42 = .ok (.getfield 116, 3) := dk_180 ((dQ_X9_readNet_2 10).trans dk_j10) ((dQ_X9_readNet_2 11).trans dk_j11) ((dQ_X9_readNet_2 12).trans dk_j12) dk_vu2_0_116
theorem dX9_readNet_45 : decode cX9_readNet 45 = .ok (.iconst 2, 1) := dk_5 ((dQ_X9_readNet_2 13).trans dk_j13)
theorem dk_vs2_0_21 : Reader.signed 16 ((0x00 : UInt8).toNat * 256 + (0x15 : UInt8).toNat) = (21 : Int) := by decide +kernel
theorem dX9_readNet_46 : decode cX9_readNet 46 = .ok (.if_icmp .ne 21, 3) := dk_160 ((dQ_X9_readNet_2 14).trans dk_j14) ((dQ_X9_readNet_2 15).trans dk_j15) ((dQ_X9_readNet_3 0).trans dk_j0) dk_vs2_0_21
theorem dX9_readNet_49 : decode cX9_readNet 49 = .ok (.aload_n 0, 1) := dk_42 ((dQ_X9_readNet_3 1).trans dk_j1)
theorem dX9_readNet_50 : decode cX9_readNet 50 = .ok (.getfield 127, 3) := dk_180 ((dQ_X9_readNet_3 2).trans dk_j2) ((dQ_X9_readNet_3 3).trans dk_j3) ((dQ_X9_readNet_3 4).trans dk_j4) dk_vu2_0_127
theorem dX9_readNet_53 : decode cX9_readNet 53 = .ok (.aload_n 0, 1) := dk_42 ((dQ_X9_readNet_3 5).trans dk_j5)
theorem dX9_readNet_54 : decode cX9_readNet 54 = .ok (.getfield 31, 3) := dk_180 ((dQ_X9_readNet_3 6).trans dk_j6) ((dQ_X9_readNet_3 7).trans dk_j7) ((dQ_X9_readNet_3 8).trans dk_j8) dk_vu2_0_31
theorem dX9_readNet_57 : decode cX9_readNet 57 = .ok (.iload_n 1, 1) := dk_27 ((dQ_X9_readNet_3 9).trans dk_j9)
theorem dX9_readNet_58 : decode cX9_readNet 58 = .ok (.iaload, 1) := dk_46 ((dQ_X9_readNet_3 10).trans dk_j10)
theorem dX9_readNet_59 : decode cX9_readNet 59 = .ok (.if_icmp .ne 8, 3) := dk_160 ((dQ_X9_readNet_3 11).trans dk_j11) ((dQ_X9_readNet_3 12).trans dk_j12) ((dQ_X9_readNet_3 13).trans dk_j13) dk_vs2_0_8
theorem dX9_readNet_62 : decode cX9_readNet 62 = .ok (.aload_n 0, 1) := dk_42 ((dQ_X9_readNet_3 14).trans dk_j14)
theorem dX9_readNet_63 : decode cX9_readNet 63 = .ok (.iconst 2, 1) := dk_5 ((dQ_X9_readNet_3 15).trans dk_j15)
theorem dX9_readNet_64 : decode cX9_readNet 64 = .ok (.invokevirtual 164, 3) := dk_182 ((dQ_X9_readNet_4 0).trans dk_j0) ((dQ_X9_readNet_4 1).trans dk_j1) ((dQ_X9_readNet_4 2).trans dk_j2) dk_vu2_0_164
theorem dX9_readNet_67 : decode cX9_readNet 67 = .ok (.aload_n 0, 1) := dk_42 ((dQ_X9_readNet_4 3).trans dk_j3)
theorem dX9_readNet_68 : decode cX9_readNet 68 = .ok (.getfield 31, 3) := dk_180 ((dQ_X9_readNet_4 4).trans dk_j4) ((dQ_X9_readNet_4 5).trans dk_j5) ((dQ_X9_readNet_4 6).trans dk_j6) dk_vu2_0_31
theorem dX9_readNet_71 : decode cX9_readNet 71 = .ok (.iload_n 1, 1) := dk_27 ((dQ_X9_readNet_4 7).trans dk_j7)
theorem dX9_readNet_72 : decode cX9_readNet 72 = .ok (.iconst 1, 1) := dk_4 ((dQ_X9_readNet_4 8).trans dk_j8)
theorem dX9_readNet_73 : decode cX9_readNet 73 = .ok (.iadd, 1) := dk_96 ((dQ_X9_readNet_4 9).trans dk_j9)
theorem dX9_readNet_74 : decode cX9_readNet 74 = .ok (.aload_n 0, 1) := dk_42 ((dQ_X9_readNet_4 10).trans dk_j10)
theorem dX9_readNet_75 : decode cX9_readNet 75 = .ok (.iconst 0, 1) := dk_3 ((dQ_X9_readNet_4 11).trans dk_j11)
theorem dX9_readNet_76 : decode cX9_readNet 76 = .ok (.iload_n 2, 1) := dk_28 ((dQ_X9_readNet_4 12).trans dk_j12)
theorem dX9_readNet_77 : decode cX9_readNet 77 = .ok (.invokevirtual 172, 3) := dk_182 ((dQ_X9_readNet_4 13).trans dk_j13) ((dQ_X9_readNet_4 14).trans dk_j14) ((dQ_X9_readNet_4 15).trans dk_j15) dk_vu2_0_172
theorem dX9_readNet_80 : decode cX9_readNet 80 = .ok (.iastore, 1) := dk_79 ((dQ_X9_readNet_5 0).trans dk_j0)
theorem dX9_readNet_81 : decode cX9_readNet 81 = .ok (.aload_n 0, 1) := dk_42 ((dQ_X9_readNet_5 1).trans dk_j1)
theorem dX9_readNet_82 : decode cX9_readNet 82 = .ok (.getfield 31, 3) := dk_180 ((dQ_X9_readNet_5 2).trans dk_j2) ((dQ_X9_readNet_5 3).trans dk_j3) ((dQ_X9_readNet_5 4).trans dk_j4) dk_vu2_0_31
theorem dX9_readNet_85 : decode cX9_readNet 85 = .ok (.bipush 7, 2) := dk_16 ((dQ_X9_readNet_5 5).trans dk_j5) ((dQ_X9_readNet_5 6).trans dk_j6) dk_vs1_7
theorem dX9_readNet_87 : decode cX9_readNet 87 = .ok (.dup2, 1) := dk_92 ((dQ_X9_readNet_5 7).trans dk_j7)
theorem dX9_readNet_88 : decode cX9_readNet 88 = .ok (.iaload, 1) := dk_46 ((dQ_X9_readNet_5 8).trans dk_j8)
theorem dX9_readNet_89 : decode cX9_readNet 89 = .ok (.iconst 1, 1) := dk_4 ((dQ_X9_readNet_5 9).trans dk_j9)
theorem dX9_readNet_90 : decode cX9_readNet 90 = .ok (.iadd, 1) := dk_96 ((dQ_X9_readNet_5 10).trans dk_j10)
theorem dX9_readNet_91 : decode cX9_readNet 91 = .ok (.iastore, 1) := dk_79 ((dQ_X9_readNet_5 11).trans dk_j11)
theorem dX9_readNet_92 : decode cX9_readNet 92 = .ok (.return_, 1) := dk_177 ((dQ_X9_readNet_5 12).trans dk_j12)
def dT_X9_readPolicy_7 : List UInt8 := (0x1f : UInt8) :: (0x10 : UInt8) :: (0x08 : UInt8) :: (0x5c : UInt8) :: (0x2e : UInt8) :: (0x04 : UInt8) :: (0x60 : UInt8) :: (0x4f : UInt8) :: (0xb1 : UInt8) :: []
def dT_X9_readPolicy_6 : List UInt8 := (0x1b : UInt8) :: (0x07 : UInt8) :: (0x60 : UInt8) :: (0x2a : UInt8) :: (0x12 : UInt8) :: (0xc4 : UInt8) :: (0x03 : UInt8) :: (0x10 : UInt8) :: (0x63 : UInt8) :: (0xb6 : UInt8) :: (0x00 : UInt8) :: (0xb3 : UInt8) :: (0x4f : UInt8) :: (0x2a : UInt8) :: (0xb4 : UInt8) :: (0x00 : UInt8) :: dT_X9_readPolicy_7
def dT_X9_readPolicy_5 : List UInt8 := (0x06 : UInt8) :: (0x60 : UInt8) :: (0x2a : UInt8) :: (0x12 : UInt8) :: (0xc2 : UInt8) :: (0x04 : UInt8) :: (0x10 : UInt8) :: (0x63 : UInt8) :: (0xb6 : UInt8) :: (0x00 : UInt8) :: (0xb3 : UInt8) :: (0x4f : UInt8) :: (0x2a : UInt8) :: (0xb4 : UInt8) :: (0x00 : UInt8) :: (0x1f : UInt8) :: dT_X9_readPolicy_6
def dT_X9_readPolicy_4 : List UInt8 := (0x1f : UInt8) :: (0x1b : UInt8) :: (0x04 : UInt8) :: (0x60 : UInt8) :: (0x2e : UInt8) :: (0x10 : UInt8) :: (0x1d : UInt8) :: (0xb6 : UInt8) :: (0x00 : UInt8) :: (0xb3 : UInt8) :: (0x4f : UInt8) :: (0x2a : UInt8) :: (0xb4 : UInt8) :: (0x00 : UInt8) :: (0x1f : UInt8) :: (0x1b : UInt8) :: dT_X9_readPolicy_5
def dT_X9_readPolicy_3 : List UInt8 := (0x00 : UInt8) :: (0xb3 : UInt8) :: (0x4f : UInt8) :: (0x2a : UInt8) :: (0xb4 : UInt8) :: (0x00 : UInt8) :: (0x1f : UInt8) :: (0x1b : UInt8) :: (0x05 : UInt8) :: (0x60 : UInt8) :: (0x2a : UInt8) :: (0x12 : UInt8) :: (0xc0 : UInt8) :: (0x2a : UInt8) :: (0xb4 : UInt8) :: (0x00 : UInt8) :: dT_X9_readPolicy_4
def dT_X9_readPolicy_2 : List UInt8 := (0xac : UInt8) :: (0x4f : UInt8) :: (0x2a : UInt8) :: (0xb4 : UInt8) :: (0x00 : UInt8) :: (0x1f : UInt8) :: (0x1b : UInt8) :: (0x04 : UInt8) :: (0x60 : UInt8) :: (0x2a : UInt8) :: (0x12 : UInt8) :: (0xbf : UInt8) :: (0x03 : UInt8) :: (0x10 : UInt8) :: (0x1d : UInt8) :: (0xb6 : UInt8) :: dT_X9_readPolicy_3
def dT_X9_readPolicy_1 : List UInt8 := (0x1f : UInt8) :: (0x1b : UInt8) :: (0x03 : UInt8) :: (0x60 : UInt8) :: (0x2a : UInt8) :: (0x03 : UInt8) :: (0x2a : UInt8) :: (0xb4 : UInt8) :: (0x00 : UInt8) :: (0x1f : UInt8) :: (0x08 : UInt8) :: (0x2e : UInt8) :: (0x04 : UInt8) :: (0x64 : UInt8) :: (0xb6 : UInt8) :: (0x00 : UInt8) :: dT_X9_readPolicy_2
def dT_X9_readPolicy_0 : List UInt8 := (0x10 : UInt8) :: (0x31 : UInt8) :: (0x08 : UInt8) :: (0x2a : UInt8) :: (0xb4 : UInt8) :: (0x00 : UInt8) :: (0x1f : UInt8) :: (0x10 : UInt8) :: (0x08 : UInt8) :: (0x2e : UInt8) :: (0x68 : UInt8) :: (0x60 : UInt8) :: (0x3c : UInt8) :: (0x2a : UInt8) :: (0xb4 : UInt8) :: (0x00 : UInt8) :: dT_X9_readPolicy_1
theorem dT_X9_readPolicy : cX9_readPolicy.data.toList = dT_X9_readPolicy_0 := eq_of_beq (show (cX9_readPolicy.data.toList == dT_X9_readPolicy_0) = true by decide +kernel)
theorem dQ_X9_readPolicy_0 : dQ_P cX9_readPolicy 0 dT_X9_readPolicy_0 := fun i => by rw [dT_X9_readPolicy]; rfl
theorem dQ_X9_readPolicy_1 : dQ_P cX9_readPolicy 16 dT_X9_readPolicy_1 := fun i => (dQ_X9_readPolicy_0 (i + 16)).trans dk_t
theorem dQ_X9_readPolicy_2 : dQ_P cX9_readPolicy 32 dT_X9_readPolicy_2 := fun i => (dQ_X9_readPolicy_1 (i + 16)).trans dk_t
theorem dQ_X9_readPolicy_3 : dQ_P cX9_readPolicy 48 dT_X9_readPolicy_3 := fun i => (dQ_X9_readPolicy_2 (i + 16)).trans dk_t
theorem dQ_X9_readPolicy_4 : dQ_P cX9_readPolicy 64 dT_X9_readPolicy_4 := fun i => (dQ_X9_readPolicy_3 (i + 16)).trans dk_t
theorem dQ_X9_readPolicy_5 : dQ_P cX9_readPolicy 80 dT_X9_readPolicy_5 := fun i => (dQ_X9_readPolicy_4 (i + 16)).trans dk_t
theorem dQ_X9_readPolicy_6 : dQ_P cX9_readPolicy 96 dT_X9_readPolicy_6 := fun i => (dQ_X9_readPolicy_5 (i + 16)).trans dk_t
theorem dQ_X9_readPolicy_7 : dQ_P cX9_readPolicy 112 dT_X9_readPolicy_7 := fun i => (dQ_X9_readPolicy_6 (i + 16)).trans dk_t
theorem dX9_readPolicy_0 : decode cX9_readPolicy 0 = .ok (.bipush 49, 2) := dk_16 ((dQ_X9_readPolicy_0 0).trans dk_j0) ((dQ_X9_readPolicy_0 1).trans dk_j1) dk_vs1_49
theorem dX9_readPolicy_2 : decode cX9_readPolicy 2 = .ok (.iconst 5, 1) := dk_8 ((dQ_X9_readPolicy_0 2).trans dk_j2)
theorem dX9_readPolicy_3 : decode cX9_readPolicy 3 = .ok (.aload_n 0, 1) := dk_42 ((dQ_X9_readPolicy_0 3).trans dk_j3)
theorem dX9_readPolicy_4 : decode cX9_readPolicy 4 = .ok (.getfield 31, 3) := dk_180 ((dQ_X9_readPolicy_0 4).trans dk_j4) ((dQ_X9_readPolicy_0 5).trans dk_j5) ((dQ_X9_readPolicy_0 6).trans dk_j6) dk_vu2_0_31
theorem dX9_readPolicy_7 : decode cX9_readPolicy 7 = .ok (.bipush 8, 2) := dk_16 ((dQ_X9_readPolicy_0 7).trans dk_j7) ((dQ_X9_readPolicy_0 8).trans dk_j8) dk_vs1_8
theorem dX9_readPolicy_9 : decode cX9_readPolicy 9 = .ok (.iaload, 1) := dk_46 ((dQ_X9_readPolicy_0 9).trans dk_j9)
theorem dX9_readPolicy_10 : decode cX9_readPolicy 10 = .ok (.imul, 1) := dk_104 ((dQ_X9_readPolicy_0 10).trans dk_j10)
theorem dX9_readPolicy_11 : decode cX9_readPolicy 11 = .ok (.iadd, 1) := dk_96 ((dQ_X9_readPolicy_0 11).trans dk_j11)
theorem dX9_readPolicy_12 : decode cX9_readPolicy 12 = .ok (.istore_n 1, 1) := dk_60 ((dQ_X9_readPolicy_0 12).trans dk_j12)
theorem dX9_readPolicy_13 : decode cX9_readPolicy 13 = .ok (.aload_n 0, 1) := dk_42 ((dQ_X9_readPolicy_0 13).trans dk_j13)
theorem dX9_readPolicy_14 : decode cX9_readPolicy 14 = .ok (.getfield 31, 3) := dk_180 ((dQ_X9_readPolicy_0 14).trans dk_j14) ((dQ_X9_readPolicy_0 15).trans dk_j15) ((dQ_X9_readPolicy_1 0).trans dk_j0) dk_vu2_0_31
theorem dX9_readPolicy_17 : decode cX9_readPolicy 17 = .ok (.iload_n 1, 1) := dk_27 ((dQ_X9_readPolicy_1 1).trans dk_j1)
theorem dX9_readPolicy_18 : decode cX9_readPolicy 18 = .ok (.iconst 0, 1) := dk_3 ((dQ_X9_readPolicy_1 2).trans dk_j2)
theorem dX9_readPolicy_19 : decode cX9_readPolicy 19 = .ok (.iadd, 1) := dk_96 ((dQ_X9_readPolicy_1 3).trans dk_j3)
theorem dX9_readPolicy_20 : decode cX9_readPolicy 20 = .ok (.aload_n 0, 1) := dk_42 ((dQ_X9_readPolicy_1 4).trans dk_j4)
theorem dX9_readPolicy_21 : decode cX9_readPolicy 21 = .ok (.iconst 0, 1) := dk_3 ((dQ_X9_readPolicy_1 5).trans dk_j5)
theorem dX9_readPolicy_22 : decode cX9_readPolicy 22 = .ok (.aload_n 0, 1) := dk_42 ((dQ_X9_readPolicy_1 6).trans dk_j6)
theorem dX9_readPolicy_23 : decode cX9_readPolicy 23 = .ok (.getfield 31, 3) := dk_180 ((dQ_X9_readPolicy_1 7).trans dk_j7) ((dQ_X9_readPolicy_1 8).trans dk_j8) ((dQ_X9_readPolicy_1 9).trans dk_j9) dk_vu2_0_31
theorem dX9_readPolicy_26 : decode cX9_readPolicy 26 = .ok (.iconst 5, 1) := dk_8 ((dQ_X9_readPolicy_1 10).trans dk_j10)
theorem dX9_readPolicy_27 : decode cX9_readPolicy 27 = .ok (.iaload, 1) := dk_46 ((dQ_X9_readPolicy_1 11).trans dk_j11)
theorem dX9_readPolicy_28 : decode cX9_readPolicy 28 = .ok (.iconst 1, 1) := dk_4 ((dQ_X9_readPolicy_1 12).trans dk_j12)
theorem dX9_readPolicy_29 : decode cX9_readPolicy 29 = .ok (.isub, 1) := dk_100 ((dQ_X9_readPolicy_1 13).trans dk_j13)
theorem dX9_readPolicy_30 : decode cX9_readPolicy 30 = .ok (.invokevirtual 172, 3) := dk_182 ((dQ_X9_readPolicy_1 14).trans dk_j14) ((dQ_X9_readPolicy_1 15).trans dk_j15) ((dQ_X9_readPolicy_2 0).trans dk_j0) dk_vu2_0_172
theorem dX9_readPolicy_33 : decode cX9_readPolicy 33 = .ok (.iastore, 1) := dk_79 ((dQ_X9_readPolicy_2 1).trans dk_j1)
theorem dX9_readPolicy_34 : decode cX9_readPolicy 34 = .ok (.aload_n 0, 1) := dk_42 ((dQ_X9_readPolicy_2 2).trans dk_j2)
theorem dX9_readPolicy_35 : decode cX9_readPolicy 35 = .ok (.getfield 31, 3) := dk_180 ((dQ_X9_readPolicy_2 3).trans dk_j3) ((dQ_X9_readPolicy_2 4).trans dk_j4) ((dQ_X9_readPolicy_2 5).trans dk_j5) dk_vu2_0_31
theorem dX9_readPolicy_38 : decode cX9_readPolicy 38 = .ok (.iload_n 1, 1) := dk_27 ((dQ_X9_readPolicy_2 6).trans dk_j6)
theorem dX9_readPolicy_39 : decode cX9_readPolicy 39 = .ok (.iconst 1, 1) := dk_4 ((dQ_X9_readPolicy_2 7).trans dk_j7)
theorem dX9_readPolicy_40 : decode cX9_readPolicy 40 = .ok (.iadd, 1) := dk_96 ((dQ_X9_readPolicy_2 8).trans dk_j8)
theorem dX9_readPolicy_41 : decode cX9_readPolicy 41 = .ok (.aload_n 0, 1) := dk_42 ((dQ_X9_readPolicy_2 9).trans dk_j9)
theorem dk_vu1_191 : (0xbf : UInt8).toNat = (191 : Nat) := by decide +kernel
theorem dX9_readPolicy_42 : decode cX9_readPolicy 42 = .ok (.ldc 191, 2) := dk_18 ((dQ_X9_readPolicy_2 10).trans dk_j10) ((dQ_X9_readPolicy_2 11).trans dk_j11) dk_vu1_191
theorem dX9_readPolicy_44 : decode cX9_readPolicy 44 = .ok (.iconst 0, 1) := dk_3 ((dQ_X9_readPolicy_2 12).trans dk_j12)
theorem dk_vs1_29 : Reader.signed 8 (0x1d : UInt8).toNat = (29 : Int) := by decide +kernel
theorem dX9_readPolicy_45 : decode cX9_readPolicy 45 = .ok (.bipush 29, 2) := dk_16 ((dQ_X9_readPolicy_2 13).trans dk_j13) ((dQ_X9_readPolicy_2 14).trans dk_j14) dk_vs1_29
theorem dX9_readPolicy_47 : decode cX9_readPolicy 47 = .ok (.invokevirtual 179, 3) := dk_182 ((dQ_X9_readPolicy_2 15).trans dk_j15) ((dQ_X9_readPolicy_3 0).trans dk_j0) ((dQ_X9_readPolicy_3 1).trans dk_j1) dk_vu2_0_179
theorem dX9_readPolicy_50 : decode cX9_readPolicy 50 = .ok (.iastore, 1) := dk_79 ((dQ_X9_readPolicy_3 2).trans dk_j2)
theorem dX9_readPolicy_51 : decode cX9_readPolicy 51 = .ok (.aload_n 0, 1) := dk_42 ((dQ_X9_readPolicy_3 3).trans dk_j3)
theorem dX9_readPolicy_52 : decode cX9_readPolicy 52 = .ok (.getfield 31, 3) := dk_180 ((dQ_X9_readPolicy_3 4).trans dk_j4) ((dQ_X9_readPolicy_3 5).trans dk_j5) ((dQ_X9_readPolicy_3 6).trans dk_j6) dk_vu2_0_31
theorem dX9_readPolicy_55 : decode cX9_readPolicy 55 = .ok (.iload_n 1, 1) := dk_27 ((dQ_X9_readPolicy_3 7).trans dk_j7)
theorem dX9_readPolicy_56 : decode cX9_readPolicy 56 = .ok (.iconst 2, 1) := dk_5 ((dQ_X9_readPolicy_3 8).trans dk_j8)
theorem dX9_readPolicy_57 : decode cX9_readPolicy 57 = .ok (.iadd, 1) := dk_96 ((dQ_X9_readPolicy_3 9).trans dk_j9)
theorem dX9_readPolicy_58 : decode cX9_readPolicy 58 = .ok (.aload_n 0, 1) := dk_42 ((dQ_X9_readPolicy_3 10).trans dk_j10)
theorem dk_vu1_192 : (0xc0 : UInt8).toNat = (192 : Nat) := by decide +kernel
theorem dX9_readPolicy_59 : decode cX9_readPolicy 59 = .ok (.ldc 192, 2) := dk_18 ((dQ_X9_readPolicy_3 11).trans dk_j11) ((dQ_X9_readPolicy_3 12).trans dk_j12) dk_vu1_192
theorem dX9_readPolicy_61 : decode cX9_readPolicy 61 = .ok (.aload_n 0, 1) := dk_42 ((dQ_X9_readPolicy_3 13).trans dk_j13)
theorem dX9_readPolicy_62 : decode cX9_readPolicy 62 = .ok (.getfield 31, 3) := dk_180 ((dQ_X9_readPolicy_3 14).trans dk_j14) ((dQ_X9_readPolicy_3 15).trans dk_j15) ((dQ_X9_readPolicy_4 0).trans dk_j0) dk_vu2_0_31
theorem dX9_readPolicy_65 : decode cX9_readPolicy 65 = .ok (.iload_n 1, 1) := dk_27 ((dQ_X9_readPolicy_4 1).trans dk_j1)
theorem dX9_readPolicy_66 : decode cX9_readPolicy 66 = .ok (.iconst 1, 1) := dk_4 ((dQ_X9_readPolicy_4 2).trans dk_j2)
theorem dX9_readPolicy_67 : decode cX9_readPolicy 67 = .ok (.iadd, 1) := dk_96 ((dQ_X9_readPolicy_4 3).trans dk_j3)
theorem dX9_readPolicy_68 : decode cX9_readPolicy 68 = .ok (.iaload, 1) := dk_46 ((dQ_X9_readPolicy_4 4).trans dk_j4)
theorem dX9_readPolicy_69 : decode cX9_readPolicy 69 = .ok (.bipush 29, 2) := dk_16 ((dQ_X9_readPolicy_4 5).trans dk_j5) ((dQ_X9_readPolicy_4 6).trans dk_j6) dk_vs1_29
theorem dX9_readPolicy_71 : decode cX9_readPolicy 71 = .ok (.invokevirtual 179, 3) := dk_182 ((dQ_X9_readPolicy_4 7).trans dk_j7) ((dQ_X9_readPolicy_4 8).trans dk_j8) ((dQ_X9_readPolicy_4 9).trans dk_j9) dk_vu2_0_179
theorem dX9_readPolicy_74 : decode cX9_readPolicy 74 = .ok (.iastore, 1) := dk_79 ((dQ_X9_readPolicy_4 10).trans dk_j10)
theorem dX9_readPolicy_75 : decode cX9_readPolicy 75 = .ok (.aload_n 0, 1) := dk_42 ((dQ_X9_readPolicy_4 11).trans dk_j11)
theorem dX9_readPolicy_76 : decode cX9_readPolicy 76 = .ok (.getfield 31, 3) := dk_180 ((dQ_X9_readPolicy_4 12).trans dk_j12) ((dQ_X9_readPolicy_4 13).trans dk_j13) ((dQ_X9_readPolicy_4 14).trans dk_j14) dk_vu2_0_31
theorem dX9_readPolicy_79 : decode cX9_readPolicy 79 = .ok (.iload_n 1, 1) := dk_27 ((dQ_X9_readPolicy_4 15).trans dk_j15)
theorem dX9_readPolicy_80 : decode cX9_readPolicy 80 = .ok (.iconst 3, 1) := dk_6 ((dQ_X9_readPolicy_5 0).trans dk_j0)
theorem dX9_readPolicy_81 : decode cX9_readPolicy 81 = .ok (.iadd, 1) := dk_96 ((dQ_X9_readPolicy_5 1).trans dk_j1)
theorem dX9_readPolicy_82 : decode cX9_readPolicy 82 = .ok (.aload_n 0, 1) := dk_42 ((dQ_X9_readPolicy_5 2).trans dk_j2)
theorem dk_vu1_194 : (0xc2 : UInt8).toNat = (194 : Nat) := by decide +kernel
theorem dX9_readPolicy_83 : decode cX9_readPolicy 83 = .ok (.ldc 194, 2) := dk_18 ((dQ_X9_readPolicy_5 3).trans dk_j3) ((dQ_X9_readPolicy_5 4).trans dk_j4) dk_vu1_194
theorem dX9_readPolicy_85 : decode cX9_readPolicy 85 = .ok (.iconst 1, 1) := dk_4 ((dQ_X9_readPolicy_5 5).trans dk_j5)
theorem dk_vs1_99 : Reader.signed 8 (0x63 : UInt8).toNat = (99 : Int) := by decide +kernel
theorem dX9_readPolicy_86 : decode cX9_readPolicy 86 = .ok (.bipush 99, 2) := dk_16 ((dQ_X9_readPolicy_5 6).trans dk_j6) ((dQ_X9_readPolicy_5 7).trans dk_j7) dk_vs1_99
theorem dX9_readPolicy_88 : decode cX9_readPolicy 88 = .ok (.invokevirtual 179, 3) := dk_182 ((dQ_X9_readPolicy_5 8).trans dk_j8) ((dQ_X9_readPolicy_5 9).trans dk_j9) ((dQ_X9_readPolicy_5 10).trans dk_j10) dk_vu2_0_179
theorem dX9_readPolicy_91 : decode cX9_readPolicy 91 = .ok (.iastore, 1) := dk_79 ((dQ_X9_readPolicy_5 11).trans dk_j11)
theorem dX9_readPolicy_92 : decode cX9_readPolicy 92 = .ok (.aload_n 0, 1) := dk_42 ((dQ_X9_readPolicy_5 12).trans dk_j12)
theorem dX9_readPolicy_93 : decode cX9_readPolicy 93 = .ok (.getfield 31, 3) := dk_180 ((dQ_X9_readPolicy_5 13).trans dk_j13) ((dQ_X9_readPolicy_5 14).trans dk_j14) ((dQ_X9_readPolicy_5 15).trans dk_j15) dk_vu2_0_31
theorem dX9_readPolicy_96 : decode cX9_readPolicy 96 = .ok (.iload_n 1, 1) := dk_27 ((dQ_X9_readPolicy_6 0).trans dk_j0)
theorem dX9_readPolicy_97 : decode cX9_readPolicy 97 = .ok (.iconst 4, 1) := dk_7 ((dQ_X9_readPolicy_6 1).trans dk_j1)
theorem dX9_readPolicy_98 : decode cX9_readPolicy 98 = .ok (.iadd, 1) := dk_96 ((dQ_X9_readPolicy_6 2).trans dk_j2)
theorem dX9_readPolicy_99 : decode cX9_readPolicy 99 = .ok (.aload_n 0, 1) := dk_42 ((dQ_X9_readPolicy_6 3).trans dk_j3)
theorem dk_vu1_196 : (0xc4 : UInt8).toNat = (196 : Nat) := by decide +kernel
theorem dX9_readPolicy_100 : decode cX9_readPolicy 100 = .ok (.ldc 196, 2) := dk_18 ((dQ_X9_readPolicy_6 4).trans dk_j4) ((dQ_X9_readPolicy_6 5).trans dk_j5) dk_vu1_196
theorem dX9_readPolicy_102 : decode cX9_readPolicy 102 = .ok (.iconst 0, 1) := dk_3 ((dQ_X9_readPolicy_6 6).trans dk_j6)
theorem dX9_readPolicy_103 : decode cX9_readPolicy 103 = .ok (.bipush 99, 2) := dk_16 ((dQ_X9_readPolicy_6 7).trans dk_j7) ((dQ_X9_readPolicy_6 8).trans dk_j8) dk_vs1_99
theorem dX9_readPolicy_105 : decode cX9_readPolicy 105 = .ok (.invokevirtual 179, 3) := dk_182 ((dQ_X9_readPolicy_6 9).trans dk_j9) ((dQ_X9_readPolicy_6 10).trans dk_j10) ((dQ_X9_readPolicy_6 11).trans dk_j11) dk_vu2_0_179
theorem dX9_readPolicy_108 : decode cX9_readPolicy 108 = .ok (.iastore, 1) := dk_79 ((dQ_X9_readPolicy_6 12).trans dk_j12)
theorem dX9_readPolicy_109 : decode cX9_readPolicy 109 = .ok (.aload_n 0, 1) := dk_42 ((dQ_X9_readPolicy_6 13).trans dk_j13)
theorem dX9_readPolicy_110 : decode cX9_readPolicy 110 = .ok (.getfield 31, 3) := dk_180 ((dQ_X9_readPolicy_6 14).trans dk_j14) ((dQ_X9_readPolicy_6 15).trans dk_j15) ((dQ_X9_readPolicy_7 0).trans dk_j0) dk_vu2_0_31
theorem dX9_readPolicy_113 : decode cX9_readPolicy 113 = .ok (.bipush 8, 2) := dk_16 ((dQ_X9_readPolicy_7 1).trans dk_j1) ((dQ_X9_readPolicy_7 2).trans dk_j2) dk_vs1_8
theorem dX9_readPolicy_115 : decode cX9_readPolicy 115 = .ok (.dup2, 1) := dk_92 ((dQ_X9_readPolicy_7 3).trans dk_j3)
theorem dX9_readPolicy_116 : decode cX9_readPolicy 116 = .ok (.iaload, 1) := dk_46 ((dQ_X9_readPolicy_7 4).trans dk_j4)
theorem dX9_readPolicy_117 : decode cX9_readPolicy 117 = .ok (.iconst 1, 1) := dk_4 ((dQ_X9_readPolicy_7 5).trans dk_j5)
theorem dX9_readPolicy_118 : decode cX9_readPolicy 118 = .ok (.iadd, 1) := dk_96 ((dQ_X9_readPolicy_7 6).trans dk_j6)
theorem dX9_readPolicy_119 : decode cX9_readPolicy 119 = .ok (.iastore, 1) := dk_79 ((dQ_X9_readPolicy_7 7).trans dk_j7)
theorem dX9_readPolicy_120 : decode cX9_readPolicy 120 = .ok (.return_, 1) := dk_177 ((dQ_X9_readPolicy_7 8).trans dk_j8)
def dT_X9_readNext_19 : List UInt8 := (0xd4 : UInt8) :: (0xb1 : UInt8) :: []
def dT_X9_readNext_18 : List UInt8 := (0x00 : UInt8) :: (0x0a : UInt8) :: (0x2a : UInt8) :: (0xb6 : UInt8) :: (0x00 : UInt8) :: (0xd1 : UInt8) :: (0xa7 : UInt8) :: (0x00 : UInt8) :: (0x0b : UInt8) :: (0x2a : UInt8) :: (0xb6 : UInt8) :: (0x00 : UInt8) :: (0x9e : UInt8) :: (0x2a : UInt8) :: (0xb6 : UInt8) :: (0x00 : UInt8) :: dT_X9_readNext_19
def dT_X9_readNext_17 : List UInt8 := (0x06 : UInt8) :: (0x5c : UInt8) :: (0x2e : UInt8) :: (0x04 : UInt8) :: (0x60 : UInt8) :: (0x4f : UInt8) :: (0xa7 : UInt8) :: (0x00 : UInt8) :: (0x1b : UInt8) :: (0x2a : UInt8) :: (0x12 : UInt8) :: (0xca : UInt8) :: (0xb6 : UInt8) :: (0x00 : UInt8) :: (0xa1 : UInt8) :: (0x99 : UInt8) :: dT_X9_readNext_18
def dT_X9_readNext_16 : List UInt8 := (0x60 : UInt8) :: (0x2a : UInt8) :: (0x12 : UInt8) :: (0xd0 : UInt8) :: (0x03 : UInt8) :: (0x10 : UInt8) :: (0x1d : UInt8) :: (0xb6 : UInt8) :: (0x00 : UInt8) :: (0xb3 : UInt8) :: (0x4f : UInt8) :: (0x2a : UInt8) :: (0xb4 : UInt8) :: (0x00 : UInt8) :: (0x1f : UInt8) :: (0x10 : UInt8) :: dT_X9_readNext_17
def dT_X9_readNext_15 : List UInt8 := (0x1f : UInt8) :: (0x1c : UInt8) :: (0x2a : UInt8) :: (0x04 : UInt8) :: (0x10 : UInt8) :: (0x09 : UInt8) :: (0xb6 : UInt8) :: (0x00 : UInt8) :: (0xac : UInt8) :: (0x4f : UInt8) :: (0x2a : UInt8) :: (0xb4 : UInt8) :: (0x00 : UInt8) :: (0x1f : UInt8) :: (0x1c : UInt8) :: (0x04 : UInt8) :: dT_X9_readNext_16
def dT_X9_readNext_14 : List UInt8 := (0x10 : UInt8) :: (0x17 : UInt8) :: (0x05 : UInt8) :: (0x2a : UInt8) :: (0xb4 : UInt8) :: (0x00 : UInt8) :: (0x1f : UInt8) :: (0x10 : UInt8) :: (0x06 : UInt8) :: (0x2e : UInt8) :: (0x68 : UInt8) :: (0x60 : UInt8) :: (0x3d : UInt8) :: (0x2a : UInt8) :: (0xb4 : UInt8) :: (0x00 : UInt8) :: dT_X9_readNext_15
def dT_X9_readNext_13 : List UInt8 := (0x2e : UInt8) :: (0x04 : UInt8) :: (0x60 : UInt8) :: (0x4f : UInt8) :: (0xa7 : UInt8) :: (0x00 : UInt8) :: (0x5d : UInt8) :: (0x2a : UInt8) :: (0x12 : UInt8) :: (0xc8 : UInt8) :: (0xb6 : UInt8) :: (0x00 : UInt8) :: (0xa1 : UInt8) :: (0x99 : UInt8) :: (0x00 : UInt8) :: (0x3c : UInt8) :: dT_X9_readNext_14
def dT_X9_readNext_12 : List UInt8 := (0x2a : UInt8) :: (0x12 : UInt8) :: (0xce : UInt8) :: (0x04 : UInt8) :: (0x10 : UInt8) :: (0x63 : UInt8) :: (0xb6 : UInt8) :: (0x00 : UInt8) :: (0xb3 : UInt8) :: (0x4f : UInt8) :: (0x2a : UInt8) :: (0xb4 : UInt8) :: (0x00 : UInt8) :: (0x1f : UInt8) :: (0x08 : UInt8) :: (0x5c : UInt8) :: dT_X9_readNext_13
def dT_X9_readNext_11 : List UInt8 := (0x1c : UInt8) :: (0x2a : UInt8) :: (0x03 : UInt8) :: (0x10 : UInt8) :: (0x09 : UInt8) :: (0xb6 : UInt8) :: (0x00 : UInt8) :: (0xac : UInt8) :: (0x4f : UInt8) :: (0x2a : UInt8) :: (0xb4 : UInt8) :: (0x00 : UInt8) :: (0x1f : UInt8) :: (0x1c : UInt8) :: (0x04 : UInt8) :: (0x60 : UInt8) :: dT_X9_readNext_12
def dT_X9_readNext_10 : List UInt8 := (0x10 : UInt8) :: (0x0b : UInt8) :: (0x05 : UInt8) :: (0x2a : UInt8) :: (0xb4 : UInt8) :: (0x00 : UInt8) :: (0x1f : UInt8) :: (0x08 : UInt8) :: (0x2e : UInt8) :: (0x68 : UInt8) :: (0x60 : UInt8) :: (0x3d : UInt8) :: (0x2a : UInt8) :: (0xb4 : UInt8) :: (0x00 : UInt8) :: (0x1f : UInt8) :: dT_X9_readNext_11
def dT_X9_readNext_9 : List UInt8 := (0xb6 : UInt8) :: (0x00 : UInt8) :: (0x8c : UInt8) :: (0x9a : UInt8) :: (0x00 : UInt8) :: (0x04 : UInt8) :: (0xb1 : UInt8) :: (0x2a : UInt8) :: (0x12 : UInt8) :: (0xc6 : UInt8) :: (0xb6 : UInt8) :: (0x00 : UInt8) :: (0xa1 : UInt8) :: (0x99 : UInt8) :: (0x00 : UInt8) :: (0x3a : UInt8) :: dT_X9_readNext_10
def dT_X9_readNext_8 : List UInt8 := (0x00 : UInt8) :: (0x1f : UInt8) :: (0x10 : UInt8) :: (0x08 : UInt8) :: (0x2e : UInt8) :: (0x10 : UInt8) :: (0x06 : UInt8) :: (0xa0 : UInt8) :: (0x00 : UInt8) :: (0x08 : UInt8) :: (0x2a : UInt8) :: (0x06 : UInt8) :: (0xb6 : UInt8) :: (0x00 : UInt8) :: (0xa4 : UInt8) :: (0x2a : UInt8) :: dT_X9_readNext_9
def dT_X9_readNext_7 : List UInt8 := (0x10 : UInt8) :: (0x08 : UInt8) :: (0x9f : UInt8) :: (0x00 : UInt8) :: (0x18 : UInt8) :: (0x2a : UInt8) :: (0x12 : UInt8) :: (0xcc : UInt8) :: (0xb6 : UInt8) :: (0x00 : UInt8) :: (0x9a : UInt8) :: (0x99 : UInt8) :: (0x00 : UInt8) :: (0x14 : UInt8) :: (0x2a : UInt8) :: (0xb4 : UInt8) :: dT_X9_readNext_8
def dT_X9_readNext_6 : List UInt8 := (0x2a : UInt8) :: (0x12 : UInt8) :: (0xca : UInt8) :: (0xb6 : UInt8) :: (0x00 : UInt8) :: (0x9a : UInt8) :: (0x99 : UInt8) :: (0x00 : UInt8) :: (0x0f : UInt8) :: (0x2a : UInt8) :: (0xb4 : UInt8) :: (0x00 : UInt8) :: (0x1f : UInt8) :: (0x10 : UInt8) :: (0x07 : UInt8) :: (0x2e : UInt8) :: dT_X9_readNext_7
def dT_X9_readNext_5 : List UInt8 := (0x2a : UInt8) :: (0xb4 : UInt8) :: (0x00 : UInt8) :: (0x1f : UInt8) :: (0x10 : UInt8) :: (0x06 : UInt8) :: (0x2e : UInt8) :: (0x08 : UInt8) :: (0xa0 : UInt8) :: (0x00 : UInt8) :: (0x08 : UInt8) :: (0x2a : UInt8) :: (0x06 : UInt8) :: (0xb6 : UInt8) :: (0x00 : UInt8) :: (0xa4 : UInt8) :: dT_X9_readNext_6
def dT_X9_readNext_4 : List UInt8 := (0x08 : UInt8) :: (0x2e : UInt8) :: (0x10 : UInt8) :: (0x06 : UInt8) :: (0x9f : UInt8) :: (0x00 : UInt8) :: (0x17 : UInt8) :: (0x2a : UInt8) :: (0x12 : UInt8) :: (0xc8 : UInt8) :: (0xb6 : UInt8) :: (0x00 : UInt8) :: (0x9a : UInt8) :: (0x99 : UInt8) :: (0x00 : UInt8) :: (0x13 : UInt8) :: dT_X9_readNext_5
def dT_X9_readNext_3 : List UInt8 := (0xb6 : UInt8) :: (0x00 : UInt8) :: (0xa4 : UInt8) :: (0x2a : UInt8) :: (0x12 : UInt8) :: (0xc6 : UInt8) :: (0xb6 : UInt8) :: (0x00 : UInt8) :: (0x9a : UInt8) :: (0x99 : UInt8) :: (0x00 : UInt8) :: (0x0e : UInt8) :: (0x2a : UInt8) :: (0xb4 : UInt8) :: (0x00 : UInt8) :: (0x1f : UInt8) :: dT_X9_readNext_4
def dT_X9_readNext_2 : List UInt8 := (0x9a : UInt8) :: (0x99 : UInt8) :: (0x00 : UInt8) :: (0x07 : UInt8) :: (0x04 : UInt8) :: (0xa7 : UInt8) :: (0x00 : UInt8) :: (0x04 : UInt8) :: (0x03 : UInt8) :: (0x3c : UInt8) :: (0x1b : UInt8) :: (0x9a : UInt8) :: (0x00 : UInt8) :: (0x08 : UInt8) :: (0x2a : UInt8) :: (0x04 : UInt8) :: dT_X9_readNext_3
def dT_X9_readNext_1 : List UInt8 := (0x00 : UInt8) :: (0x15 : UInt8) :: (0x2a : UInt8) :: (0x12 : UInt8) :: (0xca : UInt8) :: (0xb6 : UInt8) :: (0x00 : UInt8) :: (0x9a : UInt8) :: (0x9a : UInt8) :: (0x00 : UInt8) :: (0x0c : UInt8) :: (0x2a : UInt8) :: (0x12 : UInt8) :: (0xcc : UInt8) :: (0xb6 : UInt8) :: (0x00 : UInt8) :: dT_X9_readNext_2
def dT_X9_readNext_0 : List UInt8 := (0x2a : UInt8) :: (0x12 : UInt8) :: (0xc6 : UInt8) :: (0xb6 : UInt8) :: (0x00 : UInt8) :: (0x9a : UInt8) :: (0x9a : UInt8) :: (0x00 : UInt8) :: (0x1e : UInt8) :: (0x2a : UInt8) :: (0x12 : UInt8) :: (0xc8 : UInt8) :: (0xb6 : UInt8) :: (0x00 : UInt8) :: (0x9a : UInt8) :: (0x9a : UInt8) :: dT_X9_readNext_1
theorem dT_X9_readNext : cX9_readNext.data.toList = dT_X9_readNext_0 := eq_of_beq (show (cX9_readNext.data.toList == dT_X9_readNext_0) = true by decide +kernel)
theorem dQ_X9_readNext_0 : dQ_P cX9_readNext 0 dT_X9_readNext_0 := fun i => by rw [dT_X9_readNext]; rfl
theorem dQ_X9_readNext_1 : dQ_P cX9_readNext 16 dT_X9_readNext_1 := fun i => (dQ_X9_readNext_0 (i + 16)).trans dk_t
theorem dQ_X9_readNext_2 : dQ_P cX9_readNext 32 dT_X9_readNext_2 := fun i => (dQ_X9_readNext_1 (i + 16)).trans dk_t
theorem dQ_X9_readNext_3 : dQ_P cX9_readNext 48 dT_X9_readNext_3 := fun i => (dQ_X9_readNext_2 (i + 16)).trans dk_t
theorem dQ_X9_readNext_4 : dQ_P cX9_readNext 64 dT_X9_readNext_4 := fun i => (dQ_X9_readNext_3 (i + 16)).trans dk_t
theorem dQ_X9_readNext_5 : dQ_P cX9_readNext 80 dT_X9_readNext_5 := fun i => (dQ_X9_readNext_4 (i + 16)).trans dk_t
theorem dQ_X9_readNext_6 : dQ_P cX9_readNext 96 dT_X9_readNext_6 := fun i => (dQ_X9_readNext_5 (i + 16)).trans dk_t
theorem dQ_X9_readNext_7 : dQ_P cX9_readNext 112 dT_X9_readNext_7 := fun i => (dQ_X9_readNext_6 (i + 16)).trans dk_t
theorem dQ_X9_readNext_8 : dQ_P cX9_readNext 128 dT_X9_readNext_8 := fun i => (dQ_X9_readNext_7 (i + 16)).trans dk_t
theorem dQ_X9_readNext_9 : dQ_P cX9_readNext 144 dT_X9_readNext_9 := fun i => (dQ_X9_readNext_8 (i + 16)).trans dk_t
theorem dQ_X9_readNext_10 : dQ_P cX9_readNext 160 dT_X9_readNext_10 := fun i => (dQ_X9_readNext_9 (i + 16)).trans dk_t
theorem dQ_X9_readNext_11 : dQ_P cX9_readNext 176 dT_X9_readNext_11 := fun i => (dQ_X9_readNext_10 (i + 16)).trans dk_t
theorem dQ_X9_readNext_12 : dQ_P cX9_readNext 192 dT_X9_readNext_12 := fun i => (dQ_X9_readNext_11 (i + 16)).trans dk_t
theorem dQ_X9_readNext_13 : dQ_P cX9_readNext 208 dT_X9_readNext_13 := fun i => (dQ_X9_readNext_12 (i + 16)).trans dk_t
theorem dQ_X9_readNext_14 : dQ_P cX9_readNext 224 dT_X9_readNext_14 := fun i => (dQ_X9_readNext_13 (i + 16)).trans dk_t
theorem dQ_X9_readNext_15 : dQ_P cX9_readNext 240 dT_X9_readNext_15 := fun i => (dQ_X9_readNext_14 (i + 16)).trans dk_t
theorem dQ_X9_readNext_16 : dQ_P cX9_readNext 256 dT_X9_readNext_16 := fun i => (dQ_X9_readNext_15 (i + 16)).trans dk_t
theorem dQ_X9_readNext_17 : dQ_P cX9_readNext 272 dT_X9_readNext_17 := fun i => (dQ_X9_readNext_16 (i + 16)).trans dk_t
theorem dQ_X9_readNext_18 : dQ_P cX9_readNext 288 dT_X9_readNext_18 := fun i => (dQ_X9_readNext_17 (i + 16)).trans dk_t
theorem dQ_X9_readNext_19 : dQ_P cX9_readNext 304 dT_X9_readNext_19 := fun i => (dQ_X9_readNext_18 (i + 16)).trans dk_t
theorem dX9_readNext_0 : decode cX9_readNext 0 = .ok (.aload_n 0, 1) := dk_42 ((dQ_X9_readNext_0 0).trans dk_j0)
theorem dk_vu1_198 : (0xc6 : UInt8).toNat = (198 : Nat) := by decide +kernel
theorem dX9_readNext_1 : decode cX9_readNext 1 = .ok (.ldc 198, 2) := dk_18 ((dQ_X9_readNext_0 1).trans dk_j1) ((dQ_X9_readNext_0 2).trans dk_j2) dk_vu1_198
theorem dX9_readNext_3 : decode cX9_readNext 3 = .ok (.invokevirtual 154, 3) := dk_182 ((dQ_X9_readNext_0 3).trans dk_j3) ((dQ_X9_readNext_0 4).trans dk_j4) ((dQ_X9_readNext_0 5).trans dk_j5) dk_vu2_0_154
theorem dk_vs2_0_30 : Reader.signed 16 ((0x00 : UInt8).toNat * 256 + (0x1e : UInt8).toNat) = (30 : Int) := by decide +kernel
theorem dX9_readNext_6 : decode cX9_readNext 6 = .ok (.ifCond .ne 30, 3) := dk_154 ((dQ_X9_readNext_0 6).trans dk_j6) ((dQ_X9_readNext_0 7).trans dk_j7) ((dQ_X9_readNext_0 8).trans dk_j8) dk_vs2_0_30
theorem dX9_readNext_9 : decode cX9_readNext 9 = .ok (.aload_n 0, 1) := dk_42 ((dQ_X9_readNext_0 9).trans dk_j9)
theorem dk_vu1_200 : (0xc8 : UInt8).toNat = (200 : Nat) := by decide +kernel
theorem dX9_readNext_10 : decode cX9_readNext 10 = .ok (.ldc 200, 2) := dk_18 ((dQ_X9_readNext_0 10).trans dk_j10) ((dQ_X9_readNext_0 11).trans dk_j11) dk_vu1_200
theorem dX9_readNext_12 : decode cX9_readNext 12 = .ok (.invokevirtual 154, 3) := dk_182 ((dQ_X9_readNext_0 12).trans dk_j12) ((dQ_X9_readNext_0 13).trans dk_j13) ((dQ_X9_readNext_0 14).trans dk_j14) dk_vu2_0_154
theorem dX9_readNext_15 : decode cX9_readNext 15 = .ok (.ifCond .ne 21, 3) := dk_154 ((dQ_X9_readNext_0 15).trans dk_j15) ((dQ_X9_readNext_1 0).trans dk_j0) ((dQ_X9_readNext_1 1).trans dk_j1) dk_vs2_0_21
theorem dX9_readNext_18 : decode cX9_readNext 18 = .ok (.aload_n 0, 1) := dk_42 ((dQ_X9_readNext_1 2).trans dk_j2)
theorem dk_vu1_202 : (0xca : UInt8).toNat = (202 : Nat) := by decide +kernel
theorem dX9_readNext_19 : decode cX9_readNext 19 = .ok (.ldc 202, 2) := dk_18 ((dQ_X9_readNext_1 3).trans dk_j3) ((dQ_X9_readNext_1 4).trans dk_j4) dk_vu1_202
theorem dX9_readNext_21 : decode cX9_readNext 21 = .ok (.invokevirtual 154, 3) := dk_182 ((dQ_X9_readNext_1 5).trans dk_j5) ((dQ_X9_readNext_1 6).trans dk_j6) ((dQ_X9_readNext_1 7).trans dk_j7) dk_vu2_0_154
theorem dk_vs2_0_12 : Reader.signed 16 ((0x00 : UInt8).toNat * 256 + (0x0c : UInt8).toNat) = (12 : Int) := by decide +kernel
theorem dX9_readNext_24 : decode cX9_readNext 24 = .ok (.ifCond .ne 12, 3) := dk_154 ((dQ_X9_readNext_1 8).trans dk_j8) ((dQ_X9_readNext_1 9).trans dk_j9) ((dQ_X9_readNext_1 10).trans dk_j10) dk_vs2_0_12
theorem dX9_readNext_27 : decode cX9_readNext 27 = .ok (.aload_n 0, 1) := dk_42 ((dQ_X9_readNext_1 11).trans dk_j11)
theorem dk_vu1_204 : (0xcc : UInt8).toNat = (204 : Nat) := by decide +kernel
theorem dX9_readNext_28 : decode cX9_readNext 28 = .ok (.ldc 204, 2) := dk_18 ((dQ_X9_readNext_1 12).trans dk_j12) ((dQ_X9_readNext_1 13).trans dk_j13) dk_vu1_204
theorem dX9_readNext_30 : decode cX9_readNext 30 = .ok (.invokevirtual 154, 3) := dk_182 ((dQ_X9_readNext_1 14).trans dk_j14) ((dQ_X9_readNext_1 15).trans dk_j15) ((dQ_X9_readNext_2 0).trans dk_j0) dk_vu2_0_154
theorem dX9_readNext_33 : decode cX9_readNext 33 = .ok (.ifCond .eq 7, 3) := dk_153 ((dQ_X9_readNext_2 1).trans dk_j1) ((dQ_X9_readNext_2 2).trans dk_j2) ((dQ_X9_readNext_2 3).trans dk_j3) dk_vs2_0_7
theorem dX9_readNext_36 : decode cX9_readNext 36 = .ok (.iconst 1, 1) := dk_4 ((dQ_X9_readNext_2 4).trans dk_j4)
theorem dX9_readNext_37 : decode cX9_readNext 37 = .ok (.goto 4, 3) := dk_167 ((dQ_X9_readNext_2 5).trans dk_j5) ((dQ_X9_readNext_2 6).trans dk_j6) ((dQ_X9_readNext_2 7).trans dk_j7) dk_vs2_0_4
theorem dX9_readNext_40 : decode cX9_readNext 40 = .ok (.iconst 0, 1) := dk_3 ((dQ_X9_readNext_2 8).trans dk_j8)
theorem dX9_readNext_41 : decode cX9_readNext 41 = .ok (.istore_n 1, 1) := dk_60 ((dQ_X9_readNext_2 9).trans dk_j9)
theorem dX9_readNext_42 : decode cX9_readNext 42 = .ok (.iload_n 1, 1) := dk_27 ((dQ_X9_readNext_2 10).trans dk_j10)
theorem dX9_readNext_43 : decode cX9_readNext 43 = .ok (.ifCond .ne 8, 3) := dk_154 ((dQ_X9_readNext_2 11).trans dk_j11) ((dQ_X9_readNext_2 12).trans dk_j12) ((dQ_X9_readNext_2 13).trans dk_j13) dk_vs2_0_8
theorem dX9_readNext_46 : decode cX9_readNext 46 = .ok (.aload_n 0, 1) := dk_42 ((dQ_X9_readNext_2 14).trans dk_j14)
theorem dX9_readNext_47 : decode cX9_readNext 47 = .ok (.iconst 1, 1) := dk_4 ((dQ_X9_readNext_2 15).trans dk_j15)
theorem dX9_readNext_48 : decode cX9_readNext 48 = .ok (.invokevirtual 164, 3) := dk_182 ((dQ_X9_readNext_3 0).trans dk_j0) ((dQ_X9_readNext_3 1).trans dk_j1) ((dQ_X9_readNext_3 2).trans dk_j2) dk_vu2_0_164
theorem dX9_readNext_51 : decode cX9_readNext 51 = .ok (.aload_n 0, 1) := dk_42 ((dQ_X9_readNext_3 3).trans dk_j3)
theorem dX9_readNext_52 : decode cX9_readNext 52 = .ok (.ldc 198, 2) := dk_18 ((dQ_X9_readNext_3 4).trans dk_j4) ((dQ_X9_readNext_3 5).trans dk_j5) dk_vu1_198
theorem dX9_readNext_54 : decode cX9_readNext 54 = .ok (.invokevirtual 154, 3) := dk_182 ((dQ_X9_readNext_3 6).trans dk_j6) ((dQ_X9_readNext_3 7).trans dk_j7) ((dQ_X9_readNext_3 8).trans dk_j8) dk_vu2_0_154
theorem dX9_readNext_57 : decode cX9_readNext 57 = .ok (.ifCond .eq 14, 3) := dk_153 ((dQ_X9_readNext_3 9).trans dk_j9) ((dQ_X9_readNext_3 10).trans dk_j10) ((dQ_X9_readNext_3 11).trans dk_j11) dk_vs2_0_14
theorem dX9_readNext_60 : decode cX9_readNext 60 = .ok (.aload_n 0, 1) := dk_42 ((dQ_X9_readNext_3 12).trans dk_j12)
theorem dX9_readNext_61 : decode cX9_readNext 61 = .ok (.getfield 31, 3) := dk_180 ((dQ_X9_readNext_3 13).trans dk_j13) ((dQ_X9_readNext_3 14).trans dk_j14) ((dQ_X9_readNext_3 15).trans dk_j15) dk_vu2_0_31
theorem dX9_readNext_64 : decode cX9_readNext 64 = .ok (.iconst 5, 1) := dk_8 ((dQ_X9_readNext_4 0).trans dk_j0)
theorem dX9_readNext_65 : decode cX9_readNext 65 = .ok (.iaload, 1) := dk_46 ((dQ_X9_readNext_4 1).trans dk_j1)
theorem dX9_readNext_66 : decode cX9_readNext 66 = .ok (.bipush 6, 2) := dk_16 ((dQ_X9_readNext_4 2).trans dk_j2) ((dQ_X9_readNext_4 3).trans dk_j3) dk_vs1_6
theorem dX9_readNext_68 : decode cX9_readNext 68 = .ok (.if_icmp .eq 23, 3) := dk_159 ((dQ_X9_readNext_4 4).trans dk_j4) ((dQ_X9_readNext_4 5).trans dk_j5) ((dQ_X9_readNext_4 6).trans dk_j6) dk_vs2_0_23
theorem dX9_readNext_71 : decode cX9_readNext 71 = .ok (.aload_n 0, 1) := dk_42 ((dQ_X9_readNext_4 7).trans dk_j7)
theorem dX9_readNext_72 : decode cX9_readNext 72 = .ok (.ldc 200, 2) := dk_18 ((dQ_X9_readNext_4 8).trans dk_j8) ((dQ_X9_readNext_4 9).trans dk_j9) dk_vu1_200
theorem dX9_readNext_74 : decode cX9_readNext 74 = .ok (.invokevirtual 154, 3) := dk_182 ((dQ_X9_readNext_4 10).trans dk_j10) ((dQ_X9_readNext_4 11).trans dk_j11) ((dQ_X9_readNext_4 12).trans dk_j12) dk_vu2_0_154
theorem dk_vs2_0_19 : Reader.signed 16 ((0x00 : UInt8).toNat * 256 + (0x13 : UInt8).toNat) = (19 : Int) := by decide +kernel
theorem dX9_readNext_77 : decode cX9_readNext 77 = .ok (.ifCond .eq 19, 3) := dk_153 ((dQ_X9_readNext_4 13).trans dk_j13) ((dQ_X9_readNext_4 14).trans dk_j14) ((dQ_X9_readNext_4 15).trans dk_j15) dk_vs2_0_19
theorem dX9_readNext_80 : decode cX9_readNext 80 = .ok (.aload_n 0, 1) := dk_42 ((dQ_X9_readNext_5 0).trans dk_j0)
theorem dX9_readNext_81 : decode cX9_readNext 81 = .ok (.getfield 31, 3) := dk_180 ((dQ_X9_readNext_5 1).trans dk_j1) ((dQ_X9_readNext_5 2).trans dk_j2) ((dQ_X9_readNext_5 3).trans dk_j3) dk_vu2_0_31
theorem dX9_readNext_84 : decode cX9_readNext 84 = .ok (.bipush 6, 2) := dk_16 ((dQ_X9_readNext_5 4).trans dk_j4) ((dQ_X9_readNext_5 5).trans dk_j5) dk_vs1_6
theorem dX9_readNext_86 : decode cX9_readNext 86 = .ok (.iaload, 1) := dk_46 ((dQ_X9_readNext_5 6).trans dk_j6)
theorem dX9_readNext_87 : decode cX9_readNext 87 = .ok (.iconst 5, 1) := dk_8 ((dQ_X9_readNext_5 7).trans dk_j7)
theorem dX9_readNext_88 : decode cX9_readNext 88 = .ok (.if_icmp .ne 8, 3) := dk_160 ((dQ_X9_readNext_5 8).trans dk_j8) ((dQ_X9_readNext_5 9).trans dk_j9) ((dQ_X9_readNext_5 10).trans dk_j10) dk_vs2_0_8
theorem dX9_readNext_91 : decode cX9_readNext 91 = .ok (.aload_n 0, 1) := dk_42 ((dQ_X9_readNext_5 11).trans dk_j11)
theorem dX9_readNext_92 : decode cX9_readNext 92 = .ok (.iconst 3, 1) := dk_6 ((dQ_X9_readNext_5 12).trans dk_j12)
theorem dX9_readNext_93 : decode cX9_readNext 93 = .ok (.invokevirtual 164, 3) := dk_182 ((dQ_X9_readNext_5 13).trans dk_j13) ((dQ_X9_readNext_5 14).trans dk_j14) ((dQ_X9_readNext_5 15).trans dk_j15) dk_vu2_0_164
theorem dX9_readNext_96 : decode cX9_readNext 96 = .ok (.aload_n 0, 1) := dk_42 ((dQ_X9_readNext_6 0).trans dk_j0)
theorem dX9_readNext_97 : decode cX9_readNext 97 = .ok (.ldc 202, 2) := dk_18 ((dQ_X9_readNext_6 1).trans dk_j1) ((dQ_X9_readNext_6 2).trans dk_j2) dk_vu1_202
theorem dX9_readNext_99 : decode cX9_readNext 99 = .ok (.invokevirtual 154, 3) := dk_182 ((dQ_X9_readNext_6 3).trans dk_j3) ((dQ_X9_readNext_6 4).trans dk_j4) ((dQ_X9_readNext_6 5).trans dk_j5) dk_vu2_0_154
theorem dk_vs2_0_15 : Reader.signed 16 ((0x00 : UInt8).toNat * 256 + (0x0f : UInt8).toNat) = (15 : Int) := by decide +kernel
theorem dX9_readNext_102 : decode cX9_readNext 102 = .ok (.ifCond .eq 15, 3) := dk_153 ((dQ_X9_readNext_6 6).trans dk_j6) ((dQ_X9_readNext_6 7).trans dk_j7) ((dQ_X9_readNext_6 8).trans dk_j8) dk_vs2_0_15
theorem dX9_readNext_105 : decode cX9_readNext 105 = .ok (.aload_n 0, 1) := dk_42 ((dQ_X9_readNext_6 9).trans dk_j9)
theorem dX9_readNext_106 : decode cX9_readNext 106 = .ok (.getfield 31, 3) := dk_180 ((dQ_X9_readNext_6 10).trans dk_j10) ((dQ_X9_readNext_6 11).trans dk_j11) ((dQ_X9_readNext_6 12).trans dk_j12) dk_vu2_0_31
theorem dX9_readNext_109 : decode cX9_readNext 109 = .ok (.bipush 7, 2) := dk_16 ((dQ_X9_readNext_6 13).trans dk_j13) ((dQ_X9_readNext_6 14).trans dk_j14) dk_vs1_7
theorem dX9_readNext_111 : decode cX9_readNext 111 = .ok (.iaload, 1) := dk_46 ((dQ_X9_readNext_6 15).trans dk_j15)
theorem dX9_readNext_112 : decode cX9_readNext 112 = .ok (.bipush 8, 2) := dk_16 ((dQ_X9_readNext_7 0).trans dk_j0) ((dQ_X9_readNext_7 1).trans dk_j1) dk_vs1_8
theorem dk_vs2_0_24 : Reader.signed 16 ((0x00 : UInt8).toNat * 256 + (0x18 : UInt8).toNat) = (24 : Int) := by decide +kernel
theorem dX9_readNext_114 : decode cX9_readNext 114 = .ok (.if_icmp .eq 24, 3) := dk_159 ((dQ_X9_readNext_7 2).trans dk_j2) ((dQ_X9_readNext_7 3).trans dk_j3) ((dQ_X9_readNext_7 4).trans dk_j4) dk_vs2_0_24
theorem dX9_readNext_117 : decode cX9_readNext 117 = .ok (.aload_n 0, 1) := dk_42 ((dQ_X9_readNext_7 5).trans dk_j5)
theorem dX9_readNext_118 : decode cX9_readNext 118 = .ok (.ldc 204, 2) := dk_18 ((dQ_X9_readNext_7 6).trans dk_j6) ((dQ_X9_readNext_7 7).trans dk_j7) dk_vu1_204
theorem dX9_readNext_120 : decode cX9_readNext 120 = .ok (.invokevirtual 154, 3) := dk_182 ((dQ_X9_readNext_7 8).trans dk_j8) ((dQ_X9_readNext_7 9).trans dk_j9) ((dQ_X9_readNext_7 10).trans dk_j10) dk_vu2_0_154
theorem dk_vs2_0_20 : Reader.signed 16 ((0x00 : UInt8).toNat * 256 + (0x14 : UInt8).toNat) = (20 : Int) := by decide +kernel
theorem dX9_readNext_123 : decode cX9_readNext 123 = .ok (.ifCond .eq 20, 3) := dk_153 ((dQ_X9_readNext_7 11).trans dk_j11) ((dQ_X9_readNext_7 12).trans dk_j12) ((dQ_X9_readNext_7 13).trans dk_j13) dk_vs2_0_20
theorem dX9_readNext_126 : decode cX9_readNext 126 = .ok (.aload_n 0, 1) := dk_42 ((dQ_X9_readNext_7 14).trans dk_j14)
theorem dX9_readNext_127 : decode cX9_readNext 127 = .ok (.getfield 31, 3) := dk_180 ((dQ_X9_readNext_7 15).trans dk_j15) ((dQ_X9_readNext_8 0).trans dk_j0) ((dQ_X9_readNext_8 1).trans dk_j1) dk_vu2_0_31
theorem dX9_readNext_130 : decode cX9_readNext 130 = .ok (.bipush 8, 2) := dk_16 ((dQ_X9_readNext_8 2).trans dk_j2) ((dQ_X9_readNext_8 3).trans dk_j3) dk_vs1_8
theorem dX9_readNext_132 : decode cX9_readNext 132 = .ok (.iaload, 1) := dk_46 ((dQ_X9_readNext_8 4).trans dk_j4)
theorem dX9_readNext_133 : decode cX9_readNext 133 = .ok (.bipush 6, 2) := dk_16 ((dQ_X9_readNext_8 5).trans dk_j5) ((dQ_X9_readNext_8 6).trans dk_j6) dk_vs1_6
theorem dX9_readNext_135 : decode cX9_readNext 135 = .ok (.if_icmp .ne 8, 3) := dk_160 ((dQ_X9_readNext_8 7).trans dk_j7) ((dQ_X9_readNext_8 8).trans dk_j8) ((dQ_X9_readNext_8 9).trans dk_j9) dk_vs2_0_8
theorem dX9_readNext_138 : decode cX9_readNext 138 = .ok (.aload_n 0, 1) := dk_42 ((dQ_X9_readNext_8 10).trans dk_j10)
theorem dX9_readNext_139 : decode cX9_readNext 139 = .ok (.iconst 3, 1) := dk_6 ((dQ_X9_readNext_8 11).trans dk_j11)
theorem dX9_readNext_140 : decode cX9_readNext 140 = .ok (.invokevirtual 164, 3) := dk_182 ((dQ_X9_readNext_8 12).trans dk_j12) ((dQ_X9_readNext_8 13).trans dk_j13) ((dQ_X9_readNext_8 14).trans dk_j14) dk_vu2_0_164
theorem dX9_readNext_143 : decode cX9_readNext 143 = .ok (.aload_n 0, 1) := dk_42 ((dQ_X9_readNext_8 15).trans dk_j15)
theorem dX9_readNext_144 : decode cX9_readNext 144 = .ok (.invokevirtual 140, 3) := dk_182 ((dQ_X9_readNext_9 0).trans dk_j0) ((dQ_X9_readNext_9 1).trans dk_j1) ((dQ_X9_readNext_9 2).trans dk_j2) dk_vu2_0_140
theorem dX9_readNext_147 : decode cX9_readNext 147 = .ok (.ifCond .ne 4, 3) := dk_154 ((dQ_X9_readNext_9 3).trans dk_j3) ((dQ_X9_readNext_9 4).trans dk_j4) ((dQ_X9_readNext_9 5).trans dk_j5) dk_vs2_0_4
theorem dX9_readNext_150 : decode cX9_readNext 150 = .ok (.return_, 1) := dk_177 ((dQ_X9_readNext_9 6).trans dk_j6)
theorem dX9_readNext_151 : decode cX9_readNext 151 = .ok (.aload_n 0, 1) := dk_42 ((dQ_X9_readNext_9 7).trans dk_j7)
theorem dX9_readNext_152 : decode cX9_readNext 152 = .ok (.ldc 198, 2) := dk_18 ((dQ_X9_readNext_9 8).trans dk_j8) ((dQ_X9_readNext_9 9).trans dk_j9) dk_vu1_198
theorem dX9_readNext_154 : decode cX9_readNext 154 = .ok (.invokevirtual 161, 3) := dk_182 ((dQ_X9_readNext_9 10).trans dk_j10) ((dQ_X9_readNext_9 11).trans dk_j11) ((dQ_X9_readNext_9 12).trans dk_j12) dk_vu2_0_161
theorem dk_vs2_0_58 : Reader.signed 16 ((0x00 : UInt8).toNat * 256 + (0x3a : UInt8).toNat) = (58 : Int) := by decide +kernel
theorem dX9_readNext_157 : decode cX9_readNext 157 = .ok (.ifCond .eq 58, 3) := dk_153 ((dQ_X9_readNext_9 13).trans dk_j13) ((dQ_X9_readNext_9 14).trans dk_j14) ((dQ_X9_readNext_9 15).trans dk_j15) dk_vs2_0_58
theorem dk_vs1_11 : Reader.signed 8 (0x0b : UInt8).toNat = (11 : Int) := by decide +kernel
theorem dX9_readNext_160 : decode cX9_readNext 160 = .ok (.bipush 11, 2) := dk_16 ((dQ_X9_readNext_10 0).trans dk_j0) ((dQ_X9_readNext_10 1).trans dk_j1) dk_vs1_11
theorem dX9_readNext_162 : decode cX9_readNext 162 = .ok (.iconst 2, 1) := dk_5 ((dQ_X9_readNext_10 2).trans dk_j2)
theorem dX9_readNext_163 : decode cX9_readNext 163 = .ok (.aload_n 0, 1) := dk_42 ((dQ_X9_readNext_10 3).trans dk_j3)
theorem dX9_readNext_164 : decode cX9_readNext 164 = .ok (.getfield 31, 3) := dk_180 ((dQ_X9_readNext_10 4).trans dk_j4) ((dQ_X9_readNext_10 5).trans dk_j5) ((dQ_X9_readNext_10 6).trans dk_j6) dk_vu2_0_31
theorem dX9_readNext_167 : decode cX9_readNext 167 = .ok (.iconst 5, 1) := dk_8 ((dQ_X9_readNext_10 7).trans dk_j7)
theorem dX9_readNext_168 : decode cX9_readNext 168 = .ok (.iaload, 1) := dk_46 ((dQ_X9_readNext_10 8).trans dk_j8)
theorem dX9_readNext_169 : decode cX9_readNext 169 = .ok (.imul, 1) := dk_104 ((dQ_X9_readNext_10 9).trans dk_j9)
theorem dX9_readNext_170 : decode cX9_readNext 170 = .ok (.iadd, 1) := dk_96 ((dQ_X9_readNext_10 10).trans dk_j10)
theorem dX9_readNext_171 : decode cX9_readNext 171 = .ok (.istore_n 2, 1) := dk_61 ((dQ_X9_readNext_10 11).trans dk_j11)
theorem dX9_readNext_172 : decode cX9_readNext 172 = .ok (.aload_n 0, 1) := dk_42 ((dQ_X9_readNext_10 12).trans dk_j12)
theorem dX9_readNext_173 : decode cX9_readNext 173 = .ok (.getfield 31, 3) := dk_180 ((dQ_X9_readNext_10 13).trans dk_j13) ((dQ_X9_readNext_10 14).trans dk_j14) ((dQ_X9_readNext_10 15).trans dk_j15) dk_vu2_0_31
theorem dX9_readNext_176 : decode cX9_readNext 176 = .ok (.iload_n 2, 1) := dk_28 ((dQ_X9_readNext_11 0).trans dk_j0)
theorem dX9_readNext_177 : decode cX9_readNext 177 = .ok (.aload_n 0, 1) := dk_42 ((dQ_X9_readNext_11 1).trans dk_j1)
theorem dX9_readNext_178 : decode cX9_readNext 178 = .ok (.iconst 0, 1) := dk_3 ((dQ_X9_readNext_11 2).trans dk_j2)
theorem dX9_readNext_179 : decode cX9_readNext 179 = .ok (.bipush 9, 2) := dk_16 ((dQ_X9_readNext_11 3).trans dk_j3) ((dQ_X9_readNext_11 4).trans dk_j4) dk_vs1_9
theorem dX9_readNext_181 : decode cX9_readNext 181 = .ok (.invokevirtual 172, 3) := dk_182 ((dQ_X9_readNext_11 5).trans dk_j5) ((dQ_X9_readNext_11 6).trans dk_j6) ((dQ_X9_readNext_11 7).trans dk_j7) dk_vu2_0_172
theorem dX9_readNext_184 : decode cX9_readNext 184 = .ok (.iastore, 1) := dk_79 ((dQ_X9_readNext_11 8).trans dk_j8)
theorem dX9_readNext_185 : decode cX9_readNext 185 = .ok (.aload_n 0, 1) := dk_42 ((dQ_X9_readNext_11 9).trans dk_j9)
theorem dX9_readNext_186 : decode cX9_readNext 186 = .ok (.getfield 31, 3) := dk_180 ((dQ_X9_readNext_11 10).trans dk_j10) ((dQ_X9_readNext_11 11).trans dk_j11) ((dQ_X9_readNext_11 12).trans dk_j12) dk_vu2_0_31
theorem dX9_readNext_189 : decode cX9_readNext 189 = .ok (.iload_n 2, 1) := dk_28 ((dQ_X9_readNext_11 13).trans dk_j13)
theorem dX9_readNext_190 : decode cX9_readNext 190 = .ok (.iconst 1, 1) := dk_4 ((dQ_X9_readNext_11 14).trans dk_j14)
theorem dX9_readNext_191 : decode cX9_readNext 191 = .ok (.iadd, 1) := dk_96 ((dQ_X9_readNext_11 15).trans dk_j15)
theorem dX9_readNext_192 : decode cX9_readNext 192 = .ok (.aload_n 0, 1) := dk_42 ((dQ_X9_readNext_12 0).trans dk_j0)
theorem dk_vu1_206 : (0xce : UInt8).toNat = (206 : Nat) := by decide +kernel
theorem dX9_readNext_193 : decode cX9_readNext 193 = .ok (.ldc 206, 2) := dk_18 ((dQ_X9_readNext_12 1).trans dk_j1) ((dQ_X9_readNext_12 2).trans dk_j2) dk_vu1_206
theorem dX9_readNext_195 : decode cX9_readNext 195 = .ok (.iconst 1, 1) := dk_4 ((dQ_X9_readNext_12 3).trans dk_j3)
theorem dX9_readNext_196 : decode cX9_readNext 196 = .ok (.bipush 99, 2) := dk_16 ((dQ_X9_readNext_12 4).trans dk_j4) ((dQ_X9_readNext_12 5).trans dk_j5) dk_vs1_99
theorem dX9_readNext_198 : decode cX9_readNext 198 = .ok (.invokevirtual 179, 3) := dk_182 ((dQ_X9_readNext_12 6).trans dk_j6) ((dQ_X9_readNext_12 7).trans dk_j7) ((dQ_X9_readNext_12 8).trans dk_j8) dk_vu2_0_179
theorem dX9_readNext_201 : decode cX9_readNext 201 = .ok (.iastore, 1) := dk_79 ((dQ_X9_readNext_12 9).trans dk_j9)
theorem dX9_readNext_202 : decode cX9_readNext 202 = .ok (.aload_n 0, 1) := dk_42 ((dQ_X9_readNext_12 10).trans dk_j10)
theorem dX9_readNext_203 : decode cX9_readNext 203 = .ok (.getfield 31, 3) := dk_180 ((dQ_X9_readNext_12 11).trans dk_j11) ((dQ_X9_readNext_12 12).trans dk_j12) ((dQ_X9_readNext_12 13).trans dk_j13) dk_vu2_0_31
theorem dX9_readNext_206 : decode cX9_readNext 206 = .ok (.iconst 5, 1) := dk_8 ((dQ_X9_readNext_12 14).trans dk_j14)
theorem dX9_readNext_207 : decode cX9_readNext 207 = .ok (.dup2, 1) := dk_92 ((dQ_X9_readNext_12 15).trans dk_j15)
theorem dX9_readNext_208 : decode cX9_readNext 208 = .ok (.iaload, 1) := dk_46 ((dQ_X9_readNext_13 0).trans dk_j0)
theorem dX9_readNext_209 : decode cX9_readNext 209 = .ok (.iconst 1, 1) := dk_4 ((dQ_X9_readNext_13 1).trans dk_j1)
theorem dX9_readNext_210 : decode cX9_readNext 210 = .ok (.iadd, 1) := dk_96 ((dQ_X9_readNext_13 2).trans dk_j2)
theorem dX9_readNext_211 : decode cX9_readNext 211 = .ok (.iastore, 1) := dk_79 ((dQ_X9_readNext_13 3).trans dk_j3)
theorem dk_vs2_0_93 : Reader.signed 16 ((0x00 : UInt8).toNat * 256 + (0x5d : UInt8).toNat) = (93 : Int) := by decide +kernel
theorem dX9_readNext_212 : decode cX9_readNext 212 = .ok (.goto 93, 3) := dk_167 ((dQ_X9_readNext_13 4).trans dk_j4) ((dQ_X9_readNext_13 5).trans dk_j5) ((dQ_X9_readNext_13 6).trans dk_j6) dk_vs2_0_93
theorem dX9_readNext_215 : decode cX9_readNext 215 = .ok (.aload_n 0, 1) := dk_42 ((dQ_X9_readNext_13 7).trans dk_j7)
theorem dX9_readNext_216 : decode cX9_readNext 216 = .ok (.ldc 200, 2) := dk_18 ((dQ_X9_readNext_13 8).trans dk_j8) ((dQ_X9_readNext_13 9).trans dk_j9) dk_vu1_200
theorem dX9_readNext_218 : decode cX9_readNext 218 = .ok (.invokevirtual 161, 3) := dk_182 ((dQ_X9_readNext_13 10).trans dk_j10) ((dQ_X9_readNext_13 11).trans dk_j11) ((dQ_X9_readNext_13 12).trans dk_j12) dk_vu2_0_161
theorem dk_vs2_0_60 : Reader.signed 16 ((0x00 : UInt8).toNat * 256 + (0x3c : UInt8).toNat) = (60 : Int) := by decide +kernel
theorem dX9_readNext_221 : decode cX9_readNext 221 = .ok (.ifCond .eq 60, 3) := dk_153 ((dQ_X9_readNext_13 13).trans dk_j13) ((dQ_X9_readNext_13 14).trans dk_j14) ((dQ_X9_readNext_13 15).trans dk_j15) dk_vs2_0_60
theorem dk_vs1_23 : Reader.signed 8 (0x17 : UInt8).toNat = (23 : Int) := by decide +kernel
theorem dX9_readNext_224 : decode cX9_readNext 224 = .ok (.bipush 23, 2) := dk_16 ((dQ_X9_readNext_14 0).trans dk_j0) ((dQ_X9_readNext_14 1).trans dk_j1) dk_vs1_23
theorem dX9_readNext_226 : decode cX9_readNext 226 = .ok (.iconst 2, 1) := dk_5 ((dQ_X9_readNext_14 2).trans dk_j2)
theorem dX9_readNext_227 : decode cX9_readNext 227 = .ok (.aload_n 0, 1) := dk_42 ((dQ_X9_readNext_14 3).trans dk_j3)
theorem dX9_readNext_228 : decode cX9_readNext 228 = .ok (.getfield 31, 3) := dk_180 ((dQ_X9_readNext_14 4).trans dk_j4) ((dQ_X9_readNext_14 5).trans dk_j5) ((dQ_X9_readNext_14 6).trans dk_j6) dk_vu2_0_31
theorem dX9_readNext_231 : decode cX9_readNext 231 = .ok (.bipush 6, 2) := dk_16 ((dQ_X9_readNext_14 7).trans dk_j7) ((dQ_X9_readNext_14 8).trans dk_j8) dk_vs1_6
theorem dX9_readNext_233 : decode cX9_readNext 233 = .ok (.iaload, 1) := dk_46 ((dQ_X9_readNext_14 9).trans dk_j9)
theorem dX9_readNext_234 : decode cX9_readNext 234 = .ok (.imul, 1) := dk_104 ((dQ_X9_readNext_14 10).trans dk_j10)
theorem dX9_readNext_235 : decode cX9_readNext 235 = .ok (.iadd, 1) := dk_96 ((dQ_X9_readNext_14 11).trans dk_j11)
theorem dX9_readNext_236 : decode cX9_readNext 236 = .ok (.istore_n 2, 1) := dk_61 ((dQ_X9_readNext_14 12).trans dk_j12)
theorem dX9_readNext_237 : decode cX9_readNext 237 = .ok (.aload_n 0, 1) := dk_42 ((dQ_X9_readNext_14 13).trans dk_j13)
theorem dX9_readNext_238 : decode cX9_readNext 238 = .ok (.getfield 31, 3) := dk_180 ((dQ_X9_readNext_14 14).trans dk_j14) ((dQ_X9_readNext_14 15).trans dk_j15) ((dQ_X9_readNext_15 0).trans dk_j0) dk_vu2_0_31
theorem dX9_readNext_241 : decode cX9_readNext 241 = .ok (.iload_n 2, 1) := dk_28 ((dQ_X9_readNext_15 1).trans dk_j1)
theorem dX9_readNext_242 : decode cX9_readNext 242 = .ok (.aload_n 0, 1) := dk_42 ((dQ_X9_readNext_15 2).trans dk_j2)
theorem dX9_readNext_243 : decode cX9_readNext 243 = .ok (.iconst 1, 1) := dk_4 ((dQ_X9_readNext_15 3).trans dk_j3)
theorem dX9_readNext_244 : decode cX9_readNext 244 = .ok (.bipush 9, 2) := dk_16 ((dQ_X9_readNext_15 4).trans dk_j4) ((dQ_X9_readNext_15 5).trans dk_j5) dk_vs1_9
theorem dX9_readNext_246 : decode cX9_readNext 246 = .ok (.invokevirtual 172, 3) := dk_182 ((dQ_X9_readNext_15 6).trans dk_j6) ((dQ_X9_readNext_15 7).trans dk_j7) ((dQ_X9_readNext_15 8).trans dk_j8) dk_vu2_0_172
theorem dX9_readNext_249 : decode cX9_readNext 249 = .ok (.iastore, 1) := dk_79 ((dQ_X9_readNext_15 9).trans dk_j9)
theorem dX9_readNext_250 : decode cX9_readNext 250 = .ok (.aload_n 0, 1) := dk_42 ((dQ_X9_readNext_15 10).trans dk_j10)
theorem dX9_readNext_251 : decode cX9_readNext 251 = .ok (.getfield 31, 3) := dk_180 ((dQ_X9_readNext_15 11).trans dk_j11) ((dQ_X9_readNext_15 12).trans dk_j12) ((dQ_X9_readNext_15 13).trans dk_j13) dk_vu2_0_31
theorem dX9_readNext_254 : decode cX9_readNext 254 = .ok (.iload_n 2, 1) := dk_28 ((dQ_X9_readNext_15 14).trans dk_j14)
theorem dX9_readNext_255 : decode cX9_readNext 255 = .ok (.iconst 1, 1) := dk_4 ((dQ_X9_readNext_15 15).trans dk_j15)
theorem dX9_readNext_256 : decode cX9_readNext 256 = .ok (.iadd, 1) := dk_96 ((dQ_X9_readNext_16 0).trans dk_j0)
theorem dX9_readNext_257 : decode cX9_readNext 257 = .ok (.aload_n 0, 1) := dk_42 ((dQ_X9_readNext_16 1).trans dk_j1)
theorem dk_vu1_208 : (0xd0 : UInt8).toNat = (208 : Nat) := by decide +kernel
theorem dX9_readNext_258 : decode cX9_readNext 258 = .ok (.ldc 208, 2) := dk_18 ((dQ_X9_readNext_16 2).trans dk_j2) ((dQ_X9_readNext_16 3).trans dk_j3) dk_vu1_208
theorem dX9_readNext_260 : decode cX9_readNext 260 = .ok (.iconst 0, 1) := dk_3 ((dQ_X9_readNext_16 4).trans dk_j4)
theorem dX9_readNext_261 : decode cX9_readNext 261 = .ok (.bipush 29, 2) := dk_16 ((dQ_X9_readNext_16 5).trans dk_j5) ((dQ_X9_readNext_16 6).trans dk_j6) dk_vs1_29
theorem dX9_readNext_263 : decode cX9_readNext 263 = .ok (.invokevirtual 179, 3) := dk_182 ((dQ_X9_readNext_16 7).trans dk_j7) ((dQ_X9_readNext_16 8).trans dk_j8) ((dQ_X9_readNext_16 9).trans dk_j9) dk_vu2_0_179
theorem dX9_readNext_266 : decode cX9_readNext 266 = .ok (.iastore, 1) := dk_79 ((dQ_X9_readNext_16 10).trans dk_j10)
theorem dX9_readNext_267 : decode cX9_readNext 267 = .ok (.aload_n 0, 1) := dk_42 ((dQ_X9_readNext_16 11).trans dk_j11)
theorem dX9_readNext_268 : decode cX9_readNext 268 = .ok (.getfield 31, 3) := dk_180 ((dQ_X9_readNext_16 12).trans dk_j12) ((dQ_X9_readNext_16 13).trans dk_j13) ((dQ_X9_readNext_16 14).trans dk_j14) dk_vu2_0_31
theorem dX9_readNext_271 : decode cX9_readNext 271 = .ok (.bipush 6, 2) := dk_16 ((dQ_X9_readNext_16 15).trans dk_j15) ((dQ_X9_readNext_17 0).trans dk_j0) dk_vs1_6
theorem dX9_readNext_273 : decode cX9_readNext 273 = .ok (.dup2, 1) := dk_92 ((dQ_X9_readNext_17 1).trans dk_j1)
theorem dX9_readNext_274 : decode cX9_readNext 274 = .ok (.iaload, 1) := dk_46 ((dQ_X9_readNext_17 2).trans dk_j2)
theorem dX9_readNext_275 : decode cX9_readNext 275 = .ok (.iconst 1, 1) := dk_4 ((dQ_X9_readNext_17 3).trans dk_j3)
theorem dX9_readNext_276 : decode cX9_readNext 276 = .ok (.iadd, 1) := dk_96 ((dQ_X9_readNext_17 4).trans dk_j4)
theorem dX9_readNext_277 : decode cX9_readNext 277 = .ok (.iastore, 1) := dk_79 ((dQ_X9_readNext_17 5).trans dk_j5)
theorem dk_vs2_0_27 : Reader.signed 16 ((0x00 : UInt8).toNat * 256 + (0x1b : UInt8).toNat) = (27 : Int) := by decide +kernel
theorem dX9_readNext_278 : decode cX9_readNext 278 = .ok (.goto 27, 3) := dk_167 ((dQ_X9_readNext_17 6).trans dk_j6) ((dQ_X9_readNext_17 7).trans dk_j7) ((dQ_X9_readNext_17 8).trans dk_j8) dk_vs2_0_27
theorem dX9_readNext_281 : decode cX9_readNext 281 = .ok (.aload_n 0, 1) := dk_42 ((dQ_X9_readNext_17 9).trans dk_j9)
theorem dX9_readNext_282 : decode cX9_readNext 282 = .ok (.ldc 202, 2) := dk_18 ((dQ_X9_readNext_17 10).trans dk_j10) ((dQ_X9_readNext_17 11).trans dk_j11) dk_vu1_202
theorem dX9_readNext_284 : decode cX9_readNext 284 = .ok (.invokevirtual 161, 3) := dk_182 ((dQ_X9_readNext_17 12).trans dk_j12) ((dQ_X9_readNext_17 13).trans dk_j13) ((dQ_X9_readNext_17 14).trans dk_j14) dk_vu2_0_161
theorem dX9_readNext_287 : decode cX9_readNext 287 = .ok (.ifCond .eq 10, 3) := dk_153 ((dQ_X9_readNext_17 15).trans dk_j15) ((dQ_X9_readNext_18 0).trans dk_j0) ((dQ_X9_readNext_18 1).trans dk_j1) dk_vs2_0_10
theorem dX9_readNext_290 : decode cX9_readNext 290 = .ok (.aload_n 0, 1) := dk_42 ((dQ_X9_readNext_18 2).trans dk_j2)
theorem dk_vu2_0_209 : (0x00 : UInt8).toNat * 256 + (0xd1 : UInt8).toNat = (209 : Nat) := by decide +kernel
theorem dX9_readNext_291 : decode cX9_readNext 291 = .ok (.invokevirtual 209, 3) := dk_182 ((dQ_X9_readNext_18 3).trans dk_j3) ((dQ_X9_readNext_18 4).trans dk_j4) ((dQ_X9_readNext_18 5).trans dk_j5) dk_vu2_0_209
theorem dX9_readNext_294 : decode cX9_readNext 294 = .ok (.goto 11, 3) := dk_167 ((dQ_X9_readNext_18 6).trans dk_j6) ((dQ_X9_readNext_18 7).trans dk_j7) ((dQ_X9_readNext_18 8).trans dk_j8) dk_vs2_0_11
theorem dX9_readNext_297 : decode cX9_readNext 297 = .ok (.aload_n 0, 1) := dk_42 ((dQ_X9_readNext_18 9).trans dk_j9)
theorem dX9_readNext_298 : decode cX9_readNext 298 = .ok (.invokevirtual 158, 3) := dk_182 ((dQ_X9_readNext_18 10).trans dk_j10) ((dQ_X9_readNext_18 11).trans dk_j11) ((dQ_X9_readNext_18 12).trans dk_j12) dk_vu2_0_158
theorem dX9_readNext_301 : decode cX9_readNext 301 = .ok (.aload_n 0, 1) := dk_42 ((dQ_X9_readNext_18 13).trans dk_j13)
theorem dk_vu2_0_212 : (0x00 : UInt8).toNat * 256 + (0xd4 : UInt8).toNat = (212 : Nat) := by decide +kernel
theorem dX9_readNext_302 : decode cX9_readNext 302 = .ok (.invokevirtual 212, 3) := dk_182 ((dQ_X9_readNext_18 14).trans dk_j14) ((dQ_X9_readNext_18 15).trans dk_j15) ((dQ_X9_readNext_19 0).trans dk_j0) dk_vu2_0_212
theorem dX9_readNext_305 : decode cX9_readNext 305 = .ok (.return_, 1) := dk_177 ((dQ_X9_readNext_19 1).trans dk_j1)
def dT_X9_readLine_3 : List UInt8 := (0x2a : UInt8) :: (0xb6 : UInt8) :: (0x00 : UInt8) :: (0x9e : UInt8) :: (0x2a : UInt8) :: (0xb4 : UInt8) :: (0x00 : UInt8) :: (0x1f : UInt8) :: (0x10 : UInt8) :: (0x0a : UInt8) :: (0x5c : UInt8) :: (0x2e : UInt8) :: (0x04 : UInt8) :: (0x60 : UInt8) :: (0x4f : UInt8) :: (0xb1 : UInt8) :: []
def dT_X9_readLine_2 : List UInt8 := (0x06 : UInt8) :: (0x9f : UInt8) :: (0x00 : UInt8) :: (0x08 : UInt8) :: (0x2a : UInt8) :: (0x04 : UInt8) :: (0xb6 : UInt8) :: (0x00 : UInt8) :: (0xa4 : UInt8) :: (0x2a : UInt8) :: (0xb6 : UInt8) :: (0x00 : UInt8) :: (0x8c : UInt8) :: (0x99 : UInt8) :: (0x00 : UInt8) :: (0x07 : UInt8) :: dT_X9_readLine_3
def dT_X9_readLine_1 : List UInt8 := (0x07 : UInt8) :: (0x2a : UInt8) :: (0xb6 : UInt8) :: (0x00 : UInt8) :: (0xda : UInt8) :: (0x2a : UInt8) :: (0xb6 : UInt8) :: (0x00 : UInt8) :: (0x8c : UInt8) :: (0x99 : UInt8) :: (0x00 : UInt8) :: (0x10 : UInt8) :: (0x2a : UInt8) :: (0xb4 : UInt8) :: (0x00 : UInt8) :: (0x74 : UInt8) :: dT_X9_readLine_2
def dT_X9_readLine_0 : List UInt8 := (0x2a : UInt8) :: (0xb4 : UInt8) :: (0x00 : UInt8) :: (0x1f : UInt8) :: (0x10 : UInt8) :: (0x0a : UInt8) :: (0x2e : UInt8) :: (0x9a : UInt8) :: (0x00 : UInt8) :: (0x0a : UInt8) :: (0x2a : UInt8) :: (0xb6 : UInt8) :: (0x00 : UInt8) :: (0xd7 : UInt8) :: (0xa7 : UInt8) :: (0x00 : UInt8) :: dT_X9_readLine_1
theorem dT_X9_readLine : cX9_readLine.data.toList = dT_X9_readLine_0 := eq_of_beq (show (cX9_readLine.data.toList == dT_X9_readLine_0) = true by decide +kernel)
theorem dQ_X9_readLine_0 : dQ_P cX9_readLine 0 dT_X9_readLine_0 := fun i => by rw [dT_X9_readLine]; rfl
theorem dQ_X9_readLine_1 : dQ_P cX9_readLine 16 dT_X9_readLine_1 := fun i => (dQ_X9_readLine_0 (i + 16)).trans dk_t
theorem dQ_X9_readLine_2 : dQ_P cX9_readLine 32 dT_X9_readLine_2 := fun i => (dQ_X9_readLine_1 (i + 16)).trans dk_t
theorem dQ_X9_readLine_3 : dQ_P cX9_readLine 48 dT_X9_readLine_3 := fun i => (dQ_X9_readLine_2 (i + 16)).trans dk_t
theorem dX9_readLine_0 : decode cX9_readLine 0 = .ok (.aload_n 0, 1) := dk_42 ((dQ_X9_readLine_0 0).trans dk_j0)
theorem dX9_readLine_1 : decode cX9_readLine 1 = .ok (.getfield 31, 3) := dk_180 ((dQ_X9_readLine_0 1).trans dk_j1) ((dQ_X9_readLine_0 2).trans dk_j2) ((dQ_X9_readLine_0 3).trans dk_j3) dk_vu2_0_31
theorem dX9_readLine_4 : decode cX9_readLine 4 = .ok (.bipush 10, 2) := dk_16 ((dQ_X9_readLine_0 4).trans dk_j4) ((dQ_X9_readLine_0 5).trans dk_j5) dk_vs1_10
theorem dX9_readLine_6 : decode cX9_readLine 6 = .ok (.iaload, 1) := dk_46 ((dQ_X9_readLine_0 6).trans dk_j6)
theorem dX9_readLine_7 : decode cX9_readLine 7 = .ok (.ifCond .ne 10, 3) := dk_154 ((dQ_X9_readLine_0 7).trans dk_j7) ((dQ_X9_readLine_0 8).trans dk_j8) ((dQ_X9_readLine_0 9).trans dk_j9) dk_vs2_0_10
theorem dX9_readLine_10 : decode cX9_readLine 10 = .ok (.aload_n 0, 1) := dk_42 ((dQ_X9_readLine_0 10).trans dk_j10)
theorem dk_vu2_0_215 : (0x00 : UInt8).toNat * 256 + (0xd7 : UInt8).toNat = (215 : Nat) := by decide +kernel
theorem dX9_readLine_11 : decode cX9_readLine 11 = .ok (.invokevirtual 215, 3) := dk_182 ((dQ_X9_readLine_0 11).trans dk_j11) ((dQ_X9_readLine_0 12).trans dk_j12) ((dQ_X9_readLine_0 13).trans dk_j13) dk_vu2_0_215
theorem dX9_readLine_14 : decode cX9_readLine 14 = .ok (.goto 7, 3) := dk_167 ((dQ_X9_readLine_0 14).trans dk_j14) ((dQ_X9_readLine_0 15).trans dk_j15) ((dQ_X9_readLine_1 0).trans dk_j0) dk_vs2_0_7
theorem dX9_readLine_17 : decode cX9_readLine 17 = .ok (.aload_n 0, 1) := dk_42 ((dQ_X9_readLine_1 1).trans dk_j1)
theorem dk_vu2_0_218 : (0x00 : UInt8).toNat * 256 + (0xda : UInt8).toNat = (218 : Nat) := by decide +kernel
theorem dX9_readLine_18 : decode cX9_readLine 18 = .ok (.invokevirtual 218, 3) := dk_182 ((dQ_X9_readLine_1 2).trans dk_j2) ((dQ_X9_readLine_1 3).trans dk_j3) ((dQ_X9_readLine_1 4).trans dk_j4) dk_vu2_0_218
theorem dX9_readLine_21 : decode cX9_readLine 21 = .ok (.aload_n 0, 1) := dk_42 ((dQ_X9_readLine_1 5).trans dk_j5)
theorem dX9_readLine_22 : decode cX9_readLine 22 = .ok (.invokevirtual 140, 3) := dk_182 ((dQ_X9_readLine_1 6).trans dk_j6) ((dQ_X9_readLine_1 7).trans dk_j7) ((dQ_X9_readLine_1 8).trans dk_j8) dk_vu2_0_140
theorem dX9_readLine_25 : decode cX9_readLine 25 = .ok (.ifCond .eq 16, 3) := dk_153 ((dQ_X9_readLine_1 9).trans dk_j9) ((dQ_X9_readLine_1 10).trans dk_j10) ((dQ_X9_readLine_1 11).trans dk_j11) dk_vs2_0_16
theorem dX9_readLine_28 : decode cX9_readLine 28 = .ok (.aload_n 0, 1) := dk_42 ((dQ_X9_readLine_1 12).trans dk_j12)
theorem dX9_readLine_29 : decode cX9_readLine 29 = .ok (.getfield 116, 3) := dk_180 ((dQ_X9_readLine_1 13).trans dk_j13) ((dQ_X9_readLine_1 14).trans dk_j14) ((dQ_X9_readLine_1 15).trans dk_j15) dk_vu2_0_116
theorem dX9_readLine_32 : decode cX9_readLine 32 = .ok (.iconst 3, 1) := dk_6 ((dQ_X9_readLine_2 0).trans dk_j0)
theorem dX9_readLine_33 : decode cX9_readLine 33 = .ok (.if_icmp .eq 8, 3) := dk_159 ((dQ_X9_readLine_2 1).trans dk_j1) ((dQ_X9_readLine_2 2).trans dk_j2) ((dQ_X9_readLine_2 3).trans dk_j3) dk_vs2_0_8
theorem dX9_readLine_36 : decode cX9_readLine 36 = .ok (.aload_n 0, 1) := dk_42 ((dQ_X9_readLine_2 4).trans dk_j4)
theorem dX9_readLine_37 : decode cX9_readLine 37 = .ok (.iconst 1, 1) := dk_4 ((dQ_X9_readLine_2 5).trans dk_j5)
theorem dX9_readLine_38 : decode cX9_readLine 38 = .ok (.invokevirtual 164, 3) := dk_182 ((dQ_X9_readLine_2 6).trans dk_j6) ((dQ_X9_readLine_2 7).trans dk_j7) ((dQ_X9_readLine_2 8).trans dk_j8) dk_vu2_0_164
theorem dX9_readLine_41 : decode cX9_readLine 41 = .ok (.aload_n 0, 1) := dk_42 ((dQ_X9_readLine_2 9).trans dk_j9)
theorem dX9_readLine_42 : decode cX9_readLine 42 = .ok (.invokevirtual 140, 3) := dk_182 ((dQ_X9_readLine_2 10).trans dk_j10) ((dQ_X9_readLine_2 11).trans dk_j11) ((dQ_X9_readLine_2 12).trans dk_j12) dk_vu2_0_140
theorem dX9_readLine_45 : decode cX9_readLine 45 = .ok (.ifCond .eq 7, 3) := dk_153 ((dQ_X9_readLine_2 13).trans dk_j13) ((dQ_X9_readLine_2 14).trans dk_j14) ((dQ_X9_readLine_2 15).trans dk_j15) dk_vs2_0_7
theorem dX9_readLine_48 : decode cX9_readLine 48 = .ok (.aload_n 0, 1) := dk_42 ((dQ_X9_readLine_3 0).trans dk_j0)
theorem dX9_readLine_49 : decode cX9_readLine 49 = .ok (.invokevirtual 158, 3) := dk_182 ((dQ_X9_readLine_3 1).trans dk_j1) ((dQ_X9_readLine_3 2).trans dk_j2) ((dQ_X9_readLine_3 3).trans dk_j3) dk_vu2_0_158
theorem dX9_readLine_52 : decode cX9_readLine 52 = .ok (.aload_n 0, 1) := dk_42 ((dQ_X9_readLine_3 4).trans dk_j4)
theorem dX9_readLine_53 : decode cX9_readLine 53 = .ok (.getfield 31, 3) := dk_180 ((dQ_X9_readLine_3 5).trans dk_j5) ((dQ_X9_readLine_3 6).trans dk_j6) ((dQ_X9_readLine_3 7).trans dk_j7) dk_vu2_0_31
theorem dX9_readLine_56 : decode cX9_readLine 56 = .ok (.bipush 10, 2) := dk_16 ((dQ_X9_readLine_3 8).trans dk_j8) ((dQ_X9_readLine_3 9).trans dk_j9) dk_vs1_10
theorem dX9_readLine_58 : decode cX9_readLine 58 = .ok (.dup2, 1) := dk_92 ((dQ_X9_readLine_3 10).trans dk_j10)
theorem dX9_readLine_59 : decode cX9_readLine 59 = .ok (.iaload, 1) := dk_46 ((dQ_X9_readLine_3 11).trans dk_j11)
theorem dX9_readLine_60 : decode cX9_readLine 60 = .ok (.iconst 1, 1) := dk_4 ((dQ_X9_readLine_3 12).trans dk_j12)
theorem dX9_readLine_61 : decode cX9_readLine 61 = .ok (.iadd, 1) := dk_96 ((dQ_X9_readLine_3 13).trans dk_j13)
theorem dX9_readLine_62 : decode cX9_readLine 62 = .ok (.iastore, 1) := dk_79 ((dQ_X9_readLine_3 14).trans dk_j14)
theorem dX9_readLine_63 : decode cX9_readLine 63 = .ok (.return_, 1) := dk_177 ((dQ_X9_readLine_3 15).trans dk_j15)
def dT_X9_house_7 : List UInt8 := (0x00 : UInt8) :: (0x09 : UInt8) :: (0x10 : UInt8) :: (0x0a : UInt8) :: (0x2e : UInt8) :: (0xac : UInt8) :: []
def dT_X9_house_6 : List UInt8 := (0x1b : UInt8) :: (0x2a : UInt8) :: (0xb4 : UInt8) :: (0x00 : UInt8) :: (0x1f : UInt8) :: (0x1b : UInt8) :: (0x2e : UInt8) :: (0x4f : UInt8) :: (0x84 : UInt8) :: (0x01 : UInt8) :: (0x01 : UInt8) :: (0xa7 : UInt8) :: (0xff : UInt8) :: (0xeb : UInt8) :: (0x2a : UInt8) :: (0xb4 : UInt8) :: dT_X9_house_7
def dT_X9_house_5 : List UInt8 := (0x06 : UInt8) :: (0x10 : UInt8) :: (0xfc : UInt8) :: (0xac : UInt8) :: (0x03 : UInt8) :: (0x3c : UInt8) :: (0x1b : UInt8) :: (0x10 : UInt8) :: (0x77 : UInt8) :: (0xa2 : UInt8) :: (0x00 : UInt8) :: (0x15 : UInt8) :: (0x2a : UInt8) :: (0xb4 : UInt8) :: (0x00 : UInt8) :: (0x09 : UInt8) :: dT_X9_house_6
def dT_X9_house_4 : List UInt8 := (0x99 : UInt8) :: (0x00 : UInt8) :: (0x0a : UInt8) :: (0x2a : UInt8) :: (0xb6 : UInt8) :: (0x00 : UInt8) :: (0xdd : UInt8) :: (0xa7 : UInt8) :: (0xff : UInt8) :: (0xee : UInt8) :: (0x2a : UInt8) :: (0xb6 : UInt8) :: (0x00 : UInt8) :: (0x8c : UInt8) :: (0x9a : UInt8) :: (0x00 : UInt8) :: dT_X9_house_5
def dT_X9_house_3 : List UInt8 := (0xf0 : UInt8) :: (0x2a : UInt8) :: (0xb6 : UInt8) :: (0x00 : UInt8) :: (0x9e : UInt8) :: (0x2a : UInt8) :: (0xb6 : UInt8) :: (0x00 : UInt8) :: (0x8c : UInt8) :: (0x99 : UInt8) :: (0x00 : UInt8) :: (0x11 : UInt8) :: (0x2a : UInt8) :: (0xb4 : UInt8) :: (0x00 : UInt8) :: (0x74 : UInt8) :: dT_X9_house_4
def dT_X9_house_2 : List UInt8 := (0x77 : UInt8) :: (0xa2 : UInt8) :: (0x00 : UInt8) :: (0x10 : UInt8) :: (0x2a : UInt8) :: (0xb4 : UInt8) :: (0x00 : UInt8) :: (0x1f : UInt8) :: (0x1b : UInt8) :: (0x03 : UInt8) :: (0x4f : UInt8) :: (0x84 : UInt8) :: (0x01 : UInt8) :: (0x01 : UInt8) :: (0xa7 : UInt8) :: (0xff : UInt8) :: dT_X9_house_3
def dT_X9_house_1 : List UInt8 := (0x00 : UInt8) :: (0x6a : UInt8) :: (0x2a : UInt8) :: (0x03 : UInt8) :: (0xb5 : UInt8) :: (0x00 : UInt8) :: (0x89 : UInt8) :: (0x2a : UInt8) :: (0x02 : UInt8) :: (0xb5 : UInt8) :: (0x00 : UInt8) :: (0x1b : UInt8) :: (0x03 : UInt8) :: (0x3c : UInt8) :: (0x1b : UInt8) :: (0x10 : UInt8) :: dT_X9_house_2
def dT_X9_house_0 : List UInt8 := (0x2a : UInt8) :: (0x2a : UInt8) :: (0xb4 : UInt8) :: (0x00 : UInt8) :: (0x64 : UInt8) :: (0xb5 : UInt8) :: (0x00 : UInt8) :: (0x67 : UInt8) :: (0x2a : UInt8) :: (0x03 : UInt8) :: (0xb5 : UInt8) :: (0x00 : UInt8) :: (0x64 : UInt8) :: (0x2a : UInt8) :: (0x03 : UInt8) :: (0xb5 : UInt8) :: dT_X9_house_1
theorem dT_X9_house : cX9_house.data.toList = dT_X9_house_0 := eq_of_beq (show (cX9_house.data.toList == dT_X9_house_0) = true by decide +kernel)
theorem dQ_X9_house_0 : dQ_P cX9_house 0 dT_X9_house_0 := fun i => by rw [dT_X9_house]; rfl
theorem dQ_X9_house_1 : dQ_P cX9_house 16 dT_X9_house_1 := fun i => (dQ_X9_house_0 (i + 16)).trans dk_t
theorem dQ_X9_house_2 : dQ_P cX9_house 32 dT_X9_house_2 := fun i => (dQ_X9_house_1 (i + 16)).trans dk_t
theorem dQ_X9_house_3 : dQ_P cX9_house 48 dT_X9_house_3 := fun i => (dQ_X9_house_2 (i + 16)).trans dk_t
theorem dQ_X9_house_4 : dQ_P cX9_house 64 dT_X9_house_4 := fun i => (dQ_X9_house_3 (i + 16)).trans dk_t
theorem dQ_X9_house_5 : dQ_P cX9_house 80 dT_X9_house_5 := fun i => (dQ_X9_house_4 (i + 16)).trans dk_t
theorem dQ_X9_house_6 : dQ_P cX9_house 96 dT_X9_house_6 := fun i => (dQ_X9_house_5 (i + 16)).trans dk_t
theorem dQ_X9_house_7 : dQ_P cX9_house 112 dT_X9_house_7 := fun i => (dQ_X9_house_6 (i + 16)).trans dk_t
theorem dX9_house_0 : decode cX9_house 0 = .ok (.aload_n 0, 1) := dk_42 ((dQ_X9_house_0 0).trans dk_j0)
theorem dX9_house_1 : decode cX9_house 1 = .ok (.aload_n 0, 1) := dk_42 ((dQ_X9_house_0 1).trans dk_j1)
theorem dX9_house_2 : decode cX9_house 2 = .ok (.getfield 100, 3) := dk_180 ((dQ_X9_house_0 2).trans dk_j2) ((dQ_X9_house_0 3).trans dk_j3) ((dQ_X9_house_0 4).trans dk_j4) dk_vu2_0_100
theorem dX9_house_5 : decode cX9_house 5 = .ok (.putfield 103, 3) := dk_181 ((dQ_X9_house_0 5).trans dk_j5) ((dQ_X9_house_0 6).trans dk_j6) ((dQ_X9_house_0 7).trans dk_j7) dk_vu2_0_103
theorem dX9_house_8 : decode cX9_house 8 = .ok (.aload_n 0, 1) := dk_42 ((dQ_X9_house_0 8).trans dk_j8)
theorem dX9_house_9 : decode cX9_house 9 = .ok (.iconst 0, 1) := dk_3 ((dQ_X9_house_0 9).trans dk_j9)
theorem dX9_house_10 : decode cX9_house 10 = .ok (.putfield 100, 3) := dk_181 ((dQ_X9_house_0 10).trans dk_j10) ((dQ_X9_house_0 11).trans dk_j11) ((dQ_X9_house_0 12).trans dk_j12) dk_vu2_0_100
theorem dX9_house_13 : decode cX9_house 13 = .ok (.aload_n 0, 1) := dk_42 ((dQ_X9_house_0 13).trans dk_j13)
theorem dX9_house_14 : decode cX9_house 14 = .ok (.iconst 0, 1) := dk_3 ((dQ_X9_house_0 14).trans dk_j14)
theorem dX9_house_15 : decode cX9_house 15 = .ok (.putfield 106, 3) := dk_181 ((dQ_X9_house_0 15).trans dk_j15) ((dQ_X9_house_1 0).trans dk_j0) ((dQ_X9_house_1 1).trans dk_j1) dk_vu2_0_106
theorem dX9_house_18 : decode cX9_house 18 = .ok (.aload_n 0, 1) := dk_42 ((dQ_X9_house_1 2).trans dk_j2)
theorem dX9_house_19 : decode cX9_house 19 = .ok (.iconst 0, 1) := dk_3 ((dQ_X9_house_1 3).trans dk_j3)
theorem dX9_house_20 : decode cX9_house 20 = .ok (.putfield 137, 3) := dk_181 ((dQ_X9_house_1 4).trans dk_j4) ((dQ_X9_house_1 5).trans dk_j5) ((dQ_X9_house_1 6).trans dk_j6) dk_vu2_0_137
theorem dX9_house_23 : decode cX9_house 23 = .ok (.aload_n 0, 1) := dk_42 ((dQ_X9_house_1 7).trans dk_j7)
theorem dX9_house_24 : decode cX9_house 24 = .ok (.iconst (-1), 1) := dk_2 ((dQ_X9_house_1 8).trans dk_j8)
theorem dX9_house_25 : decode cX9_house 25 = .ok (.putfield 27, 3) := dk_181 ((dQ_X9_house_1 9).trans dk_j9) ((dQ_X9_house_1 10).trans dk_j10) ((dQ_X9_house_1 11).trans dk_j11) dk_vu2_0_27
theorem dX9_house_28 : decode cX9_house 28 = .ok (.iconst 0, 1) := dk_3 ((dQ_X9_house_1 12).trans dk_j12)
theorem dX9_house_29 : decode cX9_house 29 = .ok (.istore_n 1, 1) := dk_60 ((dQ_X9_house_1 13).trans dk_j13)
theorem dX9_house_30 : decode cX9_house 30 = .ok (.iload_n 1, 1) := dk_27 ((dQ_X9_house_1 14).trans dk_j14)
theorem dX9_house_31 : decode cX9_house 31 = .ok (.bipush 119, 2) := dk_16 ((dQ_X9_house_1 15).trans dk_j15) ((dQ_X9_house_2 0).trans dk_j0) dk_vs1_119
theorem dX9_house_33 : decode cX9_house 33 = .ok (.if_icmp .ge 16, 3) := dk_162 ((dQ_X9_house_2 1).trans dk_j1) ((dQ_X9_house_2 2).trans dk_j2) ((dQ_X9_house_2 3).trans dk_j3) dk_vs2_0_16
theorem dX9_house_36 : decode cX9_house 36 = .ok (.aload_n 0, 1) := dk_42 ((dQ_X9_house_2 4).trans dk_j4)
theorem dX9_house_37 : decode cX9_house 37 = .ok (.getfield 31, 3) := dk_180 ((dQ_X9_house_2 5).trans dk_j5) ((dQ_X9_house_2 6).trans dk_j6) ((dQ_X9_house_2 7).trans dk_j7) dk_vu2_0_31
theorem dX9_house_40 : decode cX9_house 40 = .ok (.iload_n 1, 1) := dk_27 ((dQ_X9_house_2 8).trans dk_j8)
theorem dX9_house_41 : decode cX9_house 41 = .ok (.iconst 0, 1) := dk_3 ((dQ_X9_house_2 9).trans dk_j9)
theorem dX9_house_42 : decode cX9_house 42 = .ok (.iastore, 1) := dk_79 ((dQ_X9_house_2 10).trans dk_j10)
theorem dk_vu1_1 : (0x01 : UInt8).toNat = (1 : Nat) := by decide +kernel
theorem dX9_house_43 : decode cX9_house 43 = .ok (.iinc 1 1, 3) := dk_132 ((dQ_X9_house_2 11).trans dk_j11) ((dQ_X9_house_2 12).trans dk_j12) ((dQ_X9_house_2 13).trans dk_j13) dk_vu1_1 dk_vs1_1
theorem dk_vs2_255_240 : Reader.signed 16 ((0xff : UInt8).toNat * 256 + (0xf0 : UInt8).toNat) = (-16 : Int) := by decide +kernel
theorem dX9_house_46 : decode cX9_house 46 = .ok (.goto (-16), 3) := dk_167 ((dQ_X9_house_2 14).trans dk_j14) ((dQ_X9_house_2 15).trans dk_j15) ((dQ_X9_house_3 0).trans dk_j0) dk_vs2_255_240
theorem dX9_house_49 : decode cX9_house 49 = .ok (.aload_n 0, 1) := dk_42 ((dQ_X9_house_3 1).trans dk_j1)
theorem dX9_house_50 : decode cX9_house 50 = .ok (.invokevirtual 158, 3) := dk_182 ((dQ_X9_house_3 2).trans dk_j2) ((dQ_X9_house_3 3).trans dk_j3) ((dQ_X9_house_3 4).trans dk_j4) dk_vu2_0_158
theorem dX9_house_53 : decode cX9_house 53 = .ok (.aload_n 0, 1) := dk_42 ((dQ_X9_house_3 5).trans dk_j5)
theorem dX9_house_54 : decode cX9_house 54 = .ok (.invokevirtual 140, 3) := dk_182 ((dQ_X9_house_3 6).trans dk_j6) ((dQ_X9_house_3 7).trans dk_j7) ((dQ_X9_house_3 8).trans dk_j8) dk_vu2_0_140
theorem dX9_house_57 : decode cX9_house 57 = .ok (.ifCond .eq 17, 3) := dk_153 ((dQ_X9_house_3 9).trans dk_j9) ((dQ_X9_house_3 10).trans dk_j10) ((dQ_X9_house_3 11).trans dk_j11) dk_vs2_0_17
theorem dX9_house_60 : decode cX9_house 60 = .ok (.aload_n 0, 1) := dk_42 ((dQ_X9_house_3 12).trans dk_j12)
theorem dX9_house_61 : decode cX9_house 61 = .ok (.getfield 116, 3) := dk_180 ((dQ_X9_house_3 13).trans dk_j13) ((dQ_X9_house_3 14).trans dk_j14) ((dQ_X9_house_3 15).trans dk_j15) dk_vu2_0_116
theorem dX9_house_64 : decode cX9_house 64 = .ok (.ifCond .eq 10, 3) := dk_153 ((dQ_X9_house_4 0).trans dk_j0) ((dQ_X9_house_4 1).trans dk_j1) ((dQ_X9_house_4 2).trans dk_j2) dk_vs2_0_10
theorem dX9_house_67 : decode cX9_house 67 = .ok (.aload_n 0, 1) := dk_42 ((dQ_X9_house_4 3).trans dk_j3)
theorem dk_vu2_0_221 : (0x00 : UInt8).toNat * 256 + (0xdd : UInt8).toNat = (221 : Nat) := by decide +kernel
theorem dX9_house_68 : decode cX9_house 68 = .ok (.invokevirtual 221, 3) := dk_182 ((dQ_X9_house_4 4).trans dk_j4) ((dQ_X9_house_4 5).trans dk_j5) ((dQ_X9_house_4 6).trans dk_j6) dk_vu2_0_221
theorem dk_vs2_255_238 : Reader.signed 16 ((0xff : UInt8).toNat * 256 + (0xee : UInt8).toNat) = (-18 : Int) := by decide +kernel
theorem dX9_house_71 : decode cX9_house 71 = .ok (.goto (-18), 3) := dk_167 ((dQ_X9_house_4 7).trans dk_j7) ((dQ_X9_house_4 8).trans dk_j8) ((dQ_X9_house_4 9).trans dk_j9) dk_vs2_255_238
theorem dX9_house_74 : decode cX9_house 74 = .ok (.aload_n 0, 1) := dk_42 ((dQ_X9_house_4 10).trans dk_j10)
theorem dX9_house_75 : decode cX9_house 75 = .ok (.invokevirtual 140, 3) := dk_182 ((dQ_X9_house_4 11).trans dk_j11) ((dQ_X9_house_4 12).trans dk_j12) ((dQ_X9_house_4 13).trans dk_j13) dk_vu2_0_140
theorem dX9_house_78 : decode cX9_house 78 = .ok (.ifCond .ne 6, 3) := dk_154 ((dQ_X9_house_4 14).trans dk_j14) ((dQ_X9_house_4 15).trans dk_j15) ((dQ_X9_house_5 0).trans dk_j0) dk_vs2_0_6
theorem dk_vs1_252 : Reader.signed 8 (0xfc : UInt8).toNat = (-4 : Int) := by decide +kernel
theorem dX9_house_81 : decode cX9_house 81 = .ok (.bipush (-4), 2) := dk_16 ((dQ_X9_house_5 1).trans dk_j1) ((dQ_X9_house_5 2).trans dk_j2) dk_vs1_252
theorem dX9_house_83 : decode cX9_house 83 = .ok (.ireturn, 1) := dk_172 ((dQ_X9_house_5 3).trans dk_j3)
theorem dX9_house_84 : decode cX9_house 84 = .ok (.iconst 0, 1) := dk_3 ((dQ_X9_house_5 4).trans dk_j4)
theorem dX9_house_85 : decode cX9_house 85 = .ok (.istore_n 1, 1) := dk_60 ((dQ_X9_house_5 5).trans dk_j5)
theorem dX9_house_86 : decode cX9_house 86 = .ok (.iload_n 1, 1) := dk_27 ((dQ_X9_house_5 6).trans dk_j6)
theorem dX9_house_87 : decode cX9_house 87 = .ok (.bipush 119, 2) := dk_16 ((dQ_X9_house_5 7).trans dk_j7) ((dQ_X9_house_5 8).trans dk_j8) dk_vs1_119
theorem dX9_house_89 : decode cX9_house 89 = .ok (.if_icmp .ge 21, 3) := dk_162 ((dQ_X9_house_5 9).trans dk_j9) ((dQ_X9_house_5 10).trans dk_j10) ((dQ_X9_house_5 11).trans dk_j11) dk_vs2_0_21
theorem dX9_house_92 : decode cX9_house 92 = .ok (.aload_n 0, 1) := dk_42 ((dQ_X9_house_5 12).trans dk_j12)
theorem dX9_house_93 : decode cX9_house 93 = .ok (.getfield 9, 3) := dk_180 ((dQ_X9_house_5 13).trans dk_j13) ((dQ_X9_house_5 14).trans dk_j14) ((dQ_X9_house_5 15).trans dk_j15) dk_vu2_0_9
theorem dX9_house_96 : decode cX9_house 96 = .ok (.iload_n 1, 1) := dk_27 ((dQ_X9_house_6 0).trans dk_j0)
theorem dX9_house_97 : decode cX9_house 97 = .ok (.aload_n 0, 1) := dk_42 ((dQ_X9_house_6 1).trans dk_j1)
theorem dX9_house_98 : decode cX9_house 98 = .ok (.getfield 31, 3) := dk_180 ((dQ_X9_house_6 2).trans dk_j2) ((dQ_X9_house_6 3).trans dk_j3) ((dQ_X9_house_6 4).trans dk_j4) dk_vu2_0_31
theorem dX9_house_101 : decode cX9_house 101 = .ok (.iload_n 1, 1) := dk_27 ((dQ_X9_house_6 5).trans dk_j5)
theorem dX9_house_102 : decode cX9_house 102 = .ok (.iaload, 1) := dk_46 ((dQ_X9_house_6 6).trans dk_j6)
theorem dX9_house_103 : decode cX9_house 103 = .ok (.iastore, 1) := dk_79 ((dQ_X9_house_6 7).trans dk_j7)
theorem dX9_house_104 : decode cX9_house 104 = .ok (.iinc 1 1, 3) := dk_132 ((dQ_X9_house_6 8).trans dk_j8) ((dQ_X9_house_6 9).trans dk_j9) ((dQ_X9_house_6 10).trans dk_j10) dk_vu1_1 dk_vs1_1
theorem dk_vs2_255_235 : Reader.signed 16 ((0xff : UInt8).toNat * 256 + (0xeb : UInt8).toNat) = (-21 : Int) := by decide +kernel
theorem dX9_house_107 : decode cX9_house 107 = .ok (.goto (-21), 3) := dk_167 ((dQ_X9_house_6 11).trans dk_j11) ((dQ_X9_house_6 12).trans dk_j12) ((dQ_X9_house_6 13).trans dk_j13) dk_vs2_255_235
theorem dX9_house_110 : decode cX9_house 110 = .ok (.aload_n 0, 1) := dk_42 ((dQ_X9_house_6 14).trans dk_j14)
theorem dX9_house_111 : decode cX9_house 111 = .ok (.getfield 9, 3) := dk_180 ((dQ_X9_house_6 15).trans dk_j15) ((dQ_X9_house_7 0).trans dk_j0) ((dQ_X9_house_7 1).trans dk_j1) dk_vu2_0_9
theorem dX9_house_114 : decode cX9_house 114 = .ok (.bipush 10, 2) := dk_16 ((dQ_X9_house_7 2).trans dk_j2) ((dQ_X9_house_7 3).trans dk_j3) dk_vs1_10
theorem dX9_house_116 : decode cX9_house 116 = .ok (.iaload, 1) := dk_46 ((dQ_X9_house_7 4).trans dk_j4)
theorem dX9_house_117 : decode cX9_house 117 = .ok (.ireturn, 1) := dk_172 ((dQ_X9_house_7 5).trans dk_j5)
def dT_X9_nose_2 : List UInt8 := (0xa7 : UInt8) :: (0x00 : UInt8) :: (0x05 : UInt8) :: (0x10 : UInt8) :: (0xfe : UInt8) :: (0xac : UInt8) :: []
def dT_X9_nose_1 : List UInt8 := (0x99 : UInt8) :: (0x00 : UInt8) :: (0x13 : UInt8) :: (0x2a : UInt8) :: (0xb4 : UInt8) :: (0x00 : UInt8) :: (0x09 : UInt8) :: (0x10 : UInt8) :: (0x0b : UInt8) :: (0x05 : UInt8) :: (0x1b : UInt8) :: (0x68 : UInt8) :: (0x60 : UInt8) :: (0x1c : UInt8) :: (0x60 : UInt8) :: (0x2e : UInt8) :: dT_X9_nose_2
def dT_X9_nose_0 : List UInt8 := (0x2a : UInt8) :: (0x1b : UInt8) :: (0x85 : UInt8) :: (0xb6 : UInt8) :: (0x00 : UInt8) :: (0xe0 : UInt8) :: (0x99 : UInt8) :: (0x00 : UInt8) :: (0x1d : UInt8) :: (0x1c : UInt8) :: (0x85 : UInt8) :: (0x09 : UInt8) :: (0x0a : UInt8) :: (0xb8 : UInt8) :: (0x00 : UInt8) :: (0x5e : UInt8) :: dT_X9_nose_1
theorem dT_X9_nose : cX9_nose.data.toList = dT_X9_nose_0 := eq_of_beq (show (cX9_nose.data.toList == dT_X9_nose_0) = true by decide +kernel)
theorem dQ_X9_nose_0 : dQ_P cX9_nose 0 dT_X9_nose_0 := fun i => by rw [dT_X9_nose]; rfl
theorem dQ_X9_nose_1 : dQ_P cX9_nose 16 dT_X9_nose_1 := fun i => (dQ_X9_nose_0 (i + 16)).trans dk_t
theorem dQ_X9_nose_2 : dQ_P cX9_nose 32 dT_X9_nose_2 := fun i => (dQ_X9_nose_1 (i + 16)).trans dk_t
theorem dX9_nose_0 : decode cX9_nose 0 = .ok (.aload_n 0, 1) := dk_42 ((dQ_X9_nose_0 0).trans dk_j0)
theorem dX9_nose_1 : decode cX9_nose 1 = .ok (.iload_n 1, 1) := dk_27 ((dQ_X9_nose_0 1).trans dk_j1)
theorem dX9_nose_2 : decode cX9_nose 2 = .ok (.i2l, 1) := dk_133 ((dQ_X9_nose_0 2).trans dk_j2)
theorem dk_vu2_0_224 : (0x00 : UInt8).toNat * 256 + (0xe0 : UInt8).toNat = (224 : Nat) := by decide +kernel
theorem dX9_nose_3 : decode cX9_nose 3 = .ok (.invokevirtual 224, 3) := dk_182 ((dQ_X9_nose_0 3).trans dk_j3) ((dQ_X9_nose_0 4).trans dk_j4) ((dQ_X9_nose_0 5).trans dk_j5) dk_vu2_0_224
theorem dX9_nose_6 : decode cX9_nose 6 = .ok (.ifCond .eq 29, 3) := dk_153 ((dQ_X9_nose_0 6).trans dk_j6) ((dQ_X9_nose_0 7).trans dk_j7) ((dQ_X9_nose_0 8).trans dk_j8) dk_vs2_0_29
theorem dX9_nose_9 : decode cX9_nose 9 = .ok (.iload_n 2, 1) := dk_28 ((dQ_X9_nose_0 9).trans dk_j9)
theorem dX9_nose_10 : decode cX9_nose 10 = .ok (.i2l, 1) := dk_133 ((dQ_X9_nose_0 10).trans dk_j10)
theorem dX9_nose_11 : decode cX9_nose 11 = .ok (.lconst 0, 1) := dk_9 ((dQ_X9_nose_0 11).trans dk_j11)
theorem dX9_nose_12 : decode cX9_nose 12 = .ok (.lconst 1, 1) := dk_10 ((dQ_X9_nose_0 12).trans dk_j12)
theorem dX9_nose_13 : decode cX9_nose 13 = .ok (.invokestatic 94, 3) := dk_184 ((dQ_X9_nose_0 13).trans dk_j13) ((dQ_X9_nose_0 14).trans dk_j14) ((dQ_X9_nose_0 15).trans dk_j15) dk_vu2_0_94
theorem dX9_nose_16 : decode cX9_nose 16 = .ok (.ifCond .eq 19, 3) := dk_153 ((dQ_X9_nose_1 0).trans dk_j0) ((dQ_X9_nose_1 1).trans dk_j1) ((dQ_X9_nose_1 2).trans dk_j2) dk_vs2_0_19
theorem dX9_nose_19 : decode cX9_nose 19 = .ok (.aload_n 0, 1) := dk_42 ((dQ_X9_nose_1 3).trans dk_j3)
theorem dX9_nose_20 : decode cX9_nose 20 = .ok (.getfield 9, 3) := dk_180 ((dQ_X9_nose_1 4).trans dk_j4) ((dQ_X9_nose_1 5).trans dk_j5) ((dQ_X9_nose_1 6).trans dk_j6) dk_vu2_0_9
theorem dX9_nose_23 : decode cX9_nose 23 = .ok (.bipush 11, 2) := dk_16 ((dQ_X9_nose_1 7).trans dk_j7) ((dQ_X9_nose_1 8).trans dk_j8) dk_vs1_11
theorem dX9_nose_25 : decode cX9_nose 25 = .ok (.iconst 2, 1) := dk_5 ((dQ_X9_nose_1 9).trans dk_j9)
theorem dX9_nose_26 : decode cX9_nose 26 = .ok (.iload_n 1, 1) := dk_27 ((dQ_X9_nose_1 10).trans dk_j10)
theorem dX9_nose_27 : decode cX9_nose 27 = .ok (.imul, 1) := dk_104 ((dQ_X9_nose_1 11).trans dk_j11)
theorem dX9_nose_28 : decode cX9_nose 28 = .ok (.iadd, 1) := dk_96 ((dQ_X9_nose_1 12).trans dk_j12)
theorem dX9_nose_29 : decode cX9_nose 29 = .ok (.iload_n 2, 1) := dk_28 ((dQ_X9_nose_1 13).trans dk_j13)
theorem dX9_nose_30 : decode cX9_nose 30 = .ok (.iadd, 1) := dk_96 ((dQ_X9_nose_1 14).trans dk_j14)
theorem dX9_nose_31 : decode cX9_nose 31 = .ok (.iaload, 1) := dk_46 ((dQ_X9_nose_1 15).trans dk_j15)
theorem dX9_nose_32 : decode cX9_nose 32 = .ok (.goto 5, 3) := dk_167 ((dQ_X9_nose_2 0).trans dk_j0) ((dQ_X9_nose_2 1).trans dk_j1) ((dQ_X9_nose_2 2).trans dk_j2) dk_vs2_0_5
theorem dX9_nose_35 : decode cX9_nose 35 = .ok (.bipush (-2), 2) := dk_16 ((dQ_X9_nose_2 3).trans dk_j3) ((dQ_X9_nose_2 4).trans dk_j4) dk_vs1_254
theorem dX9_nose_37 : decode cX9_nose 37 = .ok (.ireturn, 1) := dk_172 ((dQ_X9_nose_2 5).trans dk_j5)
def dT_X9_policy_1 : List UInt8 := (0x5e : UInt8) :: (0x99 : UInt8) :: (0x00 : UInt8) :: (0x0c : UInt8) :: (0x2a : UInt8) :: (0x1b : UInt8) :: (0x1c : UInt8) :: (0xb6 : UInt8) :: (0x00 : UInt8) :: (0xea : UInt8) :: (0xa7 : UInt8) :: (0x00 : UInt8) :: (0x05 : UInt8) :: (0x10 : UInt8) :: (0xfe : UInt8) :: (0xac : UInt8) :: []
def dT_X9_policy_0 : List UInt8 := (0x2a : UInt8) :: (0x1b : UInt8) :: (0xb6 : UInt8) :: (0x00 : UInt8) :: (0xe4 : UInt8) :: (0x99 : UInt8) :: (0x00 : UInt8) :: (0x18 : UInt8) :: (0x1c : UInt8) :: (0x85 : UInt8) :: (0x09 : UInt8) :: (0x14 : UInt8) :: (0x00 : UInt8) :: (0xe8 : UInt8) :: (0xb8 : UInt8) :: (0x00 : UInt8) :: dT_X9_policy_1
theorem dT_X9_policy : cX9_policy.data.toList = dT_X9_policy_0 := eq_of_beq (show (cX9_policy.data.toList == dT_X9_policy_0) = true by decide +kernel)
theorem dQ_X9_policy_0 : dQ_P cX9_policy 0 dT_X9_policy_0 := fun i => by rw [dT_X9_policy]; rfl
theorem dQ_X9_policy_1 : dQ_P cX9_policy 16 dT_X9_policy_1 := fun i => (dQ_X9_policy_0 (i + 16)).trans dk_t
theorem dX9_policy_0 : decode cX9_policy 0 = .ok (.aload_n 0, 1) := dk_42 ((dQ_X9_policy_0 0).trans dk_j0)
theorem dX9_policy_1 : decode cX9_policy 1 = .ok (.iload_n 1, 1) := dk_27 ((dQ_X9_policy_0 1).trans dk_j1)
theorem dk_vu2_0_228 : (0x00 : UInt8).toNat * 256 + (0xe4 : UInt8).toNat = (228 : Nat) := by decide +kernel
theorem dX9_policy_2 : decode cX9_policy 2 = .ok (.invokevirtual 228, 3) := dk_182 ((dQ_X9_policy_0 2).trans dk_j2) ((dQ_X9_policy_0 3).trans dk_j3) ((dQ_X9_policy_0 4).trans dk_j4) dk_vu2_0_228
theorem dX9_policy_5 : decode cX9_policy 5 = .ok (.ifCond .eq 24, 3) := dk_153 ((dQ_X9_policy_0 5).trans dk_j5) ((dQ_X9_policy_0 6).trans dk_j6) ((dQ_X9_policy_0 7).trans dk_j7) dk_vs2_0_24
theorem dX9_policy_8 : decode cX9_policy 8 = .ok (.iload_n 2, 1) := dk_28 ((dQ_X9_policy_0 8).trans dk_j8)
theorem dX9_policy_9 : decode cX9_policy 9 = .ok (.i2l, 1) := dk_133 ((dQ_X9_policy_0 9).trans dk_j9)
theorem dX9_policy_10 : decode cX9_policy 10 = .ok (.lconst 0, 1) := dk_9 ((dQ_X9_policy_0 10).trans dk_j10)
theorem dk_vu2_0_232 : (0x00 : UInt8).toNat * 256 + (0xe8 : UInt8).toNat = (232 : Nat) := by decide +kernel
theorem dX9_policy_11 : decode cX9_policy 11 = .ok (.ldc2_w 232, 3) := dk_20 ((dQ_X9_policy_0 11).trans dk_j11) ((dQ_X9_policy_0 12).trans dk_j12) ((dQ_X9_policy_0 13).trans dk_j13) dk_vu2_0_232
theorem dX9_policy_14 : decode cX9_policy 14 = .ok (.invokestatic 94, 3) := dk_184 ((dQ_X9_policy_0 14).trans dk_j14) ((dQ_X9_policy_0 15).trans dk_j15) ((dQ_X9_policy_1 0).trans dk_j0) dk_vu2_0_94
theorem dX9_policy_17 : decode cX9_policy 17 = .ok (.ifCond .eq 12, 3) := dk_153 ((dQ_X9_policy_1 1).trans dk_j1) ((dQ_X9_policy_1 2).trans dk_j2) ((dQ_X9_policy_1 3).trans dk_j3) dk_vs2_0_12
theorem dX9_policy_20 : decode cX9_policy 20 = .ok (.aload_n 0, 1) := dk_42 ((dQ_X9_policy_1 4).trans dk_j4)
theorem dX9_policy_21 : decode cX9_policy 21 = .ok (.iload_n 1, 1) := dk_27 ((dQ_X9_policy_1 5).trans dk_j5)
theorem dX9_policy_22 : decode cX9_policy 22 = .ok (.iload_n 2, 1) := dk_28 ((dQ_X9_policy_1 6).trans dk_j6)
theorem dk_vu2_0_234 : (0x00 : UInt8).toNat * 256 + (0xea : UInt8).toNat = (234 : Nat) := by decide +kernel
theorem dX9_policy_23 : decode cX9_policy 23 = .ok (.invokevirtual 234, 3) := dk_182 ((dQ_X9_policy_1 7).trans dk_j7) ((dQ_X9_policy_1 8).trans dk_j8) ((dQ_X9_policy_1 9).trans dk_j9) dk_vu2_0_234
theorem dX9_policy_26 : decode cX9_policy 26 = .ok (.goto 5, 3) := dk_167 ((dQ_X9_policy_1 10).trans dk_j10) ((dQ_X9_policy_1 11).trans dk_j11) ((dQ_X9_policy_1 12).trans dk_j12) dk_vs2_0_5
theorem dX9_policy_29 : decode cX9_policy 29 = .ok (.bipush (-2), 2) := dk_16 ((dQ_X9_policy_1 13).trans dk_j13) ((dQ_X9_policy_1 14).trans dk_j14) dk_vs1_254
theorem dX9_policy_31 : decode cX9_policy 31 = .ok (.ireturn, 1) := dk_172 ((dQ_X9_policy_1 15).trans dk_j15)
def dT_X9_asItIs_14 : List UInt8 := (0x5c : UInt8) :: (0x2e : UInt8) :: (0x04 : UInt8) :: (0x15 : UInt8) :: (0x04 : UInt8) :: (0x78 : UInt8) :: (0x80 : UInt8) :: (0x4f : UInt8) :: (0x84 : UInt8) :: (0x01 : UInt8) :: (0x01 : UInt8) :: (0xa7 : UInt8) :: (0xff : UInt8) :: (0xb6 : UInt8) :: (0xb1 : UInt8) :: []
def dT_X9_asItIs_13 : List UInt8 := (0x5c : UInt8) :: (0x2e : UInt8) :: (0x04 : UInt8) :: (0x15 : UInt8) :: (0x04 : UInt8) :: (0x78 : UInt8) :: (0x80 : UInt8) :: (0x4f : UInt8) :: (0xa7 : UInt8) :: (0x00 : UInt8) :: (0x10 : UInt8) :: (0x2a : UInt8) :: (0xb4 : UInt8) :: (0x00 : UInt8) :: (0x25 : UInt8) :: (0x1d : UInt8) :: dT_X9_asItIs_14
def dT_X9_asItIs_12 : List UInt8 := (0x64 : UInt8) :: (0x70 : UInt8) :: (0x36 : UInt8) :: (0x04 : UInt8) :: (0x1c : UInt8) :: (0x05 : UInt8) :: (0x70 : UInt8) :: (0x04 : UInt8) :: (0xa0 : UInt8) :: (0x00 : UInt8) :: (0x13 : UInt8) :: (0x2a : UInt8) :: (0xb4 : UInt8) :: (0x00 : UInt8) :: (0x28 : UInt8) :: (0x1d : UInt8) :: dT_X9_asItIs_13
def dT_X9_asItIs_11 : List UInt8 := (0x10 : UInt8) :: (0x4f : UInt8) :: (0x1b : UInt8) :: (0x60 : UInt8) :: (0x2e : UInt8) :: (0x3d : UInt8) :: (0x1c : UInt8) :: (0x11 : UInt8) :: (0x00 : UInt8) :: (0xc8 : UInt8) :: (0x6c : UInt8) :: (0x3e : UInt8) :: (0x1c : UInt8) :: (0x05 : UInt8) :: (0x6c : UInt8) :: (0x10 : UInt8) :: dT_X9_asItIs_12
def dT_X9_asItIs_10 : List UInt8 := (0x3c : UInt8) :: (0x1b : UInt8) :: (0x2a : UInt8) :: (0xb4 : UInt8) :: (0x00 : UInt8) :: (0x09 : UInt8) :: (0x10 : UInt8) :: (0x09 : UInt8) :: (0x2e : UInt8) :: (0xa2 : UInt8) :: (0x00 : UInt8) :: (0x45 : UInt8) :: (0x2a : UInt8) :: (0xb4 : UInt8) :: (0x00 : UInt8) :: (0x09 : UInt8) :: dT_X9_asItIs_11
def dT_X9_asItIs_9 : List UInt8 := (0x03 : UInt8) :: (0x4f : UInt8) :: (0x2a : UInt8) :: (0xb4 : UInt8) :: (0x00 : UInt8) :: (0x28 : UInt8) :: (0x1b : UInt8) :: (0x03 : UInt8) :: (0x4f : UInt8) :: (0x84 : UInt8) :: (0x01 : UInt8) :: (0x01 : UInt8) :: (0xa7 : UInt8) :: (0xff : UInt8) :: (0xe9 : UInt8) :: (0x03 : UInt8) :: dT_X9_asItIs_10
def dT_X9_asItIs_8 : List UInt8 := (0xa7 : UInt8) :: (0xff : UInt8) :: (0xc4 : UInt8) :: (0x03 : UInt8) :: (0x3c : UInt8) :: (0x1b : UInt8) :: (0x10 : UInt8) :: (0x06 : UInt8) :: (0xa2 : UInt8) :: (0x00 : UInt8) :: (0x17 : UInt8) :: (0x2a : UInt8) :: (0xb4 : UInt8) :: (0x00 : UInt8) :: (0x25 : UInt8) :: (0x1b : UInt8) :: dT_X9_asItIs_9
def dT_X9_asItIs_7 : List UInt8 := (0x4f : UInt8) :: (0x2a : UInt8) :: (0x59 : UInt8) :: (0xb4 : UInt8) :: (0x00 : UInt8) :: (0xed : UInt8) :: (0x04 : UInt8) :: (0x1c : UInt8) :: (0x78 : UInt8) :: (0x80 : UInt8) :: (0xb5 : UInt8) :: (0x00 : UInt8) :: (0xed : UInt8) :: (0x84 : UInt8) :: (0x01 : UInt8) :: (0x01 : UInt8) :: dT_X9_asItIs_8
def dT_X9_asItIs_6 : List UInt8 := (0x22 : UInt8) :: (0x1c : UInt8) :: (0x5c : UInt8) :: (0x2e : UInt8) :: (0x2a : UInt8) :: (0xb4 : UInt8) :: (0x00 : UInt8) :: (0x09 : UInt8) :: (0x10 : UInt8) :: (0x17 : UInt8) :: (0x05 : UInt8) :: (0x1b : UInt8) :: (0x68 : UInt8) :: (0x60 : UInt8) :: (0x2e : UInt8) :: (0x60 : UInt8) :: dT_X9_asItIs_7
def dT_X9_asItIs_5 : List UInt8 := (0xb4 : UInt8) :: (0x00 : UInt8) :: (0x09 : UInt8) :: (0x10 : UInt8) :: (0x17 : UInt8) :: (0x05 : UInt8) :: (0x1b : UInt8) :: (0x68 : UInt8) :: (0x60 : UInt8) :: (0x04 : UInt8) :: (0x60 : UInt8) :: (0x2e : UInt8) :: (0x3d : UInt8) :: (0x2a : UInt8) :: (0xb4 : UInt8) :: (0x00 : UInt8) :: dT_X9_asItIs_6
def dT_X9_asItIs_4 : List UInt8 := (0xff : UInt8) :: (0xeb : UInt8) :: (0x03 : UInt8) :: (0x3c : UInt8) :: (0x1b : UInt8) :: (0x2a : UInt8) :: (0xb4 : UInt8) :: (0x00 : UInt8) :: (0x09 : UInt8) :: (0x10 : UInt8) :: (0x06 : UInt8) :: (0x2e : UInt8) :: (0xa2 : UInt8) :: (0x00 : UInt8) :: (0x37 : UInt8) :: (0x2a : UInt8) :: dT_X9_asItIs_5
def dT_X9_asItIs_3 : List UInt8 := (0x2a : UInt8) :: (0xb4 : UInt8) :: (0x00 : UInt8) :: (0x22 : UInt8) :: (0x1b : UInt8) :: (0x2a : UInt8) :: (0xb4 : UInt8) :: (0x00 : UInt8) :: (0x09 : UInt8) :: (0x04 : UInt8) :: (0x2e : UInt8) :: (0x4f : UInt8) :: (0x84 : UInt8) :: (0x01 : UInt8) :: (0x01 : UInt8) :: (0xa7 : UInt8) :: dT_X9_asItIs_4
def dT_X9_asItIs_2 : List UInt8 := (0xb6 : UInt8) :: (0x00 : UInt8) :: (0xf9 : UInt8) :: (0x04 : UInt8) :: (0x64 : UInt8) :: (0xb5 : UInt8) :: (0x00 : UInt8) :: (0xfb : UInt8) :: (0x03 : UInt8) :: (0x3c : UInt8) :: (0x1b : UInt8) :: (0x10 : UInt8) :: (0x1e : UInt8) :: (0xa2 : UInt8) :: (0x00 : UInt8) :: (0x15 : UInt8) :: dT_X9_asItIs_3
def dT_X9_asItIs_1 : List UInt8 := (0x2e : UInt8) :: (0xb5 : UInt8) :: (0x00 : UInt8) :: (0xf3 : UInt8) :: (0x2a : UInt8) :: (0x2a : UInt8) :: (0xb4 : UInt8) :: (0x00 : UInt8) :: (0x09 : UInt8) :: (0x06 : UInt8) :: (0x2e : UInt8) :: (0xb5 : UInt8) :: (0x00 : UInt8) :: (0xf6 : UInt8) :: (0x2a : UInt8) :: (0x2a : UInt8) :: dT_X9_asItIs_2
def dT_X9_asItIs_0 : List UInt8 := (0x2a : UInt8) :: (0x03 : UInt8) :: (0xb5 : UInt8) :: (0x00 : UInt8) :: (0xed : UInt8) :: (0x2a : UInt8) :: (0x02 : UInt8) :: (0xb5 : UInt8) :: (0x00 : UInt8) :: (0xf0 : UInt8) :: (0x2a : UInt8) :: (0x2a : UInt8) :: (0xb4 : UInt8) :: (0x00 : UInt8) :: (0x09 : UInt8) :: (0x05 : UInt8) :: dT_X9_asItIs_1
theorem dT_X9_asItIs : cX9_asItIs.data.toList = dT_X9_asItIs_0 := eq_of_beq (show (cX9_asItIs.data.toList == dT_X9_asItIs_0) = true by decide +kernel)
theorem dQ_X9_asItIs_0 : dQ_P cX9_asItIs 0 dT_X9_asItIs_0 := fun i => by rw [dT_X9_asItIs]; rfl
theorem dQ_X9_asItIs_1 : dQ_P cX9_asItIs 16 dT_X9_asItIs_1 := fun i => (dQ_X9_asItIs_0 (i + 16)).trans dk_t
theorem dQ_X9_asItIs_2 : dQ_P cX9_asItIs 32 dT_X9_asItIs_2 := fun i => (dQ_X9_asItIs_1 (i + 16)).trans dk_t
theorem dQ_X9_asItIs_3 : dQ_P cX9_asItIs 48 dT_X9_asItIs_3 := fun i => (dQ_X9_asItIs_2 (i + 16)).trans dk_t
theorem dQ_X9_asItIs_4 : dQ_P cX9_asItIs 64 dT_X9_asItIs_4 := fun i => (dQ_X9_asItIs_3 (i + 16)).trans dk_t
theorem dQ_X9_asItIs_5 : dQ_P cX9_asItIs 80 dT_X9_asItIs_5 := fun i => (dQ_X9_asItIs_4 (i + 16)).trans dk_t
theorem dQ_X9_asItIs_6 : dQ_P cX9_asItIs 96 dT_X9_asItIs_6 := fun i => (dQ_X9_asItIs_5 (i + 16)).trans dk_t
theorem dQ_X9_asItIs_7 : dQ_P cX9_asItIs 112 dT_X9_asItIs_7 := fun i => (dQ_X9_asItIs_6 (i + 16)).trans dk_t
theorem dQ_X9_asItIs_8 : dQ_P cX9_asItIs 128 dT_X9_asItIs_8 := fun i => (dQ_X9_asItIs_7 (i + 16)).trans dk_t
theorem dQ_X9_asItIs_9 : dQ_P cX9_asItIs 144 dT_X9_asItIs_9 := fun i => (dQ_X9_asItIs_8 (i + 16)).trans dk_t
theorem dQ_X9_asItIs_10 : dQ_P cX9_asItIs 160 dT_X9_asItIs_10 := fun i => (dQ_X9_asItIs_9 (i + 16)).trans dk_t
theorem dQ_X9_asItIs_11 : dQ_P cX9_asItIs 176 dT_X9_asItIs_11 := fun i => (dQ_X9_asItIs_10 (i + 16)).trans dk_t
theorem dQ_X9_asItIs_12 : dQ_P cX9_asItIs 192 dT_X9_asItIs_12 := fun i => (dQ_X9_asItIs_11 (i + 16)).trans dk_t
theorem dQ_X9_asItIs_13 : dQ_P cX9_asItIs 208 dT_X9_asItIs_13 := fun i => (dQ_X9_asItIs_12 (i + 16)).trans dk_t
theorem dQ_X9_asItIs_14 : dQ_P cX9_asItIs 224 dT_X9_asItIs_14 := fun i => (dQ_X9_asItIs_13 (i + 16)).trans dk_t
theorem dX9_asItIs_0 : decode cX9_asItIs 0 = .ok (.aload_n 0, 1) := dk_42 ((dQ_X9_asItIs_0 0).trans dk_j0)
theorem dX9_asItIs_1 : decode cX9_asItIs 1 = .ok (.iconst 0, 1) := dk_3 ((dQ_X9_asItIs_0 1).trans dk_j1)
theorem dk_vu2_0_237 : (0x00 : UInt8).toNat * 256 + (0xed : UInt8).toNat = (237 : Nat) := by decide +kernel
theorem dX9_asItIs_2 : decode cX9_asItIs 2 = .ok (.putfield 237, 3) := dk_181 ((dQ_X9_asItIs_0 2).trans dk_j2) ((dQ_X9_asItIs_0 3).trans dk_j3) ((dQ_X9_asItIs_0 4).trans dk_j4) dk_vu2_0_237
theorem dX9_asItIs_5 : decode cX9_asItIs 5 = .ok (.aload_n 0, 1) := dk_42 ((dQ_X9_asItIs_0 5).trans dk_j5)
theorem dX9_asItIs_6 : decode cX9_asItIs 6 = .ok (.iconst (-1), 1) := dk_2 ((dQ_X9_asItIs_0 6).trans dk_j6)
theorem dk_vu2_0_240 : (0x00 : UInt8).toNat * 256 + (0xf0 : UInt8).toNat = (240 : Nat) := by decide +kernel
theorem dX9_asItIs_7 : decode cX9_asItIs 7 = .ok (.putfield 240, 3) := dk_181 ((dQ_X9_asItIs_0 7).trans dk_j7) ((dQ_X9_asItIs_0 8).trans dk_j8) ((dQ_X9_asItIs_0 9).trans dk_j9) dk_vu2_0_240
theorem dX9_asItIs_10 : decode cX9_asItIs 10 = .ok (.aload_n 0, 1) := dk_42 ((dQ_X9_asItIs_0 10).trans dk_j10)
theorem dX9_asItIs_11 : decode cX9_asItIs 11 = .ok (.aload_n 0, 1) := dk_42 ((dQ_X9_asItIs_0 11).trans dk_j11)
theorem dX9_asItIs_12 : decode cX9_asItIs 12 = .ok (.getfield 9, 3) := dk_180 ((dQ_X9_asItIs_0 12).trans dk_j12) ((dQ_X9_asItIs_0 13).trans dk_j13) ((dQ_X9_asItIs_0 14).trans dk_j14) dk_vu2_0_9
theorem dX9_asItIs_15 : decode cX9_asItIs 15 = .ok (.iconst 2, 1) := dk_5 ((dQ_X9_asItIs_0 15).trans dk_j15)
theorem dX9_asItIs_16 : decode cX9_asItIs 16 = .ok (.iaload, 1) := dk_46 ((dQ_X9_asItIs_1 0).trans dk_j0)
theorem dk_vu2_0_243 : (0x00 : UInt8).toNat * 256 + (0xf3 : UInt8).toNat = (243 : Nat) := by decide +kernel
theorem dX9_asItIs_17 : decode cX9_asItIs 17 = .ok (.putfield 243, 3) := dk_181 ((dQ_X9_asItIs_1 1).trans dk_j1) ((dQ_X9_asItIs_1 2).trans dk_j2) ((dQ_X9_asItIs_1 3).trans dk_j3) dk_vu2_0_243
theorem dX9_asItIs_20 : decode cX9_asItIs 20 = .ok (.aload_n 0, 1) := dk_42 ((dQ_X9_asItIs_1 4).trans dk_j4)
theorem dX9_asItIs_21 : decode cX9_asItIs 21 = .ok (.aload_n 0, 1) := dk_42 ((dQ_X9_asItIs_1 5).trans dk_j5)
theorem dX9_asItIs_22 : decode cX9_asItIs 22 = .ok (.getfield 9, 3) := dk_180 ((dQ_X9_asItIs_1 6).trans dk_j6) ((dQ_X9_asItIs_1 7).trans dk_j7) ((dQ_X9_asItIs_1 8).trans dk_j8) dk_vu2_0_9
theorem dX9_asItIs_25 : decode cX9_asItIs 25 = .ok (.iconst 3, 1) := dk_6 ((dQ_X9_asItIs_1 9).trans dk_j9)
theorem dX9_asItIs_26 : decode cX9_asItIs 26 = .ok (.iaload, 1) := dk_46 ((dQ_X9_asItIs_1 10).trans dk_j10)
theorem dk_vu2_0_246 : (0x00 : UInt8).toNat * 256 + (0xf6 : UInt8).toNat = (246 : Nat) := by decide +kernel
theorem dX9_asItIs_27 : decode cX9_asItIs 27 = .ok (.putfield 246, 3) := dk_181 ((dQ_X9_asItIs_1 11).trans dk_j11) ((dQ_X9_asItIs_1 12).trans dk_j12) ((dQ_X9_asItIs_1 13).trans dk_j13) dk_vu2_0_246
theorem dX9_asItIs_30 : decode cX9_asItIs 30 = .ok (.aload_n 0, 1) := dk_42 ((dQ_X9_asItIs_1 14).trans dk_j14)
theorem dX9_asItIs_31 : decode cX9_asItIs 31 = .ok (.aload_n 0, 1) := dk_42 ((dQ_X9_asItIs_1 15).trans dk_j15)
theorem dk_vu2_0_249 : (0x00 : UInt8).toNat * 256 + (0xf9 : UInt8).toNat = (249 : Nat) := by decide +kernel
theorem dX9_asItIs_32 : decode cX9_asItIs 32 = .ok (.invokevirtual 249, 3) := dk_182 ((dQ_X9_asItIs_2 0).trans dk_j0) ((dQ_X9_asItIs_2 1).trans dk_j1) ((dQ_X9_asItIs_2 2).trans dk_j2) dk_vu2_0_249
theorem dX9_asItIs_35 : decode cX9_asItIs 35 = .ok (.iconst 1, 1) := dk_4 ((dQ_X9_asItIs_2 3).trans dk_j3)
theorem dX9_asItIs_36 : decode cX9_asItIs 36 = .ok (.isub, 1) := dk_100 ((dQ_X9_asItIs_2 4).trans dk_j4)
theorem dk_vu2_0_251 : (0x00 : UInt8).toNat * 256 + (0xfb : UInt8).toNat = (251 : Nat) := by decide +kernel
theorem dX9_asItIs_37 : decode cX9_asItIs 37 = .ok (.putfield 251, 3) := dk_181 ((dQ_X9_asItIs_2 5).trans dk_j5) ((dQ_X9_asItIs_2 6).trans dk_j6) ((dQ_X9_asItIs_2 7).trans dk_j7) dk_vu2_0_251
theorem dX9_asItIs_40 : decode cX9_asItIs 40 = .ok (.iconst 0, 1) := dk_3 ((dQ_X9_asItIs_2 8).trans dk_j8)
theorem dX9_asItIs_41 : decode cX9_asItIs 41 = .ok (.istore_n 1, 1) := dk_60 ((dQ_X9_asItIs_2 9).trans dk_j9)
theorem dX9_asItIs_42 : decode cX9_asItIs 42 = .ok (.iload_n 1, 1) := dk_27 ((dQ_X9_asItIs_2 10).trans dk_j10)
theorem dX9_asItIs_43 : decode cX9_asItIs 43 = .ok (.bipush 30, 2) := dk_16 ((dQ_X9_asItIs_2 11).trans dk_j11) ((dQ_X9_asItIs_2 12).trans dk_j12) dk_vs1_30
theorem dX9_asItIs_45 : decode cX9_asItIs 45 = .ok (.if_icmp .ge 21, 3) := dk_162 ((dQ_X9_asItIs_2 13).trans dk_j13) ((dQ_X9_asItIs_2 14).trans dk_j14) ((dQ_X9_asItIs_2 15).trans dk_j15) dk_vs2_0_21
theorem dX9_asItIs_48 : decode cX9_asItIs 48 = .ok (.aload_n 0, 1) := dk_42 ((dQ_X9_asItIs_3 0).trans dk_j0)
theorem dX9_asItIs_49 : decode cX9_asItIs 49 = .ok (.getfield 34, 3) := dk_180 ((dQ_X9_asItIs_3 1).trans dk_j1) ((dQ_X9_asItIs_3 2).trans dk_j2) ((dQ_X9_asItIs_3 3).trans dk_j3) dk_vu2_0_34
theorem dX9_asItIs_52 : decode cX9_asItIs 52 = .ok (.iload_n 1, 1) := dk_27 ((dQ_X9_asItIs_3 4).trans dk_j4)
theorem dX9_asItIs_53 : decode cX9_asItIs 53 = .ok (.aload_n 0, 1) := dk_42 ((dQ_X9_asItIs_3 5).trans dk_j5)
theorem dX9_asItIs_54 : decode cX9_asItIs 54 = .ok (.getfield 9, 3) := dk_180 ((dQ_X9_asItIs_3 6).trans dk_j6) ((dQ_X9_asItIs_3 7).trans dk_j7) ((dQ_X9_asItIs_3 8).trans dk_j8) dk_vu2_0_9
theorem dX9_asItIs_57 : decode cX9_asItIs 57 = .ok (.iconst 1, 1) := dk_4 ((dQ_X9_asItIs_3 9).trans dk_j9)
theorem dX9_asItIs_58 : decode cX9_asItIs 58 = .ok (.iaload, 1) := dk_46 ((dQ_X9_asItIs_3 10).trans dk_j10)
theorem dX9_asItIs_59 : decode cX9_asItIs 59 = .ok (.iastore, 1) := dk_79 ((dQ_X9_asItIs_3 11).trans dk_j11)
theorem dX9_asItIs_60 : decode cX9_asItIs 60 = .ok (.iinc 1 1, 3) := dk_132 ((dQ_X9_asItIs_3 12).trans dk_j12) ((dQ_X9_asItIs_3 13).trans dk_j13) ((dQ_X9_asItIs_3 14).trans dk_j14) dk_vu1_1 dk_vs1_1
theorem dX9_asItIs_63 : decode cX9_asItIs 63 = .ok (.goto (-21), 3) := dk_167 ((dQ_X9_asItIs_3 15).trans dk_j15) ((dQ_X9_asItIs_4 0).trans dk_j0) ((dQ_X9_asItIs_4 1).trans dk_j1) dk_vs2_255_235
theorem dX9_asItIs_66 : decode cX9_asItIs 66 = .ok (.iconst 0, 1) := dk_3 ((dQ_X9_asItIs_4 2).trans dk_j2)
theorem dX9_asItIs_67 : decode cX9_asItIs 67 = .ok (.istore_n 1, 1) := dk_60 ((dQ_X9_asItIs_4 3).trans dk_j3)
theorem dX9_asItIs_68 : decode cX9_asItIs 68 = .ok (.iload_n 1, 1) := dk_27 ((dQ_X9_asItIs_4 4).trans dk_j4)
theorem dX9_asItIs_69 : decode cX9_asItIs 69 = .ok (.aload_n 0, 1) := dk_42 ((dQ_X9_asItIs_4 5).trans dk_j5)
theorem dX9_asItIs_70 : decode cX9_asItIs 70 = .ok (.getfield 9, 3) := dk_180 ((dQ_X9_asItIs_4 6).trans dk_j6) ((dQ_X9_asItIs_4 7).trans dk_j7) ((dQ_X9_asItIs_4 8).trans dk_j8) dk_vu2_0_9
theorem dX9_asItIs_73 : decode cX9_asItIs 73 = .ok (.bipush 6, 2) := dk_16 ((dQ_X9_asItIs_4 9).trans dk_j9) ((dQ_X9_asItIs_4 10).trans dk_j10) dk_vs1_6
theorem dX9_asItIs_75 : decode cX9_asItIs 75 = .ok (.iaload, 1) := dk_46 ((dQ_X9_asItIs_4 11).trans dk_j11)
theorem dk_vs2_0_55 : Reader.signed 16 ((0x00 : UInt8).toNat * 256 + (0x37 : UInt8).toNat) = (55 : Int) := by decide +kernel
theorem dX9_asItIs_76 : decode cX9_asItIs 76 = .ok (.if_icmp .ge 55, 3) := dk_162 ((dQ_X9_asItIs_4 12).trans dk_j12) ((dQ_X9_asItIs_4 13).trans dk_j13) ((dQ_X9_asItIs_4 14).trans dk_j14) dk_vs2_0_55
theorem dX9_asItIs_79 : decode cX9_asItIs 79 = .ok (.aload_n 0, 1) := dk_42 ((dQ_X9_asItIs_4 15).trans dk_j15)
theorem dX9_asItIs_80 : decode cX9_asItIs 80 = .ok (.getfield 9, 3) := dk_180 ((dQ_X9_asItIs_5 0).trans dk_j0) ((dQ_X9_asItIs_5 1).trans dk_j1) ((dQ_X9_asItIs_5 2).trans dk_j2) dk_vu2_0_9
theorem dX9_asItIs_83 : decode cX9_asItIs 83 = .ok (.bipush 23, 2) := dk_16 ((dQ_X9_asItIs_5 3).trans dk_j3) ((dQ_X9_asItIs_5 4).trans dk_j4) dk_vs1_23
theorem dX9_asItIs_85 : decode cX9_asItIs 85 = .ok (.iconst 2, 1) := dk_5 ((dQ_X9_asItIs_5 5).trans dk_j5)
theorem dX9_asItIs_86 : decode cX9_asItIs 86 = .ok (.iload_n 1, 1) := dk_27 ((dQ_X9_asItIs_5 6).trans dk_j6)
theorem dX9_asItIs_87 : decode cX9_asItIs 87 = .ok (.imul, 1) := dk_104 ((dQ_X9_asItIs_5 7).trans dk_j7)
theorem dX9_asItIs_88 : decode cX9_asItIs 88 = .ok (.iadd, 1) := dk_96 ((dQ_X9_asItIs_5 8).trans dk_j8)
theorem dX9_asItIs_89 : decode cX9_asItIs 89 = .ok (.iconst 1, 1) := dk_4 ((dQ_X9_asItIs_5 9).trans dk_j9)
theorem dX9_asItIs_90 : decode cX9_asItIs 90 = .ok (.iadd, 1) := dk_96 ((dQ_X9_asItIs_5 10).trans dk_j10)
theorem dX9_asItIs_91 : decode cX9_asItIs 91 = .ok (.iaload, 1) := dk_46 ((dQ_X9_asItIs_5 11).trans dk_j11)
theorem dX9_asItIs_92 : decode cX9_asItIs 92 = .ok (.istore_n 2, 1) := dk_61 ((dQ_X9_asItIs_5 12).trans dk_j12)
theorem dX9_asItIs_93 : decode cX9_asItIs 93 = .ok (.aload_n 0, 1) := dk_42 ((dQ_X9_asItIs_5 13).trans dk_j13)
theorem dX9_asItIs_94 : decode cX9_asItIs 94 = .ok (.getfield 34, 3) := dk_180 ((dQ_X9_asItIs_5 14).trans dk_j14) ((dQ_X9_asItIs_5 15).trans dk_j15) ((dQ_X9_asItIs_6 0).trans dk_j0) dk_vu2_0_34
theorem dX9_asItIs_97 : decode cX9_asItIs 97 = .ok (.iload_n 2, 1) := dk_28 ((dQ_X9_asItIs_6 1).trans dk_j1)
theorem dX9_asItIs_98 : decode cX9_asItIs 98 = .ok (.dup2, 1) := dk_92 ((dQ_X9_asItIs_6 2).trans dk_j2)
theorem dX9_asItIs_99 : decode cX9_asItIs 99 = .ok (.iaload, 1) := dk_46 ((dQ_X9_asItIs_6 3).trans dk_j3)
theorem dX9_asItIs_100 : decode cX9_asItIs 100 = .ok (.aload_n 0, 1) := dk_42 ((dQ_X9_asItIs_6 4).trans dk_j4)
theorem dX9_asItIs_101 : decode cX9_asItIs 101 = .ok (.getfield 9, 3) := dk_180 ((dQ_X9_asItIs_6 5).trans dk_j5) ((dQ_X9_asItIs_6 6).trans dk_j6) ((dQ_X9_asItIs_6 7).trans dk_j7) dk_vu2_0_9
theorem dX9_asItIs_104 : decode cX9_asItIs 104 = .ok (.bipush 23, 2) := dk_16 ((dQ_X9_asItIs_6 8).trans dk_j8) ((dQ_X9_asItIs_6 9).trans dk_j9) dk_vs1_23
theorem dX9_asItIs_106 : decode cX9_asItIs 106 = .ok (.iconst 2, 1) := dk_5 ((dQ_X9_asItIs_6 10).trans dk_j10)
theorem dX9_asItIs_107 : decode cX9_asItIs 107 = .ok (.iload_n 1, 1) := dk_27 ((dQ_X9_asItIs_6 11).trans dk_j11)
theorem dX9_asItIs_108 : decode cX9_asItIs 108 = .ok (.imul, 1) := dk_104 ((dQ_X9_asItIs_6 12).trans dk_j12)
theorem dX9_asItIs_109 : decode cX9_asItIs 109 = .ok (.iadd, 1) := dk_96 ((dQ_X9_asItIs_6 13).trans dk_j13)
theorem dX9_asItIs_110 : decode cX9_asItIs 110 = .ok (.iaload, 1) := dk_46 ((dQ_X9_asItIs_6 14).trans dk_j14)
theorem dX9_asItIs_111 : decode cX9_asItIs 111 = .ok (.iadd, 1) := dk_96 ((dQ_X9_asItIs_6 15).trans dk_j15)
theorem dX9_asItIs_112 : decode cX9_asItIs 112 = .ok (.iastore, 1) := dk_79 ((dQ_X9_asItIs_7 0).trans dk_j0)
theorem dX9_asItIs_113 : decode cX9_asItIs 113 = .ok (.aload_n 0, 1) := dk_42 ((dQ_X9_asItIs_7 1).trans dk_j1)
theorem dX9_asItIs_114 : decode cX9_asItIs 114 = .ok (.dup, 1) := dk_89 ((dQ_X9_asItIs_7 2).trans dk_j2)
theorem dX9_asItIs_115 : decode cX9_asItIs 115 = .ok (.getfield 237, 3) := dk_180 ((dQ_X9_asItIs_7 3).trans dk_j3) ((dQ_X9_asItIs_7 4).trans dk_j4) ((dQ_X9_asItIs_7 5).trans dk_j5) dk_vu2_0_237
theorem dX9_asItIs_118 : decode cX9_asItIs 118 = .ok (.iconst 1, 1) := dk_4 ((dQ_X9_asItIs_7 6).trans dk_j6)
theorem dX9_asItIs_119 : decode cX9_asItIs 119 = .ok (.iload_n 2, 1) := dk_28 ((dQ_X9_asItIs_7 7).trans dk_j7)
theorem dX9_asItIs_120 : decode cX9_asItIs 120 = .ok (.ishl, 1) := dk_120 ((dQ_X9_asItIs_7 8).trans dk_j8)
theorem dX9_asItIs_121 : decode cX9_asItIs 121 = .ok (.ior, 1) := dk_128 ((dQ_X9_asItIs_7 9).trans dk_j9)
theorem dX9_asItIs_122 : decode cX9_asItIs 122 = .ok (.putfield 237, 3) := dk_181 ((dQ_X9_asItIs_7 10).trans dk_j10) ((dQ_X9_asItIs_7 11).trans dk_j11) ((dQ_X9_asItIs_7 12).trans dk_j12) dk_vu2_0_237
theorem dX9_asItIs_125 : decode cX9_asItIs 125 = .ok (.iinc 1 1, 3) := dk_132 ((dQ_X9_asItIs_7 13).trans dk_j13) ((dQ_X9_asItIs_7 14).trans dk_j14) ((dQ_X9_asItIs_7 15).trans dk_j15) dk_vu1_1 dk_vs1_1
theorem dk_vs2_255_196 : Reader.signed 16 ((0xff : UInt8).toNat * 256 + (0xc4 : UInt8).toNat) = (-60 : Int) := by decide +kernel
theorem dX9_asItIs_128 : decode cX9_asItIs 128 = .ok (.goto (-60), 3) := dk_167 ((dQ_X9_asItIs_8 0).trans dk_j0) ((dQ_X9_asItIs_8 1).trans dk_j1) ((dQ_X9_asItIs_8 2).trans dk_j2) dk_vs2_255_196
theorem dX9_asItIs_131 : decode cX9_asItIs 131 = .ok (.iconst 0, 1) := dk_3 ((dQ_X9_asItIs_8 3).trans dk_j3)
theorem dX9_asItIs_132 : decode cX9_asItIs 132 = .ok (.istore_n 1, 1) := dk_60 ((dQ_X9_asItIs_8 4).trans dk_j4)
theorem dX9_asItIs_133 : decode cX9_asItIs 133 = .ok (.iload_n 1, 1) := dk_27 ((dQ_X9_asItIs_8 5).trans dk_j5)
theorem dX9_asItIs_134 : decode cX9_asItIs 134 = .ok (.bipush 6, 2) := dk_16 ((dQ_X9_asItIs_8 6).trans dk_j6) ((dQ_X9_asItIs_8 7).trans dk_j7) dk_vs1_6
theorem dX9_asItIs_136 : decode cX9_asItIs 136 = .ok (.if_icmp .ge 23, 3) := dk_162 ((dQ_X9_asItIs_8 8).trans dk_j8) ((dQ_X9_asItIs_8 9).trans dk_j9) ((dQ_X9_asItIs_8 10).trans dk_j10) dk_vs2_0_23
theorem dX9_asItIs_139 : decode cX9_asItIs 139 = .ok (.aload_n 0, 1) := dk_42 ((dQ_X9_asItIs_8 11).trans dk_j11)
theorem dX9_asItIs_140 : decode cX9_asItIs 140 = .ok (.getfield 37, 3) := dk_180 ((dQ_X9_asItIs_8 12).trans dk_j12) ((dQ_X9_asItIs_8 13).trans dk_j13) ((dQ_X9_asItIs_8 14).trans dk_j14) dk_vu2_0_37
theorem dX9_asItIs_143 : decode cX9_asItIs 143 = .ok (.iload_n 1, 1) := dk_27 ((dQ_X9_asItIs_8 15).trans dk_j15)
theorem dX9_asItIs_144 : decode cX9_asItIs 144 = .ok (.iconst 0, 1) := dk_3 ((dQ_X9_asItIs_9 0).trans dk_j0)
theorem dX9_asItIs_145 : decode cX9_asItIs 145 = .ok (.iastore, 1) := dk_79 ((dQ_X9_asItIs_9 1).trans dk_j1)
theorem dX9_asItIs_146 : decode cX9_asItIs 146 = .ok (.aload_n 0, 1) := dk_42 ((dQ_X9_asItIs_9 2).trans dk_j2)
theorem dX9_asItIs_147 : decode cX9_asItIs 147 = .ok (.getfield 40, 3) := dk_180 ((dQ_X9_asItIs_9 3).trans dk_j3) ((dQ_X9_asItIs_9 4).trans dk_j4) ((dQ_X9_asItIs_9 5).trans dk_j5) dk_vu2_0_40
theorem dX9_asItIs_150 : decode cX9_asItIs 150 = .ok (.iload_n 1, 1) := dk_27 ((dQ_X9_asItIs_9 6).trans dk_j6)
theorem dX9_asItIs_151 : decode cX9_asItIs 151 = .ok (.iconst 0, 1) := dk_3 ((dQ_X9_asItIs_9 7).trans dk_j7)
theorem dX9_asItIs_152 : decode cX9_asItIs 152 = .ok (.iastore, 1) := dk_79 ((dQ_X9_asItIs_9 8).trans dk_j8)
theorem dX9_asItIs_153 : decode cX9_asItIs 153 = .ok (.iinc 1 1, 3) := dk_132 ((dQ_X9_asItIs_9 9).trans dk_j9) ((dQ_X9_asItIs_9 10).trans dk_j10) ((dQ_X9_asItIs_9 11).trans dk_j11) dk_vu1_1 dk_vs1_1
theorem dk_vs2_255_233 : Reader.signed 16 ((0xff : UInt8).toNat * 256 + (0xe9 : UInt8).toNat) = (-23 : Int) := by decide +kernel
theorem dX9_asItIs_156 : decode cX9_asItIs 156 = .ok (.goto (-23), 3) := dk_167 ((dQ_X9_asItIs_9 12).trans dk_j12) ((dQ_X9_asItIs_9 13).trans dk_j13) ((dQ_X9_asItIs_9 14).trans dk_j14) dk_vs2_255_233
theorem dX9_asItIs_159 : decode cX9_asItIs 159 = .ok (.iconst 0, 1) := dk_3 ((dQ_X9_asItIs_9 15).trans dk_j15)
theorem dX9_asItIs_160 : decode cX9_asItIs 160 = .ok (.istore_n 1, 1) := dk_60 ((dQ_X9_asItIs_10 0).trans dk_j0)
theorem dX9_asItIs_161 : decode cX9_asItIs 161 = .ok (.iload_n 1, 1) := dk_27 ((dQ_X9_asItIs_10 1).trans dk_j1)
theorem dX9_asItIs_162 : decode cX9_asItIs 162 = .ok (.aload_n 0, 1) := dk_42 ((dQ_X9_asItIs_10 2).trans dk_j2)
theorem dX9_asItIs_163 : decode cX9_asItIs 163 = .ok (.getfield 9, 3) := dk_180 ((dQ_X9_asItIs_10 3).trans dk_j3) ((dQ_X9_asItIs_10 4).trans dk_j4) ((dQ_X9_asItIs_10 5).trans dk_j5) dk_vu2_0_9
theorem dX9_asItIs_166 : decode cX9_asItIs 166 = .ok (.bipush 9, 2) := dk_16 ((dQ_X9_asItIs_10 6).trans dk_j6) ((dQ_X9_asItIs_10 7).trans dk_j7) dk_vs1_9
theorem dX9_asItIs_168 : decode cX9_asItIs 168 = .ok (.iaload, 1) := dk_46 ((dQ_X9_asItIs_10 8).trans dk_j8)
theorem dk_vs2_0_69 : Reader.signed 16 ((0x00 : UInt8).toNat * 256 + (0x45 : UInt8).toNat) = (69 : Int) := by decide +kernel
theorem dX9_asItIs_169 : decode cX9_asItIs 169 = .ok (.if_icmp .ge 69, 3) := dk_162 ((dQ_X9_asItIs_10 9).trans dk_j9) ((dQ_X9_asItIs_10 10).trans dk_j10) ((dQ_X9_asItIs_10 11).trans dk_j11) dk_vs2_0_69
theorem dX9_asItIs_172 : decode cX9_asItIs 172 = .ok (.aload_n 0, 1) := dk_42 ((dQ_X9_asItIs_10 12).trans dk_j12)
theorem dX9_asItIs_173 : decode cX9_asItIs 173 = .ok (.getfield 9, 3) := dk_180 ((dQ_X9_asItIs_10 13).trans dk_j13) ((dQ_X9_asItIs_10 14).trans dk_j14) ((dQ_X9_asItIs_10 15).trans dk_j15) dk_vu2_0_9
theorem dk_vs1_79 : Reader.signed 8 (0x4f : UInt8).toNat = (79 : Int) := by decide +kernel
theorem dX9_asItIs_176 : decode cX9_asItIs 176 = .ok (.bipush 79, 2) := dk_16 ((dQ_X9_asItIs_11 0).trans dk_j0) ((dQ_X9_asItIs_11 1).trans dk_j1) dk_vs1_79
theorem dX9_asItIs_178 : decode cX9_asItIs 178 = .ok (.iload_n 1, 1) := dk_27 ((dQ_X9_asItIs_11 2).trans dk_j2)
theorem dX9_asItIs_179 : decode cX9_asItIs 179 = .ok (.iadd, 1) := dk_96 ((dQ_X9_asItIs_11 3).trans dk_j3)
theorem dX9_asItIs_180 : decode cX9_asItIs 180 = .ok (.iaload, 1) := dk_46 ((dQ_X9_asItIs_11 4).trans dk_j4)
theorem dX9_asItIs_181 : decode cX9_asItIs 181 = .ok (.istore_n 2, 1) := dk_61 ((dQ_X9_asItIs_11 5).trans dk_j5)
theorem dX9_asItIs_182 : decode cX9_asItIs 182 = .ok (.iload_n 2, 1) := dk_28 ((dQ_X9_asItIs_11 6).trans dk_j6)
theorem dk_vs2_0_200 : Reader.signed 16 ((0x00 : UInt8).toNat * 256 + (0xc8 : UInt8).toNat) = (200 : Int) := by decide +kernel
theorem dX9_asItIs_183 : decode cX9_asItIs 183 = .ok (.sipush 200, 3) := dk_17 ((dQ_X9_asItIs_11 7).trans dk_j7) ((dQ_X9_asItIs_11 8).trans dk_j8) ((dQ_X9_asItIs_11 9).trans dk_j9) dk_vs2_0_200
theorem dX9_asItIs_186 : decode cX9_asItIs 186 = .ok (.idiv, 1) := dk_108 ((dQ_X9_asItIs_11 10).trans dk_j10)
theorem dX9_asItIs_187 : decode cX9_asItIs 187 = .ok (.istore_n 3, 1) := dk_62 ((dQ_X9_asItIs_11 11).trans dk_j11)
theorem dX9_asItIs_188 : decode cX9_asItIs 188 = .ok (.iload_n 2, 1) := dk_28 ((dQ_X9_asItIs_11 12).trans dk_j12)
theorem dX9_asItIs_189 : decode cX9_asItIs 189 = .ok (.iconst 2, 1) := dk_5 ((dQ_X9_asItIs_11 13).trans dk_j13)
theorem dX9_asItIs_190 : decode cX9_asItIs 190 = .ok (.idiv, 1) := dk_108 ((dQ_X9_asItIs_11 14).trans dk_j14)
theorem dk_vs1_100 : Reader.signed 8 (0x64 : UInt8).toNat = (100 : Int) := by decide +kernel
theorem dX9_asItIs_191 : decode cX9_asItIs 191 = .ok (.bipush 100, 2) := dk_16 ((dQ_X9_asItIs_11 15).trans dk_j15) ((dQ_X9_asItIs_12 0).trans dk_j0) dk_vs1_100
theorem dX9_asItIs_193 : decode cX9_asItIs 193 = .ok (.irem, 1) := dk_112 ((dQ_X9_asItIs_12 1).trans dk_j1)
theorem dX9_asItIs_194 : decode cX9_asItIs 194 = .ok (.istore 4, 2) := dk_54 ((dQ_X9_asItIs_12 2).trans dk_j2) ((dQ_X9_asItIs_12 3).trans dk_j3) dk_vu1_4
theorem dX9_asItIs_196 : decode cX9_asItIs 196 = .ok (.iload_n 2, 1) := dk_28 ((dQ_X9_asItIs_12 4).trans dk_j4)
theorem dX9_asItIs_197 : decode cX9_asItIs 197 = .ok (.iconst 2, 1) := dk_5 ((dQ_X9_asItIs_12 5).trans dk_j5)
theorem dX9_asItIs_198 : decode cX9_asItIs 198 = .ok (.irem, 1) := dk_112 ((dQ_X9_asItIs_12 6).trans dk_j6)
theorem dX9_asItIs_199 : decode cX9_asItIs 199 = .ok (.iconst 1, 1) := dk_4 ((dQ_X9_asItIs_12 7).trans dk_j7)
theorem dX9_asItIs_200 : decode cX9_asItIs 200 = .ok (.if_icmp .ne 19, 3) := dk_160 ((dQ_X9_asItIs_12 8).trans dk_j8) ((dQ_X9_asItIs_12 9).trans dk_j9) ((dQ_X9_asItIs_12 10).trans dk_j10) dk_vs2_0_19
theorem dX9_asItIs_203 : decode cX9_asItIs 203 = .ok (.aload_n 0, 1) := dk_42 ((dQ_X9_asItIs_12 11).trans dk_j11)
theorem dX9_asItIs_204 : decode cX9_asItIs 204 = .ok (.getfield 40, 3) := dk_180 ((dQ_X9_asItIs_12 12).trans dk_j12) ((dQ_X9_asItIs_12 13).trans dk_j13) ((dQ_X9_asItIs_12 14).trans dk_j14) dk_vu2_0_40
theorem dX9_asItIs_207 : decode cX9_asItIs 207 = .ok (.iload_n 3, 1) := dk_29 ((dQ_X9_asItIs_12 15).trans dk_j15)
theorem dX9_asItIs_208 : decode cX9_asItIs 208 = .ok (.dup2, 1) := dk_92 ((dQ_X9_asItIs_13 0).trans dk_j0)
theorem dX9_asItIs_209 : decode cX9_asItIs 209 = .ok (.iaload, 1) := dk_46 ((dQ_X9_asItIs_13 1).trans dk_j1)
theorem dX9_asItIs_210 : decode cX9_asItIs 210 = .ok (.iconst 1, 1) := dk_4 ((dQ_X9_asItIs_13 2).trans dk_j2)
theorem dX9_asItIs_211 : decode cX9_asItIs 211 = .ok (.iload 4, 2) := dk_21 ((dQ_X9_asItIs_13 3).trans dk_j3) ((dQ_X9_asItIs_13 4).trans dk_j4) dk_vu1_4
theorem dX9_asItIs_213 : decode cX9_asItIs 213 = .ok (.ishl, 1) := dk_120 ((dQ_X9_asItIs_13 5).trans dk_j5)
theorem dX9_asItIs_214 : decode cX9_asItIs 214 = .ok (.ior, 1) := dk_128 ((dQ_X9_asItIs_13 6).trans dk_j6)
theorem dX9_asItIs_215 : decode cX9_asItIs 215 = .ok (.iastore, 1) := dk_79 ((dQ_X9_asItIs_13 7).trans dk_j7)
theorem dX9_asItIs_216 : decode cX9_asItIs 216 = .ok (.goto 16, 3) := dk_167 ((dQ_X9_asItIs_13 8).trans dk_j8) ((dQ_X9_asItIs_13 9).trans dk_j9) ((dQ_X9_asItIs_13 10).trans dk_j10) dk_vs2_0_16
theorem dX9_asItIs_219 : decode cX9_asItIs 219 = .ok (.aload_n 0, 1) := dk_42 ((dQ_X9_asItIs_13 11).trans dk_j11)
theorem dX9_asItIs_220 : decode cX9_asItIs 220 = .ok (.getfield 37, 3) := dk_180 ((dQ_X9_asItIs_13 12).trans dk_j12) ((dQ_X9_asItIs_13 13).trans dk_j13) ((dQ_X9_asItIs_13 14).trans dk_j14) dk_vu2_0_37
theorem dX9_asItIs_223 : decode cX9_asItIs 223 = .ok (.iload_n 3, 1) := dk_29 ((dQ_X9_asItIs_13 15).trans dk_j15)
theorem dX9_asItIs_224 : decode cX9_asItIs 224 = .ok (.dup2, 1) := dk_92 ((dQ_X9_asItIs_14 0).trans dk_j0)
theorem dX9_asItIs_225 : decode cX9_asItIs 225 = .ok (.iaload, 1) := dk_46 ((dQ_X9_asItIs_14 1).trans dk_j1)
theorem dX9_asItIs_226 : decode cX9_asItIs 226 = .ok (.iconst 1, 1) := dk_4 ((dQ_X9_asItIs_14 2).trans dk_j2)
theorem dX9_asItIs_227 : decode cX9_asItIs 227 = .ok (.iload 4, 2) := dk_21 ((dQ_X9_asItIs_14 3).trans dk_j3) ((dQ_X9_asItIs_14 4).trans dk_j4) dk_vu1_4
theorem dX9_asItIs_229 : decode cX9_asItIs 229 = .ok (.ishl, 1) := dk_120 ((dQ_X9_asItIs_14 5).trans dk_j5)
theorem dX9_asItIs_230 : decode cX9_asItIs 230 = .ok (.ior, 1) := dk_128 ((dQ_X9_asItIs_14 6).trans dk_j6)
theorem dX9_asItIs_231 : decode cX9_asItIs 231 = .ok (.iastore, 1) := dk_79 ((dQ_X9_asItIs_14 7).trans dk_j7)
theorem dX9_asItIs_232 : decode cX9_asItIs 232 = .ok (.iinc 1 1, 3) := dk_132 ((dQ_X9_asItIs_14 8).trans dk_j8) ((dQ_X9_asItIs_14 9).trans dk_j9) ((dQ_X9_asItIs_14 10).trans dk_j10) dk_vu1_1 dk_vs1_1
theorem dk_vs2_255_182 : Reader.signed 16 ((0xff : UInt8).toNat * 256 + (0xb6 : UInt8).toNat) = (-74 : Int) := by decide +kernel
theorem dX9_asItIs_235 : decode cX9_asItIs 235 = .ok (.goto (-74), 3) := dk_167 ((dQ_X9_asItIs_14 11).trans dk_j11) ((dQ_X9_asItIs_14 12).trans dk_j12) ((dQ_X9_asItIs_14 13).trans dk_j13) dk_vs2_255_182
theorem dX9_asItIs_238 : decode cX9_asItIs 238 = .ok (.return_, 1) := dk_177 ((dQ_X9_asItIs_14 14).trans dk_j14)
def dT_X9_netsTo_6 : List UInt8 := (0xa7 : UInt8) :: (0x1d : UInt8) :: (0xac : UInt8) :: []
def dT_X9_netsTo_5 : List UInt8 := (0x05 : UInt8) :: (0xb8 : UInt8) :: (0x00 : UInt8) :: (0xfe : UInt8) :: (0x04 : UInt8) :: (0xa0 : UInt8) :: (0x00 : UInt8) :: (0x06 : UInt8) :: (0x84 : UInt8) :: (0x03 : UInt8) :: (0x01 : UInt8) :: (0x84 : UInt8) :: (0x04 : UInt8) :: (0x01 : UInt8) :: (0xa7 : UInt8) :: (0xff : UInt8) :: dT_X9_netsTo_6
def dT_X9_netsTo_4 : List UInt8 := (0x06 : UInt8) :: (0xb8 : UInt8) :: (0x00 : UInt8) :: (0xfe : UInt8) :: (0x04 : UInt8) :: (0x9f : UInt8) :: (0x00 : UInt8) :: (0x13 : UInt8) :: (0x15 : UInt8) :: (0x06 : UInt8) :: (0x1b : UInt8) :: (0xa0 : UInt8) :: (0x00 : UInt8) :: (0x10 : UInt8) :: (0x1c : UInt8) :: (0x15 : UInt8) :: dT_X9_netsTo_5
def dT_X9_netsTo_3 : List UInt8 := (0x04 : UInt8) :: (0x2a : UInt8) :: (0xb4 : UInt8) :: (0x00 : UInt8) :: (0xf0 : UInt8) :: (0x9f : UInt8) :: (0x00 : UInt8) :: (0x26 : UInt8) :: (0x15 : UInt8) :: (0x05 : UInt8) :: (0x1b : UInt8) :: (0xa0 : UInt8) :: (0x00 : UInt8) :: (0x0d : UInt8) :: (0x1c : UInt8) :: (0x15 : UInt8) :: dT_X9_netsTo_4
def dT_X9_netsTo_2 : List UInt8 := (0xb4 : UInt8) :: (0x00 : UInt8) :: (0x09 : UInt8) :: (0x10 : UInt8) :: (0x21 : UInt8) :: (0x05 : UInt8) :: (0x15 : UInt8) :: (0x04 : UInt8) :: (0x68 : UInt8) :: (0x60 : UInt8) :: (0x04 : UInt8) :: (0x60 : UInt8) :: (0x2e : UInt8) :: (0x36 : UInt8) :: (0x06 : UInt8) :: (0x15 : UInt8) :: dT_X9_netsTo_3
def dT_X9_netsTo_1 : List UInt8 := (0x53 : UInt8) :: (0x2a : UInt8) :: (0xb4 : UInt8) :: (0x00 : UInt8) :: (0x09 : UInt8) :: (0x10 : UInt8) :: (0x21 : UInt8) :: (0x05 : UInt8) :: (0x15 : UInt8) :: (0x04 : UInt8) :: (0x68 : UInt8) :: (0x60 : UInt8) :: (0x2e : UInt8) :: (0x36 : UInt8) :: (0x05 : UInt8) :: (0x2a : UInt8) :: dT_X9_netsTo_2
def dT_X9_netsTo_0 : List UInt8 := (0x03 : UInt8) :: (0x3e : UInt8) :: (0x03 : UInt8) :: (0x36 : UInt8) :: (0x04 : UInt8) :: (0x15 : UInt8) :: (0x04 : UInt8) :: (0x2a : UInt8) :: (0xb4 : UInt8) :: (0x00 : UInt8) :: (0x09 : UInt8) :: (0x10 : UInt8) :: (0x07 : UInt8) :: (0x2e : UInt8) :: (0xa2 : UInt8) :: (0x00 : UInt8) :: dT_X9_netsTo_1
theorem dT_X9_netsTo : cX9_netsTo.data.toList = dT_X9_netsTo_0 := eq_of_beq (show (cX9_netsTo.data.toList == dT_X9_netsTo_0) = true by decide +kernel)
theorem dQ_X9_netsTo_0 : dQ_P cX9_netsTo 0 dT_X9_netsTo_0 := fun i => by rw [dT_X9_netsTo]; rfl
theorem dQ_X9_netsTo_1 : dQ_P cX9_netsTo 16 dT_X9_netsTo_1 := fun i => (dQ_X9_netsTo_0 (i + 16)).trans dk_t
theorem dQ_X9_netsTo_2 : dQ_P cX9_netsTo 32 dT_X9_netsTo_2 := fun i => (dQ_X9_netsTo_1 (i + 16)).trans dk_t
theorem dQ_X9_netsTo_3 : dQ_P cX9_netsTo 48 dT_X9_netsTo_3 := fun i => (dQ_X9_netsTo_2 (i + 16)).trans dk_t
theorem dQ_X9_netsTo_4 : dQ_P cX9_netsTo 64 dT_X9_netsTo_4 := fun i => (dQ_X9_netsTo_3 (i + 16)).trans dk_t
theorem dQ_X9_netsTo_5 : dQ_P cX9_netsTo 80 dT_X9_netsTo_5 := fun i => (dQ_X9_netsTo_4 (i + 16)).trans dk_t
theorem dQ_X9_netsTo_6 : dQ_P cX9_netsTo 96 dT_X9_netsTo_6 := fun i => (dQ_X9_netsTo_5 (i + 16)).trans dk_t
theorem dX9_netsTo_0 : decode cX9_netsTo 0 = .ok (.iconst 0, 1) := dk_3 ((dQ_X9_netsTo_0 0).trans dk_j0)
theorem dX9_netsTo_1 : decode cX9_netsTo 1 = .ok (.istore_n 3, 1) := dk_62 ((dQ_X9_netsTo_0 1).trans dk_j1)
theorem dX9_netsTo_2 : decode cX9_netsTo 2 = .ok (.iconst 0, 1) := dk_3 ((dQ_X9_netsTo_0 2).trans dk_j2)
theorem dX9_netsTo_3 : decode cX9_netsTo 3 = .ok (.istore 4, 2) := dk_54 ((dQ_X9_netsTo_0 3).trans dk_j3) ((dQ_X9_netsTo_0 4).trans dk_j4) dk_vu1_4
theorem dX9_netsTo_5 : decode cX9_netsTo 5 = .ok (.iload 4, 2) := dk_21 ((dQ_X9_netsTo_0 5).trans dk_j5) ((dQ_X9_netsTo_0 6).trans dk_j6) dk_vu1_4
theorem dX9_netsTo_7 : decode cX9_netsTo 7 = .ok (.aload_n 0, 1) := dk_42 ((dQ_X9_netsTo_0 7).trans dk_j7)
theorem dX9_netsTo_8 : decode cX9_netsTo 8 = .ok (.getfield 9, 3) := dk_180 ((dQ_X9_netsTo_0 8).trans dk_j8) ((dQ_X9_netsTo_0 9).trans dk_j9) ((dQ_X9_netsTo_0 10).trans dk_j10) dk_vu2_0_9
theorem dX9_netsTo_11 : decode cX9_netsTo 11 = .ok (.bipush 7, 2) := dk_16 ((dQ_X9_netsTo_0 11).trans dk_j11) ((dQ_X9_netsTo_0 12).trans dk_j12) dk_vs1_7
theorem dX9_netsTo_13 : decode cX9_netsTo 13 = .ok (.iaload, 1) := dk_46 ((dQ_X9_netsTo_0 13).trans dk_j13)
theorem dk_vs2_0_83 : Reader.signed 16 ((0x00 : UInt8).toNat * 256 + (0x53 : UInt8).toNat) = (83 : Int) := by decide +kernel
theorem dX9_netsTo_14 : decode cX9_netsTo 14 = .ok (.if_icmp .ge 83, 3) := dk_162 ((dQ_X9_netsTo_0 14).trans dk_j14) ((dQ_X9_netsTo_0 15).trans dk_j15) ((dQ_X9_netsTo_1 0).trans dk_j0) dk_vs2_0_83
theorem dX9_netsTo_17 : decode cX9_netsTo 17 = .ok (.aload_n 0, 1) := dk_42 ((dQ_X9_netsTo_1 1).trans dk_j1)
theorem dX9_netsTo_18 : decode cX9_netsTo 18 = .ok (.getfield 9, 3) := dk_180 ((dQ_X9_netsTo_1 2).trans dk_j2) ((dQ_X9_netsTo_1 3).trans dk_j3) ((dQ_X9_netsTo_1 4).trans dk_j4) dk_vu2_0_9
theorem dX9_netsTo_21 : decode cX9_netsTo 21 = .ok (.bipush 33, 2) := dk_16 ((dQ_X9_netsTo_1 5).trans dk_j5) ((dQ_X9_netsTo_1 6).trans dk_j6) dk_vs1_33
theorem dX9_netsTo_23 : decode cX9_netsTo 23 = .ok (.iconst 2, 1) := dk_5 ((dQ_X9_netsTo_1 7).trans dk_j7)
theorem dX9_netsTo_24 : decode cX9_netsTo 24 = .ok (.iload 4, 2) := dk_21 ((dQ_X9_netsTo_1 8).trans dk_j8) ((dQ_X9_netsTo_1 9).trans dk_j9) dk_vu1_4
theorem dX9_netsTo_26 : decode cX9_netsTo 26 = .ok (.imul, 1) := dk_104 ((dQ_X9_netsTo_1 10).trans dk_j10)
theorem dX9_netsTo_27 : decode cX9_netsTo 27 = .ok (.iadd, 1) := dk_96 ((dQ_X9_netsTo_1 11).trans dk_j11)
theorem dX9_netsTo_28 : decode cX9_netsTo 28 = .ok (.iaload, 1) := dk_46 ((dQ_X9_netsTo_1 12).trans dk_j12)
theorem dX9_netsTo_29 : decode cX9_netsTo 29 = .ok (.istore 5, 2) := dk_54 ((dQ_X9_netsTo_1 13).trans dk_j13) ((dQ_X9_netsTo_1 14).trans dk_j14) dk_vu1_5
theorem dX9_netsTo_31 : decode cX9_netsTo 31 = .ok (.aload_n 0, 1) := dk_42 ((dQ_X9_netsTo_1 15).trans dk_j15)
theorem dX9_netsTo_32 : decode cX9_netsTo 32 = .ok (.getfield 9, 3) := dk_180 ((dQ_X9_netsTo_2 0).trans dk_j0) ((dQ_X9_netsTo_2 1).trans dk_j1) ((dQ_X9_netsTo_2 2).trans dk_j2) dk_vu2_0_9
theorem dX9_netsTo_35 : decode cX9_netsTo 35 = .ok (.bipush 33, 2) := dk_16 ((dQ_X9_netsTo_2 3).trans dk_j3) ((dQ_X9_netsTo_2 4).trans dk_j4) dk_vs1_33
theorem dX9_netsTo_37 : decode cX9_netsTo 37 = .ok (.iconst 2, 1) := dk_5 ((dQ_X9_netsTo_2 5).trans dk_j5)
theorem dX9_netsTo_38 : decode cX9_netsTo 38 = .ok (.iload 4, 2) := dk_21 ((dQ_X9_netsTo_2 6).trans dk_j6) ((dQ_X9_netsTo_2 7).trans dk_j7) dk_vu1_4
theorem dX9_netsTo_40 : decode cX9_netsTo 40 = .ok (.imul, 1) := dk_104 ((dQ_X9_netsTo_2 8).trans dk_j8)
theorem dX9_netsTo_41 : decode cX9_netsTo 41 = .ok (.iadd, 1) := dk_96 ((dQ_X9_netsTo_2 9).trans dk_j9)
theorem dX9_netsTo_42 : decode cX9_netsTo 42 = .ok (.iconst 1, 1) := dk_4 ((dQ_X9_netsTo_2 10).trans dk_j10)
theorem dX9_netsTo_43 : decode cX9_netsTo 43 = .ok (.iadd, 1) := dk_96 ((dQ_X9_netsTo_2 11).trans dk_j11)
theorem dX9_netsTo_44 : decode cX9_netsTo 44 = .ok (.iaload, 1) := dk_46 ((dQ_X9_netsTo_2 12).trans dk_j12)
theorem dX9_netsTo_45 : decode cX9_netsTo 45 = .ok (.istore 6, 2) := dk_54 ((dQ_X9_netsTo_2 13).trans dk_j13) ((dQ_X9_netsTo_2 14).trans dk_j14) dk_vu1_6
theorem dX9_netsTo_47 : decode cX9_netsTo 47 = .ok (.iload 4, 2) := dk_21 ((dQ_X9_netsTo_2 15).trans dk_j15) ((dQ_X9_netsTo_3 0).trans dk_j0) dk_vu1_4
theorem dX9_netsTo_49 : decode cX9_netsTo 49 = .ok (.aload_n 0, 1) := dk_42 ((dQ_X9_netsTo_3 1).trans dk_j1)
theorem dX9_netsTo_50 : decode cX9_netsTo 50 = .ok (.getfield 240, 3) := dk_180 ((dQ_X9_netsTo_3 2).trans dk_j2) ((dQ_X9_netsTo_3 3).trans dk_j3) ((dQ_X9_netsTo_3 4).trans dk_j4) dk_vu2_0_240
theorem dX9_netsTo_53 : decode cX9_netsTo 53 = .ok (.if_icmp .eq 38, 3) := dk_159 ((dQ_X9_netsTo_3 5).trans dk_j5) ((dQ_X9_netsTo_3 6).trans dk_j6) ((dQ_X9_netsTo_3 7).trans dk_j7) dk_vs2_0_38
theorem dX9_netsTo_56 : decode cX9_netsTo 56 = .ok (.iload 5, 2) := dk_21 ((dQ_X9_netsTo_3 8).trans dk_j8) ((dQ_X9_netsTo_3 9).trans dk_j9) dk_vu1_5
theorem dX9_netsTo_58 : decode cX9_netsTo 58 = .ok (.iload_n 1, 1) := dk_27 ((dQ_X9_netsTo_3 10).trans dk_j10)
theorem dk_vs2_0_13 : Reader.signed 16 ((0x00 : UInt8).toNat * 256 + (0x0d : UInt8).toNat) = (13 : Int) := by decide +kernel
theorem dX9_netsTo_59 : decode cX9_netsTo 59 = .ok (.if_icmp .ne 13, 3) := dk_160 ((dQ_X9_netsTo_3 11).trans dk_j11) ((dQ_X9_netsTo_3 12).trans dk_j12) ((dQ_X9_netsTo_3 13).trans dk_j13) dk_vs2_0_13
theorem dX9_netsTo_62 : decode cX9_netsTo 62 = .ok (.iload_n 2, 1) := dk_28 ((dQ_X9_netsTo_3 14).trans dk_j14)
theorem dX9_netsTo_63 : decode cX9_netsTo 63 = .ok (.iload 6, 2) := dk_21 ((dQ_X9_netsTo_3 15).trans dk_j15) ((dQ_X9_netsTo_4 0).trans dk_j0) dk_vu1_6
theorem dk_vu2_0_254 : (0x00 : UInt8).toNat * 256 + (0xfe : UInt8).toNat = (254 : Nat) := by decide +kernel
theorem dX9_netsTo_65 : decode cX9_netsTo 65 = .ok (.invokestatic 254, 3) := dk_184 ((dQ_X9_netsTo_4 1).trans dk_j1) ((dQ_X9_netsTo_4 2).trans dk_j2) ((dQ_X9_netsTo_4 3).trans dk_j3) dk_vu2_0_254
theorem dX9_netsTo_68 : decode cX9_netsTo 68 = .ok (.iconst 1, 1) := dk_4 ((dQ_X9_netsTo_4 4).trans dk_j4)
theorem dX9_netsTo_69 : decode cX9_netsTo 69 = .ok (.if_icmp .eq 19, 3) := dk_159 ((dQ_X9_netsTo_4 5).trans dk_j5) ((dQ_X9_netsTo_4 6).trans dk_j6) ((dQ_X9_netsTo_4 7).trans dk_j7) dk_vs2_0_19
theorem dX9_netsTo_72 : decode cX9_netsTo 72 = .ok (.iload 6, 2) := dk_21 ((dQ_X9_netsTo_4 8).trans dk_j8) ((dQ_X9_netsTo_4 9).trans dk_j9) dk_vu1_6
theorem dX9_netsTo_74 : decode cX9_netsTo 74 = .ok (.iload_n 1, 1) := dk_27 ((dQ_X9_netsTo_4 10).trans dk_j10)
theorem dX9_netsTo_75 : decode cX9_netsTo 75 = .ok (.if_icmp .ne 16, 3) := dk_160 ((dQ_X9_netsTo_4 11).trans dk_j11) ((dQ_X9_netsTo_4 12).trans dk_j12) ((dQ_X9_netsTo_4 13).trans dk_j13) dk_vs2_0_16
theorem dX9_netsTo_78 : decode cX9_netsTo 78 = .ok (.iload_n 2, 1) := dk_28 ((dQ_X9_netsTo_4 14).trans dk_j14)
theorem dX9_netsTo_79 : decode cX9_netsTo 79 = .ok (.iload 5, 2) := dk_21 ((dQ_X9_netsTo_4 15).trans dk_j15) ((dQ_X9_netsTo_5 0).trans dk_j0) dk_vu1_5
theorem dX9_netsTo_81 : decode cX9_netsTo 81 = .ok (.invokestatic 254, 3) := dk_184 ((dQ_X9_netsTo_5 1).trans dk_j1) ((dQ_X9_netsTo_5 2).trans dk_j2) ((dQ_X9_netsTo_5 3).trans dk_j3) dk_vu2_0_254
theorem dX9_netsTo_84 : decode cX9_netsTo 84 = .ok (.iconst 1, 1) := dk_4 ((dQ_X9_netsTo_5 4).trans dk_j4)
theorem dX9_netsTo_85 : decode cX9_netsTo 85 = .ok (.if_icmp .ne 6, 3) := dk_160 ((dQ_X9_netsTo_5 5).trans dk_j5) ((dQ_X9_netsTo_5 6).trans dk_j6) ((dQ_X9_netsTo_5 7).trans dk_j7) dk_vs2_0_6
theorem dX9_netsTo_88 : decode cX9_netsTo 88 = .ok (.iinc 3 1, 3) := dk_132 ((dQ_X9_netsTo_5 8).trans dk_j8) ((dQ_X9_netsTo_5 9).trans dk_j9) ((dQ_X9_netsTo_5 10).trans dk_j10) dk_vu1_3 dk_vs1_1
theorem dX9_netsTo_91 : decode cX9_netsTo 91 = .ok (.iinc 4 1, 3) := dk_132 ((dQ_X9_netsTo_5 11).trans dk_j11) ((dQ_X9_netsTo_5 12).trans dk_j12) ((dQ_X9_netsTo_5 13).trans dk_j13) dk_vu1_4 dk_vs1_1
theorem dk_vs2_255_167 : Reader.signed 16 ((0xff : UInt8).toNat * 256 + (0xa7 : UInt8).toNat) = (-89 : Int) := by decide +kernel
theorem dX9_netsTo_94 : decode cX9_netsTo 94 = .ok (.goto (-89), 3) := dk_167 ((dQ_X9_netsTo_5 14).trans dk_j14) ((dQ_X9_netsTo_5 15).trans dk_j15) ((dQ_X9_netsTo_6 0).trans dk_j0) dk_vs2_255_167
theorem dX9_netsTo_97 : decode cX9_netsTo 97 = .ok (.iload_n 3, 1) := dk_29 ((dQ_X9_netsTo_6 1).trans dk_j1)
theorem dX9_netsTo_98 : decode cX9_netsTo 98 = .ok (.ireturn, 1) := dk_172 ((dQ_X9_netsTo_6 2).trans dk_j2)
def dT_X9_goMinute_14 : List UInt8 := (0x4f : UInt8) :: (0x84 : UInt8) :: (0x03 : UInt8) :: (0x01 : UInt8) :: (0xa7 : UInt8) :: (0xff : UInt8) :: (0x36 : UInt8) :: (0xb1 : UInt8) :: []
def dT_X9_goMinute_13 : List UInt8 := (0x04 : UInt8) :: (0x1d : UInt8) :: (0x78 : UInt8) :: (0x80 : UInt8) :: (0x4f : UInt8) :: (0x2a : UInt8) :: (0xb4 : UInt8) :: (0x00 : UInt8) :: (0x2b : UInt8) :: (0x1d : UInt8) :: (0x5c : UInt8) :: (0x2e : UInt8) :: (0x04 : UInt8) :: (0x1b : UInt8) :: (0x78 : UInt8) :: (0x80 : UInt8) :: dT_X9_goMinute_14
def dT_X9_goMinute_12 : List UInt8 := (0x4f : UInt8) :: (0x15 : UInt8) :: (0x07 : UInt8) :: (0x9a : UInt8) :: (0x00 : UInt8) :: (0x06 : UInt8) :: (0xa7 : UInt8) :: (0x00 : UInt8) :: (0x1b : UInt8) :: (0x2a : UInt8) :: (0xb4 : UInt8) :: (0x00 : UInt8) :: (0x2e : UInt8) :: (0x1b : UInt8) :: (0x5c : UInt8) :: (0x2e : UInt8) :: dT_X9_goMinute_13
def dT_X9_goMinute_11 : List UInt8 := (0x06 : UInt8) :: (0x1b : UInt8) :: (0x68 : UInt8) :: (0x1d : UInt8) :: (0x60 : UInt8) :: (0x15 : UInt8) :: (0x07 : UInt8) :: (0x99 : UInt8) :: (0x00 : UInt8) :: (0x07 : UInt8) :: (0x03 : UInt8) :: (0xa7 : UInt8) :: (0x00 : UInt8) :: (0x05 : UInt8) :: (0x15 : UInt8) :: (0x06 : UInt8) :: dT_X9_goMinute_12
def dT_X9_goMinute_10 : List UInt8 := (0x00 : UInt8) :: (0x34 : UInt8) :: (0x10 : UInt8) :: (0x06 : UInt8) :: (0x1b : UInt8) :: (0x68 : UInt8) :: (0x1d : UInt8) :: (0x60 : UInt8) :: (0x15 : UInt8) :: (0x05 : UInt8) :: (0x4f : UInt8) :: (0x2a : UInt8) :: (0xb4 : UInt8) :: (0x00 : UInt8) :: (0x31 : UInt8) :: (0x10 : UInt8) :: dT_X9_goMinute_11
def dT_X9_goMinute_9 : List UInt8 := (0x03 : UInt8) :: (0x36 : UInt8) :: (0x07 : UInt8) :: (0x2a : UInt8) :: (0xb4 : UInt8) :: (0x00 : UInt8) :: (0x37 : UInt8) :: (0x1d : UInt8) :: (0x5c : UInt8) :: (0x2e : UInt8) :: (0x15 : UInt8) :: (0x04 : UInt8) :: (0x60 : UInt8) :: (0x4f : UInt8) :: (0x2a : UInt8) :: (0xb4 : UInt8) :: dT_X9_goMinute_10
def dT_X9_goMinute_8 : List UInt8 := (0xb4 : UInt8) :: (0x00 : UInt8) :: (0x25 : UInt8) :: (0x1d : UInt8) :: (0x2e : UInt8) :: (0x1b : UInt8) :: (0xb8 : UInt8) :: (0x00 : UInt8) :: (0xfe : UInt8) :: (0x9a : UInt8) :: (0x00 : UInt8) :: (0x07 : UInt8) :: (0x04 : UInt8) :: (0xa7 : UInt8) :: (0x00 : UInt8) :: (0x04 : UInt8) :: dT_X9_goMinute_9
def dT_X9_goMinute_7 : List UInt8 := (0xb4 : UInt8) :: (0x00 : UInt8) :: (0x09 : UInt8) :: (0x10 : UInt8) :: (0x0b : UInt8) :: (0x05 : UInt8) :: (0x1d : UInt8) :: (0x68 : UInt8) :: (0x60 : UInt8) :: (0x04 : UInt8) :: (0x60 : UInt8) :: (0x2e : UInt8) :: (0xa1 : UInt8) :: (0x00 : UInt8) :: (0x14 : UInt8) :: (0x2a : UInt8) :: dT_X9_goMinute_8
def dT_X9_goMinute_6 : List UInt8 := (0x06 : UInt8) :: (0x1b : UInt8) :: (0x04 : UInt8) :: (0x64 : UInt8) :: (0x68 : UInt8) :: (0x1d : UInt8) :: (0x60 : UInt8) :: (0x2e : UInt8) :: (0x15 : UInt8) :: (0x05 : UInt8) :: (0x60 : UInt8) :: (0x36 : UInt8) :: (0x06 : UInt8) :: (0x15 : UInt8) :: (0x06 : UInt8) :: (0x2a : UInt8) :: dT_X9_goMinute_7
def dT_X9_goMinute_5 : List UInt8 := (0x60 : UInt8) :: (0x36 : UInt8) :: (0x05 : UInt8) :: (0x1b : UInt8) :: (0x9a : UInt8) :: (0x00 : UInt8) :: (0x07 : UInt8) :: (0x03 : UInt8) :: (0xa7 : UInt8) :: (0x00 : UInt8) :: (0x10 : UInt8) :: (0x2a : UInt8) :: (0xb4 : UInt8) :: (0x00 : UInt8) :: (0x31 : UInt8) :: (0x10 : UInt8) :: dT_X9_goMinute_6
def dT_X9_goMinute_4 : List UInt8 := (0x15 : UInt8) :: (0x04 : UInt8) :: (0x60 : UInt8) :: (0x10 : UInt8) :: (0x28 : UInt8) :: (0x2a : UInt8) :: (0xb4 : UInt8) :: (0x00 : UInt8) :: (0x28 : UInt8) :: (0x1d : UInt8) :: (0x2e : UInt8) :: (0x1b : UInt8) :: (0xb8 : UInt8) :: (0x00 : UInt8) :: (0xfe : UInt8) :: (0x68 : UInt8) :: dT_X9_goMinute_5
def dT_X9_goMinute_3 : List UInt8 := (0x00 : UInt8) :: (0x09 : UInt8) :: (0x10 : UInt8) :: (0x0b : UInt8) :: (0x05 : UInt8) :: (0x1d : UInt8) :: (0x68 : UInt8) :: (0x60 : UInt8) :: (0x2e : UInt8) :: (0x2a : UInt8) :: (0xb4 : UInt8) :: (0x00 : UInt8) :: (0x22 : UInt8) :: (0x1b : UInt8) :: (0x2e : UInt8) :: (0x68 : UInt8) :: dT_X9_goMinute_4
def dT_X9_goMinute_2 : List UInt8 := (0x2e : UInt8) :: (0xa2 : UInt8) :: (0x00 : UInt8) :: (0xc6 : UInt8) :: (0x08 : UInt8) :: (0x2a : UInt8) :: (0x1d : UInt8) :: (0x1c : UInt8) :: (0xb6 : UInt8) :: (0x01 : UInt8) :: (0x01 : UInt8) :: (0x68 : UInt8) :: (0x36 : UInt8) :: (0x04 : UInt8) :: (0x2a : UInt8) :: (0xb4 : UInt8) :: dT_X9_goMinute_3
def dT_X9_goMinute_1 : List UInt8 := (0xb4 : UInt8) :: (0x00 : UInt8) :: (0x2e : UInt8) :: (0x1b : UInt8) :: (0x04 : UInt8) :: (0x64 : UInt8) :: (0x2e : UInt8) :: (0x3d : UInt8) :: (0x03 : UInt8) :: (0x3e : UInt8) :: (0x1d : UInt8) :: (0x2a : UInt8) :: (0xb4 : UInt8) :: (0x00 : UInt8) :: (0x09 : UInt8) :: (0x08 : UInt8) :: dT_X9_goMinute_2
def dT_X9_goMinute_0 : List UInt8 := (0x2a : UInt8) :: (0xb4 : UInt8) :: (0x00 : UInt8) :: (0x2e : UInt8) :: (0x1b : UInt8) :: (0x03 : UInt8) :: (0x4f : UInt8) :: (0x1b : UInt8) :: (0x9a : UInt8) :: (0x00 : UInt8) :: (0x07 : UInt8) :: (0x03 : UInt8) :: (0xa7 : UInt8) :: (0x00 : UInt8) :: (0x0b : UInt8) :: (0x2a : UInt8) :: dT_X9_goMinute_1
theorem dT_X9_goMinute : cX9_goMinute.data.toList = dT_X9_goMinute_0 := eq_of_beq (show (cX9_goMinute.data.toList == dT_X9_goMinute_0) = true by decide +kernel)
theorem dQ_X9_goMinute_0 : dQ_P cX9_goMinute 0 dT_X9_goMinute_0 := fun i => by rw [dT_X9_goMinute]; rfl
theorem dQ_X9_goMinute_1 : dQ_P cX9_goMinute 16 dT_X9_goMinute_1 := fun i => (dQ_X9_goMinute_0 (i + 16)).trans dk_t
theorem dQ_X9_goMinute_2 : dQ_P cX9_goMinute 32 dT_X9_goMinute_2 := fun i => (dQ_X9_goMinute_1 (i + 16)).trans dk_t
theorem dQ_X9_goMinute_3 : dQ_P cX9_goMinute 48 dT_X9_goMinute_3 := fun i => (dQ_X9_goMinute_2 (i + 16)).trans dk_t
theorem dQ_X9_goMinute_4 : dQ_P cX9_goMinute 64 dT_X9_goMinute_4 := fun i => (dQ_X9_goMinute_3 (i + 16)).trans dk_t
theorem dQ_X9_goMinute_5 : dQ_P cX9_goMinute 80 dT_X9_goMinute_5 := fun i => (dQ_X9_goMinute_4 (i + 16)).trans dk_t
theorem dQ_X9_goMinute_6 : dQ_P cX9_goMinute 96 dT_X9_goMinute_6 := fun i => (dQ_X9_goMinute_5 (i + 16)).trans dk_t
theorem dQ_X9_goMinute_7 : dQ_P cX9_goMinute 112 dT_X9_goMinute_7 := fun i => (dQ_X9_goMinute_6 (i + 16)).trans dk_t
theorem dQ_X9_goMinute_8 : dQ_P cX9_goMinute 128 dT_X9_goMinute_8 := fun i => (dQ_X9_goMinute_7 (i + 16)).trans dk_t
theorem dQ_X9_goMinute_9 : dQ_P cX9_goMinute 144 dT_X9_goMinute_9 := fun i => (dQ_X9_goMinute_8 (i + 16)).trans dk_t
theorem dQ_X9_goMinute_10 : dQ_P cX9_goMinute 160 dT_X9_goMinute_10 := fun i => (dQ_X9_goMinute_9 (i + 16)).trans dk_t
theorem dQ_X9_goMinute_11 : dQ_P cX9_goMinute 176 dT_X9_goMinute_11 := fun i => (dQ_X9_goMinute_10 (i + 16)).trans dk_t
theorem dQ_X9_goMinute_12 : dQ_P cX9_goMinute 192 dT_X9_goMinute_12 := fun i => (dQ_X9_goMinute_11 (i + 16)).trans dk_t
theorem dQ_X9_goMinute_13 : dQ_P cX9_goMinute 208 dT_X9_goMinute_13 := fun i => (dQ_X9_goMinute_12 (i + 16)).trans dk_t
theorem dQ_X9_goMinute_14 : dQ_P cX9_goMinute 224 dT_X9_goMinute_14 := fun i => (dQ_X9_goMinute_13 (i + 16)).trans dk_t
theorem dX9_goMinute_0 : decode cX9_goMinute 0 = .ok (.aload_n 0, 1) := dk_42 ((dQ_X9_goMinute_0 0).trans dk_j0)
theorem dX9_goMinute_1 : decode cX9_goMinute 1 = .ok (.getfield 46, 3) := dk_180 ((dQ_X9_goMinute_0 1).trans dk_j1) ((dQ_X9_goMinute_0 2).trans dk_j2) ((dQ_X9_goMinute_0 3).trans dk_j3) dk_vu2_0_46
theorem dX9_goMinute_4 : decode cX9_goMinute 4 = .ok (.iload_n 1, 1) := dk_27 ((dQ_X9_goMinute_0 4).trans dk_j4)
theorem dX9_goMinute_5 : decode cX9_goMinute 5 = .ok (.iconst 0, 1) := dk_3 ((dQ_X9_goMinute_0 5).trans dk_j5)
theorem dX9_goMinute_6 : decode cX9_goMinute 6 = .ok (.iastore, 1) := dk_79 ((dQ_X9_goMinute_0 6).trans dk_j6)
theorem dX9_goMinute_7 : decode cX9_goMinute 7 = .ok (.iload_n 1, 1) := dk_27 ((dQ_X9_goMinute_0 7).trans dk_j7)
theorem dX9_goMinute_8 : decode cX9_goMinute 8 = .ok (.ifCond .ne 7, 3) := dk_154 ((dQ_X9_goMinute_0 8).trans dk_j8) ((dQ_X9_goMinute_0 9).trans dk_j9) ((dQ_X9_goMinute_0 10).trans dk_j10) dk_vs2_0_7
theorem dX9_goMinute_11 : decode cX9_goMinute 11 = .ok (.iconst 0, 1) := dk_3 ((dQ_X9_goMinute_0 11).trans dk_j11)
theorem dX9_goMinute_12 : decode cX9_goMinute 12 = .ok (.goto 11, 3) := dk_167 ((dQ_X9_goMinute_0 12).trans dk_j12) ((dQ_X9_goMinute_0 13).trans dk_j13) ((dQ_X9_goMinute_0 14).trans dk_j14) dk_vs2_0_11
theorem dX9_goMinute_15 : decode cX9_goMinute 15 = .ok (.aload_n 0, 1) := dk_42 ((dQ_X9_goMinute_0 15).trans dk_j15)
theorem dX9_goMinute_16 : decode cX9_goMinute 16 = .ok (.getfield 46, 3) := dk_180 ((dQ_X9_goMinute_1 0).trans dk_j0) ((dQ_X9_goMinute_1 1).trans dk_j1) ((dQ_X9_goMinute_1 2).trans dk_j2) dk_vu2_0_46
theorem dX9_goMinute_19 : decode cX9_goMinute 19 = .ok (.iload_n 1, 1) := dk_27 ((dQ_X9_goMinute_1 3).trans dk_j3)
theorem dX9_goMinute_20 : decode cX9_goMinute 20 = .ok (.iconst 1, 1) := dk_4 ((dQ_X9_goMinute_1 4).trans dk_j4)
theorem dX9_goMinute_21 : decode cX9_goMinute 21 = .ok (.isub, 1) := dk_100 ((dQ_X9_goMinute_1 5).trans dk_j5)
theorem dX9_goMinute_22 : decode cX9_goMinute 22 = .ok (.iaload, 1) := dk_46 ((dQ_X9_goMinute_1 6).trans dk_j6)
theorem dX9_goMinute_23 : decode cX9_goMinute 23 = .ok (.istore_n 2, 1) := dk_61 ((dQ_X9_goMinute_1 7).trans dk_j7)
theorem dX9_goMinute_24 : decode cX9_goMinute 24 = .ok (.iconst 0, 1) := dk_3 ((dQ_X9_goMinute_1 8).trans dk_j8)
theorem dX9_goMinute_25 : decode cX9_goMinute 25 = .ok (.istore_n 3, 1) := dk_62 ((dQ_X9_goMinute_1 9).trans dk_j9)
theorem dX9_goMinute_26 : decode cX9_goMinute 26 = .ok (.iload_n 3, 1) := dk_29 ((dQ_X9_goMinute_1 10).trans dk_j10)
theorem dX9_goMinute_27 : decode cX9_goMinute 27 = .ok (.aload_n 0, 1) := dk_42 ((dQ_X9_goMinute_1 11).trans dk_j11)
theorem dX9_goMinute_28 : decode cX9_goMinute 28 = .ok (.getfield 9, 3) := dk_180 ((dQ_X9_goMinute_1 12).trans dk_j12) ((dQ_X9_goMinute_1 13).trans dk_j13) ((dQ_X9_goMinute_1 14).trans dk_j14) dk_vu2_0_9
theorem dX9_goMinute_31 : decode cX9_goMinute 31 = .ok (.iconst 5, 1) := dk_8 ((dQ_X9_goMinute_1 15).trans dk_j15)
theorem dX9_goMinute_32 : decode cX9_goMinute 32 = .ok (.iaload, 1) := dk_46 ((dQ_X9_goMinute_2 0).trans dk_j0)
theorem dk_vs2_0_198 : Reader.signed 16 ((0x00 : UInt8).toNat * 256 + (0xc6 : UInt8).toNat) = (198 : Int) := by decide +kernel
theorem dX9_goMinute_33 : decode cX9_goMinute 33 = .ok (.if_icmp .ge 198, 3) := dk_162 ((dQ_X9_goMinute_2 1).trans dk_j1) ((dQ_X9_goMinute_2 2).trans dk_j2) ((dQ_X9_goMinute_2 3).trans dk_j3) dk_vs2_0_198
theorem dX9_goMinute_36 : decode cX9_goMinute 36 = .ok (.iconst 5, 1) := dk_8 ((dQ_X9_goMinute_2 4).trans dk_j4)
theorem dX9_goMinute_37 : decode cX9_goMinute 37 = .ok (.aload_n 0, 1) := dk_42 ((dQ_X9_goMinute_2 5).trans dk_j5)
theorem dX9_goMinute_38 : decode cX9_goMinute 38 = .ok (.iload_n 3, 1) := dk_29 ((dQ_X9_goMinute_2 6).trans dk_j6)
theorem dX9_goMinute_39 : decode cX9_goMinute 39 = .ok (.iload_n 2, 1) := dk_28 ((dQ_X9_goMinute_2 7).trans dk_j7)
theorem dk_vu2_1_1 : (0x01 : UInt8).toNat * 256 + (0x01 : UInt8).toNat = (257 : Nat) := by decide +kernel
theorem dX9_goMinute_40 : decode cX9_goMinute 40 = .ok (.invokevirtual 257, 3) := dk_182 ((dQ_X9_goMinute_2 8).trans dk_j8) ((dQ_X9_goMinute_2 9).trans dk_j9) ((dQ_X9_goMinute_2 10).trans dk_j10) dk_vu2_1_1
theorem dX9_goMinute_43 : decode cX9_goMinute 43 = .ok (.imul, 1) := dk_104 ((dQ_X9_goMinute_2 11).trans dk_j11)
theorem dX9_goMinute_44 : decode cX9_goMinute 44 = .ok (.istore 4, 2) := dk_54 ((dQ_X9_goMinute_2 12).trans dk_j12) ((dQ_X9_goMinute_2 13).trans dk_j13) dk_vu1_4
theorem dX9_goMinute_46 : decode cX9_goMinute 46 = .ok (.aload_n 0, 1) := dk_42 ((dQ_X9_goMinute_2 14).trans dk_j14)
theorem dX9_goMinute_47 : decode cX9_goMinute 47 = .ok (.getfield 9, 3) := dk_180 ((dQ_X9_goMinute_2 15).trans dk_j15) ((dQ_X9_goMinute_3 0).trans dk_j0) ((dQ_X9_goMinute_3 1).trans dk_j1) dk_vu2_0_9
theorem dX9_goMinute_50 : decode cX9_goMinute 50 = .ok (.bipush 11, 2) := dk_16 ((dQ_X9_goMinute_3 2).trans dk_j2) ((dQ_X9_goMinute_3 3).trans dk_j3) dk_vs1_11
theorem dX9_goMinute_52 : decode cX9_goMinute 52 = .ok (.iconst 2, 1) := dk_5 ((dQ_X9_goMinute_3 4).trans dk_j4)
theorem dX9_goMinute_53 : decode cX9_goMinute 53 = .ok (.iload_n 3, 1) := dk_29 ((dQ_X9_goMinute_3 5).trans dk_j5)
theorem dX9_goMinute_54 : decode cX9_goMinute 54 = .ok (.imul, 1) := dk_104 ((dQ_X9_goMinute_3 6).trans dk_j6)
theorem dX9_goMinute_55 : decode cX9_goMinute 55 = .ok (.iadd, 1) := dk_96 ((dQ_X9_goMinute_3 7).trans dk_j7)
theorem dX9_goMinute_56 : decode cX9_goMinute 56 = .ok (.iaload, 1) := dk_46 ((dQ_X9_goMinute_3 8).trans dk_j8)
theorem dX9_goMinute_57 : decode cX9_goMinute 57 = .ok (.aload_n 0, 1) := dk_42 ((dQ_X9_goMinute_3 9).trans dk_j9)
theorem dX9_goMinute_58 : decode cX9_goMinute 58 = .ok (.getfield 34, 3) := dk_180 ((dQ_X9_goMinute_3 10).trans dk_j10) ((dQ_X9_goMinute_3 11).trans dk_j11) ((dQ_X9_goMinute_3 12).trans dk_j12) dk_vu2_0_34
theorem dX9_goMinute_61 : decode cX9_goMinute 61 = .ok (.iload_n 1, 1) := dk_27 ((dQ_X9_goMinute_3 13).trans dk_j13)
theorem dX9_goMinute_62 : decode cX9_goMinute 62 = .ok (.iaload, 1) := dk_46 ((dQ_X9_goMinute_3 14).trans dk_j14)
theorem dX9_goMinute_63 : decode cX9_goMinute 63 = .ok (.imul, 1) := dk_104 ((dQ_X9_goMinute_3 15).trans dk_j15)
theorem dX9_goMinute_64 : decode cX9_goMinute 64 = .ok (.iload 4, 2) := dk_21 ((dQ_X9_goMinute_4 0).trans dk_j0) ((dQ_X9_goMinute_4 1).trans dk_j1) dk_vu1_4
theorem dX9_goMinute_66 : decode cX9_goMinute 66 = .ok (.iadd, 1) := dk_96 ((dQ_X9_goMinute_4 2).trans dk_j2)
theorem dk_vs1_40 : Reader.signed 8 (0x28 : UInt8).toNat = (40 : Int) := by decide +kernel
theorem dX9_goMinute_67 : decode cX9_goMinute 67 = .ok (.bipush 40, 2) := dk_16 ((dQ_X9_goMinute_4 3).trans dk_j3) ((dQ_X9_goMinute_4 4).trans dk_j4) dk_vs1_40
theorem dX9_goMinute_69 : decode cX9_goMinute 69 = .ok (.aload_n 0, 1) := dk_42 ((dQ_X9_goMinute_4 5).trans dk_j5)
theorem dX9_goMinute_70 : decode cX9_goMinute 70 = .ok (.getfield 40, 3) := dk_180 ((dQ_X9_goMinute_4 6).trans dk_j6) ((dQ_X9_goMinute_4 7).trans dk_j7) ((dQ_X9_goMinute_4 8).trans dk_j8) dk_vu2_0_40
theorem dX9_goMinute_73 : decode cX9_goMinute 73 = .ok (.iload_n 3, 1) := dk_29 ((dQ_X9_goMinute_4 9).trans dk_j9)
theorem dX9_goMinute_74 : decode cX9_goMinute 74 = .ok (.iaload, 1) := dk_46 ((dQ_X9_goMinute_4 10).trans dk_j10)
theorem dX9_goMinute_75 : decode cX9_goMinute 75 = .ok (.iload_n 1, 1) := dk_27 ((dQ_X9_goMinute_4 11).trans dk_j11)
theorem dX9_goMinute_76 : decode cX9_goMinute 76 = .ok (.invokestatic 254, 3) := dk_184 ((dQ_X9_goMinute_4 12).trans dk_j12) ((dQ_X9_goMinute_4 13).trans dk_j13) ((dQ_X9_goMinute_4 14).trans dk_j14) dk_vu2_0_254
theorem dX9_goMinute_79 : decode cX9_goMinute 79 = .ok (.imul, 1) := dk_104 ((dQ_X9_goMinute_4 15).trans dk_j15)
theorem dX9_goMinute_80 : decode cX9_goMinute 80 = .ok (.iadd, 1) := dk_96 ((dQ_X9_goMinute_5 0).trans dk_j0)
theorem dX9_goMinute_81 : decode cX9_goMinute 81 = .ok (.istore 5, 2) := dk_54 ((dQ_X9_goMinute_5 1).trans dk_j1) ((dQ_X9_goMinute_5 2).trans dk_j2) dk_vu1_5
theorem dX9_goMinute_83 : decode cX9_goMinute 83 = .ok (.iload_n 1, 1) := dk_27 ((dQ_X9_goMinute_5 3).trans dk_j3)
theorem dX9_goMinute_84 : decode cX9_goMinute 84 = .ok (.ifCond .ne 7, 3) := dk_154 ((dQ_X9_goMinute_5 4).trans dk_j4) ((dQ_X9_goMinute_5 5).trans dk_j5) ((dQ_X9_goMinute_5 6).trans dk_j6) dk_vs2_0_7
theorem dX9_goMinute_87 : decode cX9_goMinute 87 = .ok (.iconst 0, 1) := dk_3 ((dQ_X9_goMinute_5 7).trans dk_j7)
theorem dX9_goMinute_88 : decode cX9_goMinute 88 = .ok (.goto 16, 3) := dk_167 ((dQ_X9_goMinute_5 8).trans dk_j8) ((dQ_X9_goMinute_5 9).trans dk_j9) ((dQ_X9_goMinute_5 10).trans dk_j10) dk_vs2_0_16
theorem dX9_goMinute_91 : decode cX9_goMinute 91 = .ok (.aload_n 0, 1) := dk_42 ((dQ_X9_goMinute_5 11).trans dk_j11)
theorem dX9_goMinute_92 : decode cX9_goMinute 92 = .ok (.getfield 49, 3) := dk_180 ((dQ_X9_goMinute_5 12).trans dk_j12) ((dQ_X9_goMinute_5 13).trans dk_j13) ((dQ_X9_goMinute_5 14).trans dk_j14) dk_vu2_0_49
theorem dX9_goMinute_95 : decode cX9_goMinute 95 = .ok (.bipush 6, 2) := dk_16 ((dQ_X9_goMinute_5 15).trans dk_j15) ((dQ_X9_goMinute_6 0).trans dk_j0) dk_vs1_6
theorem dX9_goMinute_97 : decode cX9_goMinute 97 = .ok (.iload_n 1, 1) := dk_27 ((dQ_X9_goMinute_6 1).trans dk_j1)
theorem dX9_goMinute_98 : decode cX9_goMinute 98 = .ok (.iconst 1, 1) := dk_4 ((dQ_X9_goMinute_6 2).trans dk_j2)
theorem dX9_goMinute_99 : decode cX9_goMinute 99 = .ok (.isub, 1) := dk_100 ((dQ_X9_goMinute_6 3).trans dk_j3)
theorem dX9_goMinute_100 : decode cX9_goMinute 100 = .ok (.imul, 1) := dk_104 ((dQ_X9_goMinute_6 4).trans dk_j4)
theorem dX9_goMinute_101 : decode cX9_goMinute 101 = .ok (.iload_n 3, 1) := dk_29 ((dQ_X9_goMinute_6 5).trans dk_j5)
theorem dX9_goMinute_102 : decode cX9_goMinute 102 = .ok (.iadd, 1) := dk_96 ((dQ_X9_goMinute_6 6).trans dk_j6)
theorem dX9_goMinute_103 : decode cX9_goMinute 103 = .ok (.iaload, 1) := dk_46 ((dQ_X9_goMinute_6 7).trans dk_j7)
theorem dX9_goMinute_104 : decode cX9_goMinute 104 = .ok (.iload 5, 2) := dk_21 ((dQ_X9_goMinute_6 8).trans dk_j8) ((dQ_X9_goMinute_6 9).trans dk_j9) dk_vu1_5
theorem dX9_goMinute_106 : decode cX9_goMinute 106 = .ok (.iadd, 1) := dk_96 ((dQ_X9_goMinute_6 10).trans dk_j10)
theorem dX9_goMinute_107 : decode cX9_goMinute 107 = .ok (.istore 6, 2) := dk_54 ((dQ_X9_goMinute_6 11).trans dk_j11) ((dQ_X9_goMinute_6 12).trans dk_j12) dk_vu1_6
theorem dX9_goMinute_109 : decode cX9_goMinute 109 = .ok (.iload 6, 2) := dk_21 ((dQ_X9_goMinute_6 13).trans dk_j13) ((dQ_X9_goMinute_6 14).trans dk_j14) dk_vu1_6
theorem dX9_goMinute_111 : decode cX9_goMinute 111 = .ok (.aload_n 0, 1) := dk_42 ((dQ_X9_goMinute_6 15).trans dk_j15)
theorem dX9_goMinute_112 : decode cX9_goMinute 112 = .ok (.getfield 9, 3) := dk_180 ((dQ_X9_goMinute_7 0).trans dk_j0) ((dQ_X9_goMinute_7 1).trans dk_j1) ((dQ_X9_goMinute_7 2).trans dk_j2) dk_vu2_0_9
theorem dX9_goMinute_115 : decode cX9_goMinute 115 = .ok (.bipush 11, 2) := dk_16 ((dQ_X9_goMinute_7 3).trans dk_j3) ((dQ_X9_goMinute_7 4).trans dk_j4) dk_vs1_11
theorem dX9_goMinute_117 : decode cX9_goMinute 117 = .ok (.iconst 2, 1) := dk_5 ((dQ_X9_goMinute_7 5).trans dk_j5)
theorem dX9_goMinute_118 : decode cX9_goMinute 118 = .ok (.iload_n 3, 1) := dk_29 ((dQ_X9_goMinute_7 6).trans dk_j6)
theorem dX9_goMinute_119 : decode cX9_goMinute 119 = .ok (.imul, 1) := dk_104 ((dQ_X9_goMinute_7 7).trans dk_j7)
theorem dX9_goMinute_120 : decode cX9_goMinute 120 = .ok (.iadd, 1) := dk_96 ((dQ_X9_goMinute_7 8).trans dk_j8)
theorem dX9_goMinute_121 : decode cX9_goMinute 121 = .ok (.iconst 1, 1) := dk_4 ((dQ_X9_goMinute_7 9).trans dk_j9)
theorem dX9_goMinute_122 : decode cX9_goMinute 122 = .ok (.iadd, 1) := dk_96 ((dQ_X9_goMinute_7 10).trans dk_j10)
theorem dX9_goMinute_123 : decode cX9_goMinute 123 = .ok (.iaload, 1) := dk_46 ((dQ_X9_goMinute_7 11).trans dk_j11)
theorem dX9_goMinute_124 : decode cX9_goMinute 124 = .ok (.if_icmp .lt 20, 3) := dk_161 ((dQ_X9_goMinute_7 12).trans dk_j12) ((dQ_X9_goMinute_7 13).trans dk_j13) ((dQ_X9_goMinute_7 14).trans dk_j14) dk_vs2_0_20
theorem dX9_goMinute_127 : decode cX9_goMinute 127 = .ok (.aload_n 0, 1) := dk_42 ((dQ_X9_goMinute_7 15).trans dk_j15)
theorem dX9_goMinute_128 : decode cX9_goMinute 128 = .ok (.getfield 37, 3) := dk_180 ((dQ_X9_goMinute_8 0).trans dk_j0) ((dQ_X9_goMinute_8 1).trans dk_j1) ((dQ_X9_goMinute_8 2).trans dk_j2) dk_vu2_0_37
theorem dX9_goMinute_131 : decode cX9_goMinute 131 = .ok (.iload_n 3, 1) := dk_29 ((dQ_X9_goMinute_8 3).trans dk_j3)
theorem dX9_goMinute_132 : decode cX9_goMinute 132 = .ok (.iaload, 1) := dk_46 ((dQ_X9_goMinute_8 4).trans dk_j4)
theorem dX9_goMinute_133 : decode cX9_goMinute 133 = .ok (.iload_n 1, 1) := dk_27 ((dQ_X9_goMinute_8 5).trans dk_j5)
theorem dX9_goMinute_134 : decode cX9_goMinute 134 = .ok (.invokestatic 254, 3) := dk_184 ((dQ_X9_goMinute_8 6).trans dk_j6) ((dQ_X9_goMinute_8 7).trans dk_j7) ((dQ_X9_goMinute_8 8).trans dk_j8) dk_vu2_0_254
theorem dX9_goMinute_137 : decode cX9_goMinute 137 = .ok (.ifCond .ne 7, 3) := dk_154 ((dQ_X9_goMinute_8 9).trans dk_j9) ((dQ_X9_goMinute_8 10).trans dk_j10) ((dQ_X9_goMinute_8 11).trans dk_j11) dk_vs2_0_7
theorem dX9_goMinute_140 : decode cX9_goMinute 140 = .ok (.iconst 1, 1) := dk_4 ((dQ_X9_goMinute_8 12).trans dk_j12)
theorem dX9_goMinute_141 : decode cX9_goMinute 141 = .ok (.goto 4, 3) := dk_167 ((dQ_X9_goMinute_8 13).trans dk_j13) ((dQ_X9_goMinute_8 14).trans dk_j14) ((dQ_X9_goMinute_8 15).trans dk_j15) dk_vs2_0_4
theorem dX9_goMinute_144 : decode cX9_goMinute 144 = .ok (.iconst 0, 1) := dk_3 ((dQ_X9_goMinute_9 0).trans dk_j0)
theorem dk_vu1_7 : (0x07 : UInt8).toNat = (7 : Nat) := by decide +kernel
theorem dX9_goMinute_145 : decode cX9_goMinute 145 = .ok (.istore 7, 2) := dk_54 ((dQ_X9_goMinute_9 1).trans dk_j1) ((dQ_X9_goMinute_9 2).trans dk_j2) dk_vu1_7
theorem dX9_goMinute_147 : decode cX9_goMinute 147 = .ok (.aload_n 0, 1) := dk_42 ((dQ_X9_goMinute_9 3).trans dk_j3)
theorem dX9_goMinute_148 : decode cX9_goMinute 148 = .ok (.getfield 55, 3) := dk_180 ((dQ_X9_goMinute_9 4).trans dk_j4) ((dQ_X9_goMinute_9 5).trans dk_j5) ((dQ_X9_goMinute_9 6).trans dk_j6) dk_vu2_0_55
theorem dX9_goMinute_151 : decode cX9_goMinute 151 = .ok (.iload_n 3, 1) := dk_29 ((dQ_X9_goMinute_9 7).trans dk_j7)
theorem dX9_goMinute_152 : decode cX9_goMinute 152 = .ok (.dup2, 1) := dk_92 ((dQ_X9_goMinute_9 8).trans dk_j8)
theorem dX9_goMinute_153 : decode cX9_goMinute 153 = .ok (.iaload, 1) := dk_46 ((dQ_X9_goMinute_9 9).trans dk_j9)
theorem dX9_goMinute_154 : decode cX9_goMinute 154 = .ok (.iload 4, 2) := dk_21 ((dQ_X9_goMinute_9 10).trans dk_j10) ((dQ_X9_goMinute_9 11).trans dk_j11) dk_vu1_4
theorem dX9_goMinute_156 : decode cX9_goMinute 156 = .ok (.iadd, 1) := dk_96 ((dQ_X9_goMinute_9 12).trans dk_j12)
theorem dX9_goMinute_157 : decode cX9_goMinute 157 = .ok (.iastore, 1) := dk_79 ((dQ_X9_goMinute_9 13).trans dk_j13)
theorem dX9_goMinute_158 : decode cX9_goMinute 158 = .ok (.aload_n 0, 1) := dk_42 ((dQ_X9_goMinute_9 14).trans dk_j14)
theorem dX9_goMinute_159 : decode cX9_goMinute 159 = .ok (.getfield 52, 3) := dk_180 ((dQ_X9_goMinute_9 15).trans dk_j15) ((dQ_X9_goMinute_10 0).trans dk_j0) ((dQ_X9_goMinute_10 1).trans dk_j1) dk_vu2_0_52
theorem dX9_goMinute_162 : decode cX9_goMinute 162 = .ok (.bipush 6, 2) := dk_16 ((dQ_X9_goMinute_10 2).trans dk_j2) ((dQ_X9_goMinute_10 3).trans dk_j3) dk_vs1_6
theorem dX9_goMinute_164 : decode cX9_goMinute 164 = .ok (.iload_n 1, 1) := dk_27 ((dQ_X9_goMinute_10 4).trans dk_j4)
theorem dX9_goMinute_165 : decode cX9_goMinute 165 = .ok (.imul, 1) := dk_104 ((dQ_X9_goMinute_10 5).trans dk_j5)
theorem dX9_goMinute_166 : decode cX9_goMinute 166 = .ok (.iload_n 3, 1) := dk_29 ((dQ_X9_goMinute_10 6).trans dk_j6)
theorem dX9_goMinute_167 : decode cX9_goMinute 167 = .ok (.iadd, 1) := dk_96 ((dQ_X9_goMinute_10 7).trans dk_j7)
theorem dX9_goMinute_168 : decode cX9_goMinute 168 = .ok (.iload 5, 2) := dk_21 ((dQ_X9_goMinute_10 8).trans dk_j8) ((dQ_X9_goMinute_10 9).trans dk_j9) dk_vu1_5
theorem dX9_goMinute_170 : decode cX9_goMinute 170 = .ok (.iastore, 1) := dk_79 ((dQ_X9_goMinute_10 10).trans dk_j10)
theorem dX9_goMinute_171 : decode cX9_goMinute 171 = .ok (.aload_n 0, 1) := dk_42 ((dQ_X9_goMinute_10 11).trans dk_j11)
theorem dX9_goMinute_172 : decode cX9_goMinute 172 = .ok (.getfield 49, 3) := dk_180 ((dQ_X9_goMinute_10 12).trans dk_j12) ((dQ_X9_goMinute_10 13).trans dk_j13) ((dQ_X9_goMinute_10 14).trans dk_j14) dk_vu2_0_49
theorem dX9_goMinute_175 : decode cX9_goMinute 175 = .ok (.bipush 6, 2) := dk_16 ((dQ_X9_goMinute_10 15).trans dk_j15) ((dQ_X9_goMinute_11 0).trans dk_j0) dk_vs1_6
theorem dX9_goMinute_177 : decode cX9_goMinute 177 = .ok (.iload_n 1, 1) := dk_27 ((dQ_X9_goMinute_11 1).trans dk_j1)
theorem dX9_goMinute_178 : decode cX9_goMinute 178 = .ok (.imul, 1) := dk_104 ((dQ_X9_goMinute_11 2).trans dk_j2)
theorem dX9_goMinute_179 : decode cX9_goMinute 179 = .ok (.iload_n 3, 1) := dk_29 ((dQ_X9_goMinute_11 3).trans dk_j3)
theorem dX9_goMinute_180 : decode cX9_goMinute 180 = .ok (.iadd, 1) := dk_96 ((dQ_X9_goMinute_11 4).trans dk_j4)
theorem dX9_goMinute_181 : decode cX9_goMinute 181 = .ok (.iload 7, 2) := dk_21 ((dQ_X9_goMinute_11 5).trans dk_j5) ((dQ_X9_goMinute_11 6).trans dk_j6) dk_vu1_7
theorem dX9_goMinute_183 : decode cX9_goMinute 183 = .ok (.ifCond .eq 7, 3) := dk_153 ((dQ_X9_goMinute_11 7).trans dk_j7) ((dQ_X9_goMinute_11 8).trans dk_j8) ((dQ_X9_goMinute_11 9).trans dk_j9) dk_vs2_0_7
theorem dX9_goMinute_186 : decode cX9_goMinute 186 = .ok (.iconst 0, 1) := dk_3 ((dQ_X9_goMinute_11 10).trans dk_j10)
theorem dX9_goMinute_187 : decode cX9_goMinute 187 = .ok (.goto 5, 3) := dk_167 ((dQ_X9_goMinute_11 11).trans dk_j11) ((dQ_X9_goMinute_11 12).trans dk_j12) ((dQ_X9_goMinute_11 13).trans dk_j13) dk_vs2_0_5
theorem dX9_goMinute_190 : decode cX9_goMinute 190 = .ok (.iload 6, 2) := dk_21 ((dQ_X9_goMinute_11 14).trans dk_j14) ((dQ_X9_goMinute_11 15).trans dk_j15) dk_vu1_6
theorem dX9_goMinute_192 : decode cX9_goMinute 192 = .ok (.iastore, 1) := dk_79 ((dQ_X9_goMinute_12 0).trans dk_j0)
theorem dX9_goMinute_193 : decode cX9_goMinute 193 = .ok (.iload 7, 2) := dk_21 ((dQ_X9_goMinute_12 1).trans dk_j1) ((dQ_X9_goMinute_12 2).trans dk_j2) dk_vu1_7
theorem dX9_goMinute_195 : decode cX9_goMinute 195 = .ok (.ifCond .ne 6, 3) := dk_154 ((dQ_X9_goMinute_12 3).trans dk_j3) ((dQ_X9_goMinute_12 4).trans dk_j4) ((dQ_X9_goMinute_12 5).trans dk_j5) dk_vs2_0_6
theorem dX9_goMinute_198 : decode cX9_goMinute 198 = .ok (.goto 27, 3) := dk_167 ((dQ_X9_goMinute_12 6).trans dk_j6) ((dQ_X9_goMinute_12 7).trans dk_j7) ((dQ_X9_goMinute_12 8).trans dk_j8) dk_vs2_0_27
theorem dX9_goMinute_201 : decode cX9_goMinute 201 = .ok (.aload_n 0, 1) := dk_42 ((dQ_X9_goMinute_12 9).trans dk_j9)
theorem dX9_goMinute_202 : decode cX9_goMinute 202 = .ok (.getfield 46, 3) := dk_180 ((dQ_X9_goMinute_12 10).trans dk_j10) ((dQ_X9_goMinute_12 11).trans dk_j11) ((dQ_X9_goMinute_12 12).trans dk_j12) dk_vu2_0_46
theorem dX9_goMinute_205 : decode cX9_goMinute 205 = .ok (.iload_n 1, 1) := dk_27 ((dQ_X9_goMinute_12 13).trans dk_j13)
theorem dX9_goMinute_206 : decode cX9_goMinute 206 = .ok (.dup2, 1) := dk_92 ((dQ_X9_goMinute_12 14).trans dk_j14)
theorem dX9_goMinute_207 : decode cX9_goMinute 207 = .ok (.iaload, 1) := dk_46 ((dQ_X9_goMinute_12 15).trans dk_j15)
theorem dX9_goMinute_208 : decode cX9_goMinute 208 = .ok (.iconst 1, 1) := dk_4 ((dQ_X9_goMinute_13 0).trans dk_j0)
theorem dX9_goMinute_209 : decode cX9_goMinute 209 = .ok (.iload_n 3, 1) := dk_29 ((dQ_X9_goMinute_13 1).trans dk_j1)
theorem dX9_goMinute_210 : decode cX9_goMinute 210 = .ok (.ishl, 1) := dk_120 ((dQ_X9_goMinute_13 2).trans dk_j2)
theorem dX9_goMinute_211 : decode cX9_goMinute 211 = .ok (.ior, 1) := dk_128 ((dQ_X9_goMinute_13 3).trans dk_j3)
theorem dX9_goMinute_212 : decode cX9_goMinute 212 = .ok (.iastore, 1) := dk_79 ((dQ_X9_goMinute_13 4).trans dk_j4)
theorem dX9_goMinute_213 : decode cX9_goMinute 213 = .ok (.aload_n 0, 1) := dk_42 ((dQ_X9_goMinute_13 5).trans dk_j5)
theorem dX9_goMinute_214 : decode cX9_goMinute 214 = .ok (.getfield 43, 3) := dk_180 ((dQ_X9_goMinute_13 6).trans dk_j6) ((dQ_X9_goMinute_13 7).trans dk_j7) ((dQ_X9_goMinute_13 8).trans dk_j8) dk_vu2_0_43
theorem dX9_goMinute_217 : decode cX9_goMinute 217 = .ok (.iload_n 3, 1) := dk_29 ((dQ_X9_goMinute_13 9).trans dk_j9)
theorem dX9_goMinute_218 : decode cX9_goMinute 218 = .ok (.dup2, 1) := dk_92 ((dQ_X9_goMinute_13 10).trans dk_j10)
theorem dX9_goMinute_219 : decode cX9_goMinute 219 = .ok (.iaload, 1) := dk_46 ((dQ_X9_goMinute_13 11).trans dk_j11)
theorem dX9_goMinute_220 : decode cX9_goMinute 220 = .ok (.iconst 1, 1) := dk_4 ((dQ_X9_goMinute_13 12).trans dk_j12)
theorem dX9_goMinute_221 : decode cX9_goMinute 221 = .ok (.iload_n 1, 1) := dk_27 ((dQ_X9_goMinute_13 13).trans dk_j13)
theorem dX9_goMinute_222 : decode cX9_goMinute 222 = .ok (.ishl, 1) := dk_120 ((dQ_X9_goMinute_13 14).trans dk_j14)
theorem dX9_goMinute_223 : decode cX9_goMinute 223 = .ok (.ior, 1) := dk_128 ((dQ_X9_goMinute_13 15).trans dk_j15)
theorem dX9_goMinute_224 : decode cX9_goMinute 224 = .ok (.iastore, 1) := dk_79 ((dQ_X9_goMinute_14 0).trans dk_j0)
theorem dX9_goMinute_225 : decode cX9_goMinute 225 = .ok (.iinc 3 1, 3) := dk_132 ((dQ_X9_goMinute_14 1).trans dk_j1) ((dQ_X9_goMinute_14 2).trans dk_j2) ((dQ_X9_goMinute_14 3).trans dk_j3) dk_vu1_3 dk_vs1_1
theorem dk_vs2_255_54 : Reader.signed 16 ((0xff : UInt8).toNat * 256 + (0x36 : UInt8).toNat) = (-202 : Int) := by decide +kernel
theorem dX9_goMinute_228 : decode cX9_goMinute 228 = .ok (.goto (-202), 3) := dk_167 ((dQ_X9_goMinute_14 4).trans dk_j4) ((dQ_X9_goMinute_14 5).trans dk_j5) ((dQ_X9_goMinute_14 6).trans dk_j6) dk_vs2_255_54
theorem dX9_goMinute_231 : decode cX9_goMinute 231 = .ok (.return_, 1) := dk_177 ((dQ_X9_goMinute_14 7).trans dk_j7)
def dT_X9_goAll_3 : List UInt8 := (0xf0 : UInt8) :: (0xb1 : UInt8) :: []
def dT_X9_goAll_2 : List UInt8 := (0xb4 : UInt8) :: (0x00 : UInt8) :: (0xfb : UInt8) :: (0xa3 : UInt8) :: (0x00 : UInt8) :: (0x0e : UInt8) :: (0x2a : UInt8) :: (0x1b : UInt8) :: (0xb6 : UInt8) :: (0x01 : UInt8) :: (0x04 : UInt8) :: (0x84 : UInt8) :: (0x01 : UInt8) :: (0x01 : UInt8) :: (0xa7 : UInt8) :: (0xff : UInt8) :: dT_X9_goAll_3
def dT_X9_goAll_1 : List UInt8 := (0xb4 : UInt8) :: (0x00 : UInt8) :: (0x37 : UInt8) :: (0x1b : UInt8) :: (0x03 : UInt8) :: (0x4f : UInt8) :: (0x84 : UInt8) :: (0x01 : UInt8) :: (0x01 : UInt8) :: (0xa7 : UInt8) :: (0xff : UInt8) :: (0xe9 : UInt8) :: (0x03 : UInt8) :: (0x3c : UInt8) :: (0x1b : UInt8) :: (0x2a : UInt8) :: dT_X9_goAll_2
def dT_X9_goAll_0 : List UInt8 := (0x03 : UInt8) :: (0x3c : UInt8) :: (0x1b : UInt8) :: (0x10 : UInt8) :: (0x06 : UInt8) :: (0xa2 : UInt8) :: (0x00 : UInt8) :: (0x17 : UInt8) :: (0x2a : UInt8) :: (0xb4 : UInt8) :: (0x00 : UInt8) :: (0x2b : UInt8) :: (0x1b : UInt8) :: (0x03 : UInt8) :: (0x4f : UInt8) :: (0x2a : UInt8) :: dT_X9_goAll_1
theorem dT_X9_goAll : cX9_goAll.data.toList = dT_X9_goAll_0 := eq_of_beq (show (cX9_goAll.data.toList == dT_X9_goAll_0) = true by decide +kernel)
theorem dQ_X9_goAll_0 : dQ_P cX9_goAll 0 dT_X9_goAll_0 := fun i => by rw [dT_X9_goAll]; rfl
theorem dQ_X9_goAll_1 : dQ_P cX9_goAll 16 dT_X9_goAll_1 := fun i => (dQ_X9_goAll_0 (i + 16)).trans dk_t
theorem dQ_X9_goAll_2 : dQ_P cX9_goAll 32 dT_X9_goAll_2 := fun i => (dQ_X9_goAll_1 (i + 16)).trans dk_t
theorem dQ_X9_goAll_3 : dQ_P cX9_goAll 48 dT_X9_goAll_3 := fun i => (dQ_X9_goAll_2 (i + 16)).trans dk_t
theorem dX9_goAll_0 : decode cX9_goAll 0 = .ok (.iconst 0, 1) := dk_3 ((dQ_X9_goAll_0 0).trans dk_j0)
theorem dX9_goAll_1 : decode cX9_goAll 1 = .ok (.istore_n 1, 1) := dk_60 ((dQ_X9_goAll_0 1).trans dk_j1)
theorem dX9_goAll_2 : decode cX9_goAll 2 = .ok (.iload_n 1, 1) := dk_27 ((dQ_X9_goAll_0 2).trans dk_j2)
theorem dX9_goAll_3 : decode cX9_goAll 3 = .ok (.bipush 6, 2) := dk_16 ((dQ_X9_goAll_0 3).trans dk_j3) ((dQ_X9_goAll_0 4).trans dk_j4) dk_vs1_6
theorem dX9_goAll_5 : decode cX9_goAll 5 = .ok (.if_icmp .ge 23, 3) := dk_162 ((dQ_X9_goAll_0 5).trans dk_j5) ((dQ_X9_goAll_0 6).trans dk_j6) ((dQ_X9_goAll_0 7).trans dk_j7) dk_vs2_0_23
theorem dX9_goAll_8 : decode cX9_goAll 8 = .ok (.aload_n 0, 1) := dk_42 ((dQ_X9_goAll_0 8).trans dk_j8)
theorem dX9_goAll_9 : decode cX9_goAll 9 = .ok (.getfield 43, 3) := dk_180 ((dQ_X9_goAll_0 9).trans dk_j9) ((dQ_X9_goAll_0 10).trans dk_j10) ((dQ_X9_goAll_0 11).trans dk_j11) dk_vu2_0_43
theorem dX9_goAll_12 : decode cX9_goAll 12 = .ok (.iload_n 1, 1) := dk_27 ((dQ_X9_goAll_0 12).trans dk_j12)
theorem dX9_goAll_13 : decode cX9_goAll 13 = .ok (.iconst 0, 1) := dk_3 ((dQ_X9_goAll_0 13).trans dk_j13)
theorem dX9_goAll_14 : decode cX9_goAll 14 = .ok (.iastore, 1) := dk_79 ((dQ_X9_goAll_0 14).trans dk_j14)
theorem dX9_goAll_15 : decode cX9_goAll 15 = .ok (.aload_n 0, 1) := dk_42 ((dQ_X9_goAll_0 15).trans dk_j15)
theorem dX9_goAll_16 : decode cX9_goAll 16 = .ok (.getfield 55, 3) := dk_180 ((dQ_X9_goAll_1 0).trans dk_j0) ((dQ_X9_goAll_1 1).trans dk_j1) ((dQ_X9_goAll_1 2).trans dk_j2) dk_vu2_0_55
theorem dX9_goAll_19 : decode cX9_goAll 19 = .ok (.iload_n 1, 1) := dk_27 ((dQ_X9_goAll_1 3).trans dk_j3)
theorem dX9_goAll_20 : decode cX9_goAll 20 = .ok (.iconst 0, 1) := dk_3 ((dQ_X9_goAll_1 4).trans dk_j4)
theorem dX9_goAll_21 : decode cX9_goAll 21 = .ok (.iastore, 1) := dk_79 ((dQ_X9_goAll_1 5).trans dk_j5)
theorem dX9_goAll_22 : decode cX9_goAll 22 = .ok (.iinc 1 1, 3) := dk_132 ((dQ_X9_goAll_1 6).trans dk_j6) ((dQ_X9_goAll_1 7).trans dk_j7) ((dQ_X9_goAll_1 8).trans dk_j8) dk_vu1_1 dk_vs1_1
theorem dX9_goAll_25 : decode cX9_goAll 25 = .ok (.goto (-23), 3) := dk_167 ((dQ_X9_goAll_1 9).trans dk_j9) ((dQ_X9_goAll_1 10).trans dk_j10) ((dQ_X9_goAll_1 11).trans dk_j11) dk_vs2_255_233
theorem dX9_goAll_28 : decode cX9_goAll 28 = .ok (.iconst 0, 1) := dk_3 ((dQ_X9_goAll_1 12).trans dk_j12)
theorem dX9_goAll_29 : decode cX9_goAll 29 = .ok (.istore_n 1, 1) := dk_60 ((dQ_X9_goAll_1 13).trans dk_j13)
theorem dX9_goAll_30 : decode cX9_goAll 30 = .ok (.iload_n 1, 1) := dk_27 ((dQ_X9_goAll_1 14).trans dk_j14)
theorem dX9_goAll_31 : decode cX9_goAll 31 = .ok (.aload_n 0, 1) := dk_42 ((dQ_X9_goAll_1 15).trans dk_j15)
theorem dX9_goAll_32 : decode cX9_goAll 32 = .ok (.getfield 251, 3) := dk_180 ((dQ_X9_goAll_2 0).trans dk_j0) ((dQ_X9_goAll_2 1).trans dk_j1) ((dQ_X9_goAll_2 2).trans dk_j2) dk_vu2_0_251
theorem dX9_goAll_35 : decode cX9_goAll 35 = .ok (.if_icmp .gt 14, 3) := dk_163 ((dQ_X9_goAll_2 3).trans dk_j3) ((dQ_X9_goAll_2 4).trans dk_j4) ((dQ_X9_goAll_2 5).trans dk_j5) dk_vs2_0_14
theorem dX9_goAll_38 : decode cX9_goAll 38 = .ok (.aload_n 0, 1) := dk_42 ((dQ_X9_goAll_2 6).trans dk_j6)
theorem dX9_goAll_39 : decode cX9_goAll 39 = .ok (.iload_n 1, 1) := dk_27 ((dQ_X9_goAll_2 7).trans dk_j7)
theorem dk_vu2_1_4 : (0x01 : UInt8).toNat * 256 + (0x04 : UInt8).toNat = (260 : Nat) := by decide +kernel
theorem dX9_goAll_40 : decode cX9_goAll 40 = .ok (.invokevirtual 260, 3) := dk_182 ((dQ_X9_goAll_2 8).trans dk_j8) ((dQ_X9_goAll_2 9).trans dk_j9) ((dQ_X9_goAll_2 10).trans dk_j10) dk_vu2_1_4
theorem dX9_goAll_43 : decode cX9_goAll 43 = .ok (.iinc 1 1, 3) := dk_132 ((dQ_X9_goAll_2 11).trans dk_j11) ((dQ_X9_goAll_2 12).trans dk_j12) ((dQ_X9_goAll_2 13).trans dk_j13) dk_vu1_1 dk_vs1_1
theorem dX9_goAll_46 : decode cX9_goAll 46 = .ok (.goto (-16), 3) := dk_167 ((dQ_X9_goAll_2 14).trans dk_j14) ((dQ_X9_goAll_2 15).trans dk_j15) ((dQ_X9_goAll_3 0).trans dk_j0) dk_vs2_255_240
theorem dX9_goAll_49 : decode cX9_goAll 49 = .ok (.return_, 1) := dk_177 ((dQ_X9_goAll_3 1).trans dk_j1)
def dT_X9_asksHouse_0 : List UInt8 := (0x2a : UInt8) :: (0xb6 : UInt8) :: (0x01 : UInt8) :: (0x07 : UInt8) :: (0x2a : UInt8) :: (0xb6 : UInt8) :: (0x01 : UInt8) :: (0x0a : UInt8) :: (0x2a : UInt8) :: (0xb6 : UInt8) :: (0x01 : UInt8) :: (0x0d : UInt8) :: (0xac : UInt8) :: []
theorem dT_X9_asksHouse : cX9_asksHouse.data.toList = dT_X9_asksHouse_0 := eq_of_beq (show (cX9_asksHouse.data.toList == dT_X9_asksHouse_0) = true by decide +kernel)
theorem dQ_X9_asksHouse_0 : dQ_P cX9_asksHouse 0 dT_X9_asksHouse_0 := fun i => by rw [dT_X9_asksHouse]; rfl
theorem dX9_asksHouse_0 : decode cX9_asksHouse 0 = .ok (.aload_n 0, 1) := dk_42 ((dQ_X9_asksHouse_0 0).trans dk_j0)
theorem dk_vu2_1_7 : (0x01 : UInt8).toNat * 256 + (0x07 : UInt8).toNat = (263 : Nat) := by decide +kernel
theorem dX9_asksHouse_1 : decode cX9_asksHouse 1 = .ok (.invokevirtual 263, 3) := dk_182 ((dQ_X9_asksHouse_0 1).trans dk_j1) ((dQ_X9_asksHouse_0 2).trans dk_j2) ((dQ_X9_asksHouse_0 3).trans dk_j3) dk_vu2_1_7
theorem dX9_asksHouse_4 : decode cX9_asksHouse 4 = .ok (.aload_n 0, 1) := dk_42 ((dQ_X9_asksHouse_0 4).trans dk_j4)
theorem dk_vu2_1_10 : (0x01 : UInt8).toNat * 256 + (0x0a : UInt8).toNat = (266 : Nat) := by decide +kernel
theorem dX9_asksHouse_5 : decode cX9_asksHouse 5 = .ok (.invokevirtual 266, 3) := dk_182 ((dQ_X9_asksHouse_0 5).trans dk_j5) ((dQ_X9_asksHouse_0 6).trans dk_j6) ((dQ_X9_asksHouse_0 7).trans dk_j7) dk_vu2_1_10
theorem dX9_asksHouse_8 : decode cX9_asksHouse 8 = .ok (.aload_n 0, 1) := dk_42 ((dQ_X9_asksHouse_0 8).trans dk_j8)
theorem dk_vu2_1_13 : (0x01 : UInt8).toNat * 256 + (0x0d : UInt8).toNat = (269 : Nat) := by decide +kernel
theorem dX9_asksHouse_9 : decode cX9_asksHouse 9 = .ok (.invokevirtual 269, 3) := dk_182 ((dQ_X9_asksHouse_0 9).trans dk_j9) ((dQ_X9_asksHouse_0 10).trans dk_j10) ((dQ_X9_asksHouse_0 11).trans dk_j11) dk_vu2_1_13
theorem dX9_asksHouse_12 : decode cX9_asksHouse 12 = .ok (.ireturn, 1) := dk_172 ((dQ_X9_asksHouse_0 12).trans dk_j12)
def dT_X9_asksPerson_0 : List UInt8 := (0x2a : UInt8) :: (0xb6 : UInt8) :: (0x01 : UInt8) :: (0x10 : UInt8) :: (0x57 : UInt8) :: (0x2a : UInt8) :: (0x1b : UInt8) :: (0x85 : UInt8) :: (0xb6 : UInt8) :: (0x00 : UInt8) :: (0xe0 : UInt8) :: (0xac : UInt8) :: []
theorem dT_X9_asksPerson : cX9_asksPerson.data.toList = dT_X9_asksPerson_0 := eq_of_beq (show (cX9_asksPerson.data.toList == dT_X9_asksPerson_0) = true by decide +kernel)
theorem dQ_X9_asksPerson_0 : dQ_P cX9_asksPerson 0 dT_X9_asksPerson_0 := fun i => by rw [dT_X9_asksPerson]; rfl
theorem dX9_asksPerson_0 : decode cX9_asksPerson 0 = .ok (.aload_n 0, 1) := dk_42 ((dQ_X9_asksPerson_0 0).trans dk_j0)
theorem dk_vu2_1_16 : (0x01 : UInt8).toNat * 256 + (0x10 : UInt8).toNat = (272 : Nat) := by decide +kernel
theorem dX9_asksPerson_1 : decode cX9_asksPerson 1 = .ok (.invokevirtual 272, 3) := dk_182 ((dQ_X9_asksPerson_0 1).trans dk_j1) ((dQ_X9_asksPerson_0 2).trans dk_j2) ((dQ_X9_asksPerson_0 3).trans dk_j3) dk_vu2_1_16
theorem dX9_asksPerson_4 : decode cX9_asksPerson 4 = .ok (.pop, 1) := dk_87 ((dQ_X9_asksPerson_0 4).trans dk_j4)
theorem dX9_asksPerson_5 : decode cX9_asksPerson 5 = .ok (.aload_n 0, 1) := dk_42 ((dQ_X9_asksPerson_0 5).trans dk_j5)
theorem dX9_asksPerson_6 : decode cX9_asksPerson 6 = .ok (.iload_n 1, 1) := dk_27 ((dQ_X9_asksPerson_0 6).trans dk_j6)
theorem dX9_asksPerson_7 : decode cX9_asksPerson 7 = .ok (.i2l, 1) := dk_133 ((dQ_X9_asksPerson_0 7).trans dk_j7)
theorem dX9_asksPerson_8 : decode cX9_asksPerson 8 = .ok (.invokevirtual 224, 3) := dk_182 ((dQ_X9_asksPerson_0 8).trans dk_j8) ((dQ_X9_asksPerson_0 9).trans dk_j9) ((dQ_X9_asksPerson_0 10).trans dk_j10) dk_vu2_0_224
theorem dX9_asksPerson_11 : decode cX9_asksPerson 11 = .ok (.ireturn, 1) := dk_172 ((dQ_X9_asksPerson_0 11).trans dk_j11)
def dT_X9_asksMinute_0 : List UInt8 := (0x2a : UInt8) :: (0xb6 : UInt8) :: (0x01 : UInt8) :: (0x10 : UInt8) :: (0x57 : UInt8) :: (0x2a : UInt8) :: (0x1b : UInt8) :: (0x85 : UInt8) :: (0xb6 : UInt8) :: (0x01 : UInt8) :: (0x13 : UInt8) :: (0xac : UInt8) :: []
theorem dT_X9_asksMinute : cX9_asksMinute.data.toList = dT_X9_asksMinute_0 := eq_of_beq (show (cX9_asksMinute.data.toList == dT_X9_asksMinute_0) = true by decide +kernel)
theorem dQ_X9_asksMinute_0 : dQ_P cX9_asksMinute 0 dT_X9_asksMinute_0 := fun i => by rw [dT_X9_asksMinute]; rfl
theorem dX9_asksMinute_0 : decode cX9_asksMinute 0 = .ok (.aload_n 0, 1) := dk_42 ((dQ_X9_asksMinute_0 0).trans dk_j0)
theorem dX9_asksMinute_1 : decode cX9_asksMinute 1 = .ok (.invokevirtual 272, 3) := dk_182 ((dQ_X9_asksMinute_0 1).trans dk_j1) ((dQ_X9_asksMinute_0 2).trans dk_j2) ((dQ_X9_asksMinute_0 3).trans dk_j3) dk_vu2_1_16
theorem dX9_asksMinute_4 : decode cX9_asksMinute 4 = .ok (.pop, 1) := dk_87 ((dQ_X9_asksMinute_0 4).trans dk_j4)
theorem dX9_asksMinute_5 : decode cX9_asksMinute 5 = .ok (.aload_n 0, 1) := dk_42 ((dQ_X9_asksMinute_0 5).trans dk_j5)
theorem dX9_asksMinute_6 : decode cX9_asksMinute 6 = .ok (.iload_n 1, 1) := dk_27 ((dQ_X9_asksMinute_0 6).trans dk_j6)
theorem dX9_asksMinute_7 : decode cX9_asksMinute 7 = .ok (.i2l, 1) := dk_133 ((dQ_X9_asksMinute_0 7).trans dk_j7)
theorem dk_vu2_1_19 : (0x01 : UInt8).toNat * 256 + (0x13 : UInt8).toNat = (275 : Nat) := by decide +kernel
theorem dX9_asksMinute_8 : decode cX9_asksMinute 8 = .ok (.invokevirtual 275, 3) := dk_182 ((dQ_X9_asksMinute_0 8).trans dk_j8) ((dQ_X9_asksMinute_0 9).trans dk_j9) ((dQ_X9_asksMinute_0 10).trans dk_j10) dk_vu2_1_19
theorem dX9_asksMinute_11 : decode cX9_asksMinute 11 = .ok (.ireturn, 1) := dk_172 ((dQ_X9_asksMinute_0 11).trans dk_j11)
def dT_X9_firstOf_1 : List UInt8 := (0x05 : UInt8) :: (0x1b : UInt8) :: (0xac : UInt8) :: (0x84 : UInt8) :: (0x01 : UInt8) :: (0x01 : UInt8) :: (0xa7 : UInt8) :: (0xff : UInt8) :: (0xec : UInt8) :: (0x02 : UInt8) :: (0xac : UInt8) :: []
def dT_X9_firstOf_0 : List UInt8 := (0x03 : UInt8) :: (0x3c : UInt8) :: (0x1b : UInt8) :: (0x10 : UInt8) :: (0x1e : UInt8) :: (0xa2 : UInt8) :: (0x00 : UInt8) :: (0x14 : UInt8) :: (0x1a : UInt8) :: (0x1b : UInt8) :: (0xb8 : UInt8) :: (0x00 : UInt8) :: (0xfe : UInt8) :: (0x04 : UInt8) :: (0xa0 : UInt8) :: (0x00 : UInt8) :: dT_X9_firstOf_1
theorem dT_X9_firstOf : cX9_firstOf.data.toList = dT_X9_firstOf_0 := eq_of_beq (show (cX9_firstOf.data.toList == dT_X9_firstOf_0) = true by decide +kernel)
theorem dQ_X9_firstOf_0 : dQ_P cX9_firstOf 0 dT_X9_firstOf_0 := fun i => by rw [dT_X9_firstOf]; rfl
theorem dQ_X9_firstOf_1 : dQ_P cX9_firstOf 16 dT_X9_firstOf_1 := fun i => (dQ_X9_firstOf_0 (i + 16)).trans dk_t
theorem dX9_firstOf_0 : decode cX9_firstOf 0 = .ok (.iconst 0, 1) := dk_3 ((dQ_X9_firstOf_0 0).trans dk_j0)
theorem dX9_firstOf_1 : decode cX9_firstOf 1 = .ok (.istore_n 1, 1) := dk_60 ((dQ_X9_firstOf_0 1).trans dk_j1)
theorem dX9_firstOf_2 : decode cX9_firstOf 2 = .ok (.iload_n 1, 1) := dk_27 ((dQ_X9_firstOf_0 2).trans dk_j2)
theorem dX9_firstOf_3 : decode cX9_firstOf 3 = .ok (.bipush 30, 2) := dk_16 ((dQ_X9_firstOf_0 3).trans dk_j3) ((dQ_X9_firstOf_0 4).trans dk_j4) dk_vs1_30
theorem dX9_firstOf_5 : decode cX9_firstOf 5 = .ok (.if_icmp .ge 20, 3) := dk_162 ((dQ_X9_firstOf_0 5).trans dk_j5) ((dQ_X9_firstOf_0 6).trans dk_j6) ((dQ_X9_firstOf_0 7).trans dk_j7) dk_vs2_0_20
theorem dX9_firstOf_8 : decode cX9_firstOf 8 = .ok (.iload_n 0, 1) := dk_26 ((dQ_X9_firstOf_0 8).trans dk_j8)
theorem dX9_firstOf_9 : decode cX9_firstOf 9 = .ok (.iload_n 1, 1) := dk_27 ((dQ_X9_firstOf_0 9).trans dk_j9)
theorem dX9_firstOf_10 : decode cX9_firstOf 10 = .ok (.invokestatic 254, 3) := dk_184 ((dQ_X9_firstOf_0 10).trans dk_j10) ((dQ_X9_firstOf_0 11).trans dk_j11) ((dQ_X9_firstOf_0 12).trans dk_j12) dk_vu2_0_254
theorem dX9_firstOf_13 : decode cX9_firstOf 13 = .ok (.iconst 1, 1) := dk_4 ((dQ_X9_firstOf_0 13).trans dk_j13)
theorem dX9_firstOf_14 : decode cX9_firstOf 14 = .ok (.if_icmp .ne 5, 3) := dk_160 ((dQ_X9_firstOf_0 14).trans dk_j14) ((dQ_X9_firstOf_0 15).trans dk_j15) ((dQ_X9_firstOf_1 0).trans dk_j0) dk_vs2_0_5
theorem dX9_firstOf_17 : decode cX9_firstOf 17 = .ok (.iload_n 1, 1) := dk_27 ((dQ_X9_firstOf_1 1).trans dk_j1)
theorem dX9_firstOf_18 : decode cX9_firstOf 18 = .ok (.ireturn, 1) := dk_172 ((dQ_X9_firstOf_1 2).trans dk_j2)
theorem dX9_firstOf_19 : decode cX9_firstOf 19 = .ok (.iinc 1 1, 3) := dk_132 ((dQ_X9_firstOf_1 3).trans dk_j3) ((dQ_X9_firstOf_1 4).trans dk_j4) ((dQ_X9_firstOf_1 5).trans dk_j5) dk_vu1_1 dk_vs1_1
theorem dk_vs2_255_236 : Reader.signed 16 ((0xff : UInt8).toNat * 256 + (0xec : UInt8).toNat) = (-20 : Int) := by decide +kernel
theorem dX9_firstOf_22 : decode cX9_firstOf 22 = .ok (.goto (-20), 3) := dk_167 ((dQ_X9_firstOf_1 6).trans dk_j6) ((dQ_X9_firstOf_1 7).trans dk_j7) ((dQ_X9_firstOf_1 8).trans dk_j8) dk_vs2_255_236
theorem dX9_firstOf_25 : decode cX9_firstOf 25 = .ok (.iconst (-1), 1) := dk_2 ((dQ_X9_firstOf_1 9).trans dk_j9)
theorem dX9_firstOf_26 : decode cX9_firstOf 26 = .ok (.ireturn, 1) := dk_172 ((dQ_X9_firstOf_1 10).trans dk_j10)
def dT_X9_allSneezes_2 : List UInt8 := (0x1b : UInt8) :: (0xac : UInt8) :: []
def dT_X9_allSneezes_1 : List UInt8 := (0xb4 : UInt8) :: (0x00 : UInt8) :: (0x2b : UInt8) :: (0x1c : UInt8) :: (0x2e : UInt8) :: (0xb8 : UInt8) :: (0x01 : UInt8) :: (0x16 : UInt8) :: (0x60 : UInt8) :: (0x3c : UInt8) :: (0x84 : UInt8) :: (0x02 : UInt8) :: (0x01 : UInt8) :: (0xa7 : UInt8) :: (0xff : UInt8) :: (0xe7 : UInt8) :: dT_X9_allSneezes_2
def dT_X9_allSneezes_0 : List UInt8 := (0x03 : UInt8) :: (0x3c : UInt8) :: (0x03 : UInt8) :: (0x3d : UInt8) :: (0x1c : UInt8) :: (0x2a : UInt8) :: (0xb4 : UInt8) :: (0x00 : UInt8) :: (0x09 : UInt8) :: (0x08 : UInt8) :: (0x2e : UInt8) :: (0xa2 : UInt8) :: (0x00 : UInt8) :: (0x15 : UInt8) :: (0x1b : UInt8) :: (0x2a : UInt8) :: dT_X9_allSneezes_1
theorem dT_X9_allSneezes : cX9_allSneezes.data.toList = dT_X9_allSneezes_0 := eq_of_beq (show (cX9_allSneezes.data.toList == dT_X9_allSneezes_0) = true by decide +kernel)
theorem dQ_X9_allSneezes_0 : dQ_P cX9_allSneezes 0 dT_X9_allSneezes_0 := fun i => by rw [dT_X9_allSneezes]; rfl
theorem dQ_X9_allSneezes_1 : dQ_P cX9_allSneezes 16 dT_X9_allSneezes_1 := fun i => (dQ_X9_allSneezes_0 (i + 16)).trans dk_t
theorem dQ_X9_allSneezes_2 : dQ_P cX9_allSneezes 32 dT_X9_allSneezes_2 := fun i => (dQ_X9_allSneezes_1 (i + 16)).trans dk_t
theorem dX9_allSneezes_0 : decode cX9_allSneezes 0 = .ok (.iconst 0, 1) := dk_3 ((dQ_X9_allSneezes_0 0).trans dk_j0)
theorem dX9_allSneezes_1 : decode cX9_allSneezes 1 = .ok (.istore_n 1, 1) := dk_60 ((dQ_X9_allSneezes_0 1).trans dk_j1)
theorem dX9_allSneezes_2 : decode cX9_allSneezes 2 = .ok (.iconst 0, 1) := dk_3 ((dQ_X9_allSneezes_0 2).trans dk_j2)
theorem dX9_allSneezes_3 : decode cX9_allSneezes 3 = .ok (.istore_n 2, 1) := dk_61 ((dQ_X9_allSneezes_0 3).trans dk_j3)
theorem dX9_allSneezes_4 : decode cX9_allSneezes 4 = .ok (.iload_n 2, 1) := dk_28 ((dQ_X9_allSneezes_0 4).trans dk_j4)
theorem dX9_allSneezes_5 : decode cX9_allSneezes 5 = .ok (.aload_n 0, 1) := dk_42 ((dQ_X9_allSneezes_0 5).trans dk_j5)
theorem dX9_allSneezes_6 : decode cX9_allSneezes 6 = .ok (.getfield 9, 3) := dk_180 ((dQ_X9_allSneezes_0 6).trans dk_j6) ((dQ_X9_allSneezes_0 7).trans dk_j7) ((dQ_X9_allSneezes_0 8).trans dk_j8) dk_vu2_0_9
theorem dX9_allSneezes_9 : decode cX9_allSneezes 9 = .ok (.iconst 5, 1) := dk_8 ((dQ_X9_allSneezes_0 9).trans dk_j9)
theorem dX9_allSneezes_10 : decode cX9_allSneezes 10 = .ok (.iaload, 1) := dk_46 ((dQ_X9_allSneezes_0 10).trans dk_j10)
theorem dX9_allSneezes_11 : decode cX9_allSneezes 11 = .ok (.if_icmp .ge 21, 3) := dk_162 ((dQ_X9_allSneezes_0 11).trans dk_j11) ((dQ_X9_allSneezes_0 12).trans dk_j12) ((dQ_X9_allSneezes_0 13).trans dk_j13) dk_vs2_0_21
theorem dX9_allSneezes_14 : decode cX9_allSneezes 14 = .ok (.iload_n 1, 1) := dk_27 ((dQ_X9_allSneezes_0 14).trans dk_j14)
theorem dX9_allSneezes_15 : decode cX9_allSneezes 15 = .ok (.aload_n 0, 1) := dk_42 ((dQ_X9_allSneezes_0 15).trans dk_j15)
theorem dX9_allSneezes_16 : decode cX9_allSneezes 16 = .ok (.getfield 43, 3) := dk_180 ((dQ_X9_allSneezes_1 0).trans dk_j0) ((dQ_X9_allSneezes_1 1).trans dk_j1) ((dQ_X9_allSneezes_1 2).trans dk_j2) dk_vu2_0_43
theorem dX9_allSneezes_19 : decode cX9_allSneezes 19 = .ok (.iload_n 2, 1) := dk_28 ((dQ_X9_allSneezes_1 3).trans dk_j3)
theorem dX9_allSneezes_20 : decode cX9_allSneezes 20 = .ok (.iaload, 1) := dk_46 ((dQ_X9_allSneezes_1 4).trans dk_j4)
theorem dk_vu2_1_22 : (0x01 : UInt8).toNat * 256 + (0x16 : UInt8).toNat = (278 : Nat) := by decide +kernel
theorem dX9_allSneezes_21 : decode cX9_allSneezes 21 = .ok (.invokestatic 278, 3) := dk_184 ((dQ_X9_allSneezes_1 5).trans dk_j5) ((dQ_X9_allSneezes_1 6).trans dk_j6) ((dQ_X9_allSneezes_1 7).trans dk_j7) dk_vu2_1_22
theorem dX9_allSneezes_24 : decode cX9_allSneezes 24 = .ok (.iadd, 1) := dk_96 ((dQ_X9_allSneezes_1 8).trans dk_j8)
theorem dX9_allSneezes_25 : decode cX9_allSneezes 25 = .ok (.istore_n 1, 1) := dk_60 ((dQ_X9_allSneezes_1 9).trans dk_j9)
theorem dX9_allSneezes_26 : decode cX9_allSneezes 26 = .ok (.iinc 2 1, 3) := dk_132 ((dQ_X9_allSneezes_1 10).trans dk_j10) ((dQ_X9_allSneezes_1 11).trans dk_j11) ((dQ_X9_allSneezes_1 12).trans dk_j12) dk_vu1_2 dk_vs1_1
theorem dk_vs2_255_231 : Reader.signed 16 ((0xff : UInt8).toNat * 256 + (0xe7 : UInt8).toNat) = (-25 : Int) := by decide +kernel
theorem dX9_allSneezes_29 : decode cX9_allSneezes 29 = .ok (.goto (-25), 3) := dk_167 ((dQ_X9_allSneezes_1 13).trans dk_j13) ((dQ_X9_allSneezes_1 14).trans dk_j14) ((dQ_X9_allSneezes_1 15).trans dk_j15) dk_vs2_255_231
theorem dX9_allSneezes_32 : decode cX9_allSneezes 32 = .ok (.iload_n 1, 1) := dk_27 ((dQ_X9_allSneezes_2 0).trans dk_j0)
theorem dX9_allSneezes_33 : decode cX9_allSneezes 33 = .ok (.ireturn, 1) := dk_172 ((dQ_X9_allSneezes_2 1).trans dk_j1)
def dT_X9_beside_3 : List UInt8 := (0x03 : UInt8) :: (0x80 : UInt8) :: (0x3d : UInt8) :: (0x84 : UInt8) :: (0x03 : UInt8) :: (0x01 : UInt8) :: (0xa7 : UInt8) :: (0xff : UInt8) :: (0xde : UInt8) :: (0x1c : UInt8) :: (0xac : UInt8) :: []
def dT_X9_beside_2 : List UInt8 := (0x1b : UInt8) :: (0x04 : UInt8) :: (0x1d : UInt8) :: (0x78 : UInt8) :: (0xb6 : UInt8) :: (0x01 : UInt8) :: (0x01 : UInt8) :: (0x9e : UInt8) :: (0x00 : UInt8) :: (0x09 : UInt8) :: (0x04 : UInt8) :: (0x1d : UInt8) :: (0x78 : UInt8) :: (0xa7 : UInt8) :: (0x00 : UInt8) :: (0x04 : UInt8) :: dT_X9_beside_3
def dT_X9_beside_1 : List UInt8 := (0x03 : UInt8) :: (0x3d : UInt8) :: (0x03 : UInt8) :: (0x3e : UInt8) :: (0x1d : UInt8) :: (0x2a : UInt8) :: (0xb4 : UInt8) :: (0x00 : UInt8) :: (0x09 : UInt8) :: (0x08 : UInt8) :: (0x2e : UInt8) :: (0xa2 : UInt8) :: (0x00 : UInt8) :: (0x1e : UInt8) :: (0x1c : UInt8) :: (0x2a : UInt8) :: dT_X9_beside_2
def dT_X9_beside_0 : List UInt8 := (0x2a : UInt8) :: (0xb6 : UInt8) :: (0x01 : UInt8) :: (0x07 : UInt8) :: (0x2a : UInt8) :: (0x1b : UInt8) :: (0x85 : UInt8) :: (0xb6 : UInt8) :: (0x00 : UInt8) :: (0xe0 : UInt8) :: (0x9a : UInt8) :: (0x00 : UInt8) :: (0x06 : UInt8) :: (0x10 : UInt8) :: (0xfe : UInt8) :: (0xac : UInt8) :: dT_X9_beside_1
theorem dT_X9_beside : cX9_beside.data.toList = dT_X9_beside_0 := eq_of_beq (show (cX9_beside.data.toList == dT_X9_beside_0) = true by decide +kernel)
theorem dQ_X9_beside_0 : dQ_P cX9_beside 0 dT_X9_beside_0 := fun i => by rw [dT_X9_beside]; rfl
theorem dQ_X9_beside_1 : dQ_P cX9_beside 16 dT_X9_beside_1 := fun i => (dQ_X9_beside_0 (i + 16)).trans dk_t
theorem dQ_X9_beside_2 : dQ_P cX9_beside 32 dT_X9_beside_2 := fun i => (dQ_X9_beside_1 (i + 16)).trans dk_t
theorem dQ_X9_beside_3 : dQ_P cX9_beside 48 dT_X9_beside_3 := fun i => (dQ_X9_beside_2 (i + 16)).trans dk_t
theorem dX9_beside_0 : decode cX9_beside 0 = .ok (.aload_n 0, 1) := dk_42 ((dQ_X9_beside_0 0).trans dk_j0)
theorem dX9_beside_1 : decode cX9_beside 1 = .ok (.invokevirtual 263, 3) := dk_182 ((dQ_X9_beside_0 1).trans dk_j1) ((dQ_X9_beside_0 2).trans dk_j2) ((dQ_X9_beside_0 3).trans dk_j3) dk_vu2_1_7
theorem dX9_beside_4 : decode cX9_beside 4 = .ok (.aload_n 0, 1) := dk_42 ((dQ_X9_beside_0 4).trans dk_j4)
theorem dX9_beside_5 : decode cX9_beside 5 = .ok (.iload_n 1, 1) := dk_27 ((dQ_X9_beside_0 5).trans dk_j5)
theorem dX9_beside_6 : decode cX9_beside 6 = .ok (.i2l, 1) := dk_133 ((dQ_X9_beside_0 6).trans dk_j6)
theorem dX9_beside_7 : decode cX9_beside 7 = .ok (.invokevirtual 224, 3) := dk_182 ((dQ_X9_beside_0 7).trans dk_j7) ((dQ_X9_beside_0 8).trans dk_j8) ((dQ_X9_beside_0 9).trans dk_j9) dk_vu2_0_224
theorem dX9_beside_10 : decode cX9_beside 10 = .ok (.ifCond .ne 6, 3) := dk_154 ((dQ_X9_beside_0 10).trans dk_j10) ((dQ_X9_beside_0 11).trans dk_j11) ((dQ_X9_beside_0 12).trans dk_j12) dk_vs2_0_6
theorem dX9_beside_13 : decode cX9_beside 13 = .ok (.bipush (-2), 2) := dk_16 ((dQ_X9_beside_0 13).trans dk_j13) ((dQ_X9_beside_0 14).trans dk_j14) dk_vs1_254
theorem dX9_beside_15 : decode cX9_beside 15 = .ok (.ireturn, 1) := dk_172 ((dQ_X9_beside_0 15).trans dk_j15)
theorem dX9_beside_16 : decode cX9_beside 16 = .ok (.iconst 0, 1) := dk_3 ((dQ_X9_beside_1 0).trans dk_j0)
theorem dX9_beside_17 : decode cX9_beside 17 = .ok (.istore_n 2, 1) := dk_61 ((dQ_X9_beside_1 1).trans dk_j1)
theorem dX9_beside_18 : decode cX9_beside 18 = .ok (.iconst 0, 1) := dk_3 ((dQ_X9_beside_1 2).trans dk_j2)
theorem dX9_beside_19 : decode cX9_beside 19 = .ok (.istore_n 3, 1) := dk_62 ((dQ_X9_beside_1 3).trans dk_j3)
theorem dX9_beside_20 : decode cX9_beside 20 = .ok (.iload_n 3, 1) := dk_29 ((dQ_X9_beside_1 4).trans dk_j4)
theorem dX9_beside_21 : decode cX9_beside 21 = .ok (.aload_n 0, 1) := dk_42 ((dQ_X9_beside_1 5).trans dk_j5)
theorem dX9_beside_22 : decode cX9_beside 22 = .ok (.getfield 9, 3) := dk_180 ((dQ_X9_beside_1 6).trans dk_j6) ((dQ_X9_beside_1 7).trans dk_j7) ((dQ_X9_beside_1 8).trans dk_j8) dk_vu2_0_9
theorem dX9_beside_25 : decode cX9_beside 25 = .ok (.iconst 5, 1) := dk_8 ((dQ_X9_beside_1 9).trans dk_j9)
theorem dX9_beside_26 : decode cX9_beside 26 = .ok (.iaload, 1) := dk_46 ((dQ_X9_beside_1 10).trans dk_j10)
theorem dX9_beside_27 : decode cX9_beside 27 = .ok (.if_icmp .ge 30, 3) := dk_162 ((dQ_X9_beside_1 11).trans dk_j11) ((dQ_X9_beside_1 12).trans dk_j12) ((dQ_X9_beside_1 13).trans dk_j13) dk_vs2_0_30
theorem dX9_beside_30 : decode cX9_beside 30 = .ok (.iload_n 2, 1) := dk_28 ((dQ_X9_beside_1 14).trans dk_j14)
theorem dX9_beside_31 : decode cX9_beside 31 = .ok (.aload_n 0, 1) := dk_42 ((dQ_X9_beside_1 15).trans dk_j15)
theorem dX9_beside_32 : decode cX9_beside 32 = .ok (.iload_n 1, 1) := dk_27 ((dQ_X9_beside_2 0).trans dk_j0)
theorem dX9_beside_33 : decode cX9_beside 33 = .ok (.iconst 1, 1) := dk_4 ((dQ_X9_beside_2 1).trans dk_j1)
theorem dX9_beside_34 : decode cX9_beside 34 = .ok (.iload_n 3, 1) := dk_29 ((dQ_X9_beside_2 2).trans dk_j2)
theorem dX9_beside_35 : decode cX9_beside 35 = .ok (.ishl, 1) := dk_120 ((dQ_X9_beside_2 3).trans dk_j3)
theorem dX9_beside_36 : decode cX9_beside 36 = .ok (.invokevirtual 257, 3) := dk_182 ((dQ_X9_beside_2 4).trans dk_j4) ((dQ_X9_beside_2 5).trans dk_j5) ((dQ_X9_beside_2 6).trans dk_j6) dk_vu2_1_1
theorem dk_vs2_0_9 : Reader.signed 16 ((0x00 : UInt8).toNat * 256 + (0x09 : UInt8).toNat) = (9 : Int) := by decide +kernel
theorem dX9_beside_39 : decode cX9_beside 39 = .ok (.ifCond .le 9, 3) := dk_158 ((dQ_X9_beside_2 7).trans dk_j7) ((dQ_X9_beside_2 8).trans dk_j8) ((dQ_X9_beside_2 9).trans dk_j9) dk_vs2_0_9
theorem dX9_beside_42 : decode cX9_beside 42 = .ok (.iconst 1, 1) := dk_4 ((dQ_X9_beside_2 10).trans dk_j10)
theorem dX9_beside_43 : decode cX9_beside 43 = .ok (.iload_n 3, 1) := dk_29 ((dQ_X9_beside_2 11).trans dk_j11)
theorem dX9_beside_44 : decode cX9_beside 44 = .ok (.ishl, 1) := dk_120 ((dQ_X9_beside_2 12).trans dk_j12)
theorem dX9_beside_45 : decode cX9_beside 45 = .ok (.goto 4, 3) := dk_167 ((dQ_X9_beside_2 13).trans dk_j13) ((dQ_X9_beside_2 14).trans dk_j14) ((dQ_X9_beside_2 15).trans dk_j15) dk_vs2_0_4
theorem dX9_beside_48 : decode cX9_beside 48 = .ok (.iconst 0, 1) := dk_3 ((dQ_X9_beside_3 0).trans dk_j0)
theorem dX9_beside_49 : decode cX9_beside 49 = .ok (.ior, 1) := dk_128 ((dQ_X9_beside_3 1).trans dk_j1)
theorem dX9_beside_50 : decode cX9_beside 50 = .ok (.istore_n 2, 1) := dk_61 ((dQ_X9_beside_3 2).trans dk_j2)
theorem dX9_beside_51 : decode cX9_beside 51 = .ok (.iinc 3 1, 3) := dk_132 ((dQ_X9_beside_3 3).trans dk_j3) ((dQ_X9_beside_3 4).trans dk_j4) ((dQ_X9_beside_3 5).trans dk_j5) dk_vu1_3 dk_vs1_1
theorem dk_vs2_255_222 : Reader.signed 16 ((0xff : UInt8).toNat * 256 + (0xde : UInt8).toNat) = (-34 : Int) := by decide +kernel
theorem dX9_beside_54 : decode cX9_beside 54 = .ok (.goto (-34), 3) := dk_167 ((dQ_X9_beside_3 6).trans dk_j6) ((dQ_X9_beside_3 7).trans dk_j7) ((dQ_X9_beside_3 8).trans dk_j8) dk_vs2_255_222
theorem dX9_beside_57 : decode cX9_beside 57 = .ok (.iload_n 2, 1) := dk_28 ((dQ_X9_beside_3 9).trans dk_j9)
theorem dX9_beside_58 : decode cX9_beside 58 = .ok (.ireturn, 1) := dk_172 ((dQ_X9_beside_3 10).trans dk_j10)
def dT_X9_dust_1 : List UInt8 := (0x05 : UInt8) :: (0x10 : UInt8) :: (0xfe : UInt8) :: (0xac : UInt8) :: []
def dT_X9_dust_0 : List UInt8 := (0x2a : UInt8) :: (0x1b : UInt8) :: (0xb6 : UInt8) :: (0x01 : UInt8) :: (0x19 : UInt8) :: (0x99 : UInt8) :: (0x00 : UInt8) :: (0x0c : UInt8) :: (0x2a : UInt8) :: (0xb4 : UInt8) :: (0x00 : UInt8) :: (0x22 : UInt8) :: (0x1b : UInt8) :: (0x2e : UInt8) :: (0xa7 : UInt8) :: (0x00 : UInt8) :: dT_X9_dust_1
theorem dT_X9_dust : cX9_dust.data.toList = dT_X9_dust_0 := eq_of_beq (show (cX9_dust.data.toList == dT_X9_dust_0) = true by decide +kernel)
theorem dQ_X9_dust_0 : dQ_P cX9_dust 0 dT_X9_dust_0 := fun i => by rw [dT_X9_dust]; rfl
theorem dQ_X9_dust_1 : dQ_P cX9_dust 16 dT_X9_dust_1 := fun i => (dQ_X9_dust_0 (i + 16)).trans dk_t
theorem dX9_dust_0 : decode cX9_dust 0 = .ok (.aload_n 0, 1) := dk_42 ((dQ_X9_dust_0 0).trans dk_j0)
theorem dX9_dust_1 : decode cX9_dust 1 = .ok (.iload_n 1, 1) := dk_27 ((dQ_X9_dust_0 1).trans dk_j1)
theorem dk_vu2_1_25 : (0x01 : UInt8).toNat * 256 + (0x19 : UInt8).toNat = (281 : Nat) := by decide +kernel
theorem dX9_dust_2 : decode cX9_dust 2 = .ok (.invokevirtual 281, 3) := dk_182 ((dQ_X9_dust_0 2).trans dk_j2) ((dQ_X9_dust_0 3).trans dk_j3) ((dQ_X9_dust_0 4).trans dk_j4) dk_vu2_1_25
theorem dX9_dust_5 : decode cX9_dust 5 = .ok (.ifCond .eq 12, 3) := dk_153 ((dQ_X9_dust_0 5).trans dk_j5) ((dQ_X9_dust_0 6).trans dk_j6) ((dQ_X9_dust_0 7).trans dk_j7) dk_vs2_0_12
theorem dX9_dust_8 : decode cX9_dust 8 = .ok (.aload_n 0, 1) := dk_42 ((dQ_X9_dust_0 8).trans dk_j8)
theorem dX9_dust_9 : decode cX9_dust 9 = .ok (.getfield 34, 3) := dk_180 ((dQ_X9_dust_0 9).trans dk_j9) ((dQ_X9_dust_0 10).trans dk_j10) ((dQ_X9_dust_0 11).trans dk_j11) dk_vu2_0_34
theorem dX9_dust_12 : decode cX9_dust 12 = .ok (.iload_n 1, 1) := dk_27 ((dQ_X9_dust_0 12).trans dk_j12)
theorem dX9_dust_13 : decode cX9_dust 13 = .ok (.iaload, 1) := dk_46 ((dQ_X9_dust_0 13).trans dk_j13)
theorem dX9_dust_14 : decode cX9_dust 14 = .ok (.goto 5, 3) := dk_167 ((dQ_X9_dust_0 14).trans dk_j14) ((dQ_X9_dust_0 15).trans dk_j15) ((dQ_X9_dust_1 0).trans dk_j0) dk_vs2_0_5
theorem dX9_dust_17 : decode cX9_dust 17 = .ok (.bipush (-2), 2) := dk_16 ((dQ_X9_dust_1 1).trans dk_j1) ((dQ_X9_dust_1 2).trans dk_j2) dk_vs1_254
theorem dX9_dust_19 : decode cX9_dust 19 = .ok (.ireturn, 1) := dk_172 ((dQ_X9_dust_1 3).trans dk_j3)
def dT_X9_sneezes_1 : List UInt8 := (0x05 : UInt8) :: (0x10 : UInt8) :: (0xfe : UInt8) :: (0xac : UInt8) :: []
def dT_X9_sneezes_0 : List UInt8 := (0x2a : UInt8) :: (0x1b : UInt8) :: (0xb6 : UInt8) :: (0x01 : UInt8) :: (0x1c : UInt8) :: (0x99 : UInt8) :: (0x00 : UInt8) :: (0x0c : UInt8) :: (0x2a : UInt8) :: (0xb4 : UInt8) :: (0x00 : UInt8) :: (0x2b : UInt8) :: (0x1b : UInt8) :: (0x2e : UInt8) :: (0xa7 : UInt8) :: (0x00 : UInt8) :: dT_X9_sneezes_1
theorem dT_X9_sneezes : cX9_sneezes.data.toList = dT_X9_sneezes_0 := eq_of_beq (show (cX9_sneezes.data.toList == dT_X9_sneezes_0) = true by decide +kernel)
theorem dQ_X9_sneezes_0 : dQ_P cX9_sneezes 0 dT_X9_sneezes_0 := fun i => by rw [dT_X9_sneezes]; rfl
theorem dQ_X9_sneezes_1 : dQ_P cX9_sneezes 16 dT_X9_sneezes_1 := fun i => (dQ_X9_sneezes_0 (i + 16)).trans dk_t
theorem dX9_sneezes_0 : decode cX9_sneezes 0 = .ok (.aload_n 0, 1) := dk_42 ((dQ_X9_sneezes_0 0).trans dk_j0)
theorem dX9_sneezes_1 : decode cX9_sneezes 1 = .ok (.iload_n 1, 1) := dk_27 ((dQ_X9_sneezes_0 1).trans dk_j1)
theorem dk_vu2_1_28 : (0x01 : UInt8).toNat * 256 + (0x1c : UInt8).toNat = (284 : Nat) := by decide +kernel
theorem dX9_sneezes_2 : decode cX9_sneezes 2 = .ok (.invokevirtual 284, 3) := dk_182 ((dQ_X9_sneezes_0 2).trans dk_j2) ((dQ_X9_sneezes_0 3).trans dk_j3) ((dQ_X9_sneezes_0 4).trans dk_j4) dk_vu2_1_28
theorem dX9_sneezes_5 : decode cX9_sneezes 5 = .ok (.ifCond .eq 12, 3) := dk_153 ((dQ_X9_sneezes_0 5).trans dk_j5) ((dQ_X9_sneezes_0 6).trans dk_j6) ((dQ_X9_sneezes_0 7).trans dk_j7) dk_vs2_0_12
theorem dX9_sneezes_8 : decode cX9_sneezes 8 = .ok (.aload_n 0, 1) := dk_42 ((dQ_X9_sneezes_0 8).trans dk_j8)
theorem dX9_sneezes_9 : decode cX9_sneezes 9 = .ok (.getfield 43, 3) := dk_180 ((dQ_X9_sneezes_0 9).trans dk_j9) ((dQ_X9_sneezes_0 10).trans dk_j10) ((dQ_X9_sneezes_0 11).trans dk_j11) dk_vu2_0_43
theorem dX9_sneezes_12 : decode cX9_sneezes 12 = .ok (.iload_n 1, 1) := dk_27 ((dQ_X9_sneezes_0 12).trans dk_j12)
theorem dX9_sneezes_13 : decode cX9_sneezes 13 = .ok (.iaload, 1) := dk_46 ((dQ_X9_sneezes_0 13).trans dk_j13)
theorem dX9_sneezes_14 : decode cX9_sneezes 14 = .ok (.goto 5, 3) := dk_167 ((dQ_X9_sneezes_0 14).trans dk_j14) ((dQ_X9_sneezes_0 15).trans dk_j15) ((dQ_X9_sneezes_1 0).trans dk_j0) dk_vs2_0_5
theorem dX9_sneezes_17 : decode cX9_sneezes 17 = .ok (.bipush (-2), 2) := dk_16 ((dQ_X9_sneezes_1 1).trans dk_j1) ((dQ_X9_sneezes_1 2).trans dk_j2) dk_vs1_254
theorem dX9_sneezes_19 : decode cX9_sneezes 19 = .ok (.ireturn, 1) := dk_172 ((dQ_X9_sneezes_1 3).trans dk_j3)
def dT_X9_first_1 : List UInt8 := (0x1f : UInt8) :: (0xa7 : UInt8) :: (0x00 : UInt8) :: (0x05 : UInt8) :: (0x10 : UInt8) :: (0xfe : UInt8) :: (0xac : UInt8) :: []
def dT_X9_first_0 : List UInt8 := (0x2a : UInt8) :: (0x1b : UInt8) :: (0xb6 : UInt8) :: (0x01 : UInt8) :: (0x1c : UInt8) :: (0x99 : UInt8) :: (0x00 : UInt8) :: (0x0f : UInt8) :: (0x2a : UInt8) :: (0xb4 : UInt8) :: (0x00 : UInt8) :: (0x2b : UInt8) :: (0x1b : UInt8) :: (0x2e : UInt8) :: (0xb8 : UInt8) :: (0x01 : UInt8) :: dT_X9_first_1
theorem dT_X9_first : cX9_first.data.toList = dT_X9_first_0 := eq_of_beq (show (cX9_first.data.toList == dT_X9_first_0) = true by decide +kernel)
theorem dQ_X9_first_0 : dQ_P cX9_first 0 dT_X9_first_0 := fun i => by rw [dT_X9_first]; rfl
theorem dQ_X9_first_1 : dQ_P cX9_first 16 dT_X9_first_1 := fun i => (dQ_X9_first_0 (i + 16)).trans dk_t
theorem dX9_first_0 : decode cX9_first 0 = .ok (.aload_n 0, 1) := dk_42 ((dQ_X9_first_0 0).trans dk_j0)
theorem dX9_first_1 : decode cX9_first 1 = .ok (.iload_n 1, 1) := dk_27 ((dQ_X9_first_0 1).trans dk_j1)
theorem dX9_first_2 : decode cX9_first 2 = .ok (.invokevirtual 284, 3) := dk_182 ((dQ_X9_first_0 2).trans dk_j2) ((dQ_X9_first_0 3).trans dk_j3) ((dQ_X9_first_0 4).trans dk_j4) dk_vu2_1_28
theorem dX9_first_5 : decode cX9_first 5 = .ok (.ifCond .eq 15, 3) := dk_153 ((dQ_X9_first_0 5).trans dk_j5) ((dQ_X9_first_0 6).trans dk_j6) ((dQ_X9_first_0 7).trans dk_j7) dk_vs2_0_15
theorem dX9_first_8 : decode cX9_first 8 = .ok (.aload_n 0, 1) := dk_42 ((dQ_X9_first_0 8).trans dk_j8)
theorem dX9_first_9 : decode cX9_first 9 = .ok (.getfield 43, 3) := dk_180 ((dQ_X9_first_0 9).trans dk_j9) ((dQ_X9_first_0 10).trans dk_j10) ((dQ_X9_first_0 11).trans dk_j11) dk_vu2_0_43
theorem dX9_first_12 : decode cX9_first 12 = .ok (.iload_n 1, 1) := dk_27 ((dQ_X9_first_0 12).trans dk_j12)
theorem dX9_first_13 : decode cX9_first 13 = .ok (.iaload, 1) := dk_46 ((dQ_X9_first_0 13).trans dk_j13)
theorem dk_vu2_1_31 : (0x01 : UInt8).toNat * 256 + (0x1f : UInt8).toNat = (287 : Nat) := by decide +kernel
theorem dX9_first_14 : decode cX9_first 14 = .ok (.invokestatic 287, 3) := dk_184 ((dQ_X9_first_0 14).trans dk_j14) ((dQ_X9_first_0 15).trans dk_j15) ((dQ_X9_first_1 0).trans dk_j0) dk_vu2_1_31
theorem dX9_first_17 : decode cX9_first 17 = .ok (.goto 5, 3) := dk_167 ((dQ_X9_first_1 1).trans dk_j1) ((dQ_X9_first_1 2).trans dk_j2) ((dQ_X9_first_1 3).trans dk_j3) dk_vs2_0_5
theorem dX9_first_20 : decode cX9_first 20 = .ok (.bipush (-2), 2) := dk_16 ((dQ_X9_first_1 4).trans dk_j4) ((dQ_X9_first_1 5).trans dk_j5) dk_vs1_254
theorem dX9_first_22 : decode cX9_first 22 = .ok (.ireturn, 1) := dk_172 ((dQ_X9_first_1 6).trans dk_j6)
def dT_X9_all_1 : List UInt8 := (0xac : UInt8) :: []
def dT_X9_all_0 : List UInt8 := (0x2a : UInt8) :: (0xb6 : UInt8) :: (0x01 : UInt8) :: (0x10 : UInt8) :: (0x99 : UInt8) :: (0x00 : UInt8) :: (0x0a : UInt8) :: (0x2a : UInt8) :: (0xb6 : UInt8) :: (0x01 : UInt8) :: (0x22 : UInt8) :: (0xa7 : UInt8) :: (0x00 : UInt8) :: (0x05 : UInt8) :: (0x10 : UInt8) :: (0xfe : UInt8) :: dT_X9_all_1
theorem dT_X9_all : cX9_all.data.toList = dT_X9_all_0 := eq_of_beq (show (cX9_all.data.toList == dT_X9_all_0) = true by decide +kernel)
theorem dQ_X9_all_0 : dQ_P cX9_all 0 dT_X9_all_0 := fun i => by rw [dT_X9_all]; rfl
theorem dQ_X9_all_1 : dQ_P cX9_all 16 dT_X9_all_1 := fun i => (dQ_X9_all_0 (i + 16)).trans dk_t
theorem dX9_all_0 : decode cX9_all 0 = .ok (.aload_n 0, 1) := dk_42 ((dQ_X9_all_0 0).trans dk_j0)
theorem dX9_all_1 : decode cX9_all 1 = .ok (.invokevirtual 272, 3) := dk_182 ((dQ_X9_all_0 1).trans dk_j1) ((dQ_X9_all_0 2).trans dk_j2) ((dQ_X9_all_0 3).trans dk_j3) dk_vu2_1_16
theorem dX9_all_4 : decode cX9_all 4 = .ok (.ifCond .eq 10, 3) := dk_153 ((dQ_X9_all_0 4).trans dk_j4) ((dQ_X9_all_0 5).trans dk_j5) ((dQ_X9_all_0 6).trans dk_j6) dk_vs2_0_10
theorem dX9_all_7 : decode cX9_all 7 = .ok (.aload_n 0, 1) := dk_42 ((dQ_X9_all_0 7).trans dk_j7)
theorem dk_vu2_1_34 : (0x01 : UInt8).toNat * 256 + (0x22 : UInt8).toNat = (290 : Nat) := by decide +kernel
theorem dX9_all_8 : decode cX9_all 8 = .ok (.invokevirtual 290, 3) := dk_182 ((dQ_X9_all_0 8).trans dk_j8) ((dQ_X9_all_0 9).trans dk_j9) ((dQ_X9_all_0 10).trans dk_j10) dk_vu2_1_34
theorem dX9_all_11 : decode cX9_all 11 = .ok (.goto 5, 3) := dk_167 ((dQ_X9_all_0 11).trans dk_j11) ((dQ_X9_all_0 12).trans dk_j12) ((dQ_X9_all_0 13).trans dk_j13) dk_vs2_0_5
theorem dX9_all_14 : decode cX9_all 14 = .ok (.bipush (-2), 2) := dk_16 ((dQ_X9_all_0 14).trans dk_j14) ((dQ_X9_all_0 15).trans dk_j15) dk_vs1_254
theorem dX9_all_16 : decode cX9_all 16 = .ok (.ireturn, 1) := dk_172 ((dQ_X9_all_1 0).trans dk_j0)
def dT_X9_who_1 : List UInt8 := (0x05 : UInt8) :: (0x10 : UInt8) :: (0xfe : UInt8) :: (0xac : UInt8) :: []
def dT_X9_who_0 : List UInt8 := (0x2a : UInt8) :: (0x1b : UInt8) :: (0xb6 : UInt8) :: (0x01 : UInt8) :: (0x19 : UInt8) :: (0x99 : UInt8) :: (0x00 : UInt8) :: (0x0c : UInt8) :: (0x2a : UInt8) :: (0xb4 : UInt8) :: (0x00 : UInt8) :: (0x2e : UInt8) :: (0x1b : UInt8) :: (0x2e : UInt8) :: (0xa7 : UInt8) :: (0x00 : UInt8) :: dT_X9_who_1
theorem dT_X9_who : cX9_who.data.toList = dT_X9_who_0 := eq_of_beq (show (cX9_who.data.toList == dT_X9_who_0) = true by decide +kernel)
theorem dQ_X9_who_0 : dQ_P cX9_who 0 dT_X9_who_0 := fun i => by rw [dT_X9_who]; rfl
theorem dQ_X9_who_1 : dQ_P cX9_who 16 dT_X9_who_1 := fun i => (dQ_X9_who_0 (i + 16)).trans dk_t
theorem dX9_who_0 : decode cX9_who 0 = .ok (.aload_n 0, 1) := dk_42 ((dQ_X9_who_0 0).trans dk_j0)
theorem dX9_who_1 : decode cX9_who 1 = .ok (.iload_n 1, 1) := dk_27 ((dQ_X9_who_0 1).trans dk_j1)
theorem dX9_who_2 : decode cX9_who 2 = .ok (.invokevirtual 281, 3) := dk_182 ((dQ_X9_who_0 2).trans dk_j2) ((dQ_X9_who_0 3).trans dk_j3) ((dQ_X9_who_0 4).trans dk_j4) dk_vu2_1_25
theorem dX9_who_5 : decode cX9_who 5 = .ok (.ifCond .eq 12, 3) := dk_153 ((dQ_X9_who_0 5).trans dk_j5) ((dQ_X9_who_0 6).trans dk_j6) ((dQ_X9_who_0 7).trans dk_j7) dk_vs2_0_12
theorem dX9_who_8 : decode cX9_who 8 = .ok (.aload_n 0, 1) := dk_42 ((dQ_X9_who_0 8).trans dk_j8)
theorem dX9_who_9 : decode cX9_who 9 = .ok (.getfield 46, 3) := dk_180 ((dQ_X9_who_0 9).trans dk_j9) ((dQ_X9_who_0 10).trans dk_j10) ((dQ_X9_who_0 11).trans dk_j11) dk_vu2_0_46
theorem dX9_who_12 : decode cX9_who 12 = .ok (.iload_n 1, 1) := dk_27 ((dQ_X9_who_0 12).trans dk_j12)
theorem dX9_who_13 : decode cX9_who 13 = .ok (.iaload, 1) := dk_46 ((dQ_X9_who_0 13).trans dk_j13)
theorem dX9_who_14 : decode cX9_who 14 = .ok (.goto 5, 3) := dk_167 ((dQ_X9_who_0 14).trans dk_j14) ((dQ_X9_who_0 15).trans dk_j15) ((dQ_X9_who_1 0).trans dk_j0) dk_vs2_0_5
theorem dX9_who_17 : decode cX9_who 17 = .ok (.bipush (-2), 2) := dk_16 ((dQ_X9_who_1 1).trans dk_j1) ((dQ_X9_who_1 2).trans dk_j2) dk_vs1_254
theorem dX9_who_19 : decode cX9_who 19 = .ok (.ireturn, 1) := dk_172 ((dQ_X9_who_1 3).trans dk_j3)
def dT_X9_tickle_2 : List UInt8 := (0xfe : UInt8) :: (0xac : UInt8) :: []
def dT_X9_tickle_1 : List UInt8 := (0x11 : UInt8) :: (0x2a : UInt8) :: (0xb4 : UInt8) :: (0x00 : UInt8) :: (0x31 : UInt8) :: (0x10 : UInt8) :: (0x06 : UInt8) :: (0x1c : UInt8) :: (0x68 : UInt8) :: (0x1b : UInt8) :: (0x60 : UInt8) :: (0x2e : UInt8) :: (0xa7 : UInt8) :: (0x00 : UInt8) :: (0x05 : UInt8) :: (0x10 : UInt8) :: dT_X9_tickle_2
def dT_X9_tickle_0 : List UInt8 := (0x2a : UInt8) :: (0x1c : UInt8) :: (0xb6 : UInt8) :: (0x01 : UInt8) :: (0x19 : UInt8) :: (0x99 : UInt8) :: (0x00 : UInt8) :: (0x1a : UInt8) :: (0x2a : UInt8) :: (0x1b : UInt8) :: (0x85 : UInt8) :: (0xb6 : UInt8) :: (0x00 : UInt8) :: (0xe0 : UInt8) :: (0x99 : UInt8) :: (0x00 : UInt8) :: dT_X9_tickle_1
theorem dT_X9_tickle : cX9_tickle.data.toList = dT_X9_tickle_0 := eq_of_beq (show (cX9_tickle.data.toList == dT_X9_tickle_0) = true by decide +kernel)
theorem dQ_X9_tickle_0 : dQ_P cX9_tickle 0 dT_X9_tickle_0 := fun i => by rw [dT_X9_tickle]; rfl
theorem dQ_X9_tickle_1 : dQ_P cX9_tickle 16 dT_X9_tickle_1 := fun i => (dQ_X9_tickle_0 (i + 16)).trans dk_t
theorem dQ_X9_tickle_2 : dQ_P cX9_tickle 32 dT_X9_tickle_2 := fun i => (dQ_X9_tickle_1 (i + 16)).trans dk_t
theorem dX9_tickle_0 : decode cX9_tickle 0 = .ok (.aload_n 0, 1) := dk_42 ((dQ_X9_tickle_0 0).trans dk_j0)
theorem dX9_tickle_1 : decode cX9_tickle 1 = .ok (.iload_n 2, 1) := dk_28 ((dQ_X9_tickle_0 1).trans dk_j1)
theorem dX9_tickle_2 : decode cX9_tickle 2 = .ok (.invokevirtual 281, 3) := dk_182 ((dQ_X9_tickle_0 2).trans dk_j2) ((dQ_X9_tickle_0 3).trans dk_j3) ((dQ_X9_tickle_0 4).trans dk_j4) dk_vu2_1_25
theorem dX9_tickle_5 : decode cX9_tickle 5 = .ok (.ifCond .eq 26, 3) := dk_153 ((dQ_X9_tickle_0 5).trans dk_j5) ((dQ_X9_tickle_0 6).trans dk_j6) ((dQ_X9_tickle_0 7).trans dk_j7) dk_vs2_0_26
theorem dX9_tickle_8 : decode cX9_tickle 8 = .ok (.aload_n 0, 1) := dk_42 ((dQ_X9_tickle_0 8).trans dk_j8)
theorem dX9_tickle_9 : decode cX9_tickle 9 = .ok (.iload_n 1, 1) := dk_27 ((dQ_X9_tickle_0 9).trans dk_j9)
theorem dX9_tickle_10 : decode cX9_tickle 10 = .ok (.i2l, 1) := dk_133 ((dQ_X9_tickle_0 10).trans dk_j10)
theorem dX9_tickle_11 : decode cX9_tickle 11 = .ok (.invokevirtual 224, 3) := dk_182 ((dQ_X9_tickle_0 11).trans dk_j11) ((dQ_X9_tickle_0 12).trans dk_j12) ((dQ_X9_tickle_0 13).trans dk_j13) dk_vu2_0_224
theorem dX9_tickle_14 : decode cX9_tickle 14 = .ok (.ifCond .eq 17, 3) := dk_153 ((dQ_X9_tickle_0 14).trans dk_j14) ((dQ_X9_tickle_0 15).trans dk_j15) ((dQ_X9_tickle_1 0).trans dk_j0) dk_vs2_0_17
theorem dX9_tickle_17 : decode cX9_tickle 17 = .ok (.aload_n 0, 1) := dk_42 ((dQ_X9_tickle_1 1).trans dk_j1)
theorem dX9_tickle_18 : decode cX9_tickle 18 = .ok (.getfield 49, 3) := dk_180 ((dQ_X9_tickle_1 2).trans dk_j2) ((dQ_X9_tickle_1 3).trans dk_j3) ((dQ_X9_tickle_1 4).trans dk_j4) dk_vu2_0_49
theorem dX9_tickle_21 : decode cX9_tickle 21 = .ok (.bipush 6, 2) := dk_16 ((dQ_X9_tickle_1 5).trans dk_j5) ((dQ_X9_tickle_1 6).trans dk_j6) dk_vs1_6
theorem dX9_tickle_23 : decode cX9_tickle 23 = .ok (.iload_n 2, 1) := dk_28 ((dQ_X9_tickle_1 7).trans dk_j7)
theorem dX9_tickle_24 : decode cX9_tickle 24 = .ok (.imul, 1) := dk_104 ((dQ_X9_tickle_1 8).trans dk_j8)
theorem dX9_tickle_25 : decode cX9_tickle 25 = .ok (.iload_n 1, 1) := dk_27 ((dQ_X9_tickle_1 9).trans dk_j9)
theorem dX9_tickle_26 : decode cX9_tickle 26 = .ok (.iadd, 1) := dk_96 ((dQ_X9_tickle_1 10).trans dk_j10)
theorem dX9_tickle_27 : decode cX9_tickle 27 = .ok (.iaload, 1) := dk_46 ((dQ_X9_tickle_1 11).trans dk_j11)
theorem dX9_tickle_28 : decode cX9_tickle 28 = .ok (.goto 5, 3) := dk_167 ((dQ_X9_tickle_1 12).trans dk_j12) ((dQ_X9_tickle_1 13).trans dk_j13) ((dQ_X9_tickle_1 14).trans dk_j14) dk_vs2_0_5
theorem dX9_tickle_31 : decode cX9_tickle 31 = .ok (.bipush (-2), 2) := dk_16 ((dQ_X9_tickle_1 15).trans dk_j15) ((dQ_X9_tickle_2 0).trans dk_j0) dk_vs1_254
theorem dX9_tickle_33 : decode cX9_tickle 33 = .ok (.ireturn, 1) := dk_172 ((dQ_X9_tickle_2 1).trans dk_j1)
def dT_X9_itch_2 : List UInt8 := (0x1b : UInt8) :: (0x60 : UInt8) :: (0x2e : UInt8) :: (0xb8 : UInt8) :: (0x01 : UInt8) :: (0x25 : UInt8) :: (0x3d : UInt8) :: (0x84 : UInt8) :: (0x03 : UInt8) :: (0x01 : UInt8) :: (0xa7 : UInt8) :: (0xff : UInt8) :: (0xe5 : UInt8) :: (0x1c : UInt8) :: (0xac : UInt8) :: []
def dT_X9_itch_1 : List UInt8 := (0x2a : UInt8) :: (0xb6 : UInt8) :: (0x00 : UInt8) :: (0xf9 : UInt8) :: (0xa2 : UInt8) :: (0x00 : UInt8) :: (0x19 : UInt8) :: (0x1c : UInt8) :: (0x2a : UInt8) :: (0xb4 : UInt8) :: (0x00 : UInt8) :: (0x31 : UInt8) :: (0x10 : UInt8) :: (0x06 : UInt8) :: (0x1d : UInt8) :: (0x68 : UInt8) :: dT_X9_itch_2
def dT_X9_itch_0 : List UInt8 := (0x2a : UInt8) :: (0x1b : UInt8) :: (0xb6 : UInt8) :: (0x01 : UInt8) :: (0x1c : UInt8) :: (0x9a : UInt8) :: (0x00 : UInt8) :: (0x06 : UInt8) :: (0x10 : UInt8) :: (0xfe : UInt8) :: (0xac : UInt8) :: (0x03 : UInt8) :: (0x3d : UInt8) :: (0x03 : UInt8) :: (0x3e : UInt8) :: (0x1d : UInt8) :: dT_X9_itch_1
theorem dT_X9_itch : cX9_itch.data.toList = dT_X9_itch_0 := eq_of_beq (show (cX9_itch.data.toList == dT_X9_itch_0) = true by decide +kernel)
theorem dQ_X9_itch_0 : dQ_P cX9_itch 0 dT_X9_itch_0 := fun i => by rw [dT_X9_itch]; rfl
theorem dQ_X9_itch_1 : dQ_P cX9_itch 16 dT_X9_itch_1 := fun i => (dQ_X9_itch_0 (i + 16)).trans dk_t
theorem dQ_X9_itch_2 : dQ_P cX9_itch 32 dT_X9_itch_2 := fun i => (dQ_X9_itch_1 (i + 16)).trans dk_t
theorem dX9_itch_0 : decode cX9_itch 0 = .ok (.aload_n 0, 1) := dk_42 ((dQ_X9_itch_0 0).trans dk_j0)
theorem dX9_itch_1 : decode cX9_itch 1 = .ok (.iload_n 1, 1) := dk_27 ((dQ_X9_itch_0 1).trans dk_j1)
theorem dX9_itch_2 : decode cX9_itch 2 = .ok (.invokevirtual 284, 3) := dk_182 ((dQ_X9_itch_0 2).trans dk_j2) ((dQ_X9_itch_0 3).trans dk_j3) ((dQ_X9_itch_0 4).trans dk_j4) dk_vu2_1_28
theorem dX9_itch_5 : decode cX9_itch 5 = .ok (.ifCond .ne 6, 3) := dk_154 ((dQ_X9_itch_0 5).trans dk_j5) ((dQ_X9_itch_0 6).trans dk_j6) ((dQ_X9_itch_0 7).trans dk_j7) dk_vs2_0_6
theorem dX9_itch_8 : decode cX9_itch 8 = .ok (.bipush (-2), 2) := dk_16 ((dQ_X9_itch_0 8).trans dk_j8) ((dQ_X9_itch_0 9).trans dk_j9) dk_vs1_254
theorem dX9_itch_10 : decode cX9_itch 10 = .ok (.ireturn, 1) := dk_172 ((dQ_X9_itch_0 10).trans dk_j10)
theorem dX9_itch_11 : decode cX9_itch 11 = .ok (.iconst 0, 1) := dk_3 ((dQ_X9_itch_0 11).trans dk_j11)
theorem dX9_itch_12 : decode cX9_itch 12 = .ok (.istore_n 2, 1) := dk_61 ((dQ_X9_itch_0 12).trans dk_j12)
theorem dX9_itch_13 : decode cX9_itch 13 = .ok (.iconst 0, 1) := dk_3 ((dQ_X9_itch_0 13).trans dk_j13)
theorem dX9_itch_14 : decode cX9_itch 14 = .ok (.istore_n 3, 1) := dk_62 ((dQ_X9_itch_0 14).trans dk_j14)
theorem dX9_itch_15 : decode cX9_itch 15 = .ok (.iload_n 3, 1) := dk_29 ((dQ_X9_itch_0 15).trans dk_j15)
theorem dX9_itch_16 : decode cX9_itch 16 = .ok (.aload_n 0, 1) := dk_42 ((dQ_X9_itch_1 0).trans dk_j0)
theorem dX9_itch_17 : decode cX9_itch 17 = .ok (.invokevirtual 249, 3) := dk_182 ((dQ_X9_itch_1 1).trans dk_j1) ((dQ_X9_itch_1 2).trans dk_j2) ((dQ_X9_itch_1 3).trans dk_j3) dk_vu2_0_249
theorem dk_vs2_0_25 : Reader.signed 16 ((0x00 : UInt8).toNat * 256 + (0x19 : UInt8).toNat) = (25 : Int) := by decide +kernel
theorem dX9_itch_20 : decode cX9_itch 20 = .ok (.if_icmp .ge 25, 3) := dk_162 ((dQ_X9_itch_1 4).trans dk_j4) ((dQ_X9_itch_1 5).trans dk_j5) ((dQ_X9_itch_1 6).trans dk_j6) dk_vs2_0_25
theorem dX9_itch_23 : decode cX9_itch 23 = .ok (.iload_n 2, 1) := dk_28 ((dQ_X9_itch_1 7).trans dk_j7)
theorem dX9_itch_24 : decode cX9_itch 24 = .ok (.aload_n 0, 1) := dk_42 ((dQ_X9_itch_1 8).trans dk_j8)
theorem dX9_itch_25 : decode cX9_itch 25 = .ok (.getfield 49, 3) := dk_180 ((dQ_X9_itch_1 9).trans dk_j9) ((dQ_X9_itch_1 10).trans dk_j10) ((dQ_X9_itch_1 11).trans dk_j11) dk_vu2_0_49
theorem dX9_itch_28 : decode cX9_itch 28 = .ok (.bipush 6, 2) := dk_16 ((dQ_X9_itch_1 12).trans dk_j12) ((dQ_X9_itch_1 13).trans dk_j13) dk_vs1_6
theorem dX9_itch_30 : decode cX9_itch 30 = .ok (.iload_n 3, 1) := dk_29 ((dQ_X9_itch_1 14).trans dk_j14)
theorem dX9_itch_31 : decode cX9_itch 31 = .ok (.imul, 1) := dk_104 ((dQ_X9_itch_1 15).trans dk_j15)
theorem dX9_itch_32 : decode cX9_itch 32 = .ok (.iload_n 1, 1) := dk_27 ((dQ_X9_itch_2 0).trans dk_j0)
theorem dX9_itch_33 : decode cX9_itch 33 = .ok (.iadd, 1) := dk_96 ((dQ_X9_itch_2 1).trans dk_j1)
theorem dX9_itch_34 : decode cX9_itch 34 = .ok (.iaload, 1) := dk_46 ((dQ_X9_itch_2 2).trans dk_j2)
theorem dk_vu2_1_37 : (0x01 : UInt8).toNat * 256 + (0x25 : UInt8).toNat = (293 : Nat) := by decide +kernel
theorem dX9_itch_35 : decode cX9_itch 35 = .ok (.invokestatic 293, 3) := dk_184 ((dQ_X9_itch_2 3).trans dk_j3) ((dQ_X9_itch_2 4).trans dk_j4) ((dQ_X9_itch_2 5).trans dk_j5) dk_vu2_1_37
theorem dX9_itch_38 : decode cX9_itch 38 = .ok (.istore_n 2, 1) := dk_61 ((dQ_X9_itch_2 6).trans dk_j6)
theorem dX9_itch_39 : decode cX9_itch 39 = .ok (.iinc 3 1, 3) := dk_132 ((dQ_X9_itch_2 7).trans dk_j7) ((dQ_X9_itch_2 8).trans dk_j8) ((dQ_X9_itch_2 9).trans dk_j9) dk_vu1_3 dk_vs1_1
theorem dk_vs2_255_229 : Reader.signed 16 ((0xff : UInt8).toNat * 256 + (0xe5 : UInt8).toNat) = (-27 : Int) := by decide +kernel
theorem dX9_itch_42 : decode cX9_itch 42 = .ok (.goto (-27), 3) := dk_167 ((dQ_X9_itch_2 10).trans dk_j10) ((dQ_X9_itch_2 11).trans dk_j11) ((dQ_X9_itch_2 12).trans dk_j12) dk_vs2_255_229
theorem dX9_itch_45 : decode cX9_itch 45 = .ok (.iload_n 2, 1) := dk_28 ((dQ_X9_itch_2 13).trans dk_j13)
theorem dX9_itch_46 : decode cX9_itch 46 = .ok (.ireturn, 1) := dk_172 ((dQ_X9_itch_2 14).trans dk_j14)
def dT_X9_caught_1 : List UInt8 := (0x05 : UInt8) :: (0x10 : UInt8) :: (0xfe : UInt8) :: (0xac : UInt8) :: []
def dT_X9_caught_0 : List UInt8 := (0x2a : UInt8) :: (0x1b : UInt8) :: (0xb6 : UInt8) :: (0x01 : UInt8) :: (0x1c : UInt8) :: (0x99 : UInt8) :: (0x00 : UInt8) :: (0x0c : UInt8) :: (0x2a : UInt8) :: (0xb4 : UInt8) :: (0x00 : UInt8) :: (0x37 : UInt8) :: (0x1b : UInt8) :: (0x2e : UInt8) :: (0xa7 : UInt8) :: (0x00 : UInt8) :: dT_X9_caught_1
theorem dT_X9_caught : cX9_caught.data.toList = dT_X9_caught_0 := eq_of_beq (show (cX9_caught.data.toList == dT_X9_caught_0) = true by decide +kernel)
theorem dQ_X9_caught_0 : dQ_P cX9_caught 0 dT_X9_caught_0 := fun i => by rw [dT_X9_caught]; rfl
theorem dQ_X9_caught_1 : dQ_P cX9_caught 16 dT_X9_caught_1 := fun i => (dQ_X9_caught_0 (i + 16)).trans dk_t
theorem dX9_caught_0 : decode cX9_caught 0 = .ok (.aload_n 0, 1) := dk_42 ((dQ_X9_caught_0 0).trans dk_j0)
theorem dX9_caught_1 : decode cX9_caught 1 = .ok (.iload_n 1, 1) := dk_27 ((dQ_X9_caught_0 1).trans dk_j1)
theorem dX9_caught_2 : decode cX9_caught 2 = .ok (.invokevirtual 284, 3) := dk_182 ((dQ_X9_caught_0 2).trans dk_j2) ((dQ_X9_caught_0 3).trans dk_j3) ((dQ_X9_caught_0 4).trans dk_j4) dk_vu2_1_28
theorem dX9_caught_5 : decode cX9_caught 5 = .ok (.ifCond .eq 12, 3) := dk_153 ((dQ_X9_caught_0 5).trans dk_j5) ((dQ_X9_caught_0 6).trans dk_j6) ((dQ_X9_caught_0 7).trans dk_j7) dk_vs2_0_12
theorem dX9_caught_8 : decode cX9_caught 8 = .ok (.aload_n 0, 1) := dk_42 ((dQ_X9_caught_0 8).trans dk_j8)
theorem dX9_caught_9 : decode cX9_caught 9 = .ok (.getfield 55, 3) := dk_180 ((dQ_X9_caught_0 9).trans dk_j9) ((dQ_X9_caught_0 10).trans dk_j10) ((dQ_X9_caught_0 11).trans dk_j11) dk_vu2_0_55
theorem dX9_caught_12 : decode cX9_caught 12 = .ok (.iload_n 1, 1) := dk_27 ((dQ_X9_caught_0 12).trans dk_j12)
theorem dX9_caught_13 : decode cX9_caught 13 = .ok (.iaload, 1) := dk_46 ((dQ_X9_caught_0 13).trans dk_j13)
theorem dX9_caught_14 : decode cX9_caught 14 = .ok (.goto 5, 3) := dk_167 ((dQ_X9_caught_0 14).trans dk_j14) ((dQ_X9_caught_0 15).trans dk_j15) ((dQ_X9_caught_1 0).trans dk_j0) dk_vs2_0_5
theorem dX9_caught_17 : decode cX9_caught 17 = .ok (.bipush (-2), 2) := dk_16 ((dQ_X9_caught_1 1).trans dk_j1) ((dQ_X9_caught_1 2).trans dk_j2) dk_vs1_254
theorem dX9_caught_19 : decode cX9_caught 19 = .ok (.ireturn, 1) := dk_172 ((dQ_X9_caught_1 3).trans dk_j3)
def dT_X9_gave_5 : List UInt8 := (0x3e : UInt8) :: (0x84 : UInt8) :: (0x04 : UInt8) :: (0x01 : UInt8) :: (0xa7 : UInt8) :: (0xff : UInt8) :: (0xc6 : UInt8) :: (0x1d : UInt8) :: (0xac : UInt8) :: []
def dT_X9_gave_4 : List UInt8 := (0x78 : UInt8) :: (0xb6 : UInt8) :: (0x01 : UInt8) :: (0x01 : UInt8) :: (0x9e : UInt8) :: (0x00 : UInt8) :: (0x0a : UInt8) :: (0x04 : UInt8) :: (0x15 : UInt8) :: (0x04 : UInt8) :: (0x78 : UInt8) :: (0xa7 : UInt8) :: (0x00 : UInt8) :: (0x04 : UInt8) :: (0x03 : UInt8) :: (0x80 : UInt8) :: dT_X9_gave_5
def dT_X9_gave_3 : List UInt8 := (0x64 : UInt8) :: (0x2e : UInt8) :: (0x15 : UInt8) :: (0x04 : UInt8) :: (0xb8 : UInt8) :: (0x00 : UInt8) :: (0xfe : UInt8) :: (0x04 : UInt8) :: (0xa0 : UInt8) :: (0x00 : UInt8) :: (0x16 : UInt8) :: (0x2a : UInt8) :: (0x1b : UInt8) :: (0x04 : UInt8) :: (0x15 : UInt8) :: (0x04 : UInt8) :: dT_X9_gave_4
def dT_X9_gave_2 : List UInt8 := (0x08 : UInt8) :: (0x2e : UInt8) :: (0xa2 : UInt8) :: (0x00 : UInt8) :: (0x35 : UInt8) :: (0x1c : UInt8) :: (0x9e : UInt8) :: (0x00 : UInt8) :: (0x31 : UInt8) :: (0x1d : UInt8) :: (0x2a : UInt8) :: (0xb4 : UInt8) :: (0x00 : UInt8) :: (0x2e : UInt8) :: (0x1c : UInt8) :: (0x04 : UInt8) :: dT_X9_gave_3
def dT_X9_gave_1 : List UInt8 := (0x2e : UInt8) :: (0xb8 : UInt8) :: (0x01 : UInt8) :: (0x1f : UInt8) :: (0x3d : UInt8) :: (0x03 : UInt8) :: (0x3e : UInt8) :: (0x03 : UInt8) :: (0x36 : UInt8) :: (0x04 : UInt8) :: (0x15 : UInt8) :: (0x04 : UInt8) :: (0x2a : UInt8) :: (0xb4 : UInt8) :: (0x00 : UInt8) :: (0x09 : UInt8) :: dT_X9_gave_2
def dT_X9_gave_0 : List UInt8 := (0x2a : UInt8) :: (0x1b : UInt8) :: (0xb6 : UInt8) :: (0x01 : UInt8) :: (0x1c : UInt8) :: (0x9a : UInt8) :: (0x00 : UInt8) :: (0x06 : UInt8) :: (0x10 : UInt8) :: (0xfe : UInt8) :: (0xac : UInt8) :: (0x2a : UInt8) :: (0xb4 : UInt8) :: (0x00 : UInt8) :: (0x2b : UInt8) :: (0x1b : UInt8) :: dT_X9_gave_1
theorem dT_X9_gave : cX9_gave.data.toList = dT_X9_gave_0 := eq_of_beq (show (cX9_gave.data.toList == dT_X9_gave_0) = true by decide +kernel)
theorem dQ_X9_gave_0 : dQ_P cX9_gave 0 dT_X9_gave_0 := fun i => by rw [dT_X9_gave]; rfl
theorem dQ_X9_gave_1 : dQ_P cX9_gave 16 dT_X9_gave_1 := fun i => (dQ_X9_gave_0 (i + 16)).trans dk_t
theorem dQ_X9_gave_2 : dQ_P cX9_gave 32 dT_X9_gave_2 := fun i => (dQ_X9_gave_1 (i + 16)).trans dk_t
theorem dQ_X9_gave_3 : dQ_P cX9_gave 48 dT_X9_gave_3 := fun i => (dQ_X9_gave_2 (i + 16)).trans dk_t
theorem dQ_X9_gave_4 : dQ_P cX9_gave 64 dT_X9_gave_4 := fun i => (dQ_X9_gave_3 (i + 16)).trans dk_t
theorem dQ_X9_gave_5 : dQ_P cX9_gave 80 dT_X9_gave_5 := fun i => (dQ_X9_gave_4 (i + 16)).trans dk_t
theorem dX9_gave_0 : decode cX9_gave 0 = .ok (.aload_n 0, 1) := dk_42 ((dQ_X9_gave_0 0).trans dk_j0)
theorem dX9_gave_1 : decode cX9_gave 1 = .ok (.iload_n 1, 1) := dk_27 ((dQ_X9_gave_0 1).trans dk_j1)
theorem dX9_gave_2 : decode cX9_gave 2 = .ok (.invokevirtual 284, 3) := dk_182 ((dQ_X9_gave_0 2).trans dk_j2) ((dQ_X9_gave_0 3).trans dk_j3) ((dQ_X9_gave_0 4).trans dk_j4) dk_vu2_1_28
theorem dX9_gave_5 : decode cX9_gave 5 = .ok (.ifCond .ne 6, 3) := dk_154 ((dQ_X9_gave_0 5).trans dk_j5) ((dQ_X9_gave_0 6).trans dk_j6) ((dQ_X9_gave_0 7).trans dk_j7) dk_vs2_0_6
theorem dX9_gave_8 : decode cX9_gave 8 = .ok (.bipush (-2), 2) := dk_16 ((dQ_X9_gave_0 8).trans dk_j8) ((dQ_X9_gave_0 9).trans dk_j9) dk_vs1_254
theorem dX9_gave_10 : decode cX9_gave 10 = .ok (.ireturn, 1) := dk_172 ((dQ_X9_gave_0 10).trans dk_j10)
theorem dX9_gave_11 : decode cX9_gave 11 = .ok (.aload_n 0, 1) := dk_42 ((dQ_X9_gave_0 11).trans dk_j11)
theorem dX9_gave_12 : decode cX9_gave 12 = .ok (.getfield 43, 3) := dk_180 ((dQ_X9_gave_0 12).trans dk_j12) ((dQ_X9_gave_0 13).trans dk_j13) ((dQ_X9_gave_0 14).trans dk_j14) dk_vu2_0_43
theorem dX9_gave_15 : decode cX9_gave 15 = .ok (.iload_n 1, 1) := dk_27 ((dQ_X9_gave_0 15).trans dk_j15)
theorem dX9_gave_16 : decode cX9_gave 16 = .ok (.iaload, 1) := dk_46 ((dQ_X9_gave_1 0).trans dk_j0)
theorem dX9_gave_17 : decode cX9_gave 17 = .ok (.invokestatic 287, 3) := dk_184 ((dQ_X9_gave_1 1).trans dk_j1) ((dQ_X9_gave_1 2).trans dk_j2) ((dQ_X9_gave_1 3).trans dk_j3) dk_vu2_1_31
theorem dX9_gave_20 : decode cX9_gave 20 = .ok (.istore_n 2, 1) := dk_61 ((dQ_X9_gave_1 4).trans dk_j4)
theorem dX9_gave_21 : decode cX9_gave 21 = .ok (.iconst 0, 1) := dk_3 ((dQ_X9_gave_1 5).trans dk_j5)
theorem dX9_gave_22 : decode cX9_gave 22 = .ok (.istore_n 3, 1) := dk_62 ((dQ_X9_gave_1 6).trans dk_j6)
theorem dX9_gave_23 : decode cX9_gave 23 = .ok (.iconst 0, 1) := dk_3 ((dQ_X9_gave_1 7).trans dk_j7)
theorem dX9_gave_24 : decode cX9_gave 24 = .ok (.istore 4, 2) := dk_54 ((dQ_X9_gave_1 8).trans dk_j8) ((dQ_X9_gave_1 9).trans dk_j9) dk_vu1_4
theorem dX9_gave_26 : decode cX9_gave 26 = .ok (.iload 4, 2) := dk_21 ((dQ_X9_gave_1 10).trans dk_j10) ((dQ_X9_gave_1 11).trans dk_j11) dk_vu1_4
theorem dX9_gave_28 : decode cX9_gave 28 = .ok (.aload_n 0, 1) := dk_42 ((dQ_X9_gave_1 12).trans dk_j12)
theorem dX9_gave_29 : decode cX9_gave 29 = .ok (.getfield 9, 3) := dk_180 ((dQ_X9_gave_1 13).trans dk_j13) ((dQ_X9_gave_1 14).trans dk_j14) ((dQ_X9_gave_1 15).trans dk_j15) dk_vu2_0_9
theorem dX9_gave_32 : decode cX9_gave 32 = .ok (.iconst 5, 1) := dk_8 ((dQ_X9_gave_2 0).trans dk_j0)
theorem dX9_gave_33 : decode cX9_gave 33 = .ok (.iaload, 1) := dk_46 ((dQ_X9_gave_2 1).trans dk_j1)
theorem dk_vs2_0_53 : Reader.signed 16 ((0x00 : UInt8).toNat * 256 + (0x35 : UInt8).toNat) = (53 : Int) := by decide +kernel
theorem dX9_gave_34 : decode cX9_gave 34 = .ok (.if_icmp .ge 53, 3) := dk_162 ((dQ_X9_gave_2 2).trans dk_j2) ((dQ_X9_gave_2 3).trans dk_j3) ((dQ_X9_gave_2 4).trans dk_j4) dk_vs2_0_53
theorem dX9_gave_37 : decode cX9_gave 37 = .ok (.iload_n 2, 1) := dk_28 ((dQ_X9_gave_2 5).trans dk_j5)
theorem dk_vs2_0_49 : Reader.signed 16 ((0x00 : UInt8).toNat * 256 + (0x31 : UInt8).toNat) = (49 : Int) := by decide +kernel
theorem dX9_gave_38 : decode cX9_gave 38 = .ok (.ifCond .le 49, 3) := dk_158 ((dQ_X9_gave_2 6).trans dk_j6) ((dQ_X9_gave_2 7).trans dk_j7) ((dQ_X9_gave_2 8).trans dk_j8) dk_vs2_0_49
theorem dX9_gave_41 : decode cX9_gave 41 = .ok (.iload_n 3, 1) := dk_29 ((dQ_X9_gave_2 9).trans dk_j9)
theorem dX9_gave_42 : decode cX9_gave 42 = .ok (.aload_n 0, 1) := dk_42 ((dQ_X9_gave_2 10).trans dk_j10)
theorem dX9_gave_43 : decode cX9_gave 43 = .ok (.getfield 46, 3) := dk_180 ((dQ_X9_gave_2 11).trans dk_j11) ((dQ_X9_gave_2 12).trans dk_j12) ((dQ_X9_gave_2 13).trans dk_j13) dk_vu2_0_46
theorem dX9_gave_46 : decode cX9_gave 46 = .ok (.iload_n 2, 1) := dk_28 ((dQ_X9_gave_2 14).trans dk_j14)
theorem dX9_gave_47 : decode cX9_gave 47 = .ok (.iconst 1, 1) := dk_4 ((dQ_X9_gave_2 15).trans dk_j15)
theorem dX9_gave_48 : decode cX9_gave 48 = .ok (.isub, 1) := dk_100 ((dQ_X9_gave_3 0).trans dk_j0)
theorem dX9_gave_49 : decode cX9_gave 49 = .ok (.iaload, 1) := dk_46 ((dQ_X9_gave_3 1).trans dk_j1)
theorem dX9_gave_50 : decode cX9_gave 50 = .ok (.iload 4, 2) := dk_21 ((dQ_X9_gave_3 2).trans dk_j2) ((dQ_X9_gave_3 3).trans dk_j3) dk_vu1_4
theorem dX9_gave_52 : decode cX9_gave 52 = .ok (.invokestatic 254, 3) := dk_184 ((dQ_X9_gave_3 4).trans dk_j4) ((dQ_X9_gave_3 5).trans dk_j5) ((dQ_X9_gave_3 6).trans dk_j6) dk_vu2_0_254
theorem dX9_gave_55 : decode cX9_gave 55 = .ok (.iconst 1, 1) := dk_4 ((dQ_X9_gave_3 7).trans dk_j7)
theorem dk_vs2_0_22 : Reader.signed 16 ((0x00 : UInt8).toNat * 256 + (0x16 : UInt8).toNat) = (22 : Int) := by decide +kernel
theorem dX9_gave_56 : decode cX9_gave 56 = .ok (.if_icmp .ne 22, 3) := dk_160 ((dQ_X9_gave_3 8).trans dk_j8) ((dQ_X9_gave_3 9).trans dk_j9) ((dQ_X9_gave_3 10).trans dk_j10) dk_vs2_0_22
theorem dX9_gave_59 : decode cX9_gave 59 = .ok (.aload_n 0, 1) := dk_42 ((dQ_X9_gave_3 11).trans dk_j11)
theorem dX9_gave_60 : decode cX9_gave 60 = .ok (.iload_n 1, 1) := dk_27 ((dQ_X9_gave_3 12).trans dk_j12)
theorem dX9_gave_61 : decode cX9_gave 61 = .ok (.iconst 1, 1) := dk_4 ((dQ_X9_gave_3 13).trans dk_j13)
theorem dX9_gave_62 : decode cX9_gave 62 = .ok (.iload 4, 2) := dk_21 ((dQ_X9_gave_3 14).trans dk_j14) ((dQ_X9_gave_3 15).trans dk_j15) dk_vu1_4
theorem dX9_gave_64 : decode cX9_gave 64 = .ok (.ishl, 1) := dk_120 ((dQ_X9_gave_4 0).trans dk_j0)
theorem dX9_gave_65 : decode cX9_gave 65 = .ok (.invokevirtual 257, 3) := dk_182 ((dQ_X9_gave_4 1).trans dk_j1) ((dQ_X9_gave_4 2).trans dk_j2) ((dQ_X9_gave_4 3).trans dk_j3) dk_vu2_1_1
theorem dX9_gave_68 : decode cX9_gave 68 = .ok (.ifCond .le 10, 3) := dk_158 ((dQ_X9_gave_4 4).trans dk_j4) ((dQ_X9_gave_4 5).trans dk_j5) ((dQ_X9_gave_4 6).trans dk_j6) dk_vs2_0_10
theorem dX9_gave_71 : decode cX9_gave 71 = .ok (.iconst 1, 1) := dk_4 ((dQ_X9_gave_4 7).trans dk_j7)
theorem dX9_gave_72 : decode cX9_gave 72 = .ok (.iload 4, 2) := dk_21 ((dQ_X9_gave_4 8).trans dk_j8) ((dQ_X9_gave_4 9).trans dk_j9) dk_vu1_4
theorem dX9_gave_74 : decode cX9_gave 74 = .ok (.ishl, 1) := dk_120 ((dQ_X9_gave_4 10).trans dk_j10)
theorem dX9_gave_75 : decode cX9_gave 75 = .ok (.goto 4, 3) := dk_167 ((dQ_X9_gave_4 11).trans dk_j11) ((dQ_X9_gave_4 12).trans dk_j12) ((dQ_X9_gave_4 13).trans dk_j13) dk_vs2_0_4
theorem dX9_gave_78 : decode cX9_gave 78 = .ok (.iconst 0, 1) := dk_3 ((dQ_X9_gave_4 14).trans dk_j14)
theorem dX9_gave_79 : decode cX9_gave 79 = .ok (.ior, 1) := dk_128 ((dQ_X9_gave_4 15).trans dk_j15)
theorem dX9_gave_80 : decode cX9_gave 80 = .ok (.istore_n 3, 1) := dk_62 ((dQ_X9_gave_5 0).trans dk_j0)
theorem dX9_gave_81 : decode cX9_gave 81 = .ok (.iinc 4 1, 3) := dk_132 ((dQ_X9_gave_5 1).trans dk_j1) ((dQ_X9_gave_5 2).trans dk_j2) ((dQ_X9_gave_5 3).trans dk_j3) dk_vu1_4 dk_vs1_1
theorem dk_vs2_255_198 : Reader.signed 16 ((0xff : UInt8).toNat * 256 + (0xc6 : UInt8).toNat) = (-58 : Int) := by decide +kernel
theorem dX9_gave_84 : decode cX9_gave 84 = .ok (.goto (-58), 3) := dk_167 ((dQ_X9_gave_5 4).trans dk_j4) ((dQ_X9_gave_5 5).trans dk_j5) ((dQ_X9_gave_5 6).trans dk_j6) dk_vs2_255_198
theorem dX9_gave_87 : decode cX9_gave 87 = .ok (.iload_n 3, 1) := dk_29 ((dQ_X9_gave_5 7).trans dk_j7)
theorem dX9_gave_88 : decode cX9_gave 88 = .ok (.ireturn, 1) := dk_172 ((dQ_X9_gave_5 8).trans dk_j8)
def dT_X9_worst_3 : List UInt8 := (0xb8 : UInt8) :: (0x01 : UInt8) :: (0x16 : UInt8) :: (0x3d : UInt8) :: (0x1d : UInt8) :: (0x3c : UInt8) :: (0x84 : UInt8) :: (0x03 : UInt8) :: (0x01 : UInt8) :: (0xa7 : UInt8) :: (0xff : UInt8) :: (0xd7 : UInt8) :: (0x1b : UInt8) :: (0xac : UInt8) :: []
def dT_X9_worst_2 : List UInt8 := (0xb8 : UInt8) :: (0x01 : UInt8) :: (0x16 : UInt8) :: (0x1c : UInt8) :: (0xa3 : UInt8) :: (0x00 : UInt8) :: (0x06 : UInt8) :: (0xa7 : UInt8) :: (0x00 : UInt8) :: (0x0f : UInt8) :: (0x2a : UInt8) :: (0xb4 : UInt8) :: (0x00 : UInt8) :: (0x2b : UInt8) :: (0x1d : UInt8) :: (0x2e : UInt8) :: dT_X9_worst_3
def dT_X9_worst_1 : List UInt8 := (0x1d : UInt8) :: (0x2a : UInt8) :: (0xb4 : UInt8) :: (0x00 : UInt8) :: (0x09 : UInt8) :: (0x08 : UInt8) :: (0x2e : UInt8) :: (0xa2 : UInt8) :: (0x00 : UInt8) :: (0x25 : UInt8) :: (0x2a : UInt8) :: (0xb4 : UInt8) :: (0x00 : UInt8) :: (0x2b : UInt8) :: (0x1d : UInt8) :: (0x2e : UInt8) :: dT_X9_worst_2
def dT_X9_worst_0 : List UInt8 := (0x2a : UInt8) :: (0xb6 : UInt8) :: (0x01 : UInt8) :: (0x10 : UInt8) :: (0x9a : UInt8) :: (0x00 : UInt8) :: (0x06 : UInt8) :: (0x10 : UInt8) :: (0xfe : UInt8) :: (0xac : UInt8) :: (0x02 : UInt8) :: (0x3c : UInt8) :: (0x03 : UInt8) :: (0x3d : UInt8) :: (0x03 : UInt8) :: (0x3e : UInt8) :: dT_X9_worst_1
theorem dT_X9_worst : cX9_worst.data.toList = dT_X9_worst_0 := eq_of_beq (show (cX9_worst.data.toList == dT_X9_worst_0) = true by decide +kernel)
theorem dQ_X9_worst_0 : dQ_P cX9_worst 0 dT_X9_worst_0 := fun i => by rw [dT_X9_worst]; rfl
theorem dQ_X9_worst_1 : dQ_P cX9_worst 16 dT_X9_worst_1 := fun i => (dQ_X9_worst_0 (i + 16)).trans dk_t
theorem dQ_X9_worst_2 : dQ_P cX9_worst 32 dT_X9_worst_2 := fun i => (dQ_X9_worst_1 (i + 16)).trans dk_t
theorem dQ_X9_worst_3 : dQ_P cX9_worst 48 dT_X9_worst_3 := fun i => (dQ_X9_worst_2 (i + 16)).trans dk_t
theorem dX9_worst_0 : decode cX9_worst 0 = .ok (.aload_n 0, 1) := dk_42 ((dQ_X9_worst_0 0).trans dk_j0)
theorem dX9_worst_1 : decode cX9_worst 1 = .ok (.invokevirtual 272, 3) := dk_182 ((dQ_X9_worst_0 1).trans dk_j1) ((dQ_X9_worst_0 2).trans dk_j2) ((dQ_X9_worst_0 3).trans dk_j3) dk_vu2_1_16
theorem dX9_worst_4 : decode cX9_worst 4 = .ok (.ifCond .ne 6, 3) := dk_154 ((dQ_X9_worst_0 4).trans dk_j4) ((dQ_X9_worst_0 5).trans dk_j5) ((dQ_X9_worst_0 6).trans dk_j6) dk_vs2_0_6
theorem dX9_worst_7 : decode cX9_worst 7 = .ok (.bipush (-2), 2) := dk_16 ((dQ_X9_worst_0 7).trans dk_j7) ((dQ_X9_worst_0 8).trans dk_j8) dk_vs1_254
theorem dX9_worst_9 : decode cX9_worst 9 = .ok (.ireturn, 1) := dk_172 ((dQ_X9_worst_0 9).trans dk_j9)
theorem dX9_worst_10 : decode cX9_worst 10 = .ok (.iconst (-1), 1) := dk_2 ((dQ_X9_worst_0 10).trans dk_j10)
theorem dX9_worst_11 : decode cX9_worst 11 = .ok (.istore_n 1, 1) := dk_60 ((dQ_X9_worst_0 11).trans dk_j11)
theorem dX9_worst_12 : decode cX9_worst 12 = .ok (.iconst 0, 1) := dk_3 ((dQ_X9_worst_0 12).trans dk_j12)
theorem dX9_worst_13 : decode cX9_worst 13 = .ok (.istore_n 2, 1) := dk_61 ((dQ_X9_worst_0 13).trans dk_j13)
theorem dX9_worst_14 : decode cX9_worst 14 = .ok (.iconst 0, 1) := dk_3 ((dQ_X9_worst_0 14).trans dk_j14)
theorem dX9_worst_15 : decode cX9_worst 15 = .ok (.istore_n 3, 1) := dk_62 ((dQ_X9_worst_0 15).trans dk_j15)
theorem dX9_worst_16 : decode cX9_worst 16 = .ok (.iload_n 3, 1) := dk_29 ((dQ_X9_worst_1 0).trans dk_j0)
theorem dX9_worst_17 : decode cX9_worst 17 = .ok (.aload_n 0, 1) := dk_42 ((dQ_X9_worst_1 1).trans dk_j1)
theorem dX9_worst_18 : decode cX9_worst 18 = .ok (.getfield 9, 3) := dk_180 ((dQ_X9_worst_1 2).trans dk_j2) ((dQ_X9_worst_1 3).trans dk_j3) ((dQ_X9_worst_1 4).trans dk_j4) dk_vu2_0_9
theorem dX9_worst_21 : decode cX9_worst 21 = .ok (.iconst 5, 1) := dk_8 ((dQ_X9_worst_1 5).trans dk_j5)
theorem dX9_worst_22 : decode cX9_worst 22 = .ok (.iaload, 1) := dk_46 ((dQ_X9_worst_1 6).trans dk_j6)
theorem dk_vs2_0_37 : Reader.signed 16 ((0x00 : UInt8).toNat * 256 + (0x25 : UInt8).toNat) = (37 : Int) := by decide +kernel
theorem dX9_worst_23 : decode cX9_worst 23 = .ok (.if_icmp .ge 37, 3) := dk_162 ((dQ_X9_worst_1 7).trans dk_j7) ((dQ_X9_worst_1 8).trans dk_j8) ((dQ_X9_worst_1 9).trans dk_j9) dk_vs2_0_37
theorem dX9_worst_26 : decode cX9_worst 26 = .ok (.aload_n 0, 1) := dk_42 ((dQ_X9_worst_1 10).trans dk_j10)
theorem dX9_worst_27 : decode cX9_worst 27 = .ok (.getfield 43, 3) := dk_180 ((dQ_X9_worst_1 11).trans dk_j11) ((dQ_X9_worst_1 12).trans dk_j12) ((dQ_X9_worst_1 13).trans dk_j13) dk_vu2_0_43
theorem dX9_worst_30 : decode cX9_worst 30 = .ok (.iload_n 3, 1) := dk_29 ((dQ_X9_worst_1 14).trans dk_j14)
theorem dX9_worst_31 : decode cX9_worst 31 = .ok (.iaload, 1) := dk_46 ((dQ_X9_worst_1 15).trans dk_j15)
theorem dX9_worst_32 : decode cX9_worst 32 = .ok (.invokestatic 278, 3) := dk_184 ((dQ_X9_worst_2 0).trans dk_j0) ((dQ_X9_worst_2 1).trans dk_j1) ((dQ_X9_worst_2 2).trans dk_j2) dk_vu2_1_22
theorem dX9_worst_35 : decode cX9_worst 35 = .ok (.iload_n 2, 1) := dk_28 ((dQ_X9_worst_2 3).trans dk_j3)
theorem dX9_worst_36 : decode cX9_worst 36 = .ok (.if_icmp .gt 6, 3) := dk_163 ((dQ_X9_worst_2 4).trans dk_j4) ((dQ_X9_worst_2 5).trans dk_j5) ((dQ_X9_worst_2 6).trans dk_j6) dk_vs2_0_6
theorem dX9_worst_39 : decode cX9_worst 39 = .ok (.goto 15, 3) := dk_167 ((dQ_X9_worst_2 7).trans dk_j7) ((dQ_X9_worst_2 8).trans dk_j8) ((dQ_X9_worst_2 9).trans dk_j9) dk_vs2_0_15
theorem dX9_worst_42 : decode cX9_worst 42 = .ok (.aload_n 0, 1) := dk_42 ((dQ_X9_worst_2 10).trans dk_j10)
theorem dX9_worst_43 : decode cX9_worst 43 = .ok (.getfield 43, 3) := dk_180 ((dQ_X9_worst_2 11).trans dk_j11) ((dQ_X9_worst_2 12).trans dk_j12) ((dQ_X9_worst_2 13).trans dk_j13) dk_vu2_0_43
theorem dX9_worst_46 : decode cX9_worst 46 = .ok (.iload_n 3, 1) := dk_29 ((dQ_X9_worst_2 14).trans dk_j14)
theorem dX9_worst_47 : decode cX9_worst 47 = .ok (.iaload, 1) := dk_46 ((dQ_X9_worst_2 15).trans dk_j15)
theorem dX9_worst_48 : decode cX9_worst 48 = .ok (.invokestatic 278, 3) := dk_184 ((dQ_X9_worst_3 0).trans dk_j0) ((dQ_X9_worst_3 1).trans dk_j1) ((dQ_X9_worst_3 2).trans dk_j2) dk_vu2_1_22
theorem dX9_worst_51 : decode cX9_worst 51 = .ok (.istore_n 2, 1) := dk_61 ((dQ_X9_worst_3 3).trans dk_j3)
theorem dX9_worst_52 : decode cX9_worst 52 = .ok (.iload_n 3, 1) := dk_29 ((dQ_X9_worst_3 4).trans dk_j4)
theorem dX9_worst_53 : decode cX9_worst 53 = .ok (.istore_n 1, 1) := dk_60 ((dQ_X9_worst_3 5).trans dk_j5)
theorem dX9_worst_54 : decode cX9_worst 54 = .ok (.iinc 3 1, 3) := dk_132 ((dQ_X9_worst_3 6).trans dk_j6) ((dQ_X9_worst_3 7).trans dk_j7) ((dQ_X9_worst_3 8).trans dk_j8) dk_vu1_3 dk_vs1_1
theorem dk_vs2_255_215 : Reader.signed 16 ((0xff : UInt8).toNat * 256 + (0xd7 : UInt8).toNat) = (-41 : Int) := by decide +kernel
theorem dX9_worst_57 : decode cX9_worst 57 = .ok (.goto (-41), 3) := dk_167 ((dQ_X9_worst_3 9).trans dk_j9) ((dQ_X9_worst_3 10).trans dk_j10) ((dQ_X9_worst_3 11).trans dk_j11) dk_vs2_255_215
theorem dX9_worst_60 : decode cX9_worst 60 = .ok (.iload_n 1, 1) := dk_27 ((dQ_X9_worst_3 12).trans dk_j12)
theorem dX9_worst_61 : decode cX9_worst 61 = .ok (.ireturn, 1) := dk_172 ((dQ_X9_worst_3 13).trans dk_j13)
def dT_X9_chorus_2 : List UInt8 := (0xb8 : UInt8) :: (0x01 : UInt8) :: (0x25 : UInt8) :: (0x3c : UInt8) :: (0x84 : UInt8) :: (0x02 : UInt8) :: (0x01 : UInt8) :: (0xa7 : UInt8) :: (0xff : UInt8) :: (0xe7 : UInt8) :: (0x1b : UInt8) :: (0xac : UInt8) :: []
def dT_X9_chorus_1 : List UInt8 := (0xb6 : UInt8) :: (0x00 : UInt8) :: (0xf9 : UInt8) :: (0xa2 : UInt8) :: (0x00 : UInt8) :: (0x17 : UInt8) :: (0x1b : UInt8) :: (0x2a : UInt8) :: (0xb4 : UInt8) :: (0x00 : UInt8) :: (0x2e : UInt8) :: (0x1c : UInt8) :: (0x2e : UInt8) :: (0xb8 : UInt8) :: (0x01 : UInt8) :: (0x16 : UInt8) :: dT_X9_chorus_2
def dT_X9_chorus_0 : List UInt8 := (0x2a : UInt8) :: (0xb6 : UInt8) :: (0x01 : UInt8) :: (0x10 : UInt8) :: (0x9a : UInt8) :: (0x00 : UInt8) :: (0x06 : UInt8) :: (0x10 : UInt8) :: (0xfe : UInt8) :: (0xac : UInt8) :: (0x03 : UInt8) :: (0x3c : UInt8) :: (0x03 : UInt8) :: (0x3d : UInt8) :: (0x1c : UInt8) :: (0x2a : UInt8) :: dT_X9_chorus_1
theorem dT_X9_chorus : cX9_chorus.data.toList = dT_X9_chorus_0 := eq_of_beq (show (cX9_chorus.data.toList == dT_X9_chorus_0) = true by decide +kernel)
theorem dQ_X9_chorus_0 : dQ_P cX9_chorus 0 dT_X9_chorus_0 := fun i => by rw [dT_X9_chorus]; rfl
theorem dQ_X9_chorus_1 : dQ_P cX9_chorus 16 dT_X9_chorus_1 := fun i => (dQ_X9_chorus_0 (i + 16)).trans dk_t
theorem dQ_X9_chorus_2 : dQ_P cX9_chorus 32 dT_X9_chorus_2 := fun i => (dQ_X9_chorus_1 (i + 16)).trans dk_t
theorem dX9_chorus_0 : decode cX9_chorus 0 = .ok (.aload_n 0, 1) := dk_42 ((dQ_X9_chorus_0 0).trans dk_j0)
theorem dX9_chorus_1 : decode cX9_chorus 1 = .ok (.invokevirtual 272, 3) := dk_182 ((dQ_X9_chorus_0 1).trans dk_j1) ((dQ_X9_chorus_0 2).trans dk_j2) ((dQ_X9_chorus_0 3).trans dk_j3) dk_vu2_1_16
theorem dX9_chorus_4 : decode cX9_chorus 4 = .ok (.ifCond .ne 6, 3) := dk_154 ((dQ_X9_chorus_0 4).trans dk_j4) ((dQ_X9_chorus_0 5).trans dk_j5) ((dQ_X9_chorus_0 6).trans dk_j6) dk_vs2_0_6
theorem dX9_chorus_7 : decode cX9_chorus 7 = .ok (.bipush (-2), 2) := dk_16 ((dQ_X9_chorus_0 7).trans dk_j7) ((dQ_X9_chorus_0 8).trans dk_j8) dk_vs1_254
theorem dX9_chorus_9 : decode cX9_chorus 9 = .ok (.ireturn, 1) := dk_172 ((dQ_X9_chorus_0 9).trans dk_j9)
theorem dX9_chorus_10 : decode cX9_chorus 10 = .ok (.iconst 0, 1) := dk_3 ((dQ_X9_chorus_0 10).trans dk_j10)
theorem dX9_chorus_11 : decode cX9_chorus 11 = .ok (.istore_n 1, 1) := dk_60 ((dQ_X9_chorus_0 11).trans dk_j11)
theorem dX9_chorus_12 : decode cX9_chorus 12 = .ok (.iconst 0, 1) := dk_3 ((dQ_X9_chorus_0 12).trans dk_j12)
theorem dX9_chorus_13 : decode cX9_chorus 13 = .ok (.istore_n 2, 1) := dk_61 ((dQ_X9_chorus_0 13).trans dk_j13)
theorem dX9_chorus_14 : decode cX9_chorus 14 = .ok (.iload_n 2, 1) := dk_28 ((dQ_X9_chorus_0 14).trans dk_j14)
theorem dX9_chorus_15 : decode cX9_chorus 15 = .ok (.aload_n 0, 1) := dk_42 ((dQ_X9_chorus_0 15).trans dk_j15)
theorem dX9_chorus_16 : decode cX9_chorus 16 = .ok (.invokevirtual 249, 3) := dk_182 ((dQ_X9_chorus_1 0).trans dk_j0) ((dQ_X9_chorus_1 1).trans dk_j1) ((dQ_X9_chorus_1 2).trans dk_j2) dk_vu2_0_249
theorem dX9_chorus_19 : decode cX9_chorus 19 = .ok (.if_icmp .ge 23, 3) := dk_162 ((dQ_X9_chorus_1 3).trans dk_j3) ((dQ_X9_chorus_1 4).trans dk_j4) ((dQ_X9_chorus_1 5).trans dk_j5) dk_vs2_0_23
theorem dX9_chorus_22 : decode cX9_chorus 22 = .ok (.iload_n 1, 1) := dk_27 ((dQ_X9_chorus_1 6).trans dk_j6)
theorem dX9_chorus_23 : decode cX9_chorus 23 = .ok (.aload_n 0, 1) := dk_42 ((dQ_X9_chorus_1 7).trans dk_j7)
theorem dX9_chorus_24 : decode cX9_chorus 24 = .ok (.getfield 46, 3) := dk_180 ((dQ_X9_chorus_1 8).trans dk_j8) ((dQ_X9_chorus_1 9).trans dk_j9) ((dQ_X9_chorus_1 10).trans dk_j10) dk_vu2_0_46
theorem dX9_chorus_27 : decode cX9_chorus 27 = .ok (.iload_n 2, 1) := dk_28 ((dQ_X9_chorus_1 11).trans dk_j11)
theorem dX9_chorus_28 : decode cX9_chorus 28 = .ok (.iaload, 1) := dk_46 ((dQ_X9_chorus_1 12).trans dk_j12)
theorem dX9_chorus_29 : decode cX9_chorus 29 = .ok (.invokestatic 278, 3) := dk_184 ((dQ_X9_chorus_1 13).trans dk_j13) ((dQ_X9_chorus_1 14).trans dk_j14) ((dQ_X9_chorus_1 15).trans dk_j15) dk_vu2_1_22
theorem dX9_chorus_32 : decode cX9_chorus 32 = .ok (.invokestatic 293, 3) := dk_184 ((dQ_X9_chorus_2 0).trans dk_j0) ((dQ_X9_chorus_2 1).trans dk_j1) ((dQ_X9_chorus_2 2).trans dk_j2) dk_vu2_1_37
theorem dX9_chorus_35 : decode cX9_chorus 35 = .ok (.istore_n 1, 1) := dk_60 ((dQ_X9_chorus_2 3).trans dk_j3)
theorem dX9_chorus_36 : decode cX9_chorus 36 = .ok (.iinc 2 1, 3) := dk_132 ((dQ_X9_chorus_2 4).trans dk_j4) ((dQ_X9_chorus_2 5).trans dk_j5) ((dQ_X9_chorus_2 6).trans dk_j6) dk_vu1_2 dk_vs1_1
theorem dX9_chorus_39 : decode cX9_chorus 39 = .ok (.goto (-25), 3) := dk_167 ((dQ_X9_chorus_2 7).trans dk_j7) ((dQ_X9_chorus_2 8).trans dk_j8) ((dQ_X9_chorus_2 9).trans dk_j9) dk_vs2_255_231
theorem dX9_chorus_42 : decode cX9_chorus 42 = .ok (.iload_n 1, 1) := dk_27 ((dQ_X9_chorus_2 10).trans dk_j10)
theorem dX9_chorus_43 : decode cX9_chorus 43 = .ok (.ireturn, 1) := dk_172 ((dQ_X9_chorus_2 11).trans dk_j11)
def dT_X9_calm_3 : List UInt8 := (0x03 : UInt8) :: (0x01 : UInt8) :: (0xa7 : UInt8) :: (0xff : UInt8) :: (0xde : UInt8) :: (0x1b : UInt8) :: (0xac : UInt8) :: []
def dT_X9_calm_2 : List UInt8 := (0x09 : UInt8) :: (0x1c : UInt8) :: (0x04 : UInt8) :: (0x60 : UInt8) :: (0xa7 : UInt8) :: (0x00 : UInt8) :: (0x04 : UInt8) :: (0x03 : UInt8) :: (0x3d : UInt8) :: (0x1b : UInt8) :: (0x1c : UInt8) :: (0xb8 : UInt8) :: (0x01 : UInt8) :: (0x25 : UInt8) :: (0x3c : UInt8) :: (0x84 : UInt8) :: dT_X9_calm_3
def dT_X9_calm_1 : List UInt8 := (0x1d : UInt8) :: (0x2a : UInt8) :: (0xb6 : UInt8) :: (0x00 : UInt8) :: (0xf9 : UInt8) :: (0xa2 : UInt8) :: (0x00 : UInt8) :: (0x20 : UInt8) :: (0x2a : UInt8) :: (0xb4 : UInt8) :: (0x00 : UInt8) :: (0x2e : UInt8) :: (0x1d : UInt8) :: (0x2e : UInt8) :: (0x9a : UInt8) :: (0x00 : UInt8) :: dT_X9_calm_2
def dT_X9_calm_0 : List UInt8 := (0x2a : UInt8) :: (0xb6 : UInt8) :: (0x01 : UInt8) :: (0x10 : UInt8) :: (0x9a : UInt8) :: (0x00 : UInt8) :: (0x06 : UInt8) :: (0x10 : UInt8) :: (0xfe : UInt8) :: (0xac : UInt8) :: (0x03 : UInt8) :: (0x3c : UInt8) :: (0x03 : UInt8) :: (0x3d : UInt8) :: (0x03 : UInt8) :: (0x3e : UInt8) :: dT_X9_calm_1
theorem dT_X9_calm : cX9_calm.data.toList = dT_X9_calm_0 := eq_of_beq (show (cX9_calm.data.toList == dT_X9_calm_0) = true by decide +kernel)
theorem dQ_X9_calm_0 : dQ_P cX9_calm 0 dT_X9_calm_0 := fun i => by rw [dT_X9_calm]; rfl
theorem dQ_X9_calm_1 : dQ_P cX9_calm 16 dT_X9_calm_1 := fun i => (dQ_X9_calm_0 (i + 16)).trans dk_t
theorem dQ_X9_calm_2 : dQ_P cX9_calm 32 dT_X9_calm_2 := fun i => (dQ_X9_calm_1 (i + 16)).trans dk_t
theorem dQ_X9_calm_3 : dQ_P cX9_calm 48 dT_X9_calm_3 := fun i => (dQ_X9_calm_2 (i + 16)).trans dk_t
theorem dX9_calm_0 : decode cX9_calm 0 = .ok (.aload_n 0, 1) := dk_42 ((dQ_X9_calm_0 0).trans dk_j0)
theorem dX9_calm_1 : decode cX9_calm 1 = .ok (.invokevirtual 272, 3) := dk_182 ((dQ_X9_calm_0 1).trans dk_j1) ((dQ_X9_calm_0 2).trans dk_j2) ((dQ_X9_calm_0 3).trans dk_j3) dk_vu2_1_16
theorem dX9_calm_4 : decode cX9_calm 4 = .ok (.ifCond .ne 6, 3) := dk_154 ((dQ_X9_calm_0 4).trans dk_j4) ((dQ_X9_calm_0 5).trans dk_j5) ((dQ_X9_calm_0 6).trans dk_j6) dk_vs2_0_6
theorem dX9_calm_7 : decode cX9_calm 7 = .ok (.bipush (-2), 2) := dk_16 ((dQ_X9_calm_0 7).trans dk_j7) ((dQ_X9_calm_0 8).trans dk_j8) dk_vs1_254
theorem dX9_calm_9 : decode cX9_calm 9 = .ok (.ireturn, 1) := dk_172 ((dQ_X9_calm_0 9).trans dk_j9)
theorem dX9_calm_10 : decode cX9_calm 10 = .ok (.iconst 0, 1) := dk_3 ((dQ_X9_calm_0 10).trans dk_j10)
theorem dX9_calm_11 : decode cX9_calm 11 = .ok (.istore_n 1, 1) := dk_60 ((dQ_X9_calm_0 11).trans dk_j11)
theorem dX9_calm_12 : decode cX9_calm 12 = .ok (.iconst 0, 1) := dk_3 ((dQ_X9_calm_0 12).trans dk_j12)
theorem dX9_calm_13 : decode cX9_calm 13 = .ok (.istore_n 2, 1) := dk_61 ((dQ_X9_calm_0 13).trans dk_j13)
theorem dX9_calm_14 : decode cX9_calm 14 = .ok (.iconst 0, 1) := dk_3 ((dQ_X9_calm_0 14).trans dk_j14)
theorem dX9_calm_15 : decode cX9_calm 15 = .ok (.istore_n 3, 1) := dk_62 ((dQ_X9_calm_0 15).trans dk_j15)
theorem dX9_calm_16 : decode cX9_calm 16 = .ok (.iload_n 3, 1) := dk_29 ((dQ_X9_calm_1 0).trans dk_j0)
theorem dX9_calm_17 : decode cX9_calm 17 = .ok (.aload_n 0, 1) := dk_42 ((dQ_X9_calm_1 1).trans dk_j1)
theorem dX9_calm_18 : decode cX9_calm 18 = .ok (.invokevirtual 249, 3) := dk_182 ((dQ_X9_calm_1 2).trans dk_j2) ((dQ_X9_calm_1 3).trans dk_j3) ((dQ_X9_calm_1 4).trans dk_j4) dk_vu2_0_249
theorem dk_vs2_0_32 : Reader.signed 16 ((0x00 : UInt8).toNat * 256 + (0x20 : UInt8).toNat) = (32 : Int) := by decide +kernel
theorem dX9_calm_21 : decode cX9_calm 21 = .ok (.if_icmp .ge 32, 3) := dk_162 ((dQ_X9_calm_1 5).trans dk_j5) ((dQ_X9_calm_1 6).trans dk_j6) ((dQ_X9_calm_1 7).trans dk_j7) dk_vs2_0_32
theorem dX9_calm_24 : decode cX9_calm 24 = .ok (.aload_n 0, 1) := dk_42 ((dQ_X9_calm_1 8).trans dk_j8)
theorem dX9_calm_25 : decode cX9_calm 25 = .ok (.getfield 46, 3) := dk_180 ((dQ_X9_calm_1 9).trans dk_j9) ((dQ_X9_calm_1 10).trans dk_j10) ((dQ_X9_calm_1 11).trans dk_j11) dk_vu2_0_46
theorem dX9_calm_28 : decode cX9_calm 28 = .ok (.iload_n 3, 1) := dk_29 ((dQ_X9_calm_1 12).trans dk_j12)
theorem dX9_calm_29 : decode cX9_calm 29 = .ok (.iaload, 1) := dk_46 ((dQ_X9_calm_1 13).trans dk_j13)
theorem dX9_calm_30 : decode cX9_calm 30 = .ok (.ifCond .ne 9, 3) := dk_154 ((dQ_X9_calm_1 14).trans dk_j14) ((dQ_X9_calm_1 15).trans dk_j15) ((dQ_X9_calm_2 0).trans dk_j0) dk_vs2_0_9
theorem dX9_calm_33 : decode cX9_calm 33 = .ok (.iload_n 2, 1) := dk_28 ((dQ_X9_calm_2 1).trans dk_j1)
theorem dX9_calm_34 : decode cX9_calm 34 = .ok (.iconst 1, 1) := dk_4 ((dQ_X9_calm_2 2).trans dk_j2)
theorem dX9_calm_35 : decode cX9_calm 35 = .ok (.iadd, 1) := dk_96 ((dQ_X9_calm_2 3).trans dk_j3)
theorem dX9_calm_36 : decode cX9_calm 36 = .ok (.goto 4, 3) := dk_167 ((dQ_X9_calm_2 4).trans dk_j4) ((dQ_X9_calm_2 5).trans dk_j5) ((dQ_X9_calm_2 6).trans dk_j6) dk_vs2_0_4
theorem dX9_calm_39 : decode cX9_calm 39 = .ok (.iconst 0, 1) := dk_3 ((dQ_X9_calm_2 7).trans dk_j7)
theorem dX9_calm_40 : decode cX9_calm 40 = .ok (.istore_n 2, 1) := dk_61 ((dQ_X9_calm_2 8).trans dk_j8)
theorem dX9_calm_41 : decode cX9_calm 41 = .ok (.iload_n 1, 1) := dk_27 ((dQ_X9_calm_2 9).trans dk_j9)
theorem dX9_calm_42 : decode cX9_calm 42 = .ok (.iload_n 2, 1) := dk_28 ((dQ_X9_calm_2 10).trans dk_j10)
theorem dX9_calm_43 : decode cX9_calm 43 = .ok (.invokestatic 293, 3) := dk_184 ((dQ_X9_calm_2 11).trans dk_j11) ((dQ_X9_calm_2 12).trans dk_j12) ((dQ_X9_calm_2 13).trans dk_j13) dk_vu2_1_37
theorem dX9_calm_46 : decode cX9_calm 46 = .ok (.istore_n 1, 1) := dk_60 ((dQ_X9_calm_2 14).trans dk_j14)
theorem dX9_calm_47 : decode cX9_calm 47 = .ok (.iinc 3 1, 3) := dk_132 ((dQ_X9_calm_2 15).trans dk_j15) ((dQ_X9_calm_3 0).trans dk_j0) ((dQ_X9_calm_3 1).trans dk_j1) dk_vu1_3 dk_vs1_1
theorem dX9_calm_50 : decode cX9_calm 50 = .ok (.goto (-34), 3) := dk_167 ((dQ_X9_calm_3 2).trans dk_j2) ((dQ_X9_calm_3 3).trans dk_j3) ((dQ_X9_calm_3 4).trans dk_j4) dk_vs2_255_222
theorem dX9_calm_53 : decode cX9_calm 53 = .ok (.iload_n 1, 1) := dk_27 ((dQ_X9_calm_3 5).trans dk_j5)
theorem dX9_calm_54 : decode cX9_calm 54 = .ok (.ireturn, 1) := dk_172 ((dQ_X9_calm_3 6).trans dk_j6)
def dT_X9_firstFrom_1 : List UInt8 := (0x05 : UInt8) :: (0x1c : UInt8) :: (0xac : UInt8) :: (0x84 : UInt8) :: (0x02 : UInt8) :: (0x01 : UInt8) :: (0xa7 : UInt8) :: (0xff : UInt8) :: (0xec : UInt8) :: (0x02 : UInt8) :: (0xac : UInt8) :: []
def dT_X9_firstFrom_0 : List UInt8 := (0x1b : UInt8) :: (0x3d : UInt8) :: (0x1c : UInt8) :: (0x10 : UInt8) :: (0x1e : UInt8) :: (0xa2 : UInt8) :: (0x00 : UInt8) :: (0x14 : UInt8) :: (0x1a : UInt8) :: (0x1c : UInt8) :: (0xb8 : UInt8) :: (0x00 : UInt8) :: (0xfe : UInt8) :: (0x04 : UInt8) :: (0xa0 : UInt8) :: (0x00 : UInt8) :: dT_X9_firstFrom_1
theorem dT_X9_firstFrom : cX9_firstFrom.data.toList = dT_X9_firstFrom_0 := eq_of_beq (show (cX9_firstFrom.data.toList == dT_X9_firstFrom_0) = true by decide +kernel)
theorem dQ_X9_firstFrom_0 : dQ_P cX9_firstFrom 0 dT_X9_firstFrom_0 := fun i => by rw [dT_X9_firstFrom]; rfl
theorem dQ_X9_firstFrom_1 : dQ_P cX9_firstFrom 16 dT_X9_firstFrom_1 := fun i => (dQ_X9_firstFrom_0 (i + 16)).trans dk_t
theorem dX9_firstFrom_0 : decode cX9_firstFrom 0 = .ok (.iload_n 1, 1) := dk_27 ((dQ_X9_firstFrom_0 0).trans dk_j0)
theorem dX9_firstFrom_1 : decode cX9_firstFrom 1 = .ok (.istore_n 2, 1) := dk_61 ((dQ_X9_firstFrom_0 1).trans dk_j1)
theorem dX9_firstFrom_2 : decode cX9_firstFrom 2 = .ok (.iload_n 2, 1) := dk_28 ((dQ_X9_firstFrom_0 2).trans dk_j2)
theorem dX9_firstFrom_3 : decode cX9_firstFrom 3 = .ok (.bipush 30, 2) := dk_16 ((dQ_X9_firstFrom_0 3).trans dk_j3) ((dQ_X9_firstFrom_0 4).trans dk_j4) dk_vs1_30
theorem dX9_firstFrom_5 : decode cX9_firstFrom 5 = .ok (.if_icmp .ge 20, 3) := dk_162 ((dQ_X9_firstFrom_0 5).trans dk_j5) ((dQ_X9_firstFrom_0 6).trans dk_j6) ((dQ_X9_firstFrom_0 7).trans dk_j7) dk_vs2_0_20
theorem dX9_firstFrom_8 : decode cX9_firstFrom 8 = .ok (.iload_n 0, 1) := dk_26 ((dQ_X9_firstFrom_0 8).trans dk_j8)
theorem dX9_firstFrom_9 : decode cX9_firstFrom 9 = .ok (.iload_n 2, 1) := dk_28 ((dQ_X9_firstFrom_0 9).trans dk_j9)
theorem dX9_firstFrom_10 : decode cX9_firstFrom 10 = .ok (.invokestatic 254, 3) := dk_184 ((dQ_X9_firstFrom_0 10).trans dk_j10) ((dQ_X9_firstFrom_0 11).trans dk_j11) ((dQ_X9_firstFrom_0 12).trans dk_j12) dk_vu2_0_254
theorem dX9_firstFrom_13 : decode cX9_firstFrom 13 = .ok (.iconst 1, 1) := dk_4 ((dQ_X9_firstFrom_0 13).trans dk_j13)
theorem dX9_firstFrom_14 : decode cX9_firstFrom 14 = .ok (.if_icmp .ne 5, 3) := dk_160 ((dQ_X9_firstFrom_0 14).trans dk_j14) ((dQ_X9_firstFrom_0 15).trans dk_j15) ((dQ_X9_firstFrom_1 0).trans dk_j0) dk_vs2_0_5
theorem dX9_firstFrom_17 : decode cX9_firstFrom 17 = .ok (.iload_n 2, 1) := dk_28 ((dQ_X9_firstFrom_1 1).trans dk_j1)
theorem dX9_firstFrom_18 : decode cX9_firstFrom 18 = .ok (.ireturn, 1) := dk_172 ((dQ_X9_firstFrom_1 2).trans dk_j2)
theorem dX9_firstFrom_19 : decode cX9_firstFrom 19 = .ok (.iinc 2 1, 3) := dk_132 ((dQ_X9_firstFrom_1 3).trans dk_j3) ((dQ_X9_firstFrom_1 4).trans dk_j4) ((dQ_X9_firstFrom_1 5).trans dk_j5) dk_vu1_2 dk_vs1_1
theorem dX9_firstFrom_22 : decode cX9_firstFrom 22 = .ok (.goto (-20), 3) := dk_167 ((dQ_X9_firstFrom_1 6).trans dk_j6) ((dQ_X9_firstFrom_1 7).trans dk_j7) ((dQ_X9_firstFrom_1 8).trans dk_j8) dk_vs2_255_236
theorem dX9_firstFrom_25 : decode cX9_firstFrom 25 = .ok (.iconst (-1), 1) := dk_2 ((dQ_X9_firstFrom_1 9).trans dk_j9)
theorem dX9_firstFrom_26 : decode cX9_firstFrom 26 = .ok (.ireturn, 1) := dk_172 ((dQ_X9_firstFrom_1 10).trans dk_j10)
def dT_X9_pause_5 : List UInt8 := (0x07 : UInt8) :: (0x02 : UInt8) :: (0xa7 : UInt8) :: (0x00 : UInt8) :: (0x04 : UInt8) :: (0x1c : UInt8) :: (0xac : UInt8) :: []
def dT_X9_pause_4 : List UInt8 := (0xb8 : UInt8) :: (0x00 : UInt8) :: (0x83 : UInt8) :: (0x3d : UInt8) :: (0x84 : UInt8) :: (0x03 : UInt8) :: (0x01 : UInt8) :: (0xa7 : UInt8) :: (0xff : UInt8) :: (0xca : UInt8) :: (0x1c : UInt8) :: (0x13 : UInt8) :: (0x01 : UInt8) :: (0x28 : UInt8) :: (0xa0 : UInt8) :: (0x00 : UInt8) :: dT_X9_pause_5
def dT_X9_pause_3 : List UInt8 := (0xfe : UInt8) :: (0x04 : UInt8) :: (0xa0 : UInt8) :: (0x00 : UInt8) :: (0x12 : UInt8) :: (0x15 : UInt8) :: (0x04 : UInt8) :: (0x02 : UInt8) :: (0x9f : UInt8) :: (0x00 : UInt8) :: (0x0c : UInt8) :: (0x1c : UInt8) :: (0x15 : UInt8) :: (0x04 : UInt8) :: (0x1d : UInt8) :: (0x64 : UInt8) :: dT_X9_pause_4
def dT_X9_pause_2 : List UInt8 := (0x04 : UInt8) :: (0x60 : UInt8) :: (0xb8 : UInt8) :: (0x01 : UInt8) :: (0x29 : UInt8) :: (0x36 : UInt8) :: (0x04 : UInt8) :: (0x2a : UInt8) :: (0xb4 : UInt8) :: (0x00 : UInt8) :: (0x2b : UInt8) :: (0x1b : UInt8) :: (0x2e : UInt8) :: (0x1d : UInt8) :: (0xb8 : UInt8) :: (0x00 : UInt8) :: dT_X9_pause_3
def dT_X9_pause_1 : List UInt8 := (0x3e : UInt8) :: (0x1d : UInt8) :: (0x2a : UInt8) :: (0xb6 : UInt8) :: (0x00 : UInt8) :: (0xf9 : UInt8) :: (0xa2 : UInt8) :: (0x00 : UInt8) :: (0x34 : UInt8) :: (0x2a : UInt8) :: (0xb4 : UInt8) :: (0x00 : UInt8) :: (0x2b : UInt8) :: (0x1b : UInt8) :: (0x2e : UInt8) :: (0x1d : UInt8) :: dT_X9_pause_2
def dT_X9_pause_0 : List UInt8 := (0x2a : UInt8) :: (0x1b : UInt8) :: (0xb6 : UInt8) :: (0x01 : UInt8) :: (0x1c : UInt8) :: (0x9a : UInt8) :: (0x00 : UInt8) :: (0x06 : UInt8) :: (0x10 : UInt8) :: (0xfe : UInt8) :: (0xac : UInt8) :: (0x13 : UInt8) :: (0x01 : UInt8) :: (0x28 : UInt8) :: (0x3d : UInt8) :: (0x03 : UInt8) :: dT_X9_pause_1
theorem dT_X9_pause : cX9_pause.data.toList = dT_X9_pause_0 := eq_of_beq (show (cX9_pause.data.toList == dT_X9_pause_0) = true by decide +kernel)
theorem dQ_X9_pause_0 : dQ_P cX9_pause 0 dT_X9_pause_0 := fun i => by rw [dT_X9_pause]; rfl
theorem dQ_X9_pause_1 : dQ_P cX9_pause 16 dT_X9_pause_1 := fun i => (dQ_X9_pause_0 (i + 16)).trans dk_t
theorem dQ_X9_pause_2 : dQ_P cX9_pause 32 dT_X9_pause_2 := fun i => (dQ_X9_pause_1 (i + 16)).trans dk_t
theorem dQ_X9_pause_3 : dQ_P cX9_pause 48 dT_X9_pause_3 := fun i => (dQ_X9_pause_2 (i + 16)).trans dk_t
theorem dQ_X9_pause_4 : dQ_P cX9_pause 64 dT_X9_pause_4 := fun i => (dQ_X9_pause_3 (i + 16)).trans dk_t
theorem dQ_X9_pause_5 : dQ_P cX9_pause 80 dT_X9_pause_5 := fun i => (dQ_X9_pause_4 (i + 16)).trans dk_t
theorem dX9_pause_0 : decode cX9_pause 0 = .ok (.aload_n 0, 1) := dk_42 ((dQ_X9_pause_0 0).trans dk_j0)
theorem dX9_pause_1 : decode cX9_pause 1 = .ok (.iload_n 1, 1) := dk_27 ((dQ_X9_pause_0 1).trans dk_j1)
theorem dX9_pause_2 : decode cX9_pause 2 = .ok (.invokevirtual 284, 3) := dk_182 ((dQ_X9_pause_0 2).trans dk_j2) ((dQ_X9_pause_0 3).trans dk_j3) ((dQ_X9_pause_0 4).trans dk_j4) dk_vu2_1_28
theorem dX9_pause_5 : decode cX9_pause 5 = .ok (.ifCond .ne 6, 3) := dk_154 ((dQ_X9_pause_0 5).trans dk_j5) ((dQ_X9_pause_0 6).trans dk_j6) ((dQ_X9_pause_0 7).trans dk_j7) dk_vs2_0_6
theorem dX9_pause_8 : decode cX9_pause 8 = .ok (.bipush (-2), 2) := dk_16 ((dQ_X9_pause_0 8).trans dk_j8) ((dQ_X9_pause_0 9).trans dk_j9) dk_vs1_254
theorem dX9_pause_10 : decode cX9_pause 10 = .ok (.ireturn, 1) := dk_172 ((dQ_X9_pause_0 10).trans dk_j10)
theorem dk_vu2_1_40 : (0x01 : UInt8).toNat * 256 + (0x28 : UInt8).toNat = (296 : Nat) := by decide +kernel
theorem dX9_pause_11 : decode cX9_pause 11 = .ok (.ldc_w 296, 3) := dk_19 ((dQ_X9_pause_0 11).trans dk_j11) ((dQ_X9_pause_0 12).trans dk_j12) ((dQ_X9_pause_0 13).trans dk_j13) dk_vu2_1_40
theorem dX9_pause_14 : decode cX9_pause 14 = .ok (.istore_n 2, 1) := dk_61 ((dQ_X9_pause_0 14).trans dk_j14)
theorem dX9_pause_15 : decode cX9_pause 15 = .ok (.iconst 0, 1) := dk_3 ((dQ_X9_pause_0 15).trans dk_j15)
theorem dX9_pause_16 : decode cX9_pause 16 = .ok (.istore_n 3, 1) := dk_62 ((dQ_X9_pause_1 0).trans dk_j0)
theorem dX9_pause_17 : decode cX9_pause 17 = .ok (.iload_n 3, 1) := dk_29 ((dQ_X9_pause_1 1).trans dk_j1)
theorem dX9_pause_18 : decode cX9_pause 18 = .ok (.aload_n 0, 1) := dk_42 ((dQ_X9_pause_1 2).trans dk_j2)
theorem dX9_pause_19 : decode cX9_pause 19 = .ok (.invokevirtual 249, 3) := dk_182 ((dQ_X9_pause_1 3).trans dk_j3) ((dQ_X9_pause_1 4).trans dk_j4) ((dQ_X9_pause_1 5).trans dk_j5) dk_vu2_0_249
theorem dk_vs2_0_52 : Reader.signed 16 ((0x00 : UInt8).toNat * 256 + (0x34 : UInt8).toNat) = (52 : Int) := by decide +kernel
theorem dX9_pause_22 : decode cX9_pause 22 = .ok (.if_icmp .ge 52, 3) := dk_162 ((dQ_X9_pause_1 6).trans dk_j6) ((dQ_X9_pause_1 7).trans dk_j7) ((dQ_X9_pause_1 8).trans dk_j8) dk_vs2_0_52
theorem dX9_pause_25 : decode cX9_pause 25 = .ok (.aload_n 0, 1) := dk_42 ((dQ_X9_pause_1 9).trans dk_j9)
theorem dX9_pause_26 : decode cX9_pause 26 = .ok (.getfield 43, 3) := dk_180 ((dQ_X9_pause_1 10).trans dk_j10) ((dQ_X9_pause_1 11).trans dk_j11) ((dQ_X9_pause_1 12).trans dk_j12) dk_vu2_0_43
theorem dX9_pause_29 : decode cX9_pause 29 = .ok (.iload_n 1, 1) := dk_27 ((dQ_X9_pause_1 13).trans dk_j13)
theorem dX9_pause_30 : decode cX9_pause 30 = .ok (.iaload, 1) := dk_46 ((dQ_X9_pause_1 14).trans dk_j14)
theorem dX9_pause_31 : decode cX9_pause 31 = .ok (.iload_n 3, 1) := dk_29 ((dQ_X9_pause_1 15).trans dk_j15)
theorem dX9_pause_32 : decode cX9_pause 32 = .ok (.iconst 1, 1) := dk_4 ((dQ_X9_pause_2 0).trans dk_j0)
theorem dX9_pause_33 : decode cX9_pause 33 = .ok (.iadd, 1) := dk_96 ((dQ_X9_pause_2 1).trans dk_j1)
theorem dk_vu2_1_41 : (0x01 : UInt8).toNat * 256 + (0x29 : UInt8).toNat = (297 : Nat) := by decide +kernel
theorem dX9_pause_34 : decode cX9_pause 34 = .ok (.invokestatic 297, 3) := dk_184 ((dQ_X9_pause_2 2).trans dk_j2) ((dQ_X9_pause_2 3).trans dk_j3) ((dQ_X9_pause_2 4).trans dk_j4) dk_vu2_1_41
theorem dX9_pause_37 : decode cX9_pause 37 = .ok (.istore 4, 2) := dk_54 ((dQ_X9_pause_2 5).trans dk_j5) ((dQ_X9_pause_2 6).trans dk_j6) dk_vu1_4
theorem dX9_pause_39 : decode cX9_pause 39 = .ok (.aload_n 0, 1) := dk_42 ((dQ_X9_pause_2 7).trans dk_j7)
theorem dX9_pause_40 : decode cX9_pause 40 = .ok (.getfield 43, 3) := dk_180 ((dQ_X9_pause_2 8).trans dk_j8) ((dQ_X9_pause_2 9).trans dk_j9) ((dQ_X9_pause_2 10).trans dk_j10) dk_vu2_0_43
theorem dX9_pause_43 : decode cX9_pause 43 = .ok (.iload_n 1, 1) := dk_27 ((dQ_X9_pause_2 11).trans dk_j11)
theorem dX9_pause_44 : decode cX9_pause 44 = .ok (.iaload, 1) := dk_46 ((dQ_X9_pause_2 12).trans dk_j12)
theorem dX9_pause_45 : decode cX9_pause 45 = .ok (.iload_n 3, 1) := dk_29 ((dQ_X9_pause_2 13).trans dk_j13)
theorem dX9_pause_46 : decode cX9_pause 46 = .ok (.invokestatic 254, 3) := dk_184 ((dQ_X9_pause_2 14).trans dk_j14) ((dQ_X9_pause_2 15).trans dk_j15) ((dQ_X9_pause_3 0).trans dk_j0) dk_vu2_0_254
theorem dX9_pause_49 : decode cX9_pause 49 = .ok (.iconst 1, 1) := dk_4 ((dQ_X9_pause_3 1).trans dk_j1)
theorem dk_vs2_0_18 : Reader.signed 16 ((0x00 : UInt8).toNat * 256 + (0x12 : UInt8).toNat) = (18 : Int) := by decide +kernel
theorem dX9_pause_50 : decode cX9_pause 50 = .ok (.if_icmp .ne 18, 3) := dk_160 ((dQ_X9_pause_3 2).trans dk_j2) ((dQ_X9_pause_3 3).trans dk_j3) ((dQ_X9_pause_3 4).trans dk_j4) dk_vs2_0_18
theorem dX9_pause_53 : decode cX9_pause 53 = .ok (.iload 4, 2) := dk_21 ((dQ_X9_pause_3 5).trans dk_j5) ((dQ_X9_pause_3 6).trans dk_j6) dk_vu1_4
theorem dX9_pause_55 : decode cX9_pause 55 = .ok (.iconst (-1), 1) := dk_2 ((dQ_X9_pause_3 7).trans dk_j7)
theorem dX9_pause_56 : decode cX9_pause 56 = .ok (.if_icmp .eq 12, 3) := dk_159 ((dQ_X9_pause_3 8).trans dk_j8) ((dQ_X9_pause_3 9).trans dk_j9) ((dQ_X9_pause_3 10).trans dk_j10) dk_vs2_0_12
theorem dX9_pause_59 : decode cX9_pause 59 = .ok (.iload_n 2, 1) := dk_28 ((dQ_X9_pause_3 11).trans dk_j11)
theorem dX9_pause_60 : decode cX9_pause 60 = .ok (.iload 4, 2) := dk_21 ((dQ_X9_pause_3 12).trans dk_j12) ((dQ_X9_pause_3 13).trans dk_j13) dk_vu1_4
theorem dX9_pause_62 : decode cX9_pause 62 = .ok (.iload_n 3, 1) := dk_29 ((dQ_X9_pause_3 14).trans dk_j14)
theorem dX9_pause_63 : decode cX9_pause 63 = .ok (.isub, 1) := dk_100 ((dQ_X9_pause_3 15).trans dk_j15)
theorem dX9_pause_64 : decode cX9_pause 64 = .ok (.invokestatic 131, 3) := dk_184 ((dQ_X9_pause_4 0).trans dk_j0) ((dQ_X9_pause_4 1).trans dk_j1) ((dQ_X9_pause_4 2).trans dk_j2) dk_vu2_0_131
theorem dX9_pause_67 : decode cX9_pause 67 = .ok (.istore_n 2, 1) := dk_61 ((dQ_X9_pause_4 3).trans dk_j3)
theorem dX9_pause_68 : decode cX9_pause 68 = .ok (.iinc 3 1, 3) := dk_132 ((dQ_X9_pause_4 4).trans dk_j4) ((dQ_X9_pause_4 5).trans dk_j5) ((dQ_X9_pause_4 6).trans dk_j6) dk_vu1_3 dk_vs1_1
theorem dk_vs2_255_202 : Reader.signed 16 ((0xff : UInt8).toNat * 256 + (0xca : UInt8).toNat) = (-54 : Int) := by decide +kernel
theorem dX9_pause_71 : decode cX9_pause 71 = .ok (.goto (-54), 3) := dk_167 ((dQ_X9_pause_4 7).trans dk_j7) ((dQ_X9_pause_4 8).trans dk_j8) ((dQ_X9_pause_4 9).trans dk_j9) dk_vs2_255_202
theorem dX9_pause_74 : decode cX9_pause 74 = .ok (.iload_n 2, 1) := dk_28 ((dQ_X9_pause_4 10).trans dk_j10)
theorem dX9_pause_75 : decode cX9_pause 75 = .ok (.ldc_w 296, 3) := dk_19 ((dQ_X9_pause_4 11).trans dk_j11) ((dQ_X9_pause_4 12).trans dk_j12) ((dQ_X9_pause_4 13).trans dk_j13) dk_vu2_1_40
theorem dX9_pause_78 : decode cX9_pause 78 = .ok (.if_icmp .ne 7, 3) := dk_160 ((dQ_X9_pause_4 14).trans dk_j14) ((dQ_X9_pause_4 15).trans dk_j15) ((dQ_X9_pause_5 0).trans dk_j0) dk_vs2_0_7
theorem dX9_pause_81 : decode cX9_pause 81 = .ok (.iconst (-1), 1) := dk_2 ((dQ_X9_pause_5 1).trans dk_j1)
theorem dX9_pause_82 : decode cX9_pause 82 = .ok (.goto 4, 3) := dk_167 ((dQ_X9_pause_5 2).trans dk_j2) ((dQ_X9_pause_5 3).trans dk_j3) ((dQ_X9_pause_5 4).trans dk_j4) dk_vs2_0_4
theorem dX9_pause_85 : decode cX9_pause 85 = .ok (.iload_n 2, 1) := dk_28 ((dQ_X9_pause_5 5).trans dk_j5)
theorem dX9_pause_86 : decode cX9_pause 86 = .ok (.ireturn, 1) := dk_172 ((dQ_X9_pause_5 6).trans dk_j6)
def dT_X9_later_2 : List UInt8 := (0xac : UInt8) :: []
def dT_X9_later_1 : List UInt8 := (0x10 : UInt8) :: (0x2a : UInt8) :: (0xb4 : UInt8) :: (0x00 : UInt8) :: (0x2b : UInt8) :: (0x1b : UInt8) :: (0x2e : UInt8) :: (0x1c : UInt8) :: (0xb8 : UInt8) :: (0x01 : UInt8) :: (0x29 : UInt8) :: (0xa7 : UInt8) :: (0x00 : UInt8) :: (0x05 : UInt8) :: (0x10 : UInt8) :: (0xfe : UInt8) :: dT_X9_later_2
def dT_X9_later_0 : List UInt8 := (0x2a : UInt8) :: (0x1c : UInt8) :: (0xb6 : UInt8) :: (0x01 : UInt8) :: (0x19 : UInt8) :: (0x99 : UInt8) :: (0x00 : UInt8) :: (0x19 : UInt8) :: (0x2a : UInt8) :: (0x1b : UInt8) :: (0x85 : UInt8) :: (0xb6 : UInt8) :: (0x00 : UInt8) :: (0xe0 : UInt8) :: (0x99 : UInt8) :: (0x00 : UInt8) :: dT_X9_later_1
theorem dT_X9_later : cX9_later.data.toList = dT_X9_later_0 := eq_of_beq (show (cX9_later.data.toList == dT_X9_later_0) = true by decide +kernel)
theorem dQ_X9_later_0 : dQ_P cX9_later 0 dT_X9_later_0 := fun i => by rw [dT_X9_later]; rfl
theorem dQ_X9_later_1 : dQ_P cX9_later 16 dT_X9_later_1 := fun i => (dQ_X9_later_0 (i + 16)).trans dk_t
theorem dQ_X9_later_2 : dQ_P cX9_later 32 dT_X9_later_2 := fun i => (dQ_X9_later_1 (i + 16)).trans dk_t
theorem dX9_later_0 : decode cX9_later 0 = .ok (.aload_n 0, 1) := dk_42 ((dQ_X9_later_0 0).trans dk_j0)
theorem dX9_later_1 : decode cX9_later 1 = .ok (.iload_n 2, 1) := dk_28 ((dQ_X9_later_0 1).trans dk_j1)
theorem dX9_later_2 : decode cX9_later 2 = .ok (.invokevirtual 281, 3) := dk_182 ((dQ_X9_later_0 2).trans dk_j2) ((dQ_X9_later_0 3).trans dk_j3) ((dQ_X9_later_0 4).trans dk_j4) dk_vu2_1_25
theorem dX9_later_5 : decode cX9_later 5 = .ok (.ifCond .eq 25, 3) := dk_153 ((dQ_X9_later_0 5).trans dk_j5) ((dQ_X9_later_0 6).trans dk_j6) ((dQ_X9_later_0 7).trans dk_j7) dk_vs2_0_25
theorem dX9_later_8 : decode cX9_later 8 = .ok (.aload_n 0, 1) := dk_42 ((dQ_X9_later_0 8).trans dk_j8)
theorem dX9_later_9 : decode cX9_later 9 = .ok (.iload_n 1, 1) := dk_27 ((dQ_X9_later_0 9).trans dk_j9)
theorem dX9_later_10 : decode cX9_later 10 = .ok (.i2l, 1) := dk_133 ((dQ_X9_later_0 10).trans dk_j10)
theorem dX9_later_11 : decode cX9_later 11 = .ok (.invokevirtual 224, 3) := dk_182 ((dQ_X9_later_0 11).trans dk_j11) ((dQ_X9_later_0 12).trans dk_j12) ((dQ_X9_later_0 13).trans dk_j13) dk_vu2_0_224
theorem dX9_later_14 : decode cX9_later 14 = .ok (.ifCond .eq 16, 3) := dk_153 ((dQ_X9_later_0 14).trans dk_j14) ((dQ_X9_later_0 15).trans dk_j15) ((dQ_X9_later_1 0).trans dk_j0) dk_vs2_0_16
theorem dX9_later_17 : decode cX9_later 17 = .ok (.aload_n 0, 1) := dk_42 ((dQ_X9_later_1 1).trans dk_j1)
theorem dX9_later_18 : decode cX9_later 18 = .ok (.getfield 43, 3) := dk_180 ((dQ_X9_later_1 2).trans dk_j2) ((dQ_X9_later_1 3).trans dk_j3) ((dQ_X9_later_1 4).trans dk_j4) dk_vu2_0_43
theorem dX9_later_21 : decode cX9_later 21 = .ok (.iload_n 1, 1) := dk_27 ((dQ_X9_later_1 5).trans dk_j5)
theorem dX9_later_22 : decode cX9_later 22 = .ok (.iaload, 1) := dk_46 ((dQ_X9_later_1 6).trans dk_j6)
theorem dX9_later_23 : decode cX9_later 23 = .ok (.iload_n 2, 1) := dk_28 ((dQ_X9_later_1 7).trans dk_j7)
theorem dX9_later_24 : decode cX9_later 24 = .ok (.invokestatic 297, 3) := dk_184 ((dQ_X9_later_1 8).trans dk_j8) ((dQ_X9_later_1 9).trans dk_j9) ((dQ_X9_later_1 10).trans dk_j10) dk_vu2_1_41
theorem dX9_later_27 : decode cX9_later 27 = .ok (.goto 5, 3) := dk_167 ((dQ_X9_later_1 11).trans dk_j11) ((dQ_X9_later_1 12).trans dk_j12) ((dQ_X9_later_1 13).trans dk_j13) dk_vs2_0_5
theorem dX9_later_30 : decode cX9_later 30 = .ok (.bipush (-2), 2) := dk_16 ((dQ_X9_later_1 14).trans dk_j14) ((dQ_X9_later_1 15).trans dk_j15) dk_vs1_254
theorem dX9_later_32 : decode cX9_later 32 = .ok (.ireturn, 1) := dk_172 ((dQ_X9_later_2 0).trans dk_j0)
def dT_X9_web_5 : List UInt8 := (0xa7 : UInt8) :: (0xff : UInt8) :: (0xc6 : UInt8) :: (0x1c : UInt8) :: (0xac : UInt8) :: []
def dT_X9_web_4 : List UInt8 := (0x03 : UInt8) :: (0x80 : UInt8) :: (0x36 : UInt8) :: (0x04 : UInt8) :: (0x84 : UInt8) :: (0x05 : UInt8) :: (0x01 : UInt8) :: (0xa7 : UInt8) :: (0xff : UInt8) :: (0xdb : UInt8) :: (0x15 : UInt8) :: (0x04 : UInt8) :: (0x3d : UInt8) :: (0x84 : UInt8) :: (0x03 : UInt8) :: (0x01 : UInt8) :: dT_X9_web_5
def dT_X9_web_3 : List UInt8 := (0x15 : UInt8) :: (0x05 : UInt8) :: (0x1c : UInt8) :: (0xb6 : UInt8) :: (0x01 : UInt8) :: (0x01 : UInt8) :: (0x9e : UInt8) :: (0x00 : UInt8) :: (0x0a : UInt8) :: (0x04 : UInt8) :: (0x15 : UInt8) :: (0x05 : UInt8) :: (0x78 : UInt8) :: (0xa7 : UInt8) :: (0x00 : UInt8) :: (0x04 : UInt8) :: dT_X9_web_4
def dT_X9_web_2 : List UInt8 := (0x36 : UInt8) :: (0x05 : UInt8) :: (0x15 : UInt8) :: (0x05 : UInt8) :: (0x2a : UInt8) :: (0xb4 : UInt8) :: (0x00 : UInt8) :: (0x09 : UInt8) :: (0x08 : UInt8) :: (0x2e : UInt8) :: (0xa2 : UInt8) :: (0x00 : UInt8) :: (0x20 : UInt8) :: (0x15 : UInt8) :: (0x04 : UInt8) :: (0x2a : UInt8) :: dT_X9_web_3
def dT_X9_web_1 : List UInt8 := (0x04 : UInt8) :: (0x1b : UInt8) :: (0x78 : UInt8) :: (0x3d : UInt8) :: (0x03 : UInt8) :: (0x3e : UInt8) :: (0x1d : UInt8) :: (0x10 : UInt8) :: (0x06 : UInt8) :: (0xa2 : UInt8) :: (0x00 : UInt8) :: (0x3a : UInt8) :: (0x1c : UInt8) :: (0x36 : UInt8) :: (0x04 : UInt8) :: (0x03 : UInt8) :: dT_X9_web_2
def dT_X9_web_0 : List UInt8 := (0x2a : UInt8) :: (0xb6 : UInt8) :: (0x01 : UInt8) :: (0x07 : UInt8) :: (0x2a : UInt8) :: (0x1b : UInt8) :: (0x85 : UInt8) :: (0xb6 : UInt8) :: (0x00 : UInt8) :: (0xe0 : UInt8) :: (0x9a : UInt8) :: (0x00 : UInt8) :: (0x06 : UInt8) :: (0x10 : UInt8) :: (0xfe : UInt8) :: (0xac : UInt8) :: dT_X9_web_1
theorem dT_X9_web : cX9_web.data.toList = dT_X9_web_0 := eq_of_beq (show (cX9_web.data.toList == dT_X9_web_0) = true by decide +kernel)
theorem dQ_X9_web_0 : dQ_P cX9_web 0 dT_X9_web_0 := fun i => by rw [dT_X9_web]; rfl
theorem dQ_X9_web_1 : dQ_P cX9_web 16 dT_X9_web_1 := fun i => (dQ_X9_web_0 (i + 16)).trans dk_t
theorem dQ_X9_web_2 : dQ_P cX9_web 32 dT_X9_web_2 := fun i => (dQ_X9_web_1 (i + 16)).trans dk_t
theorem dQ_X9_web_3 : dQ_P cX9_web 48 dT_X9_web_3 := fun i => (dQ_X9_web_2 (i + 16)).trans dk_t
theorem dQ_X9_web_4 : dQ_P cX9_web 64 dT_X9_web_4 := fun i => (dQ_X9_web_3 (i + 16)).trans dk_t
theorem dQ_X9_web_5 : dQ_P cX9_web 80 dT_X9_web_5 := fun i => (dQ_X9_web_4 (i + 16)).trans dk_t
theorem dX9_web_0 : decode cX9_web 0 = .ok (.aload_n 0, 1) := dk_42 ((dQ_X9_web_0 0).trans dk_j0)
theorem dX9_web_1 : decode cX9_web 1 = .ok (.invokevirtual 263, 3) := dk_182 ((dQ_X9_web_0 1).trans dk_j1) ((dQ_X9_web_0 2).trans dk_j2) ((dQ_X9_web_0 3).trans dk_j3) dk_vu2_1_7
theorem dX9_web_4 : decode cX9_web 4 = .ok (.aload_n 0, 1) := dk_42 ((dQ_X9_web_0 4).trans dk_j4)
theorem dX9_web_5 : decode cX9_web 5 = .ok (.iload_n 1, 1) := dk_27 ((dQ_X9_web_0 5).trans dk_j5)
theorem dX9_web_6 : decode cX9_web 6 = .ok (.i2l, 1) := dk_133 ((dQ_X9_web_0 6).trans dk_j6)
theorem dX9_web_7 : decode cX9_web 7 = .ok (.invokevirtual 224, 3) := dk_182 ((dQ_X9_web_0 7).trans dk_j7) ((dQ_X9_web_0 8).trans dk_j8) ((dQ_X9_web_0 9).trans dk_j9) dk_vu2_0_224
theorem dX9_web_10 : decode cX9_web 10 = .ok (.ifCond .ne 6, 3) := dk_154 ((dQ_X9_web_0 10).trans dk_j10) ((dQ_X9_web_0 11).trans dk_j11) ((dQ_X9_web_0 12).trans dk_j12) dk_vs2_0_6
theorem dX9_web_13 : decode cX9_web 13 = .ok (.bipush (-2), 2) := dk_16 ((dQ_X9_web_0 13).trans dk_j13) ((dQ_X9_web_0 14).trans dk_j14) dk_vs1_254
theorem dX9_web_15 : decode cX9_web 15 = .ok (.ireturn, 1) := dk_172 ((dQ_X9_web_0 15).trans dk_j15)
theorem dX9_web_16 : decode cX9_web 16 = .ok (.iconst 1, 1) := dk_4 ((dQ_X9_web_1 0).trans dk_j0)
theorem dX9_web_17 : decode cX9_web 17 = .ok (.iload_n 1, 1) := dk_27 ((dQ_X9_web_1 1).trans dk_j1)
theorem dX9_web_18 : decode cX9_web 18 = .ok (.ishl, 1) := dk_120 ((dQ_X9_web_1 2).trans dk_j2)
theorem dX9_web_19 : decode cX9_web 19 = .ok (.istore_n 2, 1) := dk_61 ((dQ_X9_web_1 3).trans dk_j3)
theorem dX9_web_20 : decode cX9_web 20 = .ok (.iconst 0, 1) := dk_3 ((dQ_X9_web_1 4).trans dk_j4)
theorem dX9_web_21 : decode cX9_web 21 = .ok (.istore_n 3, 1) := dk_62 ((dQ_X9_web_1 5).trans dk_j5)
theorem dX9_web_22 : decode cX9_web 22 = .ok (.iload_n 3, 1) := dk_29 ((dQ_X9_web_1 6).trans dk_j6)
theorem dX9_web_23 : decode cX9_web 23 = .ok (.bipush 6, 2) := dk_16 ((dQ_X9_web_1 7).trans dk_j7) ((dQ_X9_web_1 8).trans dk_j8) dk_vs1_6
theorem dX9_web_25 : decode cX9_web 25 = .ok (.if_icmp .ge 58, 3) := dk_162 ((dQ_X9_web_1 9).trans dk_j9) ((dQ_X9_web_1 10).trans dk_j10) ((dQ_X9_web_1 11).trans dk_j11) dk_vs2_0_58
theorem dX9_web_28 : decode cX9_web 28 = .ok (.iload_n 2, 1) := dk_28 ((dQ_X9_web_1 12).trans dk_j12)
theorem dX9_web_29 : decode cX9_web 29 = .ok (.istore 4, 2) := dk_54 ((dQ_X9_web_1 13).trans dk_j13) ((dQ_X9_web_1 14).trans dk_j14) dk_vu1_4
theorem dX9_web_31 : decode cX9_web 31 = .ok (.iconst 0, 1) := dk_3 ((dQ_X9_web_1 15).trans dk_j15)
theorem dX9_web_32 : decode cX9_web 32 = .ok (.istore 5, 2) := dk_54 ((dQ_X9_web_2 0).trans dk_j0) ((dQ_X9_web_2 1).trans dk_j1) dk_vu1_5
theorem dX9_web_34 : decode cX9_web 34 = .ok (.iload 5, 2) := dk_21 ((dQ_X9_web_2 2).trans dk_j2) ((dQ_X9_web_2 3).trans dk_j3) dk_vu1_5
theorem dX9_web_36 : decode cX9_web 36 = .ok (.aload_n 0, 1) := dk_42 ((dQ_X9_web_2 4).trans dk_j4)
theorem dX9_web_37 : decode cX9_web 37 = .ok (.getfield 9, 3) := dk_180 ((dQ_X9_web_2 5).trans dk_j5) ((dQ_X9_web_2 6).trans dk_j6) ((dQ_X9_web_2 7).trans dk_j7) dk_vu2_0_9
theorem dX9_web_40 : decode cX9_web 40 = .ok (.iconst 5, 1) := dk_8 ((dQ_X9_web_2 8).trans dk_j8)
theorem dX9_web_41 : decode cX9_web 41 = .ok (.iaload, 1) := dk_46 ((dQ_X9_web_2 9).trans dk_j9)
theorem dX9_web_42 : decode cX9_web 42 = .ok (.if_icmp .ge 32, 3) := dk_162 ((dQ_X9_web_2 10).trans dk_j10) ((dQ_X9_web_2 11).trans dk_j11) ((dQ_X9_web_2 12).trans dk_j12) dk_vs2_0_32
theorem dX9_web_45 : decode cX9_web 45 = .ok (.iload 4, 2) := dk_21 ((dQ_X9_web_2 13).trans dk_j13) ((dQ_X9_web_2 14).trans dk_j14) dk_vu1_4
theorem dX9_web_47 : decode cX9_web 47 = .ok (.aload_n 0, 1) := dk_42 ((dQ_X9_web_2 15).trans dk_j15)
theorem dX9_web_48 : decode cX9_web 48 = .ok (.iload 5, 2) := dk_21 ((dQ_X9_web_3 0).trans dk_j0) ((dQ_X9_web_3 1).trans dk_j1) dk_vu1_5
theorem dX9_web_50 : decode cX9_web 50 = .ok (.iload_n 2, 1) := dk_28 ((dQ_X9_web_3 2).trans dk_j2)
theorem dX9_web_51 : decode cX9_web 51 = .ok (.invokevirtual 257, 3) := dk_182 ((dQ_X9_web_3 3).trans dk_j3) ((dQ_X9_web_3 4).trans dk_j4) ((dQ_X9_web_3 5).trans dk_j5) dk_vu2_1_1
theorem dX9_web_54 : decode cX9_web 54 = .ok (.ifCond .le 10, 3) := dk_158 ((dQ_X9_web_3 6).trans dk_j6) ((dQ_X9_web_3 7).trans dk_j7) ((dQ_X9_web_3 8).trans dk_j8) dk_vs2_0_10
theorem dX9_web_57 : decode cX9_web 57 = .ok (.iconst 1, 1) := dk_4 ((dQ_X9_web_3 9).trans dk_j9)
theorem dX9_web_58 : decode cX9_web 58 = .ok (.iload 5, 2) := dk_21 ((dQ_X9_web_3 10).trans dk_j10) ((dQ_X9_web_3 11).trans dk_j11) dk_vu1_5
theorem dX9_web_60 : decode cX9_web 60 = .ok (.ishl, 1) := dk_120 ((dQ_X9_web_3 12).trans dk_j12)
theorem dX9_web_61 : decode cX9_web 61 = .ok (.goto 4, 3) := dk_167 ((dQ_X9_web_3 13).trans dk_j13) ((dQ_X9_web_3 14).trans dk_j14) ((dQ_X9_web_3 15).trans dk_j15) dk_vs2_0_4
theorem dX9_web_64 : decode cX9_web 64 = .ok (.iconst 0, 1) := dk_3 ((dQ_X9_web_4 0).trans dk_j0)
theorem dX9_web_65 : decode cX9_web 65 = .ok (.ior, 1) := dk_128 ((dQ_X9_web_4 1).trans dk_j1)
theorem dX9_web_66 : decode cX9_web 66 = .ok (.istore 4, 2) := dk_54 ((dQ_X9_web_4 2).trans dk_j2) ((dQ_X9_web_4 3).trans dk_j3) dk_vu1_4
theorem dX9_web_68 : decode cX9_web 68 = .ok (.iinc 5 1, 3) := dk_132 ((dQ_X9_web_4 4).trans dk_j4) ((dQ_X9_web_4 5).trans dk_j5) ((dQ_X9_web_4 6).trans dk_j6) dk_vu1_5 dk_vs1_1
theorem dk_vs2_255_219 : Reader.signed 16 ((0xff : UInt8).toNat * 256 + (0xdb : UInt8).toNat) = (-37 : Int) := by decide +kernel
theorem dX9_web_71 : decode cX9_web 71 = .ok (.goto (-37), 3) := dk_167 ((dQ_X9_web_4 7).trans dk_j7) ((dQ_X9_web_4 8).trans dk_j8) ((dQ_X9_web_4 9).trans dk_j9) dk_vs2_255_219
theorem dX9_web_74 : decode cX9_web 74 = .ok (.iload 4, 2) := dk_21 ((dQ_X9_web_4 10).trans dk_j10) ((dQ_X9_web_4 11).trans dk_j11) dk_vu1_4
theorem dX9_web_76 : decode cX9_web 76 = .ok (.istore_n 2, 1) := dk_61 ((dQ_X9_web_4 12).trans dk_j12)
theorem dX9_web_77 : decode cX9_web 77 = .ok (.iinc 3 1, 3) := dk_132 ((dQ_X9_web_4 13).trans dk_j13) ((dQ_X9_web_4 14).trans dk_j14) ((dQ_X9_web_4 15).trans dk_j15) dk_vu1_3 dk_vs1_1
theorem dX9_web_80 : decode cX9_web 80 = .ok (.goto (-58), 3) := dk_167 ((dQ_X9_web_5 0).trans dk_j0) ((dQ_X9_web_5 1).trans dk_j1) ((dQ_X9_web_5 2).trans dk_j2) dk_vs2_255_198
theorem dX9_web_83 : decode cX9_web 83 = .ok (.iload_n 2, 1) := dk_28 ((dQ_X9_web_5 3).trans dk_j3)
theorem dX9_web_84 : decode cX9_web 84 = .ok (.ireturn, 1) := dk_172 ((dQ_X9_web_5 4).trans dk_j4)
def dT_X9_spreads_7 : List UInt8 := (0xac : UInt8) :: []
def dT_X9_spreads_6 : List UInt8 := (0x04 : UInt8) :: (0x1d : UInt8) :: (0x78 : UInt8) :: (0xa7 : UInt8) :: (0x00 : UInt8) :: (0x04 : UInt8) :: (0x03 : UInt8) :: (0x80 : UInt8) :: (0x3d : UInt8) :: (0x84 : UInt8) :: (0x03 : UInt8) :: (0x01 : UInt8) :: (0xa7 : UInt8) :: (0xff : UInt8) :: (0xd2 : UInt8) :: (0x1c : UInt8) :: dT_X9_spreads_7
def dT_X9_spreads_5 : List UInt8 := (0x00 : UInt8) :: (0x2b : UInt8) :: (0x1d : UInt8) :: (0x2e : UInt8) :: (0xb8 : UInt8) :: (0x01 : UInt8) :: (0x16 : UInt8) :: (0x2a : UInt8) :: (0xb4 : UInt8) :: (0x00 : UInt8) :: (0x3a : UInt8) :: (0x1d : UInt8) :: (0x2e : UInt8) :: (0xa2 : UInt8) :: (0x00 : UInt8) :: (0x09 : UInt8) :: dT_X9_spreads_6
def dT_X9_spreads_4 : List UInt8 := (0xb4 : UInt8) :: (0x00 : UInt8) :: (0x09 : UInt8) :: (0x08 : UInt8) :: (0x2e : UInt8) :: (0xa2 : UInt8) :: (0x00 : UInt8) :: (0x2a : UInt8) :: (0x1c : UInt8) :: (0x1d : UInt8) :: (0x1b : UInt8) :: (0x9f : UInt8) :: (0x00 : UInt8) :: (0x1b : UInt8) :: (0x2a : UInt8) :: (0xb4 : UInt8) :: dT_X9_spreads_5
def dT_X9_spreads_3 : List UInt8 := (0x00 : UInt8) :: (0xf9 : UInt8) :: (0x78 : UInt8) :: (0x04 : UInt8) :: (0x64 : UInt8) :: (0x4f : UInt8) :: (0x2a : UInt8) :: (0xb6 : UInt8) :: (0x01 : UInt8) :: (0x0a : UInt8) :: (0x03 : UInt8) :: (0x3d : UInt8) :: (0x03 : UInt8) :: (0x3e : UInt8) :: (0x1d : UInt8) :: (0x2a : UInt8) :: dT_X9_spreads_4
def dT_X9_spreads_2 : List UInt8 := (0x16 : UInt8) :: (0x4f : UInt8) :: (0x84 : UInt8) :: (0x02 : UInt8) :: (0x01 : UInt8) :: (0xa7 : UInt8) :: (0xff : UInt8) :: (0xe8 : UInt8) :: (0x2a : UInt8) :: (0xb4 : UInt8) :: (0x00 : UInt8) :: (0x25 : UInt8) :: (0x1b : UInt8) :: (0x04 : UInt8) :: (0x2a : UInt8) :: (0xb6 : UInt8) :: dT_X9_spreads_3
def dT_X9_spreads_1 : List UInt8 := (0xa2 : UInt8) :: (0x00 : UInt8) :: (0x18 : UInt8) :: (0x2a : UInt8) :: (0xb4 : UInt8) :: (0x00 : UInt8) :: (0x3a : UInt8) :: (0x1c : UInt8) :: (0x2a : UInt8) :: (0xb4 : UInt8) :: (0x00 : UInt8) :: (0x2b : UInt8) :: (0x1c : UInt8) :: (0x2e : UInt8) :: (0xb8 : UInt8) :: (0x01 : UInt8) :: dT_X9_spreads_2
def dT_X9_spreads_0 : List UInt8 := (0x2a : UInt8) :: (0x1b : UInt8) :: (0xb6 : UInt8) :: (0x01 : UInt8) :: (0x1c : UInt8) :: (0x9a : UInt8) :: (0x00 : UInt8) :: (0x06 : UInt8) :: (0x10 : UInt8) :: (0xfe : UInt8) :: (0xac : UInt8) :: (0x03 : UInt8) :: (0x3d : UInt8) :: (0x1c : UInt8) :: (0x10 : UInt8) :: (0x06 : UInt8) :: dT_X9_spreads_1
theorem dT_X9_spreads : cX9_spreads.data.toList = dT_X9_spreads_0 := eq_of_beq (show (cX9_spreads.data.toList == dT_X9_spreads_0) = true by decide +kernel)
theorem dQ_X9_spreads_0 : dQ_P cX9_spreads 0 dT_X9_spreads_0 := fun i => by rw [dT_X9_spreads]; rfl
theorem dQ_X9_spreads_1 : dQ_P cX9_spreads 16 dT_X9_spreads_1 := fun i => (dQ_X9_spreads_0 (i + 16)).trans dk_t
theorem dQ_X9_spreads_2 : dQ_P cX9_spreads 32 dT_X9_spreads_2 := fun i => (dQ_X9_spreads_1 (i + 16)).trans dk_t
theorem dQ_X9_spreads_3 : dQ_P cX9_spreads 48 dT_X9_spreads_3 := fun i => (dQ_X9_spreads_2 (i + 16)).trans dk_t
theorem dQ_X9_spreads_4 : dQ_P cX9_spreads 64 dT_X9_spreads_4 := fun i => (dQ_X9_spreads_3 (i + 16)).trans dk_t
theorem dQ_X9_spreads_5 : dQ_P cX9_spreads 80 dT_X9_spreads_5 := fun i => (dQ_X9_spreads_4 (i + 16)).trans dk_t
theorem dQ_X9_spreads_6 : dQ_P cX9_spreads 96 dT_X9_spreads_6 := fun i => (dQ_X9_spreads_5 (i + 16)).trans dk_t
theorem dQ_X9_spreads_7 : dQ_P cX9_spreads 112 dT_X9_spreads_7 := fun i => (dQ_X9_spreads_6 (i + 16)).trans dk_t
theorem dX9_spreads_0 : decode cX9_spreads 0 = .ok (.aload_n 0, 1) := dk_42 ((dQ_X9_spreads_0 0).trans dk_j0)
theorem dX9_spreads_1 : decode cX9_spreads 1 = .ok (.iload_n 1, 1) := dk_27 ((dQ_X9_spreads_0 1).trans dk_j1)
theorem dX9_spreads_2 : decode cX9_spreads 2 = .ok (.invokevirtual 284, 3) := dk_182 ((dQ_X9_spreads_0 2).trans dk_j2) ((dQ_X9_spreads_0 3).trans dk_j3) ((dQ_X9_spreads_0 4).trans dk_j4) dk_vu2_1_28
theorem dX9_spreads_5 : decode cX9_spreads 5 = .ok (.ifCond .ne 6, 3) := dk_154 ((dQ_X9_spreads_0 5).trans dk_j5) ((dQ_X9_spreads_0 6).trans dk_j6) ((dQ_X9_spreads_0 7).trans dk_j7) dk_vs2_0_6
theorem dX9_spreads_8 : decode cX9_spreads 8 = .ok (.bipush (-2), 2) := dk_16 ((dQ_X9_spreads_0 8).trans dk_j8) ((dQ_X9_spreads_0 9).trans dk_j9) dk_vs1_254
theorem dX9_spreads_10 : decode cX9_spreads 10 = .ok (.ireturn, 1) := dk_172 ((dQ_X9_spreads_0 10).trans dk_j10)
theorem dX9_spreads_11 : decode cX9_spreads 11 = .ok (.iconst 0, 1) := dk_3 ((dQ_X9_spreads_0 11).trans dk_j11)
theorem dX9_spreads_12 : decode cX9_spreads 12 = .ok (.istore_n 2, 1) := dk_61 ((dQ_X9_spreads_0 12).trans dk_j12)
theorem dX9_spreads_13 : decode cX9_spreads 13 = .ok (.iload_n 2, 1) := dk_28 ((dQ_X9_spreads_0 13).trans dk_j13)
theorem dX9_spreads_14 : decode cX9_spreads 14 = .ok (.bipush 6, 2) := dk_16 ((dQ_X9_spreads_0 14).trans dk_j14) ((dQ_X9_spreads_0 15).trans dk_j15) dk_vs1_6
theorem dX9_spreads_16 : decode cX9_spreads 16 = .ok (.if_icmp .ge 24, 3) := dk_162 ((dQ_X9_spreads_1 0).trans dk_j0) ((dQ_X9_spreads_1 1).trans dk_j1) ((dQ_X9_spreads_1 2).trans dk_j2) dk_vs2_0_24
theorem dX9_spreads_19 : decode cX9_spreads 19 = .ok (.aload_n 0, 1) := dk_42 ((dQ_X9_spreads_1 3).trans dk_j3)
theorem dX9_spreads_20 : decode cX9_spreads 20 = .ok (.getfield 58, 3) := dk_180 ((dQ_X9_spreads_1 4).trans dk_j4) ((dQ_X9_spreads_1 5).trans dk_j5) ((dQ_X9_spreads_1 6).trans dk_j6) dk_vu2_0_58
theorem dX9_spreads_23 : decode cX9_spreads 23 = .ok (.iload_n 2, 1) := dk_28 ((dQ_X9_spreads_1 7).trans dk_j7)
theorem dX9_spreads_24 : decode cX9_spreads 24 = .ok (.aload_n 0, 1) := dk_42 ((dQ_X9_spreads_1 8).trans dk_j8)
theorem dX9_spreads_25 : decode cX9_spreads 25 = .ok (.getfield 43, 3) := dk_180 ((dQ_X9_spreads_1 9).trans dk_j9) ((dQ_X9_spreads_1 10).trans dk_j10) ((dQ_X9_spreads_1 11).trans dk_j11) dk_vu2_0_43
theorem dX9_spreads_28 : decode cX9_spreads 28 = .ok (.iload_n 2, 1) := dk_28 ((dQ_X9_spreads_1 12).trans dk_j12)
theorem dX9_spreads_29 : decode cX9_spreads 29 = .ok (.iaload, 1) := dk_46 ((dQ_X9_spreads_1 13).trans dk_j13)
theorem dX9_spreads_30 : decode cX9_spreads 30 = .ok (.invokestatic 278, 3) := dk_184 ((dQ_X9_spreads_1 14).trans dk_j14) ((dQ_X9_spreads_1 15).trans dk_j15) ((dQ_X9_spreads_2 0).trans dk_j0) dk_vu2_1_22
theorem dX9_spreads_33 : decode cX9_spreads 33 = .ok (.iastore, 1) := dk_79 ((dQ_X9_spreads_2 1).trans dk_j1)
theorem dX9_spreads_34 : decode cX9_spreads 34 = .ok (.iinc 2 1, 3) := dk_132 ((dQ_X9_spreads_2 2).trans dk_j2) ((dQ_X9_spreads_2 3).trans dk_j3) ((dQ_X9_spreads_2 4).trans dk_j4) dk_vu1_2 dk_vs1_1
theorem dk_vs2_255_232 : Reader.signed 16 ((0xff : UInt8).toNat * 256 + (0xe8 : UInt8).toNat) = (-24 : Int) := by decide +kernel
theorem dX9_spreads_37 : decode cX9_spreads 37 = .ok (.goto (-24), 3) := dk_167 ((dQ_X9_spreads_2 5).trans dk_j5) ((dQ_X9_spreads_2 6).trans dk_j6) ((dQ_X9_spreads_2 7).trans dk_j7) dk_vs2_255_232
theorem dX9_spreads_40 : decode cX9_spreads 40 = .ok (.aload_n 0, 1) := dk_42 ((dQ_X9_spreads_2 8).trans dk_j8)
theorem dX9_spreads_41 : decode cX9_spreads 41 = .ok (.getfield 37, 3) := dk_180 ((dQ_X9_spreads_2 9).trans dk_j9) ((dQ_X9_spreads_2 10).trans dk_j10) ((dQ_X9_spreads_2 11).trans dk_j11) dk_vu2_0_37
theorem dX9_spreads_44 : decode cX9_spreads 44 = .ok (.iload_n 1, 1) := dk_27 ((dQ_X9_spreads_2 12).trans dk_j12)
theorem dX9_spreads_45 : decode cX9_spreads 45 = .ok (.iconst 1, 1) := dk_4 ((dQ_X9_spreads_2 13).trans dk_j13)
theorem dX9_spreads_46 : decode cX9_spreads 46 = .ok (.aload_n 0, 1) := dk_42 ((dQ_X9_spreads_2 14).trans dk_j14)
theorem dX9_spreads_47 : decode cX9_spreads 47 = .ok (.invokevirtual 249, 3) := dk_182 ((dQ_X9_spreads_2 15).trans dk_j15) ((dQ_X9_spreads_3 0).trans dk_j0) ((dQ_X9_spreads_3 1).trans dk_j1) dk_vu2_0_249
theorem dX9_spreads_50 : decode cX9_spreads 50 = .ok (.ishl, 1) := dk_120 ((dQ_X9_spreads_3 2).trans dk_j2)
theorem dX9_spreads_51 : decode cX9_spreads 51 = .ok (.iconst 1, 1) := dk_4 ((dQ_X9_spreads_3 3).trans dk_j3)
theorem dX9_spreads_52 : decode cX9_spreads 52 = .ok (.isub, 1) := dk_100 ((dQ_X9_spreads_3 4).trans dk_j4)
theorem dX9_spreads_53 : decode cX9_spreads 53 = .ok (.iastore, 1) := dk_79 ((dQ_X9_spreads_3 5).trans dk_j5)
theorem dX9_spreads_54 : decode cX9_spreads 54 = .ok (.aload_n 0, 1) := dk_42 ((dQ_X9_spreads_3 6).trans dk_j6)
theorem dX9_spreads_55 : decode cX9_spreads 55 = .ok (.invokevirtual 266, 3) := dk_182 ((dQ_X9_spreads_3 7).trans dk_j7) ((dQ_X9_spreads_3 8).trans dk_j8) ((dQ_X9_spreads_3 9).trans dk_j9) dk_vu2_1_10
theorem dX9_spreads_58 : decode cX9_spreads 58 = .ok (.iconst 0, 1) := dk_3 ((dQ_X9_spreads_3 10).trans dk_j10)
theorem dX9_spreads_59 : decode cX9_spreads 59 = .ok (.istore_n 2, 1) := dk_61 ((dQ_X9_spreads_3 11).trans dk_j11)
theorem dX9_spreads_60 : decode cX9_spreads 60 = .ok (.iconst 0, 1) := dk_3 ((dQ_X9_spreads_3 12).trans dk_j12)
theorem dX9_spreads_61 : decode cX9_spreads 61 = .ok (.istore_n 3, 1) := dk_62 ((dQ_X9_spreads_3 13).trans dk_j13)
theorem dX9_spreads_62 : decode cX9_spreads 62 = .ok (.iload_n 3, 1) := dk_29 ((dQ_X9_spreads_3 14).trans dk_j14)
theorem dX9_spreads_63 : decode cX9_spreads 63 = .ok (.aload_n 0, 1) := dk_42 ((dQ_X9_spreads_3 15).trans dk_j15)
theorem dX9_spreads_64 : decode cX9_spreads 64 = .ok (.getfield 9, 3) := dk_180 ((dQ_X9_spreads_4 0).trans dk_j0) ((dQ_X9_spreads_4 1).trans dk_j1) ((dQ_X9_spreads_4 2).trans dk_j2) dk_vu2_0_9
theorem dX9_spreads_67 : decode cX9_spreads 67 = .ok (.iconst 5, 1) := dk_8 ((dQ_X9_spreads_4 3).trans dk_j3)
theorem dX9_spreads_68 : decode cX9_spreads 68 = .ok (.iaload, 1) := dk_46 ((dQ_X9_spreads_4 4).trans dk_j4)
theorem dX9_spreads_69 : decode cX9_spreads 69 = .ok (.if_icmp .ge 42, 3) := dk_162 ((dQ_X9_spreads_4 5).trans dk_j5) ((dQ_X9_spreads_4 6).trans dk_j6) ((dQ_X9_spreads_4 7).trans dk_j7) dk_vs2_0_42
theorem dX9_spreads_72 : decode cX9_spreads 72 = .ok (.iload_n 2, 1) := dk_28 ((dQ_X9_spreads_4 8).trans dk_j8)
theorem dX9_spreads_73 : decode cX9_spreads 73 = .ok (.iload_n 3, 1) := dk_29 ((dQ_X9_spreads_4 9).trans dk_j9)
theorem dX9_spreads_74 : decode cX9_spreads 74 = .ok (.iload_n 1, 1) := dk_27 ((dQ_X9_spreads_4 10).trans dk_j10)
theorem dX9_spreads_75 : decode cX9_spreads 75 = .ok (.if_icmp .eq 27, 3) := dk_159 ((dQ_X9_spreads_4 11).trans dk_j11) ((dQ_X9_spreads_4 12).trans dk_j12) ((dQ_X9_spreads_4 13).trans dk_j13) dk_vs2_0_27
theorem dX9_spreads_78 : decode cX9_spreads 78 = .ok (.aload_n 0, 1) := dk_42 ((dQ_X9_spreads_4 14).trans dk_j14)
theorem dX9_spreads_79 : decode cX9_spreads 79 = .ok (.getfield 43, 3) := dk_180 ((dQ_X9_spreads_4 15).trans dk_j15) ((dQ_X9_spreads_5 0).trans dk_j0) ((dQ_X9_spreads_5 1).trans dk_j1) dk_vu2_0_43
theorem dX9_spreads_82 : decode cX9_spreads 82 = .ok (.iload_n 3, 1) := dk_29 ((dQ_X9_spreads_5 2).trans dk_j2)
theorem dX9_spreads_83 : decode cX9_spreads 83 = .ok (.iaload, 1) := dk_46 ((dQ_X9_spreads_5 3).trans dk_j3)
theorem dX9_spreads_84 : decode cX9_spreads 84 = .ok (.invokestatic 278, 3) := dk_184 ((dQ_X9_spreads_5 4).trans dk_j4) ((dQ_X9_spreads_5 5).trans dk_j5) ((dQ_X9_spreads_5 6).trans dk_j6) dk_vu2_1_22
theorem dX9_spreads_87 : decode cX9_spreads 87 = .ok (.aload_n 0, 1) := dk_42 ((dQ_X9_spreads_5 7).trans dk_j7)
theorem dX9_spreads_88 : decode cX9_spreads 88 = .ok (.getfield 58, 3) := dk_180 ((dQ_X9_spreads_5 8).trans dk_j8) ((dQ_X9_spreads_5 9).trans dk_j9) ((dQ_X9_spreads_5 10).trans dk_j10) dk_vu2_0_58
theorem dX9_spreads_91 : decode cX9_spreads 91 = .ok (.iload_n 3, 1) := dk_29 ((dQ_X9_spreads_5 11).trans dk_j11)
theorem dX9_spreads_92 : decode cX9_spreads 92 = .ok (.iaload, 1) := dk_46 ((dQ_X9_spreads_5 12).trans dk_j12)
theorem dX9_spreads_93 : decode cX9_spreads 93 = .ok (.if_icmp .ge 9, 3) := dk_162 ((dQ_X9_spreads_5 13).trans dk_j13) ((dQ_X9_spreads_5 14).trans dk_j14) ((dQ_X9_spreads_5 15).trans dk_j15) dk_vs2_0_9
theorem dX9_spreads_96 : decode cX9_spreads 96 = .ok (.iconst 1, 1) := dk_4 ((dQ_X9_spreads_6 0).trans dk_j0)
theorem dX9_spreads_97 : decode cX9_spreads 97 = .ok (.iload_n 3, 1) := dk_29 ((dQ_X9_spreads_6 1).trans dk_j1)
theorem dX9_spreads_98 : decode cX9_spreads 98 = .ok (.ishl, 1) := dk_120 ((dQ_X9_spreads_6 2).trans dk_j2)
theorem dX9_spreads_99 : decode cX9_spreads 99 = .ok (.goto 4, 3) := dk_167 ((dQ_X9_spreads_6 3).trans dk_j3) ((dQ_X9_spreads_6 4).trans dk_j4) ((dQ_X9_spreads_6 5).trans dk_j5) dk_vs2_0_4
theorem dX9_spreads_102 : decode cX9_spreads 102 = .ok (.iconst 0, 1) := dk_3 ((dQ_X9_spreads_6 6).trans dk_j6)
theorem dX9_spreads_103 : decode cX9_spreads 103 = .ok (.ior, 1) := dk_128 ((dQ_X9_spreads_6 7).trans dk_j7)
theorem dX9_spreads_104 : decode cX9_spreads 104 = .ok (.istore_n 2, 1) := dk_61 ((dQ_X9_spreads_6 8).trans dk_j8)
theorem dX9_spreads_105 : decode cX9_spreads 105 = .ok (.iinc 3 1, 3) := dk_132 ((dQ_X9_spreads_6 9).trans dk_j9) ((dQ_X9_spreads_6 10).trans dk_j10) ((dQ_X9_spreads_6 11).trans dk_j11) dk_vu1_3 dk_vs1_1
theorem dk_vs2_255_210 : Reader.signed 16 ((0xff : UInt8).toNat * 256 + (0xd2 : UInt8).toNat) = (-46 : Int) := by decide +kernel
theorem dX9_spreads_108 : decode cX9_spreads 108 = .ok (.goto (-46), 3) := dk_167 ((dQ_X9_spreads_6 12).trans dk_j12) ((dQ_X9_spreads_6 13).trans dk_j13) ((dQ_X9_spreads_6 14).trans dk_j14) dk_vs2_255_210
theorem dX9_spreads_111 : decode cX9_spreads 111 = .ok (.iload_n 2, 1) := dk_28 ((dQ_X9_spreads_6 15).trans dk_j15)
theorem dX9_spreads_112 : decode cX9_spreads 112 = .ok (.ireturn, 1) := dk_172 ((dQ_X9_spreads_7 0).trans dk_j0)
def dT_X9_quietBy_7 : List UInt8 := (0xa7 : UInt8) :: (0xff : UInt8) :: (0xaa : UInt8) :: (0x2a : UInt8) :: (0xb4 : UInt8) :: (0x00 : UInt8) :: (0x09 : UInt8) :: (0x1b : UInt8) :: (0x15 : UInt8) :: (0x05 : UInt8) :: (0x4f : UInt8) :: (0x15 : UInt8) :: (0x06 : UInt8) :: (0xac : UInt8) :: []
def dT_X9_quietBy_6 : List UInt8 := (0x08 : UInt8) :: (0x15 : UInt8) :: (0x08 : UInt8) :: (0xa7 : UInt8) :: (0x00 : UInt8) :: (0x04 : UInt8) :: (0x02 : UInt8) :: (0x36 : UInt8) :: (0x06 : UInt8) :: (0x15 : UInt8) :: (0x08 : UInt8) :: (0x15 : UInt8) :: (0x07 : UInt8) :: (0x60 : UInt8) :: (0x36 : UInt8) :: (0x08 : UInt8) :: dT_X9_quietBy_7
def dT_X9_quietBy_5 : List UInt8 := (0x04 : UInt8) :: (0x2e : UInt8) :: (0x9a : UInt8) :: (0x00 : UInt8) :: (0x07 : UInt8) :: (0x04 : UInt8) :: (0xa7 : UInt8) :: (0x00 : UInt8) :: (0x04 : UInt8) :: (0x03 : UInt8) :: (0x36 : UInt8) :: (0x09 : UInt8) :: (0x15 : UInt8) :: (0x09 : UInt8) :: (0x99 : UInt8) :: (0x00 : UInt8) :: dT_X9_quietBy_6
def dT_X9_quietBy_4 : List UInt8 := (0x9a : UInt8) :: (0x00 : UInt8) :: (0x07 : UInt8) :: (0x04 : UInt8) :: (0xa7 : UInt8) :: (0x00 : UInt8) :: (0x16 : UInt8) :: (0x03 : UInt8) :: (0xa7 : UInt8) :: (0x00 : UInt8) :: (0x12 : UInt8) :: (0x2a : UInt8) :: (0xb4 : UInt8) :: (0x00 : UInt8) :: (0x2b : UInt8) :: (0x15 : UInt8) :: dT_X9_quietBy_5
def dT_X9_quietBy_3 : List UInt8 := (0x4f : UInt8) :: (0x2a : UInt8) :: (0xb6 : UInt8) :: (0x01 : UInt8) :: (0x10 : UInt8) :: (0x57 : UInt8) :: (0x15 : UInt8) :: (0x04 : UInt8) :: (0x02 : UInt8) :: (0xa0 : UInt8) :: (0x00 : UInt8) :: (0x12 : UInt8) :: (0x2a : UInt8) :: (0xb6 : UInt8) :: (0x01 : UInt8) :: (0x22 : UInt8) :: dT_X9_quietBy_4
def dT_X9_quietBy_2 : List UInt8 := (0x9f : UInt8) :: (0x00 : UInt8) :: (0x53 : UInt8) :: (0x15 : UInt8) :: (0x06 : UInt8) :: (0x02 : UInt8) :: (0xa0 : UInt8) :: (0x00 : UInt8) :: (0x4d : UInt8) :: (0x2a : UInt8) :: (0xb4 : UInt8) :: (0x00 : UInt8) :: (0x09 : UInt8) :: (0x1b : UInt8) :: (0x15 : UInt8) :: (0x08 : UInt8) :: dT_X9_quietBy_3
def dT_X9_quietBy_1 : List UInt8 := (0x02 : UInt8) :: (0xa7 : UInt8) :: (0x00 : UInt8) :: (0x04 : UInt8) :: (0x04 : UInt8) :: (0x36 : UInt8) :: (0x07 : UInt8) :: (0x1c : UInt8) :: (0x36 : UInt8) :: (0x08 : UInt8) :: (0x15 : UInt8) :: (0x08 : UInt8) :: (0x1d : UInt8) :: (0x15 : UInt8) :: (0x07 : UInt8) :: (0x60 : UInt8) :: dT_X9_quietBy_2
def dT_X9_quietBy_0 : List UInt8 := (0x2a : UInt8) :: (0xb4 : UInt8) :: (0x00 : UInt8) :: (0x09 : UInt8) :: (0x1b : UInt8) :: (0x2e : UInt8) :: (0x36 : UInt8) :: (0x05 : UInt8) :: (0x02 : UInt8) :: (0x36 : UInt8) :: (0x06 : UInt8) :: (0x1c : UInt8) :: (0x1d : UInt8) :: (0xa4 : UInt8) :: (0x00 : UInt8) :: (0x07 : UInt8) :: dT_X9_quietBy_1
theorem dT_X9_quietBy : cX9_quietBy.data.toList = dT_X9_quietBy_0 := eq_of_beq (show (cX9_quietBy.data.toList == dT_X9_quietBy_0) = true by decide +kernel)
theorem dQ_X9_quietBy_0 : dQ_P cX9_quietBy 0 dT_X9_quietBy_0 := fun i => by rw [dT_X9_quietBy]; rfl
theorem dQ_X9_quietBy_1 : dQ_P cX9_quietBy 16 dT_X9_quietBy_1 := fun i => (dQ_X9_quietBy_0 (i + 16)).trans dk_t
theorem dQ_X9_quietBy_2 : dQ_P cX9_quietBy 32 dT_X9_quietBy_2 := fun i => (dQ_X9_quietBy_1 (i + 16)).trans dk_t
theorem dQ_X9_quietBy_3 : dQ_P cX9_quietBy 48 dT_X9_quietBy_3 := fun i => (dQ_X9_quietBy_2 (i + 16)).trans dk_t
theorem dQ_X9_quietBy_4 : dQ_P cX9_quietBy 64 dT_X9_quietBy_4 := fun i => (dQ_X9_quietBy_3 (i + 16)).trans dk_t
theorem dQ_X9_quietBy_5 : dQ_P cX9_quietBy 80 dT_X9_quietBy_5 := fun i => (dQ_X9_quietBy_4 (i + 16)).trans dk_t
theorem dQ_X9_quietBy_6 : dQ_P cX9_quietBy 96 dT_X9_quietBy_6 := fun i => (dQ_X9_quietBy_5 (i + 16)).trans dk_t
theorem dQ_X9_quietBy_7 : dQ_P cX9_quietBy 112 dT_X9_quietBy_7 := fun i => (dQ_X9_quietBy_6 (i + 16)).trans dk_t
theorem dX9_quietBy_0 : decode cX9_quietBy 0 = .ok (.aload_n 0, 1) := dk_42 ((dQ_X9_quietBy_0 0).trans dk_j0)
theorem dX9_quietBy_1 : decode cX9_quietBy 1 = .ok (.getfield 9, 3) := dk_180 ((dQ_X9_quietBy_0 1).trans dk_j1) ((dQ_X9_quietBy_0 2).trans dk_j2) ((dQ_X9_quietBy_0 3).trans dk_j3) dk_vu2_0_9
theorem dX9_quietBy_4 : decode cX9_quietBy 4 = .ok (.iload_n 1, 1) := dk_27 ((dQ_X9_quietBy_0 4).trans dk_j4)
theorem dX9_quietBy_5 : decode cX9_quietBy 5 = .ok (.iaload, 1) := dk_46 ((dQ_X9_quietBy_0 5).trans dk_j5)
theorem dX9_quietBy_6 : decode cX9_quietBy 6 = .ok (.istore 5, 2) := dk_54 ((dQ_X9_quietBy_0 6).trans dk_j6) ((dQ_X9_quietBy_0 7).trans dk_j7) dk_vu1_5
theorem dX9_quietBy_8 : decode cX9_quietBy 8 = .ok (.iconst (-1), 1) := dk_2 ((dQ_X9_quietBy_0 8).trans dk_j8)
theorem dX9_quietBy_9 : decode cX9_quietBy 9 = .ok (.istore 6, 2) := dk_54 ((dQ_X9_quietBy_0 9).trans dk_j9) ((dQ_X9_quietBy_0 10).trans dk_j10) dk_vu1_6
theorem dX9_quietBy_11 : decode cX9_quietBy 11 = .ok (.iload_n 2, 1) := dk_28 ((dQ_X9_quietBy_0 11).trans dk_j11)
theorem dX9_quietBy_12 : decode cX9_quietBy 12 = .ok (.iload_n 3, 1) := dk_29 ((dQ_X9_quietBy_0 12).trans dk_j12)
theorem dX9_quietBy_13 : decode cX9_quietBy 13 = .ok (.if_icmp .le 7, 3) := dk_164 ((dQ_X9_quietBy_0 13).trans dk_j13) ((dQ_X9_quietBy_0 14).trans dk_j14) ((dQ_X9_quietBy_0 15).trans dk_j15) dk_vs2_0_7
theorem dX9_quietBy_16 : decode cX9_quietBy 16 = .ok (.iconst (-1), 1) := dk_2 ((dQ_X9_quietBy_1 0).trans dk_j0)
theorem dX9_quietBy_17 : decode cX9_quietBy 17 = .ok (.goto 4, 3) := dk_167 ((dQ_X9_quietBy_1 1).trans dk_j1) ((dQ_X9_quietBy_1 2).trans dk_j2) ((dQ_X9_quietBy_1 3).trans dk_j3) dk_vs2_0_4
theorem dX9_quietBy_20 : decode cX9_quietBy 20 = .ok (.iconst 1, 1) := dk_4 ((dQ_X9_quietBy_1 4).trans dk_j4)
theorem dX9_quietBy_21 : decode cX9_quietBy 21 = .ok (.istore 7, 2) := dk_54 ((dQ_X9_quietBy_1 5).trans dk_j5) ((dQ_X9_quietBy_1 6).trans dk_j6) dk_vu1_7
theorem dX9_quietBy_23 : decode cX9_quietBy 23 = .ok (.iload_n 2, 1) := dk_28 ((dQ_X9_quietBy_1 7).trans dk_j7)
theorem dk_vu1_8 : (0x08 : UInt8).toNat = (8 : Nat) := by decide +kernel
theorem dX9_quietBy_24 : decode cX9_quietBy 24 = .ok (.istore 8, 2) := dk_54 ((dQ_X9_quietBy_1 8).trans dk_j8) ((dQ_X9_quietBy_1 9).trans dk_j9) dk_vu1_8
theorem dX9_quietBy_26 : decode cX9_quietBy 26 = .ok (.iload 8, 2) := dk_21 ((dQ_X9_quietBy_1 10).trans dk_j10) ((dQ_X9_quietBy_1 11).trans dk_j11) dk_vu1_8
theorem dX9_quietBy_28 : decode cX9_quietBy 28 = .ok (.iload_n 3, 1) := dk_29 ((dQ_X9_quietBy_1 12).trans dk_j12)
theorem dX9_quietBy_29 : decode cX9_quietBy 29 = .ok (.iload 7, 2) := dk_21 ((dQ_X9_quietBy_1 13).trans dk_j13) ((dQ_X9_quietBy_1 14).trans dk_j14) dk_vu1_7
theorem dX9_quietBy_31 : decode cX9_quietBy 31 = .ok (.iadd, 1) := dk_96 ((dQ_X9_quietBy_1 15).trans dk_j15)
theorem dX9_quietBy_32 : decode cX9_quietBy 32 = .ok (.if_icmp .eq 83, 3) := dk_159 ((dQ_X9_quietBy_2 0).trans dk_j0) ((dQ_X9_quietBy_2 1).trans dk_j1) ((dQ_X9_quietBy_2 2).trans dk_j2) dk_vs2_0_83
theorem dX9_quietBy_35 : decode cX9_quietBy 35 = .ok (.iload 6, 2) := dk_21 ((dQ_X9_quietBy_2 3).trans dk_j3) ((dQ_X9_quietBy_2 4).trans dk_j4) dk_vu1_6
theorem dX9_quietBy_37 : decode cX9_quietBy 37 = .ok (.iconst (-1), 1) := dk_2 ((dQ_X9_quietBy_2 5).trans dk_j5)
theorem dk_vs2_0_77 : Reader.signed 16 ((0x00 : UInt8).toNat * 256 + (0x4d : UInt8).toNat) = (77 : Int) := by decide +kernel
theorem dX9_quietBy_38 : decode cX9_quietBy 38 = .ok (.if_icmp .ne 77, 3) := dk_160 ((dQ_X9_quietBy_2 6).trans dk_j6) ((dQ_X9_quietBy_2 7).trans dk_j7) ((dQ_X9_quietBy_2 8).trans dk_j8) dk_vs2_0_77
theorem dX9_quietBy_41 : decode cX9_quietBy 41 = .ok (.aload_n 0, 1) := dk_42 ((dQ_X9_quietBy_2 9).trans dk_j9)
theorem dX9_quietBy_42 : decode cX9_quietBy 42 = .ok (.getfield 9, 3) := dk_180 ((dQ_X9_quietBy_2 10).trans dk_j10) ((dQ_X9_quietBy_2 11).trans dk_j11) ((dQ_X9_quietBy_2 12).trans dk_j12) dk_vu2_0_9
theorem dX9_quietBy_45 : decode cX9_quietBy 45 = .ok (.iload_n 1, 1) := dk_27 ((dQ_X9_quietBy_2 13).trans dk_j13)
theorem dX9_quietBy_46 : decode cX9_quietBy 46 = .ok (.iload 8, 2) := dk_21 ((dQ_X9_quietBy_2 14).trans dk_j14) ((dQ_X9_quietBy_2 15).trans dk_j15) dk_vu1_8
theorem dX9_quietBy_48 : decode cX9_quietBy 48 = .ok (.iastore, 1) := dk_79 ((dQ_X9_quietBy_3 0).trans dk_j0)
theorem dX9_quietBy_49 : decode cX9_quietBy 49 = .ok (.aload_n 0, 1) := dk_42 ((dQ_X9_quietBy_3 1).trans dk_j1)
theorem dX9_quietBy_50 : decode cX9_quietBy 50 = .ok (.invokevirtual 272, 3) := dk_182 ((dQ_X9_quietBy_3 2).trans dk_j2) ((dQ_X9_quietBy_3 3).trans dk_j3) ((dQ_X9_quietBy_3 4).trans dk_j4) dk_vu2_1_16
theorem dX9_quietBy_53 : decode cX9_quietBy 53 = .ok (.pop, 1) := dk_87 ((dQ_X9_quietBy_3 5).trans dk_j5)
theorem dX9_quietBy_54 : decode cX9_quietBy 54 = .ok (.iload 4, 2) := dk_21 ((dQ_X9_quietBy_3 6).trans dk_j6) ((dQ_X9_quietBy_3 7).trans dk_j7) dk_vu1_4
theorem dX9_quietBy_56 : decode cX9_quietBy 56 = .ok (.iconst (-1), 1) := dk_2 ((dQ_X9_quietBy_3 8).trans dk_j8)
theorem dX9_quietBy_57 : decode cX9_quietBy 57 = .ok (.if_icmp .ne 18, 3) := dk_160 ((dQ_X9_quietBy_3 9).trans dk_j9) ((dQ_X9_quietBy_3 10).trans dk_j10) ((dQ_X9_quietBy_3 11).trans dk_j11) dk_vs2_0_18
theorem dX9_quietBy_60 : decode cX9_quietBy 60 = .ok (.aload_n 0, 1) := dk_42 ((dQ_X9_quietBy_3 12).trans dk_j12)
theorem dX9_quietBy_61 : decode cX9_quietBy 61 = .ok (.invokevirtual 290, 3) := dk_182 ((dQ_X9_quietBy_3 13).trans dk_j13) ((dQ_X9_quietBy_3 14).trans dk_j14) ((dQ_X9_quietBy_3 15).trans dk_j15) dk_vu2_1_34
theorem dX9_quietBy_64 : decode cX9_quietBy 64 = .ok (.ifCond .ne 7, 3) := dk_154 ((dQ_X9_quietBy_4 0).trans dk_j0) ((dQ_X9_quietBy_4 1).trans dk_j1) ((dQ_X9_quietBy_4 2).trans dk_j2) dk_vs2_0_7
theorem dX9_quietBy_67 : decode cX9_quietBy 67 = .ok (.iconst 1, 1) := dk_4 ((dQ_X9_quietBy_4 3).trans dk_j3)
theorem dX9_quietBy_68 : decode cX9_quietBy 68 = .ok (.goto 22, 3) := dk_167 ((dQ_X9_quietBy_4 4).trans dk_j4) ((dQ_X9_quietBy_4 5).trans dk_j5) ((dQ_X9_quietBy_4 6).trans dk_j6) dk_vs2_0_22
theorem dX9_quietBy_71 : decode cX9_quietBy 71 = .ok (.iconst 0, 1) := dk_3 ((dQ_X9_quietBy_4 7).trans dk_j7)
theorem dX9_quietBy_72 : decode cX9_quietBy 72 = .ok (.goto 18, 3) := dk_167 ((dQ_X9_quietBy_4 8).trans dk_j8) ((dQ_X9_quietBy_4 9).trans dk_j9) ((dQ_X9_quietBy_4 10).trans dk_j10) dk_vs2_0_18
theorem dX9_quietBy_75 : decode cX9_quietBy 75 = .ok (.aload_n 0, 1) := dk_42 ((dQ_X9_quietBy_4 11).trans dk_j11)
theorem dX9_quietBy_76 : decode cX9_quietBy 76 = .ok (.getfield 43, 3) := dk_180 ((dQ_X9_quietBy_4 12).trans dk_j12) ((dQ_X9_quietBy_4 13).trans dk_j13) ((dQ_X9_quietBy_4 14).trans dk_j14) dk_vu2_0_43
theorem dX9_quietBy_79 : decode cX9_quietBy 79 = .ok (.iload 4, 2) := dk_21 ((dQ_X9_quietBy_4 15).trans dk_j15) ((dQ_X9_quietBy_5 0).trans dk_j0) dk_vu1_4
theorem dX9_quietBy_81 : decode cX9_quietBy 81 = .ok (.iaload, 1) := dk_46 ((dQ_X9_quietBy_5 1).trans dk_j1)
theorem dX9_quietBy_82 : decode cX9_quietBy 82 = .ok (.ifCond .ne 7, 3) := dk_154 ((dQ_X9_quietBy_5 2).trans dk_j2) ((dQ_X9_quietBy_5 3).trans dk_j3) ((dQ_X9_quietBy_5 4).trans dk_j4) dk_vs2_0_7
theorem dX9_quietBy_85 : decode cX9_quietBy 85 = .ok (.iconst 1, 1) := dk_4 ((dQ_X9_quietBy_5 5).trans dk_j5)
theorem dX9_quietBy_86 : decode cX9_quietBy 86 = .ok (.goto 4, 3) := dk_167 ((dQ_X9_quietBy_5 6).trans dk_j6) ((dQ_X9_quietBy_5 7).trans dk_j7) ((dQ_X9_quietBy_5 8).trans dk_j8) dk_vs2_0_4
theorem dX9_quietBy_89 : decode cX9_quietBy 89 = .ok (.iconst 0, 1) := dk_3 ((dQ_X9_quietBy_5 9).trans dk_j9)
theorem dk_vu1_9 : (0x09 : UInt8).toNat = (9 : Nat) := by decide +kernel
theorem dX9_quietBy_90 : decode cX9_quietBy 90 = .ok (.istore 9, 2) := dk_54 ((dQ_X9_quietBy_5 10).trans dk_j10) ((dQ_X9_quietBy_5 11).trans dk_j11) dk_vu1_9
theorem dX9_quietBy_92 : decode cX9_quietBy 92 = .ok (.iload 9, 2) := dk_21 ((dQ_X9_quietBy_5 12).trans dk_j12) ((dQ_X9_quietBy_5 13).trans dk_j13) dk_vu1_9
theorem dX9_quietBy_94 : decode cX9_quietBy 94 = .ok (.ifCond .eq 8, 3) := dk_153 ((dQ_X9_quietBy_5 14).trans dk_j14) ((dQ_X9_quietBy_5 15).trans dk_j15) ((dQ_X9_quietBy_6 0).trans dk_j0) dk_vs2_0_8
theorem dX9_quietBy_97 : decode cX9_quietBy 97 = .ok (.iload 8, 2) := dk_21 ((dQ_X9_quietBy_6 1).trans dk_j1) ((dQ_X9_quietBy_6 2).trans dk_j2) dk_vu1_8
theorem dX9_quietBy_99 : decode cX9_quietBy 99 = .ok (.goto 4, 3) := dk_167 ((dQ_X9_quietBy_6 3).trans dk_j3) ((dQ_X9_quietBy_6 4).trans dk_j4) ((dQ_X9_quietBy_6 5).trans dk_j5) dk_vs2_0_4
theorem dX9_quietBy_102 : decode cX9_quietBy 102 = .ok (.iconst (-1), 1) := dk_2 ((dQ_X9_quietBy_6 6).trans dk_j6)
theorem dX9_quietBy_103 : decode cX9_quietBy 103 = .ok (.istore 6, 2) := dk_54 ((dQ_X9_quietBy_6 7).trans dk_j7) ((dQ_X9_quietBy_6 8).trans dk_j8) dk_vu1_6
theorem dX9_quietBy_105 : decode cX9_quietBy 105 = .ok (.iload 8, 2) := dk_21 ((dQ_X9_quietBy_6 9).trans dk_j9) ((dQ_X9_quietBy_6 10).trans dk_j10) dk_vu1_8
theorem dX9_quietBy_107 : decode cX9_quietBy 107 = .ok (.iload 7, 2) := dk_21 ((dQ_X9_quietBy_6 11).trans dk_j11) ((dQ_X9_quietBy_6 12).trans dk_j12) dk_vu1_7
theorem dX9_quietBy_109 : decode cX9_quietBy 109 = .ok (.iadd, 1) := dk_96 ((dQ_X9_quietBy_6 13).trans dk_j13)
theorem dX9_quietBy_110 : decode cX9_quietBy 110 = .ok (.istore 8, 2) := dk_54 ((dQ_X9_quietBy_6 14).trans dk_j14) ((dQ_X9_quietBy_6 15).trans dk_j15) dk_vu1_8
theorem dk_vs2_255_170 : Reader.signed 16 ((0xff : UInt8).toNat * 256 + (0xaa : UInt8).toNat) = (-86 : Int) := by decide +kernel
theorem dX9_quietBy_112 : decode cX9_quietBy 112 = .ok (.goto (-86), 3) := dk_167 ((dQ_X9_quietBy_7 0).trans dk_j0) ((dQ_X9_quietBy_7 1).trans dk_j1) ((dQ_X9_quietBy_7 2).trans dk_j2) dk_vs2_255_170
theorem dX9_quietBy_115 : decode cX9_quietBy 115 = .ok (.aload_n 0, 1) := dk_42 ((dQ_X9_quietBy_7 3).trans dk_j3)
theorem dX9_quietBy_116 : decode cX9_quietBy 116 = .ok (.getfield 9, 3) := dk_180 ((dQ_X9_quietBy_7 4).trans dk_j4) ((dQ_X9_quietBy_7 5).trans dk_j5) ((dQ_X9_quietBy_7 6).trans dk_j6) dk_vu2_0_9
theorem dX9_quietBy_119 : decode cX9_quietBy 119 = .ok (.iload_n 1, 1) := dk_27 ((dQ_X9_quietBy_7 7).trans dk_j7)
theorem dX9_quietBy_120 : decode cX9_quietBy 120 = .ok (.iload 5, 2) := dk_21 ((dQ_X9_quietBy_7 8).trans dk_j8) ((dQ_X9_quietBy_7 9).trans dk_j9) dk_vu1_5
theorem dX9_quietBy_122 : decode cX9_quietBy 122 = .ok (.iastore, 1) := dk_79 ((dQ_X9_quietBy_7 10).trans dk_j10)
theorem dX9_quietBy_123 : decode cX9_quietBy 123 = .ok (.iload 6, 2) := dk_21 ((dQ_X9_quietBy_7 11).trans dk_j11) ((dQ_X9_quietBy_7 12).trans dk_j12) dk_vu1_6
theorem dX9_quietBy_125 : decode cX9_quietBy 125 = .ok (.ireturn, 1) := dk_172 ((dQ_X9_quietBy_7 13).trans dk_j13)
def dT_X9_dull_1 : List UInt8 := (0x10 : UInt8) :: (0x09 : UInt8) :: (0x03 : UInt8) :: (0x1b : UInt8) :: (0xb6 : UInt8) :: (0x01 : UInt8) :: (0x2c : UInt8) :: (0xa7 : UInt8) :: (0x00 : UInt8) :: (0x05 : UInt8) :: (0x10 : UInt8) :: (0xfe : UInt8) :: (0xac : UInt8) :: []
def dT_X9_dull_0 : List UInt8 := (0x2a : UInt8) :: (0x1b : UInt8) :: (0x85 : UInt8) :: (0xb6 : UInt8) :: (0x00 : UInt8) :: (0xe0 : UInt8) :: (0x99 : UInt8) :: (0x00 : UInt8) :: (0x14 : UInt8) :: (0x2a : UInt8) :: (0x10 : UInt8) :: (0x0b : UInt8) :: (0x05 : UInt8) :: (0x1b : UInt8) :: (0x68 : UInt8) :: (0x60 : UInt8) :: dT_X9_dull_1
theorem dT_X9_dull : cX9_dull.data.toList = dT_X9_dull_0 := eq_of_beq (show (cX9_dull.data.toList == dT_X9_dull_0) = true by decide +kernel)
theorem dQ_X9_dull_0 : dQ_P cX9_dull 0 dT_X9_dull_0 := fun i => by rw [dT_X9_dull]; rfl
theorem dQ_X9_dull_1 : dQ_P cX9_dull 16 dT_X9_dull_1 := fun i => (dQ_X9_dull_0 (i + 16)).trans dk_t
theorem dX9_dull_0 : decode cX9_dull 0 = .ok (.aload_n 0, 1) := dk_42 ((dQ_X9_dull_0 0).trans dk_j0)
theorem dX9_dull_1 : decode cX9_dull 1 = .ok (.iload_n 1, 1) := dk_27 ((dQ_X9_dull_0 1).trans dk_j1)
theorem dX9_dull_2 : decode cX9_dull 2 = .ok (.i2l, 1) := dk_133 ((dQ_X9_dull_0 2).trans dk_j2)
theorem dX9_dull_3 : decode cX9_dull 3 = .ok (.invokevirtual 224, 3) := dk_182 ((dQ_X9_dull_0 3).trans dk_j3) ((dQ_X9_dull_0 4).trans dk_j4) ((dQ_X9_dull_0 5).trans dk_j5) dk_vu2_0_224
theorem dX9_dull_6 : decode cX9_dull 6 = .ok (.ifCond .eq 20, 3) := dk_153 ((dQ_X9_dull_0 6).trans dk_j6) ((dQ_X9_dull_0 7).trans dk_j7) ((dQ_X9_dull_0 8).trans dk_j8) dk_vs2_0_20
theorem dX9_dull_9 : decode cX9_dull 9 = .ok (.aload_n 0, 1) := dk_42 ((dQ_X9_dull_0 9).trans dk_j9)
theorem dX9_dull_10 : decode cX9_dull 10 = .ok (.bipush 11, 2) := dk_16 ((dQ_X9_dull_0 10).trans dk_j10) ((dQ_X9_dull_0 11).trans dk_j11) dk_vs1_11
theorem dX9_dull_12 : decode cX9_dull 12 = .ok (.iconst 2, 1) := dk_5 ((dQ_X9_dull_0 12).trans dk_j12)
theorem dX9_dull_13 : decode cX9_dull 13 = .ok (.iload_n 1, 1) := dk_27 ((dQ_X9_dull_0 13).trans dk_j13)
theorem dX9_dull_14 : decode cX9_dull 14 = .ok (.imul, 1) := dk_104 ((dQ_X9_dull_0 14).trans dk_j14)
theorem dX9_dull_15 : decode cX9_dull 15 = .ok (.iadd, 1) := dk_96 ((dQ_X9_dull_0 15).trans dk_j15)
theorem dX9_dull_16 : decode cX9_dull 16 = .ok (.bipush 9, 2) := dk_16 ((dQ_X9_dull_1 0).trans dk_j0) ((dQ_X9_dull_1 1).trans dk_j1) dk_vs1_9
theorem dX9_dull_18 : decode cX9_dull 18 = .ok (.iconst 0, 1) := dk_3 ((dQ_X9_dull_1 2).trans dk_j2)
theorem dX9_dull_19 : decode cX9_dull 19 = .ok (.iload_n 1, 1) := dk_27 ((dQ_X9_dull_1 3).trans dk_j3)
theorem dk_vu2_1_44 : (0x01 : UInt8).toNat * 256 + (0x2c : UInt8).toNat = (300 : Nat) := by decide +kernel
theorem dX9_dull_20 : decode cX9_dull 20 = .ok (.invokevirtual 300, 3) := dk_182 ((dQ_X9_dull_1 4).trans dk_j4) ((dQ_X9_dull_1 5).trans dk_j5) ((dQ_X9_dull_1 6).trans dk_j6) dk_vu2_1_44
theorem dX9_dull_23 : decode cX9_dull 23 = .ok (.goto 5, 3) := dk_167 ((dQ_X9_dull_1 7).trans dk_j7) ((dQ_X9_dull_1 8).trans dk_j8) ((dQ_X9_dull_1 9).trans dk_j9) dk_vs2_0_5
theorem dX9_dull_26 : decode cX9_dull 26 = .ok (.bipush (-2), 2) := dk_16 ((dQ_X9_dull_1 10).trans dk_j10) ((dQ_X9_dull_1 11).trans dk_j11) dk_vs1_254
theorem dX9_dull_28 : decode cX9_dull 28 = .ok (.ireturn, 1) := dk_172 ((dQ_X9_dull_1 12).trans dk_j12)
def dT_X9_bears_1 : List UInt8 := (0x04 : UInt8) :: (0x60 : UInt8) :: (0x04 : UInt8) :: (0x10 : UInt8) :: (0x63 : UInt8) :: (0x1b : UInt8) :: (0xb6 : UInt8) :: (0x01 : UInt8) :: (0x2c : UInt8) :: (0xa7 : UInt8) :: (0x00 : UInt8) :: (0x05 : UInt8) :: (0x10 : UInt8) :: (0xfe : UInt8) :: (0xac : UInt8) :: []
def dT_X9_bears_0 : List UInt8 := (0x2a : UInt8) :: (0x1b : UInt8) :: (0x85 : UInt8) :: (0xb6 : UInt8) :: (0x00 : UInt8) :: (0xe0 : UInt8) :: (0x99 : UInt8) :: (0x00 : UInt8) :: (0x16 : UInt8) :: (0x2a : UInt8) :: (0x10 : UInt8) :: (0x0b : UInt8) :: (0x05 : UInt8) :: (0x1b : UInt8) :: (0x68 : UInt8) :: (0x60 : UInt8) :: dT_X9_bears_1
theorem dT_X9_bears : cX9_bears.data.toList = dT_X9_bears_0 := eq_of_beq (show (cX9_bears.data.toList == dT_X9_bears_0) = true by decide +kernel)
theorem dQ_X9_bears_0 : dQ_P cX9_bears 0 dT_X9_bears_0 := fun i => by rw [dT_X9_bears]; rfl
theorem dQ_X9_bears_1 : dQ_P cX9_bears 16 dT_X9_bears_1 := fun i => (dQ_X9_bears_0 (i + 16)).trans dk_t
theorem dX9_bears_0 : decode cX9_bears 0 = .ok (.aload_n 0, 1) := dk_42 ((dQ_X9_bears_0 0).trans dk_j0)
theorem dX9_bears_1 : decode cX9_bears 1 = .ok (.iload_n 1, 1) := dk_27 ((dQ_X9_bears_0 1).trans dk_j1)
theorem dX9_bears_2 : decode cX9_bears 2 = .ok (.i2l, 1) := dk_133 ((dQ_X9_bears_0 2).trans dk_j2)
theorem dX9_bears_3 : decode cX9_bears 3 = .ok (.invokevirtual 224, 3) := dk_182 ((dQ_X9_bears_0 3).trans dk_j3) ((dQ_X9_bears_0 4).trans dk_j4) ((dQ_X9_bears_0 5).trans dk_j5) dk_vu2_0_224
theorem dX9_bears_6 : decode cX9_bears 6 = .ok (.ifCond .eq 22, 3) := dk_153 ((dQ_X9_bears_0 6).trans dk_j6) ((dQ_X9_bears_0 7).trans dk_j7) ((dQ_X9_bears_0 8).trans dk_j8) dk_vs2_0_22
theorem dX9_bears_9 : decode cX9_bears 9 = .ok (.aload_n 0, 1) := dk_42 ((dQ_X9_bears_0 9).trans dk_j9)
theorem dX9_bears_10 : decode cX9_bears 10 = .ok (.bipush 11, 2) := dk_16 ((dQ_X9_bears_0 10).trans dk_j10) ((dQ_X9_bears_0 11).trans dk_j11) dk_vs1_11
theorem dX9_bears_12 : decode cX9_bears 12 = .ok (.iconst 2, 1) := dk_5 ((dQ_X9_bears_0 12).trans dk_j12)
theorem dX9_bears_13 : decode cX9_bears 13 = .ok (.iload_n 1, 1) := dk_27 ((dQ_X9_bears_0 13).trans dk_j13)
theorem dX9_bears_14 : decode cX9_bears 14 = .ok (.imul, 1) := dk_104 ((dQ_X9_bears_0 14).trans dk_j14)
theorem dX9_bears_15 : decode cX9_bears 15 = .ok (.iadd, 1) := dk_96 ((dQ_X9_bears_0 15).trans dk_j15)
theorem dX9_bears_16 : decode cX9_bears 16 = .ok (.iconst 1, 1) := dk_4 ((dQ_X9_bears_1 0).trans dk_j0)
theorem dX9_bears_17 : decode cX9_bears 17 = .ok (.iadd, 1) := dk_96 ((dQ_X9_bears_1 1).trans dk_j1)
theorem dX9_bears_18 : decode cX9_bears 18 = .ok (.iconst 1, 1) := dk_4 ((dQ_X9_bears_1 2).trans dk_j2)
theorem dX9_bears_19 : decode cX9_bears 19 = .ok (.bipush 99, 2) := dk_16 ((dQ_X9_bears_1 3).trans dk_j3) ((dQ_X9_bears_1 4).trans dk_j4) dk_vs1_99
theorem dX9_bears_21 : decode cX9_bears 21 = .ok (.iload_n 1, 1) := dk_27 ((dQ_X9_bears_1 5).trans dk_j5)
theorem dX9_bears_22 : decode cX9_bears 22 = .ok (.invokevirtual 300, 3) := dk_182 ((dQ_X9_bears_1 6).trans dk_j6) ((dQ_X9_bears_1 7).trans dk_j7) ((dQ_X9_bears_1 8).trans dk_j8) dk_vu2_1_44
theorem dX9_bears_25 : decode cX9_bears 25 = .ok (.goto 5, 3) := dk_167 ((dQ_X9_bears_1 9).trans dk_j9) ((dQ_X9_bears_1 10).trans dk_j10) ((dQ_X9_bears_1 11).trans dk_j11) dk_vs2_0_5
theorem dX9_bears_28 : decode cX9_bears 28 = .ok (.bipush (-2), 2) := dk_16 ((dQ_X9_bears_1 12).trans dk_j12) ((dQ_X9_bears_1 13).trans dk_j13) dk_vs1_254
theorem dX9_bears_30 : decode cX9_bears 30 = .ok (.ireturn, 1) := dk_172 ((dQ_X9_bears_1 14).trans dk_j14)
def dT_X9_clean_1 : List UInt8 := (0xa7 : UInt8) :: (0x00 : UInt8) :: (0x05 : UInt8) :: (0x10 : UInt8) :: (0xfe : UInt8) :: (0xac : UInt8) :: []
def dT_X9_clean_0 : List UInt8 := (0x2a : UInt8) :: (0xb6 : UInt8) :: (0x01 : UInt8) :: (0x0d : UInt8) :: (0x99 : UInt8) :: (0x00 : UInt8) :: (0x0f : UInt8) :: (0x2a : UInt8) :: (0x04 : UInt8) :: (0x10 : UInt8) :: (0x09 : UInt8) :: (0x03 : UInt8) :: (0x02 : UInt8) :: (0xb6 : UInt8) :: (0x01 : UInt8) :: (0x2c : UInt8) :: dT_X9_clean_1
theorem dT_X9_clean : cX9_clean.data.toList = dT_X9_clean_0 := eq_of_beq (show (cX9_clean.data.toList == dT_X9_clean_0) = true by decide +kernel)
theorem dQ_X9_clean_0 : dQ_P cX9_clean 0 dT_X9_clean_0 := fun i => by rw [dT_X9_clean]; rfl
theorem dQ_X9_clean_1 : dQ_P cX9_clean 16 dT_X9_clean_1 := fun i => (dQ_X9_clean_0 (i + 16)).trans dk_t
theorem dX9_clean_0 : decode cX9_clean 0 = .ok (.aload_n 0, 1) := dk_42 ((dQ_X9_clean_0 0).trans dk_j0)
theorem dX9_clean_1 : decode cX9_clean 1 = .ok (.invokevirtual 269, 3) := dk_182 ((dQ_X9_clean_0 1).trans dk_j1) ((dQ_X9_clean_0 2).trans dk_j2) ((dQ_X9_clean_0 3).trans dk_j3) dk_vu2_1_13
theorem dX9_clean_4 : decode cX9_clean 4 = .ok (.ifCond .eq 15, 3) := dk_153 ((dQ_X9_clean_0 4).trans dk_j4) ((dQ_X9_clean_0 5).trans dk_j5) ((dQ_X9_clean_0 6).trans dk_j6) dk_vs2_0_15
theorem dX9_clean_7 : decode cX9_clean 7 = .ok (.aload_n 0, 1) := dk_42 ((dQ_X9_clean_0 7).trans dk_j7)
theorem dX9_clean_8 : decode cX9_clean 8 = .ok (.iconst 1, 1) := dk_4 ((dQ_X9_clean_0 8).trans dk_j8)
theorem dX9_clean_9 : decode cX9_clean 9 = .ok (.bipush 9, 2) := dk_16 ((dQ_X9_clean_0 9).trans dk_j9) ((dQ_X9_clean_0 10).trans dk_j10) dk_vs1_9
theorem dX9_clean_11 : decode cX9_clean 11 = .ok (.iconst 0, 1) := dk_3 ((dQ_X9_clean_0 11).trans dk_j11)
theorem dX9_clean_12 : decode cX9_clean 12 = .ok (.iconst (-1), 1) := dk_2 ((dQ_X9_clean_0 12).trans dk_j12)
theorem dX9_clean_13 : decode cX9_clean 13 = .ok (.invokevirtual 300, 3) := dk_182 ((dQ_X9_clean_0 13).trans dk_j13) ((dQ_X9_clean_0 14).trans dk_j14) ((dQ_X9_clean_0 15).trans dk_j15) dk_vu2_1_44
theorem dX9_clean_16 : decode cX9_clean 16 = .ok (.goto 5, 3) := dk_167 ((dQ_X9_clean_1 0).trans dk_j0) ((dQ_X9_clean_1 1).trans dk_j1) ((dQ_X9_clean_1 2).trans dk_j2) dk_vs2_0_5
theorem dX9_clean_19 : decode cX9_clean 19 = .ok (.bipush (-2), 2) := dk_16 ((dQ_X9_clean_1 3).trans dk_j3) ((dQ_X9_clean_1 4).trans dk_j4) dk_vs1_254
theorem dX9_clean_21 : decode cX9_clean 21 = .ok (.ireturn, 1) := dk_172 ((dQ_X9_clean_1 5).trans dk_j5)
def dT_X9_windowOf_2 : List UInt8 := (0x3d : UInt8) :: (0x84 : UInt8) :: (0x03 : UInt8) :: (0x01 : UInt8) :: (0xa7 : UInt8) :: (0xff : UInt8) :: (0xe5 : UInt8) :: (0x1c : UInt8) :: (0xac : UInt8) :: []
def dT_X9_windowOf_1 : List UInt8 := (0xa3 : UInt8) :: (0x00 : UInt8) :: (0x17 : UInt8) :: (0x1d : UInt8) :: (0x2a : UInt8) :: (0xb4 : UInt8) :: (0x00 : UInt8) :: (0xfb : UInt8) :: (0xa3 : UInt8) :: (0x00 : UInt8) :: (0x0f : UInt8) :: (0x1c : UInt8) :: (0x04 : UInt8) :: (0x1d : UInt8) :: (0x78 : UInt8) :: (0x80 : UInt8) :: dT_X9_windowOf_2
def dT_X9_windowOf_0 : List UInt8 := (0x03 : UInt8) :: (0x3d : UInt8) :: (0x2a : UInt8) :: (0x1b : UInt8) :: (0x04 : UInt8) :: (0xb6 : UInt8) :: (0x00 : UInt8) :: (0xea : UInt8) :: (0x3e : UInt8) :: (0x1d : UInt8) :: (0x2a : UInt8) :: (0x1b : UInt8) :: (0x05 : UInt8) :: (0xb6 : UInt8) :: (0x00 : UInt8) :: (0xea : UInt8) :: dT_X9_windowOf_1
theorem dT_X9_windowOf : cX9_windowOf.data.toList = dT_X9_windowOf_0 := eq_of_beq (show (cX9_windowOf.data.toList == dT_X9_windowOf_0) = true by decide +kernel)
theorem dQ_X9_windowOf_0 : dQ_P cX9_windowOf 0 dT_X9_windowOf_0 := fun i => by rw [dT_X9_windowOf]; rfl
theorem dQ_X9_windowOf_1 : dQ_P cX9_windowOf 16 dT_X9_windowOf_1 := fun i => (dQ_X9_windowOf_0 (i + 16)).trans dk_t
theorem dQ_X9_windowOf_2 : dQ_P cX9_windowOf 32 dT_X9_windowOf_2 := fun i => (dQ_X9_windowOf_1 (i + 16)).trans dk_t
theorem dX9_windowOf_0 : decode cX9_windowOf 0 = .ok (.iconst 0, 1) := dk_3 ((dQ_X9_windowOf_0 0).trans dk_j0)
theorem dX9_windowOf_1 : decode cX9_windowOf 1 = .ok (.istore_n 2, 1) := dk_61 ((dQ_X9_windowOf_0 1).trans dk_j1)
theorem dX9_windowOf_2 : decode cX9_windowOf 2 = .ok (.aload_n 0, 1) := dk_42 ((dQ_X9_windowOf_0 2).trans dk_j2)
theorem dX9_windowOf_3 : decode cX9_windowOf 3 = .ok (.iload_n 1, 1) := dk_27 ((dQ_X9_windowOf_0 3).trans dk_j3)
theorem dX9_windowOf_4 : decode cX9_windowOf 4 = .ok (.iconst 1, 1) := dk_4 ((dQ_X9_windowOf_0 4).trans dk_j4)
theorem dX9_windowOf_5 : decode cX9_windowOf 5 = .ok (.invokevirtual 234, 3) := dk_182 ((dQ_X9_windowOf_0 5).trans dk_j5) ((dQ_X9_windowOf_0 6).trans dk_j6) ((dQ_X9_windowOf_0 7).trans dk_j7) dk_vu2_0_234
theorem dX9_windowOf_8 : decode cX9_windowOf 8 = .ok (.istore_n 3, 1) := dk_62 ((dQ_X9_windowOf_0 8).trans dk_j8)
theorem dX9_windowOf_9 : decode cX9_windowOf 9 = .ok (.iload_n 3, 1) := dk_29 ((dQ_X9_windowOf_0 9).trans dk_j9)
theorem dX9_windowOf_10 : decode cX9_windowOf 10 = .ok (.aload_n 0, 1) := dk_42 ((dQ_X9_windowOf_0 10).trans dk_j10)
theorem dX9_windowOf_11 : decode cX9_windowOf 11 = .ok (.iload_n 1, 1) := dk_27 ((dQ_X9_windowOf_0 11).trans dk_j11)
theorem dX9_windowOf_12 : decode cX9_windowOf 12 = .ok (.iconst 2, 1) := dk_5 ((dQ_X9_windowOf_0 12).trans dk_j12)
theorem dX9_windowOf_13 : decode cX9_windowOf 13 = .ok (.invokevirtual 234, 3) := dk_182 ((dQ_X9_windowOf_0 13).trans dk_j13) ((dQ_X9_windowOf_0 14).trans dk_j14) ((dQ_X9_windowOf_0 15).trans dk_j15) dk_vu2_0_234
theorem dX9_windowOf_16 : decode cX9_windowOf 16 = .ok (.if_icmp .gt 23, 3) := dk_163 ((dQ_X9_windowOf_1 0).trans dk_j0) ((dQ_X9_windowOf_1 1).trans dk_j1) ((dQ_X9_windowOf_1 2).trans dk_j2) dk_vs2_0_23
theorem dX9_windowOf_19 : decode cX9_windowOf 19 = .ok (.iload_n 3, 1) := dk_29 ((dQ_X9_windowOf_1 3).trans dk_j3)
theorem dX9_windowOf_20 : decode cX9_windowOf 20 = .ok (.aload_n 0, 1) := dk_42 ((dQ_X9_windowOf_1 4).trans dk_j4)
theorem dX9_windowOf_21 : decode cX9_windowOf 21 = .ok (.getfield 251, 3) := dk_180 ((dQ_X9_windowOf_1 5).trans dk_j5) ((dQ_X9_windowOf_1 6).trans dk_j6) ((dQ_X9_windowOf_1 7).trans dk_j7) dk_vu2_0_251
theorem dX9_windowOf_24 : decode cX9_windowOf 24 = .ok (.if_icmp .gt 15, 3) := dk_163 ((dQ_X9_windowOf_1 8).trans dk_j8) ((dQ_X9_windowOf_1 9).trans dk_j9) ((dQ_X9_windowOf_1 10).trans dk_j10) dk_vs2_0_15
theorem dX9_windowOf_27 : decode cX9_windowOf 27 = .ok (.iload_n 2, 1) := dk_28 ((dQ_X9_windowOf_1 11).trans dk_j11)
theorem dX9_windowOf_28 : decode cX9_windowOf 28 = .ok (.iconst 1, 1) := dk_4 ((dQ_X9_windowOf_1 12).trans dk_j12)
theorem dX9_windowOf_29 : decode cX9_windowOf 29 = .ok (.iload_n 3, 1) := dk_29 ((dQ_X9_windowOf_1 13).trans dk_j13)
theorem dX9_windowOf_30 : decode cX9_windowOf 30 = .ok (.ishl, 1) := dk_120 ((dQ_X9_windowOf_1 14).trans dk_j14)
theorem dX9_windowOf_31 : decode cX9_windowOf 31 = .ok (.ior, 1) := dk_128 ((dQ_X9_windowOf_1 15).trans dk_j15)
theorem dX9_windowOf_32 : decode cX9_windowOf 32 = .ok (.istore_n 2, 1) := dk_61 ((dQ_X9_windowOf_2 0).trans dk_j0)
theorem dX9_windowOf_33 : decode cX9_windowOf 33 = .ok (.iinc 3 1, 3) := dk_132 ((dQ_X9_windowOf_2 1).trans dk_j1) ((dQ_X9_windowOf_2 2).trans dk_j2) ((dQ_X9_windowOf_2 3).trans dk_j3) dk_vu1_3 dk_vs1_1
theorem dX9_windowOf_36 : decode cX9_windowOf 36 = .ok (.goto (-27), 3) := dk_167 ((dQ_X9_windowOf_2 4).trans dk_j4) ((dQ_X9_windowOf_2 5).trans dk_j5) ((dQ_X9_windowOf_2 6).trans dk_j6) dk_vs2_255_229
theorem dX9_windowOf_39 : decode cX9_windowOf 39 = .ok (.iload_n 2, 1) := dk_28 ((dQ_X9_windowOf_2 7).trans dk_j7)
theorem dX9_windowOf_40 : decode cX9_windowOf 40 = .ok (.ireturn, 1) := dk_172 ((dQ_X9_windowOf_2 8).trans dk_j8)
def dT_X9_ahead_0 : List UInt8 := (0x04 : UInt8) :: (0x1b : UInt8) :: (0x78 : UInt8) :: (0x04 : UInt8) :: (0x64 : UInt8) :: (0xac : UInt8) :: []
theorem dT_X9_ahead : cX9_ahead.data.toList = dT_X9_ahead_0 := eq_of_beq (show (cX9_ahead.data.toList == dT_X9_ahead_0) = true by decide +kernel)
theorem dQ_X9_ahead_0 : dQ_P cX9_ahead 0 dT_X9_ahead_0 := fun i => by rw [dT_X9_ahead]; rfl
theorem dX9_ahead_0 : decode cX9_ahead 0 = .ok (.iconst 1, 1) := dk_4 ((dQ_X9_ahead_0 0).trans dk_j0)
theorem dX9_ahead_1 : decode cX9_ahead 1 = .ok (.iload_n 1, 1) := dk_27 ((dQ_X9_ahead_0 1).trans dk_j1)
theorem dX9_ahead_2 : decode cX9_ahead 2 = .ok (.ishl, 1) := dk_120 ((dQ_X9_ahead_0 2).trans dk_j2)
theorem dX9_ahead_3 : decode cX9_ahead 3 = .ok (.iconst 1, 1) := dk_4 ((dQ_X9_ahead_0 3).trans dk_j3)
theorem dX9_ahead_4 : decode cX9_ahead 4 = .ok (.isub, 1) := dk_100 ((dQ_X9_ahead_0 4).trans dk_j4)
theorem dX9_ahead_5 : decode cX9_ahead 5 = .ok (.ireturn, 1) := dk_172 ((dQ_X9_ahead_0 5).trans dk_j5)
def dT_X9_claimOf_11 : List UInt8 := (0x4f : UInt8) :: (0x84 : UInt8) :: (0x07 : UInt8) :: (0x01 : UInt8) :: (0xa7 : UInt8) :: (0xff : UInt8) :: (0x8b : UInt8) :: (0x15 : UInt8) :: (0x05 : UInt8) :: (0xac : UInt8) :: []
def dT_X9_claimOf_10 : List UInt8 := (0x05 : UInt8) :: (0x1d : UInt8) :: (0x99 : UInt8) :: (0x00 : UInt8) :: (0x0f : UInt8) :: (0x2a : UInt8) :: (0xb4 : UInt8) :: (0x00 : UInt8) :: (0x3d : UInt8) :: (0x15 : UInt8) :: (0x08 : UInt8) :: (0x5c : UInt8) :: (0x2e : UInt8) :: (0x15 : UInt8) :: (0x0a : UInt8) :: (0x60 : UInt8) :: dT_X9_claimOf_11
def dT_X9_claimOf_9 : List UInt8 := (0x00 : UInt8) :: (0x09 : UInt8) :: (0x2a : UInt8) :: (0x1b : UInt8) :: (0x06 : UInt8) :: (0xb6 : UInt8) :: (0x00 : UInt8) :: (0xea : UInt8) :: (0x36 : UInt8) :: (0x0a : UInt8) :: (0x15 : UInt8) :: (0x05 : UInt8) :: (0x15 : UInt8) :: (0x0a : UInt8) :: (0x60 : UInt8) :: (0x36 : UInt8) :: dT_X9_claimOf_10
def dT_X9_claimOf_8 : List UInt8 := (0x36 : UInt8) :: (0x09 : UInt8) :: (0x15 : UInt8) :: (0x09 : UInt8) :: (0x99 : UInt8) :: (0x00 : UInt8) :: (0x0e : UInt8) :: (0x2a : UInt8) :: (0x1b : UInt8) :: (0x06 : UInt8) :: (0xb6 : UInt8) :: (0x00 : UInt8) :: (0xea : UInt8) :: (0x05 : UInt8) :: (0x6c : UInt8) :: (0xa7 : UInt8) :: dT_X9_claimOf_9
def dT_X9_claimOf_7 : List UInt8 := (0x7e : UInt8) :: (0x2a : UInt8) :: (0x15 : UInt8) :: (0x08 : UInt8) :: (0xb6 : UInt8) :: (0x01 : UInt8) :: (0x36 : UInt8) :: (0x7e : UInt8) :: (0x99 : UInt8) :: (0x00 : UInt8) :: (0x07 : UInt8) :: (0x04 : UInt8) :: (0xa7 : UInt8) :: (0x00 : UInt8) :: (0x04 : UInt8) :: (0x03 : UInt8) :: dT_X9_claimOf_8
def dT_X9_claimOf_6 : List UInt8 := (0xf3 : UInt8) :: (0x06 : UInt8) :: (0xa0 : UInt8) :: (0x00 : UInt8) :: (0x1d : UInt8) :: (0x2a : UInt8) :: (0xb4 : UInt8) :: (0x00 : UInt8) :: (0x25 : UInt8) :: (0x1c : UInt8) :: (0x2e : UInt8) :: (0x2a : UInt8) :: (0x1b : UInt8) :: (0xb6 : UInt8) :: (0x01 : UInt8) :: (0x30 : UInt8) :: dT_X9_claimOf_7
def dT_X9_claimOf_5 : List UInt8 := (0x36 : UInt8) :: (0x08 : UInt8) :: (0x15 : UInt8) :: (0x04 : UInt8) :: (0x04 : UInt8) :: (0x15 : UInt8) :: (0x08 : UInt8) :: (0x78 : UInt8) :: (0x02 : UInt8) :: (0x82 : UInt8) :: (0x7e : UInt8) :: (0x36 : UInt8) :: (0x04 : UInt8) :: (0x2a : UInt8) :: (0xb4 : UInt8) :: (0x00 : UInt8) :: dT_X9_claimOf_6
def dT_X9_claimOf_4 : List UInt8 := (0x07 : UInt8) :: (0x15 : UInt8) :: (0x06 : UInt8) :: (0xa2 : UInt8) :: (0x00 : UInt8) :: (0x74 : UInt8) :: (0x15 : UInt8) :: (0x04 : UInt8) :: (0x99 : UInt8) :: (0x00 : UInt8) :: (0x6f : UInt8) :: (0x15 : UInt8) :: (0x04 : UInt8) :: (0xb8 : UInt8) :: (0x01 : UInt8) :: (0x1f : UInt8) :: dT_X9_claimOf_5
def dT_X9_claimOf_3 : List UInt8 := (0xf3 : UInt8) :: (0x05 : UInt8) :: (0xa0 : UInt8) :: (0x00 : UInt8) :: (0x07 : UInt8) :: (0x06 : UInt8) :: (0xa7 : UInt8) :: (0x00 : UInt8) :: (0x04 : UInt8) :: (0x04 : UInt8) :: (0x36 : UInt8) :: (0x06 : UInt8) :: (0x03 : UInt8) :: (0x36 : UInt8) :: (0x07 : UInt8) :: (0x15 : UInt8) :: dT_X9_claimOf_4
def dT_X9_claimOf_2 : List UInt8 := (0x04 : UInt8) :: (0x2a : UInt8) :: (0x15 : UInt8) :: (0x04 : UInt8) :: (0xb8 : UInt8) :: (0x01 : UInt8) :: (0x1f : UInt8) :: (0xb5 : UInt8) :: (0x01 : UInt8) :: (0x33 : UInt8) :: (0x03 : UInt8) :: (0x36 : UInt8) :: (0x05 : UInt8) :: (0x2a : UInt8) :: (0xb4 : UInt8) :: (0x00 : UInt8) :: dT_X9_claimOf_3
def dT_X9_claimOf_1 : List UInt8 := (0x00 : UInt8) :: (0xf3 : UInt8) :: (0x04 : UInt8) :: (0xa0 : UInt8) :: (0x00 : UInt8) :: (0x0e : UInt8) :: (0x15 : UInt8) :: (0x04 : UInt8) :: (0x2a : UInt8) :: (0xb4 : UInt8) :: (0x00 : UInt8) :: (0xed : UInt8) :: (0x02 : UInt8) :: (0x82 : UInt8) :: (0x7e : UInt8) :: (0x36 : UInt8) :: dT_X9_claimOf_2
def dT_X9_claimOf_0 : List UInt8 := (0x2a : UInt8) :: (0xb4 : UInt8) :: (0x00 : UInt8) :: (0x2b : UInt8) :: (0x1c : UInt8) :: (0x2e : UInt8) :: (0x2a : UInt8) :: (0x1b : UInt8) :: (0xb6 : UInt8) :: (0x01 : UInt8) :: (0x30 : UInt8) :: (0x7e : UInt8) :: (0x36 : UInt8) :: (0x04 : UInt8) :: (0x2a : UInt8) :: (0xb4 : UInt8) :: dT_X9_claimOf_1
theorem dT_X9_claimOf : cX9_claimOf.data.toList = dT_X9_claimOf_0 := eq_of_beq (show (cX9_claimOf.data.toList == dT_X9_claimOf_0) = true by decide +kernel)
theorem dQ_X9_claimOf_0 : dQ_P cX9_claimOf 0 dT_X9_claimOf_0 := fun i => by rw [dT_X9_claimOf]; rfl
theorem dQ_X9_claimOf_1 : dQ_P cX9_claimOf 16 dT_X9_claimOf_1 := fun i => (dQ_X9_claimOf_0 (i + 16)).trans dk_t
theorem dQ_X9_claimOf_2 : dQ_P cX9_claimOf 32 dT_X9_claimOf_2 := fun i => (dQ_X9_claimOf_1 (i + 16)).trans dk_t
theorem dQ_X9_claimOf_3 : dQ_P cX9_claimOf 48 dT_X9_claimOf_3 := fun i => (dQ_X9_claimOf_2 (i + 16)).trans dk_t
theorem dQ_X9_claimOf_4 : dQ_P cX9_claimOf 64 dT_X9_claimOf_4 := fun i => (dQ_X9_claimOf_3 (i + 16)).trans dk_t
theorem dQ_X9_claimOf_5 : dQ_P cX9_claimOf 80 dT_X9_claimOf_5 := fun i => (dQ_X9_claimOf_4 (i + 16)).trans dk_t
theorem dQ_X9_claimOf_6 : dQ_P cX9_claimOf 96 dT_X9_claimOf_6 := fun i => (dQ_X9_claimOf_5 (i + 16)).trans dk_t
theorem dQ_X9_claimOf_7 : dQ_P cX9_claimOf 112 dT_X9_claimOf_7 := fun i => (dQ_X9_claimOf_6 (i + 16)).trans dk_t
theorem dQ_X9_claimOf_8 : dQ_P cX9_claimOf 128 dT_X9_claimOf_8 := fun i => (dQ_X9_claimOf_7 (i + 16)).trans dk_t
theorem dQ_X9_claimOf_9 : dQ_P cX9_claimOf 144 dT_X9_claimOf_9 := fun i => (dQ_X9_claimOf_8 (i + 16)).trans dk_t
theorem dQ_X9_claimOf_10 : dQ_P cX9_claimOf 160 dT_X9_claimOf_10 := fun i => (dQ_X9_claimOf_9 (i + 16)).trans dk_t
theorem dQ_X9_claimOf_11 : dQ_P cX9_claimOf 176 dT_X9_claimOf_11 := fun i => (dQ_X9_claimOf_10 (i + 16)).trans dk_t
theorem dX9_claimOf_0 : decode cX9_claimOf 0 = .ok (.aload_n 0, 1) := dk_42 ((dQ_X9_claimOf_0 0).trans dk_j0)
theorem dX9_claimOf_1 : decode cX9_claimOf 1 = .ok (.getfield 43, 3) := dk_180 ((dQ_X9_claimOf_0 1).trans dk_j1) ((dQ_X9_claimOf_0 2).trans dk_j2) ((dQ_X9_claimOf_0 3).trans dk_j3) dk_vu2_0_43
theorem dX9_claimOf_4 : decode cX9_claimOf 4 = .ok (.iload_n 2, 1) := dk_28 ((dQ_X9_claimOf_0 4).trans dk_j4)
theorem dX9_claimOf_5 : decode cX9_claimOf 5 = .ok (.iaload, 1) := dk_46 ((dQ_X9_claimOf_0 5).trans dk_j5)
theorem dX9_claimOf_6 : decode cX9_claimOf 6 = .ok (.aload_n 0, 1) := dk_42 ((dQ_X9_claimOf_0 6).trans dk_j6)
theorem dX9_claimOf_7 : decode cX9_claimOf 7 = .ok (.iload_n 1, 1) := dk_27 ((dQ_X9_claimOf_0 7).trans dk_j7)
theorem dk_vu2_1_48 : (0x01 : UInt8).toNat * 256 + (0x30 : UInt8).toNat = (304 : Nat) := by decide +kernel
theorem dX9_claimOf_8 : decode cX9_claimOf 8 = .ok (.invokevirtual 304, 3) := dk_182 ((dQ_X9_claimOf_0 8).trans dk_j8) ((dQ_X9_claimOf_0 9).trans dk_j9) ((dQ_X9_claimOf_0 10).trans dk_j10) dk_vu2_1_48
theorem dX9_claimOf_11 : decode cX9_claimOf 11 = .ok (.iand, 1) := dk_126 ((dQ_X9_claimOf_0 11).trans dk_j11)
theorem dX9_claimOf_12 : decode cX9_claimOf 12 = .ok (.istore 4, 2) := dk_54 ((dQ_X9_claimOf_0 12).trans dk_j12) ((dQ_X9_claimOf_0 13).trans dk_j13) dk_vu1_4
theorem dX9_claimOf_14 : decode cX9_claimOf 14 = .ok (.aload_n 0, 1) := dk_42 ((dQ_X9_claimOf_0 14).trans dk_j14)
theorem dX9_claimOf_15 : decode cX9_claimOf 15 = .ok (.getfield 243, 3) := dk_180 ((dQ_X9_claimOf_0 15).trans dk_j15) ((dQ_X9_claimOf_1 0).trans dk_j0) ((dQ_X9_claimOf_1 1).trans dk_j1) dk_vu2_0_243
theorem dX9_claimOf_18 : decode cX9_claimOf 18 = .ok (.iconst 1, 1) := dk_4 ((dQ_X9_claimOf_1 2).trans dk_j2)
theorem dX9_claimOf_19 : decode cX9_claimOf 19 = .ok (.if_icmp .ne 14, 3) := dk_160 ((dQ_X9_claimOf_1 3).trans dk_j3) ((dQ_X9_claimOf_1 4).trans dk_j4) ((dQ_X9_claimOf_1 5).trans dk_j5) dk_vs2_0_14
theorem dX9_claimOf_22 : decode cX9_claimOf 22 = .ok (.iload 4, 2) := dk_21 ((dQ_X9_claimOf_1 6).trans dk_j6) ((dQ_X9_claimOf_1 7).trans dk_j7) dk_vu1_4
theorem dX9_claimOf_24 : decode cX9_claimOf 24 = .ok (.aload_n 0, 1) := dk_42 ((dQ_X9_claimOf_1 8).trans dk_j8)
theorem dX9_claimOf_25 : decode cX9_claimOf 25 = .ok (.getfield 237, 3) := dk_180 ((dQ_X9_claimOf_1 9).trans dk_j9) ((dQ_X9_claimOf_1 10).trans dk_j10) ((dQ_X9_claimOf_1 11).trans dk_j11) dk_vu2_0_237
theorem dX9_claimOf_28 : decode cX9_claimOf 28 = .ok (.iconst (-1), 1) := dk_2 ((dQ_X9_claimOf_1 12).trans dk_j12)
theorem dX9_claimOf_29 : decode cX9_claimOf 29 = .ok (.ixor, 1) := dk_130 ((dQ_X9_claimOf_1 13).trans dk_j13)
theorem dX9_claimOf_30 : decode cX9_claimOf 30 = .ok (.iand, 1) := dk_126 ((dQ_X9_claimOf_1 14).trans dk_j14)
theorem dX9_claimOf_31 : decode cX9_claimOf 31 = .ok (.istore 4, 2) := dk_54 ((dQ_X9_claimOf_1 15).trans dk_j15) ((dQ_X9_claimOf_2 0).trans dk_j0) dk_vu1_4
theorem dX9_claimOf_33 : decode cX9_claimOf 33 = .ok (.aload_n 0, 1) := dk_42 ((dQ_X9_claimOf_2 1).trans dk_j1)
theorem dX9_claimOf_34 : decode cX9_claimOf 34 = .ok (.iload 4, 2) := dk_21 ((dQ_X9_claimOf_2 2).trans dk_j2) ((dQ_X9_claimOf_2 3).trans dk_j3) dk_vu1_4
theorem dX9_claimOf_36 : decode cX9_claimOf 36 = .ok (.invokestatic 287, 3) := dk_184 ((dQ_X9_claimOf_2 4).trans dk_j4) ((dQ_X9_claimOf_2 5).trans dk_j5) ((dQ_X9_claimOf_2 6).trans dk_j6) dk_vu2_1_31
theorem dk_vu2_1_51 : (0x01 : UInt8).toNat * 256 + (0x33 : UInt8).toNat = (307 : Nat) := by decide +kernel
theorem dX9_claimOf_39 : decode cX9_claimOf 39 = .ok (.putfield 307, 3) := dk_181 ((dQ_X9_claimOf_2 7).trans dk_j7) ((dQ_X9_claimOf_2 8).trans dk_j8) ((dQ_X9_claimOf_2 9).trans dk_j9) dk_vu2_1_51
theorem dX9_claimOf_42 : decode cX9_claimOf 42 = .ok (.iconst 0, 1) := dk_3 ((dQ_X9_claimOf_2 10).trans dk_j10)
theorem dX9_claimOf_43 : decode cX9_claimOf 43 = .ok (.istore 5, 2) := dk_54 ((dQ_X9_claimOf_2 11).trans dk_j11) ((dQ_X9_claimOf_2 12).trans dk_j12) dk_vu1_5
theorem dX9_claimOf_45 : decode cX9_claimOf 45 = .ok (.aload_n 0, 1) := dk_42 ((dQ_X9_claimOf_2 13).trans dk_j13)
theorem dX9_claimOf_46 : decode cX9_claimOf 46 = .ok (.getfield 243, 3) := dk_180 ((dQ_X9_claimOf_2 14).trans dk_j14) ((dQ_X9_claimOf_2 15).trans dk_j15) ((dQ_X9_claimOf_3 0).trans dk_j0) dk_vu2_0_243
theorem dX9_claimOf_49 : decode cX9_claimOf 49 = .ok (.iconst 2, 1) := dk_5 ((dQ_X9_claimOf_3 1).trans dk_j1)
theorem dX9_claimOf_50 : decode cX9_claimOf 50 = .ok (.if_icmp .ne 7, 3) := dk_160 ((dQ_X9_claimOf_3 2).trans dk_j2) ((dQ_X9_claimOf_3 3).trans dk_j3) ((dQ_X9_claimOf_3 4).trans dk_j4) dk_vs2_0_7
theorem dX9_claimOf_53 : decode cX9_claimOf 53 = .ok (.iconst 3, 1) := dk_6 ((dQ_X9_claimOf_3 5).trans dk_j5)
theorem dX9_claimOf_54 : decode cX9_claimOf 54 = .ok (.goto 4, 3) := dk_167 ((dQ_X9_claimOf_3 6).trans dk_j6) ((dQ_X9_claimOf_3 7).trans dk_j7) ((dQ_X9_claimOf_3 8).trans dk_j8) dk_vs2_0_4
theorem dX9_claimOf_57 : decode cX9_claimOf 57 = .ok (.iconst 1, 1) := dk_4 ((dQ_X9_claimOf_3 9).trans dk_j9)
theorem dX9_claimOf_58 : decode cX9_claimOf 58 = .ok (.istore 6, 2) := dk_54 ((dQ_X9_claimOf_3 10).trans dk_j10) ((dQ_X9_claimOf_3 11).trans dk_j11) dk_vu1_6
theorem dX9_claimOf_60 : decode cX9_claimOf 60 = .ok (.iconst 0, 1) := dk_3 ((dQ_X9_claimOf_3 12).trans dk_j12)
theorem dX9_claimOf_61 : decode cX9_claimOf 61 = .ok (.istore 7, 2) := dk_54 ((dQ_X9_claimOf_3 13).trans dk_j13) ((dQ_X9_claimOf_3 14).trans dk_j14) dk_vu1_7
theorem dX9_claimOf_63 : decode cX9_claimOf 63 = .ok (.iload 7, 2) := dk_21 ((dQ_X9_claimOf_3 15).trans dk_j15) ((dQ_X9_claimOf_4 0).trans dk_j0) dk_vu1_7
theorem dX9_claimOf_65 : decode cX9_claimOf 65 = .ok (.iload 6, 2) := dk_21 ((dQ_X9_claimOf_4 1).trans dk_j1) ((dQ_X9_claimOf_4 2).trans dk_j2) dk_vu1_6
theorem dk_vs2_0_116 : Reader.signed 16 ((0x00 : UInt8).toNat * 256 + (0x74 : UInt8).toNat) = (116 : Int) := by decide +kernel
theorem dX9_claimOf_67 : decode cX9_claimOf 67 = .ok (.if_icmp .ge 116, 3) := dk_162 ((dQ_X9_claimOf_4 3).trans dk_j3) ((dQ_X9_claimOf_4 4).trans dk_j4) ((dQ_X9_claimOf_4 5).trans dk_j5) dk_vs2_0_116
theorem dX9_claimOf_70 : decode cX9_claimOf 70 = .ok (.iload 4, 2) := dk_21 ((dQ_X9_claimOf_4 6).trans dk_j6) ((dQ_X9_claimOf_4 7).trans dk_j7) dk_vu1_4
theorem dk_vs2_0_111 : Reader.signed 16 ((0x00 : UInt8).toNat * 256 + (0x6f : UInt8).toNat) = (111 : Int) := by decide +kernel
theorem dX9_claimOf_72 : decode cX9_claimOf 72 = .ok (.ifCond .eq 111, 3) := dk_153 ((dQ_X9_claimOf_4 8).trans dk_j8) ((dQ_X9_claimOf_4 9).trans dk_j9) ((dQ_X9_claimOf_4 10).trans dk_j10) dk_vs2_0_111
theorem dX9_claimOf_75 : decode cX9_claimOf 75 = .ok (.iload 4, 2) := dk_21 ((dQ_X9_claimOf_4 11).trans dk_j11) ((dQ_X9_claimOf_4 12).trans dk_j12) dk_vu1_4
theorem dX9_claimOf_77 : decode cX9_claimOf 77 = .ok (.invokestatic 287, 3) := dk_184 ((dQ_X9_claimOf_4 13).trans dk_j13) ((dQ_X9_claimOf_4 14).trans dk_j14) ((dQ_X9_claimOf_4 15).trans dk_j15) dk_vu2_1_31
theorem dX9_claimOf_80 : decode cX9_claimOf 80 = .ok (.istore 8, 2) := dk_54 ((dQ_X9_claimOf_5 0).trans dk_j0) ((dQ_X9_claimOf_5 1).trans dk_j1) dk_vu1_8
theorem dX9_claimOf_82 : decode cX9_claimOf 82 = .ok (.iload 4, 2) := dk_21 ((dQ_X9_claimOf_5 2).trans dk_j2) ((dQ_X9_claimOf_5 3).trans dk_j3) dk_vu1_4
theorem dX9_claimOf_84 : decode cX9_claimOf 84 = .ok (.iconst 1, 1) := dk_4 ((dQ_X9_claimOf_5 4).trans dk_j4)
theorem dX9_claimOf_85 : decode cX9_claimOf 85 = .ok (.iload 8, 2) := dk_21 ((dQ_X9_claimOf_5 5).trans dk_j5) ((dQ_X9_claimOf_5 6).trans dk_j6) dk_vu1_8
theorem dX9_claimOf_87 : decode cX9_claimOf 87 = .ok (.ishl, 1) := dk_120 ((dQ_X9_claimOf_5 7).trans dk_j7)
theorem dX9_claimOf_88 : decode cX9_claimOf 88 = .ok (.iconst (-1), 1) := dk_2 ((dQ_X9_claimOf_5 8).trans dk_j8)
theorem dX9_claimOf_89 : decode cX9_claimOf 89 = .ok (.ixor, 1) := dk_130 ((dQ_X9_claimOf_5 9).trans dk_j9)
theorem dX9_claimOf_90 : decode cX9_claimOf 90 = .ok (.iand, 1) := dk_126 ((dQ_X9_claimOf_5 10).trans dk_j10)
theorem dX9_claimOf_91 : decode cX9_claimOf 91 = .ok (.istore 4, 2) := dk_54 ((dQ_X9_claimOf_5 11).trans dk_j11) ((dQ_X9_claimOf_5 12).trans dk_j12) dk_vu1_4
theorem dX9_claimOf_93 : decode cX9_claimOf 93 = .ok (.aload_n 0, 1) := dk_42 ((dQ_X9_claimOf_5 13).trans dk_j13)
theorem dX9_claimOf_94 : decode cX9_claimOf 94 = .ok (.getfield 243, 3) := dk_180 ((dQ_X9_claimOf_5 14).trans dk_j14) ((dQ_X9_claimOf_5 15).trans dk_j15) ((dQ_X9_claimOf_6 0).trans dk_j0) dk_vu2_0_243
theorem dX9_claimOf_97 : decode cX9_claimOf 97 = .ok (.iconst 3, 1) := dk_6 ((dQ_X9_claimOf_6 1).trans dk_j1)
theorem dX9_claimOf_98 : decode cX9_claimOf 98 = .ok (.if_icmp .ne 29, 3) := dk_160 ((dQ_X9_claimOf_6 2).trans dk_j2) ((dQ_X9_claimOf_6 3).trans dk_j3) ((dQ_X9_claimOf_6 4).trans dk_j4) dk_vs2_0_29
theorem dX9_claimOf_101 : decode cX9_claimOf 101 = .ok (.aload_n 0, 1) := dk_42 ((dQ_X9_claimOf_6 5).trans dk_j5)
theorem dX9_claimOf_102 : decode cX9_claimOf 102 = .ok (.getfield 37, 3) := dk_180 ((dQ_X9_claimOf_6 6).trans dk_j6) ((dQ_X9_claimOf_6 7).trans dk_j7) ((dQ_X9_claimOf_6 8).trans dk_j8) dk_vu2_0_37
theorem dX9_claimOf_105 : decode cX9_claimOf 105 = .ok (.iload_n 2, 1) := dk_28 ((dQ_X9_claimOf_6 9).trans dk_j9)
theorem dX9_claimOf_106 : decode cX9_claimOf 106 = .ok (.iaload, 1) := dk_46 ((dQ_X9_claimOf_6 10).trans dk_j10)
theorem dX9_claimOf_107 : decode cX9_claimOf 107 = .ok (.aload_n 0, 1) := dk_42 ((dQ_X9_claimOf_6 11).trans dk_j11)
theorem dX9_claimOf_108 : decode cX9_claimOf 108 = .ok (.iload_n 1, 1) := dk_27 ((dQ_X9_claimOf_6 12).trans dk_j12)
theorem dX9_claimOf_109 : decode cX9_claimOf 109 = .ok (.invokevirtual 304, 3) := dk_182 ((dQ_X9_claimOf_6 13).trans dk_j13) ((dQ_X9_claimOf_6 14).trans dk_j14) ((dQ_X9_claimOf_6 15).trans dk_j15) dk_vu2_1_48
theorem dX9_claimOf_112 : decode cX9_claimOf 112 = .ok (.iand, 1) := dk_126 ((dQ_X9_claimOf_7 0).trans dk_j0)
theorem dX9_claimOf_113 : decode cX9_claimOf 113 = .ok (.aload_n 0, 1) := dk_42 ((dQ_X9_claimOf_7 1).trans dk_j1)
theorem dX9_claimOf_114 : decode cX9_claimOf 114 = .ok (.iload 8, 2) := dk_21 ((dQ_X9_claimOf_7 2).trans dk_j2) ((dQ_X9_claimOf_7 3).trans dk_j3) dk_vu1_8
theorem dk_vu2_1_54 : (0x01 : UInt8).toNat * 256 + (0x36 : UInt8).toNat = (310 : Nat) := by decide +kernel
theorem dX9_claimOf_116 : decode cX9_claimOf 116 = .ok (.invokevirtual 310, 3) := dk_182 ((dQ_X9_claimOf_7 4).trans dk_j4) ((dQ_X9_claimOf_7 5).trans dk_j5) ((dQ_X9_claimOf_7 6).trans dk_j6) dk_vu2_1_54
theorem dX9_claimOf_119 : decode cX9_claimOf 119 = .ok (.iand, 1) := dk_126 ((dQ_X9_claimOf_7 7).trans dk_j7)
theorem dX9_claimOf_120 : decode cX9_claimOf 120 = .ok (.ifCond .eq 7, 3) := dk_153 ((dQ_X9_claimOf_7 8).trans dk_j8) ((dQ_X9_claimOf_7 9).trans dk_j9) ((dQ_X9_claimOf_7 10).trans dk_j10) dk_vs2_0_7
theorem dX9_claimOf_123 : decode cX9_claimOf 123 = .ok (.iconst 1, 1) := dk_4 ((dQ_X9_claimOf_7 11).trans dk_j11)
theorem dX9_claimOf_124 : decode cX9_claimOf 124 = .ok (.goto 4, 3) := dk_167 ((dQ_X9_claimOf_7 12).trans dk_j12) ((dQ_X9_claimOf_7 13).trans dk_j13) ((dQ_X9_claimOf_7 14).trans dk_j14) dk_vs2_0_4
theorem dX9_claimOf_127 : decode cX9_claimOf 127 = .ok (.iconst 0, 1) := dk_3 ((dQ_X9_claimOf_7 15).trans dk_j15)
theorem dX9_claimOf_128 : decode cX9_claimOf 128 = .ok (.istore 9, 2) := dk_54 ((dQ_X9_claimOf_8 0).trans dk_j0) ((dQ_X9_claimOf_8 1).trans dk_j1) dk_vu1_9
theorem dX9_claimOf_130 : decode cX9_claimOf 130 = .ok (.iload 9, 2) := dk_21 ((dQ_X9_claimOf_8 2).trans dk_j2) ((dQ_X9_claimOf_8 3).trans dk_j3) dk_vu1_9
theorem dX9_claimOf_132 : decode cX9_claimOf 132 = .ok (.ifCond .eq 14, 3) := dk_153 ((dQ_X9_claimOf_8 4).trans dk_j4) ((dQ_X9_claimOf_8 5).trans dk_j5) ((dQ_X9_claimOf_8 6).trans dk_j6) dk_vs2_0_14
theorem dX9_claimOf_135 : decode cX9_claimOf 135 = .ok (.aload_n 0, 1) := dk_42 ((dQ_X9_claimOf_8 7).trans dk_j7)
theorem dX9_claimOf_136 : decode cX9_claimOf 136 = .ok (.iload_n 1, 1) := dk_27 ((dQ_X9_claimOf_8 8).trans dk_j8)
theorem dX9_claimOf_137 : decode cX9_claimOf 137 = .ok (.iconst 3, 1) := dk_6 ((dQ_X9_claimOf_8 9).trans dk_j9)
theorem dX9_claimOf_138 : decode cX9_claimOf 138 = .ok (.invokevirtual 234, 3) := dk_182 ((dQ_X9_claimOf_8 10).trans dk_j10) ((dQ_X9_claimOf_8 11).trans dk_j11) ((dQ_X9_claimOf_8 12).trans dk_j12) dk_vu2_0_234
theorem dX9_claimOf_141 : decode cX9_claimOf 141 = .ok (.iconst 2, 1) := dk_5 ((dQ_X9_claimOf_8 13).trans dk_j13)
theorem dX9_claimOf_142 : decode cX9_claimOf 142 = .ok (.idiv, 1) := dk_108 ((dQ_X9_claimOf_8 14).trans dk_j14)
theorem dX9_claimOf_143 : decode cX9_claimOf 143 = .ok (.goto 9, 3) := dk_167 ((dQ_X9_claimOf_8 15).trans dk_j15) ((dQ_X9_claimOf_9 0).trans dk_j0) ((dQ_X9_claimOf_9 1).trans dk_j1) dk_vs2_0_9
theorem dX9_claimOf_146 : decode cX9_claimOf 146 = .ok (.aload_n 0, 1) := dk_42 ((dQ_X9_claimOf_9 2).trans dk_j2)
theorem dX9_claimOf_147 : decode cX9_claimOf 147 = .ok (.iload_n 1, 1) := dk_27 ((dQ_X9_claimOf_9 3).trans dk_j3)
theorem dX9_claimOf_148 : decode cX9_claimOf 148 = .ok (.iconst 3, 1) := dk_6 ((dQ_X9_claimOf_9 4).trans dk_j4)
theorem dX9_claimOf_149 : decode cX9_claimOf 149 = .ok (.invokevirtual 234, 3) := dk_182 ((dQ_X9_claimOf_9 5).trans dk_j5) ((dQ_X9_claimOf_9 6).trans dk_j6) ((dQ_X9_claimOf_9 7).trans dk_j7) dk_vu2_0_234
theorem dk_vu1_10 : (0x0a : UInt8).toNat = (10 : Nat) := by decide +kernel
theorem dX9_claimOf_152 : decode cX9_claimOf 152 = .ok (.istore 10, 2) := dk_54 ((dQ_X9_claimOf_9 8).trans dk_j8) ((dQ_X9_claimOf_9 9).trans dk_j9) dk_vu1_10
theorem dX9_claimOf_154 : decode cX9_claimOf 154 = .ok (.iload 5, 2) := dk_21 ((dQ_X9_claimOf_9 10).trans dk_j10) ((dQ_X9_claimOf_9 11).trans dk_j11) dk_vu1_5
theorem dX9_claimOf_156 : decode cX9_claimOf 156 = .ok (.iload 10, 2) := dk_21 ((dQ_X9_claimOf_9 12).trans dk_j12) ((dQ_X9_claimOf_9 13).trans dk_j13) dk_vu1_10
theorem dX9_claimOf_158 : decode cX9_claimOf 158 = .ok (.iadd, 1) := dk_96 ((dQ_X9_claimOf_9 14).trans dk_j14)
theorem dX9_claimOf_159 : decode cX9_claimOf 159 = .ok (.istore 5, 2) := dk_54 ((dQ_X9_claimOf_9 15).trans dk_j15) ((dQ_X9_claimOf_10 0).trans dk_j0) dk_vu1_5
theorem dX9_claimOf_161 : decode cX9_claimOf 161 = .ok (.iload_n 3, 1) := dk_29 ((dQ_X9_claimOf_10 1).trans dk_j1)
theorem dX9_claimOf_162 : decode cX9_claimOf 162 = .ok (.ifCond .eq 15, 3) := dk_153 ((dQ_X9_claimOf_10 2).trans dk_j2) ((dQ_X9_claimOf_10 3).trans dk_j3) ((dQ_X9_claimOf_10 4).trans dk_j4) dk_vs2_0_15
theorem dX9_claimOf_165 : decode cX9_claimOf 165 = .ok (.aload_n 0, 1) := dk_42 ((dQ_X9_claimOf_10 5).trans dk_j5)
theorem dX9_claimOf_166 : decode cX9_claimOf 166 = .ok (.getfield 61, 3) := dk_180 ((dQ_X9_claimOf_10 6).trans dk_j6) ((dQ_X9_claimOf_10 7).trans dk_j7) ((dQ_X9_claimOf_10 8).trans dk_j8) dk_vu2_0_61
theorem dX9_claimOf_169 : decode cX9_claimOf 169 = .ok (.iload 8, 2) := dk_21 ((dQ_X9_claimOf_10 9).trans dk_j9) ((dQ_X9_claimOf_10 10).trans dk_j10) dk_vu1_8
theorem dX9_claimOf_171 : decode cX9_claimOf 171 = .ok (.dup2, 1) := dk_92 ((dQ_X9_claimOf_10 11).trans dk_j11)
theorem dX9_claimOf_172 : decode cX9_claimOf 172 = .ok (.iaload, 1) := dk_46 ((dQ_X9_claimOf_10 12).trans dk_j12)
theorem dX9_claimOf_173 : decode cX9_claimOf 173 = .ok (.iload 10, 2) := dk_21 ((dQ_X9_claimOf_10 13).trans dk_j13) ((dQ_X9_claimOf_10 14).trans dk_j14) dk_vu1_10
theorem dX9_claimOf_175 : decode cX9_claimOf 175 = .ok (.iadd, 1) := dk_96 ((dQ_X9_claimOf_10 15).trans dk_j15)
theorem dX9_claimOf_176 : decode cX9_claimOf 176 = .ok (.iastore, 1) := dk_79 ((dQ_X9_claimOf_11 0).trans dk_j0)
theorem dX9_claimOf_177 : decode cX9_claimOf 177 = .ok (.iinc 7 1, 3) := dk_132 ((dQ_X9_claimOf_11 1).trans dk_j1) ((dQ_X9_claimOf_11 2).trans dk_j2) ((dQ_X9_claimOf_11 3).trans dk_j3) dk_vu1_7 dk_vs1_1
theorem dk_vs2_255_139 : Reader.signed 16 ((0xff : UInt8).toNat * 256 + (0x8b : UInt8).toNat) = (-117 : Int) := by decide +kernel
theorem dX9_claimOf_180 : decode cX9_claimOf 180 = .ok (.goto (-117), 3) := dk_167 ((dQ_X9_claimOf_11 4).trans dk_j4) ((dQ_X9_claimOf_11 5).trans dk_j5) ((dQ_X9_claimOf_11 6).trans dk_j6) dk_vs2_255_139
theorem dX9_claimOf_183 : decode cX9_claimOf 183 = .ok (.iload 5, 2) := dk_21 ((dQ_X9_claimOf_11 7).trans dk_j7) ((dQ_X9_claimOf_11 8).trans dk_j8) dk_vu1_5
theorem dX9_claimOf_185 : decode cX9_claimOf 185 = .ok (.ireturn, 1) := dk_172 ((dQ_X9_claimOf_11 9).trans dk_j9)
def dT_X9_claimOf__0 : List UInt8 := (0x2a : UInt8) :: (0x1b : UInt8) :: (0x2a : UInt8) :: (0x1b : UInt8) :: (0x03 : UInt8) :: (0xb6 : UInt8) :: (0x00 : UInt8) :: (0xea : UInt8) :: (0x03 : UInt8) :: (0xb6 : UInt8) :: (0x01 : UInt8) :: (0x39 : UInt8) :: (0xac : UInt8) :: []
theorem dT_X9_claimOf_ : cX9_claimOf_.data.toList = dT_X9_claimOf__0 := eq_of_beq (show (cX9_claimOf_.data.toList == dT_X9_claimOf__0) = true by decide +kernel)
theorem dQ_X9_claimOf__0 : dQ_P cX9_claimOf_ 0 dT_X9_claimOf__0 := fun i => by rw [dT_X9_claimOf_]; rfl
theorem dX9_claimOf__0 : decode cX9_claimOf_ 0 = .ok (.aload_n 0, 1) := dk_42 ((dQ_X9_claimOf__0 0).trans dk_j0)
theorem dX9_claimOf__1 : decode cX9_claimOf_ 1 = .ok (.iload_n 1, 1) := dk_27 ((dQ_X9_claimOf__0 1).trans dk_j1)
theorem dX9_claimOf__2 : decode cX9_claimOf_ 2 = .ok (.aload_n 0, 1) := dk_42 ((dQ_X9_claimOf__0 2).trans dk_j2)
theorem dX9_claimOf__3 : decode cX9_claimOf_ 3 = .ok (.iload_n 1, 1) := dk_27 ((dQ_X9_claimOf__0 3).trans dk_j3)
theorem dX9_claimOf__4 : decode cX9_claimOf_ 4 = .ok (.iconst 0, 1) := dk_3 ((dQ_X9_claimOf__0 4).trans dk_j4)
theorem dX9_claimOf__5 : decode cX9_claimOf_ 5 = .ok (.invokevirtual 234, 3) := dk_182 ((dQ_X9_claimOf__0 5).trans dk_j5) ((dQ_X9_claimOf__0 6).trans dk_j6) ((dQ_X9_claimOf__0 7).trans dk_j7) dk_vu2_0_234
theorem dX9_claimOf__8 : decode cX9_claimOf_ 8 = .ok (.iconst 0, 1) := dk_3 ((dQ_X9_claimOf__0 8).trans dk_j8)
theorem dk_vu2_1_57 : (0x01 : UInt8).toNat * 256 + (0x39 : UInt8).toNat = (313 : Nat) := by decide +kernel
theorem dX9_claimOf__9 : decode cX9_claimOf_ 9 = .ok (.invokevirtual 313, 3) := dk_182 ((dQ_X9_claimOf__0 9).trans dk_j9) ((dQ_X9_claimOf__0 10).trans dk_j10) ((dQ_X9_claimOf__0 11).trans dk_j11) dk_vu2_1_57
theorem dX9_claimOf__12 : decode cX9_claimOf_ 12 = .ok (.ireturn, 1) := dk_172 ((dQ_X9_claimOf__0 12).trans dk_j12)
def dT_X9_layPaid_3 : List UInt8 := (0x01 : UInt8) :: (0x01 : UInt8) :: (0xa7 : UInt8) :: (0xff : UInt8) :: (0xe5 : UInt8) :: (0xb1 : UInt8) :: []
def dT_X9_layPaid_2 : List UInt8 := (0x00 : UInt8) :: (0x16 : UInt8) :: (0x2a : UInt8) :: (0x1b : UInt8) :: (0x2a : UInt8) :: (0x1b : UInt8) :: (0x03 : UInt8) :: (0xb6 : UInt8) :: (0x00 : UInt8) :: (0xea : UInt8) :: (0x04 : UInt8) :: (0xb6 : UInt8) :: (0x01 : UInt8) :: (0x39 : UInt8) :: (0x57 : UInt8) :: (0x84 : UInt8) :: dT_X9_layPaid_3
def dT_X9_layPaid_1 : List UInt8 := (0x01 : UInt8) :: (0x01 : UInt8) :: (0xa7 : UInt8) :: (0xff : UInt8) :: (0xf0 : UInt8) :: (0x03 : UInt8) :: (0x3c : UInt8) :: (0x1b : UInt8) :: (0x2a : UInt8) :: (0xb4 : UInt8) :: (0x00 : UInt8) :: (0x09 : UInt8) :: (0x10 : UInt8) :: (0x08 : UInt8) :: (0x2e : UInt8) :: (0xa2 : UInt8) :: dT_X9_layPaid_2
def dT_X9_layPaid_0 : List UInt8 := (0x03 : UInt8) :: (0x3c : UInt8) :: (0x1b : UInt8) :: (0x10 : UInt8) :: (0x1e : UInt8) :: (0xa2 : UInt8) :: (0x00 : UInt8) :: (0x10 : UInt8) :: (0x2a : UInt8) :: (0xb4 : UInt8) :: (0x00 : UInt8) :: (0x3d : UInt8) :: (0x1b : UInt8) :: (0x03 : UInt8) :: (0x4f : UInt8) :: (0x84 : UInt8) :: dT_X9_layPaid_1
theorem dT_X9_layPaid : cX9_layPaid.data.toList = dT_X9_layPaid_0 := eq_of_beq (show (cX9_layPaid.data.toList == dT_X9_layPaid_0) = true by decide +kernel)
theorem dQ_X9_layPaid_0 : dQ_P cX9_layPaid 0 dT_X9_layPaid_0 := fun i => by rw [dT_X9_layPaid]; rfl
theorem dQ_X9_layPaid_1 : dQ_P cX9_layPaid 16 dT_X9_layPaid_1 := fun i => (dQ_X9_layPaid_0 (i + 16)).trans dk_t
theorem dQ_X9_layPaid_2 : dQ_P cX9_layPaid 32 dT_X9_layPaid_2 := fun i => (dQ_X9_layPaid_1 (i + 16)).trans dk_t
theorem dQ_X9_layPaid_3 : dQ_P cX9_layPaid 48 dT_X9_layPaid_3 := fun i => (dQ_X9_layPaid_2 (i + 16)).trans dk_t
theorem dX9_layPaid_0 : decode cX9_layPaid 0 = .ok (.iconst 0, 1) := dk_3 ((dQ_X9_layPaid_0 0).trans dk_j0)
theorem dX9_layPaid_1 : decode cX9_layPaid 1 = .ok (.istore_n 1, 1) := dk_60 ((dQ_X9_layPaid_0 1).trans dk_j1)
theorem dX9_layPaid_2 : decode cX9_layPaid 2 = .ok (.iload_n 1, 1) := dk_27 ((dQ_X9_layPaid_0 2).trans dk_j2)
theorem dX9_layPaid_3 : decode cX9_layPaid 3 = .ok (.bipush 30, 2) := dk_16 ((dQ_X9_layPaid_0 3).trans dk_j3) ((dQ_X9_layPaid_0 4).trans dk_j4) dk_vs1_30
theorem dX9_layPaid_5 : decode cX9_layPaid 5 = .ok (.if_icmp .ge 16, 3) := dk_162 ((dQ_X9_layPaid_0 5).trans dk_j5) ((dQ_X9_layPaid_0 6).trans dk_j6) ((dQ_X9_layPaid_0 7).trans dk_j7) dk_vs2_0_16
theorem dX9_layPaid_8 : decode cX9_layPaid 8 = .ok (.aload_n 0, 1) := dk_42 ((dQ_X9_layPaid_0 8).trans dk_j8)
theorem dX9_layPaid_9 : decode cX9_layPaid 9 = .ok (.getfield 61, 3) := dk_180 ((dQ_X9_layPaid_0 9).trans dk_j9) ((dQ_X9_layPaid_0 10).trans dk_j10) ((dQ_X9_layPaid_0 11).trans dk_j11) dk_vu2_0_61
theorem dX9_layPaid_12 : decode cX9_layPaid 12 = .ok (.iload_n 1, 1) := dk_27 ((dQ_X9_layPaid_0 12).trans dk_j12)
theorem dX9_layPaid_13 : decode cX9_layPaid 13 = .ok (.iconst 0, 1) := dk_3 ((dQ_X9_layPaid_0 13).trans dk_j13)
theorem dX9_layPaid_14 : decode cX9_layPaid 14 = .ok (.iastore, 1) := dk_79 ((dQ_X9_layPaid_0 14).trans dk_j14)
theorem dX9_layPaid_15 : decode cX9_layPaid 15 = .ok (.iinc 1 1, 3) := dk_132 ((dQ_X9_layPaid_0 15).trans dk_j15) ((dQ_X9_layPaid_1 0).trans dk_j0) ((dQ_X9_layPaid_1 1).trans dk_j1) dk_vu1_1 dk_vs1_1
theorem dX9_layPaid_18 : decode cX9_layPaid 18 = .ok (.goto (-16), 3) := dk_167 ((dQ_X9_layPaid_1 2).trans dk_j2) ((dQ_X9_layPaid_1 3).trans dk_j3) ((dQ_X9_layPaid_1 4).trans dk_j4) dk_vs2_255_240
theorem dX9_layPaid_21 : decode cX9_layPaid 21 = .ok (.iconst 0, 1) := dk_3 ((dQ_X9_layPaid_1 5).trans dk_j5)
theorem dX9_layPaid_22 : decode cX9_layPaid 22 = .ok (.istore_n 1, 1) := dk_60 ((dQ_X9_layPaid_1 6).trans dk_j6)
theorem dX9_layPaid_23 : decode cX9_layPaid 23 = .ok (.iload_n 1, 1) := dk_27 ((dQ_X9_layPaid_1 7).trans dk_j7)
theorem dX9_layPaid_24 : decode cX9_layPaid 24 = .ok (.aload_n 0, 1) := dk_42 ((dQ_X9_layPaid_1 8).trans dk_j8)
theorem dX9_layPaid_25 : decode cX9_layPaid 25 = .ok (.getfield 9, 3) := dk_180 ((dQ_X9_layPaid_1 9).trans dk_j9) ((dQ_X9_layPaid_1 10).trans dk_j10) ((dQ_X9_layPaid_1 11).trans dk_j11) dk_vu2_0_9
theorem dX9_layPaid_28 : decode cX9_layPaid 28 = .ok (.bipush 8, 2) := dk_16 ((dQ_X9_layPaid_1 12).trans dk_j12) ((dQ_X9_layPaid_1 13).trans dk_j13) dk_vs1_8
theorem dX9_layPaid_30 : decode cX9_layPaid 30 = .ok (.iaload, 1) := dk_46 ((dQ_X9_layPaid_1 14).trans dk_j14)
theorem dX9_layPaid_31 : decode cX9_layPaid 31 = .ok (.if_icmp .ge 22, 3) := dk_162 ((dQ_X9_layPaid_1 15).trans dk_j15) ((dQ_X9_layPaid_2 0).trans dk_j0) ((dQ_X9_layPaid_2 1).trans dk_j1) dk_vs2_0_22
theorem dX9_layPaid_34 : decode cX9_layPaid 34 = .ok (.aload_n 0, 1) := dk_42 ((dQ_X9_layPaid_2 2).trans dk_j2)
theorem dX9_layPaid_35 : decode cX9_layPaid 35 = .ok (.iload_n 1, 1) := dk_27 ((dQ_X9_layPaid_2 3).trans dk_j3)
theorem dX9_layPaid_36 : decode cX9_layPaid 36 = .ok (.aload_n 0, 1) := dk_42 ((dQ_X9_layPaid_2 4).trans dk_j4)
theorem dX9_layPaid_37 : decode cX9_layPaid 37 = .ok (.iload_n 1, 1) := dk_27 ((dQ_X9_layPaid_2 5).trans dk_j5)
theorem dX9_layPaid_38 : decode cX9_layPaid 38 = .ok (.iconst 0, 1) := dk_3 ((dQ_X9_layPaid_2 6).trans dk_j6)
theorem dX9_layPaid_39 : decode cX9_layPaid 39 = .ok (.invokevirtual 234, 3) := dk_182 ((dQ_X9_layPaid_2 7).trans dk_j7) ((dQ_X9_layPaid_2 8).trans dk_j8) ((dQ_X9_layPaid_2 9).trans dk_j9) dk_vu2_0_234
theorem dX9_layPaid_42 : decode cX9_layPaid 42 = .ok (.iconst 1, 1) := dk_4 ((dQ_X9_layPaid_2 10).trans dk_j10)
theorem dX9_layPaid_43 : decode cX9_layPaid 43 = .ok (.invokevirtual 313, 3) := dk_182 ((dQ_X9_layPaid_2 11).trans dk_j11) ((dQ_X9_layPaid_2 12).trans dk_j12) ((dQ_X9_layPaid_2 13).trans dk_j13) dk_vu2_1_57
theorem dX9_layPaid_46 : decode cX9_layPaid 46 = .ok (.pop, 1) := dk_87 ((dQ_X9_layPaid_2 14).trans dk_j14)
theorem dX9_layPaid_47 : decode cX9_layPaid 47 = .ok (.iinc 1 1, 3) := dk_132 ((dQ_X9_layPaid_2 15).trans dk_j15) ((dQ_X9_layPaid_3 0).trans dk_j0) ((dQ_X9_layPaid_3 1).trans dk_j1) dk_vu1_1 dk_vs1_1
theorem dX9_layPaid_50 : decode cX9_layPaid 50 = .ok (.goto (-27), 3) := dk_167 ((dQ_X9_layPaid_3 2).trans dk_j2) ((dQ_X9_layPaid_3 3).trans dk_j3) ((dQ_X9_layPaid_3 4).trans dk_j4) dk_vs2_255_229
theorem dX9_layPaid_53 : decode cX9_layPaid 53 = .ok (.return_, 1) := dk_177 ((dQ_X9_layPaid_3 5).trans dk_j5)
def dT_X9_moneyAt_3 : List UInt8 := (0x3d : UInt8) :: (0x84 : UInt8) :: (0x03 : UInt8) :: (0x01 : UInt8) :: (0xa7 : UInt8) :: (0xff : UInt8) :: (0xef : UInt8) :: (0x1c : UInt8) :: (0xac : UInt8) :: []
def dT_X9_moneyAt_2 : List UInt8 := (0xe9 : UInt8) :: (0x03 : UInt8) :: (0x3e : UInt8) :: (0x1d : UInt8) :: (0x1b : UInt8) :: (0xa3 : UInt8) :: (0x00 : UInt8) :: (0x12 : UInt8) :: (0x1c : UInt8) :: (0x2a : UInt8) :: (0xb4 : UInt8) :: (0x00 : UInt8) :: (0x3d : UInt8) :: (0x1d : UInt8) :: (0x2e : UInt8) :: (0x64 : UInt8) :: dT_X9_moneyAt_3
def dT_X9_moneyAt_1 : List UInt8 := (0x00 : UInt8) :: (0x12 : UInt8) :: (0x1c : UInt8) :: (0x2a : UInt8) :: (0x1d : UInt8) :: (0x07 : UInt8) :: (0xb6 : UInt8) :: (0x00 : UInt8) :: (0xea : UInt8) :: (0x60 : UInt8) :: (0x3d : UInt8) :: (0x84 : UInt8) :: (0x03 : UInt8) :: (0x01 : UInt8) :: (0xa7 : UInt8) :: (0xff : UInt8) :: dT_X9_moneyAt_2
def dT_X9_moneyAt_0 : List UInt8 := (0x2a : UInt8) :: (0xb4 : UInt8) :: (0x00 : UInt8) :: (0xf6 : UInt8) :: (0x3d : UInt8) :: (0x03 : UInt8) :: (0x3e : UInt8) :: (0x1d : UInt8) :: (0x2a : UInt8) :: (0xb4 : UInt8) :: (0x00 : UInt8) :: (0x09 : UInt8) :: (0x10 : UInt8) :: (0x08 : UInt8) :: (0x2e : UInt8) :: (0xa2 : UInt8) :: dT_X9_moneyAt_1
theorem dT_X9_moneyAt : cX9_moneyAt.data.toList = dT_X9_moneyAt_0 := eq_of_beq (show (cX9_moneyAt.data.toList == dT_X9_moneyAt_0) = true by decide +kernel)
theorem dQ_X9_moneyAt_0 : dQ_P cX9_moneyAt 0 dT_X9_moneyAt_0 := fun i => by rw [dT_X9_moneyAt]; rfl
theorem dQ_X9_moneyAt_1 : dQ_P cX9_moneyAt 16 dT_X9_moneyAt_1 := fun i => (dQ_X9_moneyAt_0 (i + 16)).trans dk_t
theorem dQ_X9_moneyAt_2 : dQ_P cX9_moneyAt 32 dT_X9_moneyAt_2 := fun i => (dQ_X9_moneyAt_1 (i + 16)).trans dk_t
theorem dQ_X9_moneyAt_3 : dQ_P cX9_moneyAt 48 dT_X9_moneyAt_3 := fun i => (dQ_X9_moneyAt_2 (i + 16)).trans dk_t
theorem dX9_moneyAt_0 : decode cX9_moneyAt 0 = .ok (.aload_n 0, 1) := dk_42 ((dQ_X9_moneyAt_0 0).trans dk_j0)
end
