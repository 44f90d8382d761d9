/-! the first part names what lies in the rest of the library, so that every round is read over the whole of it from its beginning -/
theorem sn_wide (c : ClassId) (N h0 : Nat) : Jvm.Free.Multi.outerC c N h0 0 = { cls := c, slots := Array.replicate N .null, vm := .none } := rfl
