/-- class and reference go step by step (open) -/
theorem sn_pure : ∃ J : sn_S → sn_S → Prop, J sn_iniX8 sn_iniX9 ∧ st_all J := sorry
