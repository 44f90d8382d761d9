/-! every call keeps what the two have in common -/
theorem zz_0 : st_0 zj_J zj_J := by
  intro σ τ a0 a1 a2 a3 a4 hJ
  obtain ⟨r, σ1, τ1, e1, e2, h⟩ := zj_0 σ τ a0 a1 a2 a3 a4 hJ
  exact ⟨r, σ1, τ1, e1, e2, h⟩
theorem zz_1 : st_1 zj_J zj_J := by
  intro σ τ a0 hJ
  obtain ⟨r, σ1, τ1, e1, e2, h⟩ := zj_1 σ τ a0 hJ
  exact ⟨r, r, σ1, τ1, e1, e2, h⟩
theorem zz_2 : st_2 zj_J zj_J := by
  intro σ τ hJ
  exact zj_2 σ τ hJ
theorem zz_3 : st_3 zj_J zj_J := by
  intro σ τ a0 hJ
  obtain ⟨r, e1, h1⟩ := zc_1 (zs_rf (key := zs_kC) (kl := zs_lC) hJ.1) (x1 := a0)
  obtain ⟨r2, e2, h2⟩ := zc_2 (zs_rf (key := zs_kM) (kl := zs_lM) hJ.2.1) (x1 := a0)
  exact ⟨r, r2, e1, e2, zj_keep (zs_rf hJ.1) (zs_rf hJ.2.1) hJ⟩
theorem zz_4 : st_4 zj_J zj_J := by
  intro σ τ a0 a1 hJ
  obtain ⟨r, e1, h1⟩ := zc_4 (zs_rf (key := zs_kC) (kl := zs_lC) hJ.1) (x1 := a0) (x2 := a1)
  obtain ⟨r2, e2, h2⟩ := zc_8 (zs_rf (key := zs_kM) (kl := zs_lM) hJ.2.1) (x1 := a0) (x2 := a1)
  exact ⟨r, r2, e1, e2, zj_keep (zs_rf hJ.1) (zs_rf hJ.2.1) hJ⟩
theorem zz_5 : st_5 zj_J zj_J := by
  intro σ τ a0 a1 hJ
  obtain ⟨r, e1, h1⟩ := zc_10 (zs_rf (key := zs_kC) (kl := zs_lC) hJ.1) (x1 := a0) (x2 := a1)
  obtain ⟨r2, e2, h2⟩ := zc_14 (zs_rf (key := zs_kM) (kl := zs_lM) hJ.2.1) (x1 := a0) (x2 := a1)
  exact ⟨r, r2, e1, e2, zj_keep (zs_rf hJ.1) (zs_rf hJ.2.1) hJ⟩
theorem zz_6 : st_6 zj_J zj_J := by
  intro σ τ a0 hJ
  obtain ⟨r, e1, h1⟩ := zc_20 (zs_rf (key := zs_kC) (kl := zs_lC) hJ.1) (x1 := a0)
  obtain ⟨r2, e2, h2⟩ := zc_43 (zs_rf (key := zs_kM) (kl := zs_lM) hJ.2.1) (x1 := a0)
  exact ⟨r, r2.1, r2.2, e1, e2, zj_keep (zs_rf hJ.1) (h2.1.2) hJ⟩
theorem zz_7 : st_7 zj_J zj_J := by
  intro σ τ a0 hJ
  obtain ⟨r, e1, h1⟩ := zc_45 (zs_rf (key := zs_kC) (kl := zs_lC) hJ.1) (x1 := a0)
  obtain ⟨r2, e2, h2⟩ := zc_96 (zs_rf (key := zs_kM) (kl := zs_lM) hJ.2.1) (x1 := a0)
  exact ⟨r, r2.1, r2.2, e1, e2, zj_keep (zs_rf hJ.1) (h2.1.2) hJ⟩
theorem zz_8 : st_8 zj_J zj_J := by
  intro σ τ a0 hJ
  obtain ⟨r, e1, h1⟩ := zc_97 (zs_rf (key := zs_kC) (kl := zs_lC) hJ.1) (x1 := a0)
  obtain ⟨r2, e2, h2⟩ := zc_99 (zs_rf (key := zs_kM) (kl := zs_lM) hJ.2.1) (x1 := a0)
  exact ⟨r, r2.1, r2.2, e1, e2, zj_keep (zs_rf hJ.1) (h2.1.2) hJ⟩
theorem zz_9 : st_9 zj_J zj_J := by
  intro σ τ a0 hJ
  obtain ⟨r, e1, h1⟩ := zc_100 (zs_rf (key := zs_kC) (kl := zs_lC) hJ.1) (x1 := a0)
  obtain ⟨r2, e2, h2⟩ := zc_101 (zs_rf (key := zs_kM) (kl := zs_lM) hJ.2.1) (x1 := a0)
  exact ⟨r, r2.1, r2.2, e1, e2, zj_keep (zs_rf hJ.1) (h2.1.2) hJ⟩
theorem zz_10 : st_10 zj_J zj_J := by
  intro σ τ hJ
  obtain ⟨r, e1, h1⟩ := zc_106 (zs_rf (key := zs_kC) (kl := zs_lC) hJ.1) 
  obtain ⟨r2, e2, h2⟩ := zc_113 (zs_rf (key := zs_kM) (kl := zs_lM) hJ.2.1) 
  exact ⟨r, r2.1, r2.2, e1, e2, zj_keep (zs_rf hJ.1) (h2.2) hJ⟩
theorem zz_11 : st_11 zj_J zj_J := by
  intro σ τ a0 hJ
  obtain ⟨r, e1, h1⟩ := zc_114 (zs_rf (key := zs_kC) (kl := zs_lC) hJ.1) (x1 := a0)
  obtain ⟨r2, e2, h2⟩ := zc_115 (zs_rf (key := zs_kM) (kl := zs_lM) hJ.2.1) (x1 := a0)
  exact ⟨r, r2.1, r2.2, e1, e2, zj_keep (zs_rf hJ.1) (h2.1.2) hJ⟩
theorem zz_12 : st_12 zj_J zj_J := by
  intro σ τ a0 a1 hJ
  obtain ⟨r, e1, h1⟩ := zc_117 (zs_rf (key := zs_kC) (kl := zs_lC) hJ.1) (x1 := a0) (x2 := a1)
  obtain ⟨r2, e2, h2⟩ := zc_118 (zs_rf (key := zs_kM) (kl := zs_lM) hJ.2.1) (x1 := a0) (x2 := a1)
  exact ⟨r, r2.1, r2.2, e1, e2, zj_keep (zs_rf hJ.1) (h2.1.2) hJ⟩
theorem zz_13 : st_13 zj_J zj_J := by
  intro σ τ a0 hJ
  obtain ⟨r, e1, h1⟩ := zc_121 (zs_rf (key := zs_kC) (kl := zs_lC) hJ.1) (x1 := a0)
  obtain ⟨r2, e2, h2⟩ := zc_124 (zs_rf (key := zs_kM) (kl := zs_lM) hJ.2.1) (x1 := a0)
  exact ⟨r, r2.1, r2.2, e1, e2, zj_keep (zs_rf hJ.1) (h2.1.2) hJ⟩
theorem zz_14 : st_14 zj_J zj_J := by
  intro σ τ a0 hJ
  obtain ⟨r, e1, h1⟩ := zc_128 (zs_rf (key := zs_kC) (kl := zs_lC) hJ.1) (x1 := a0)
  obtain ⟨r2, e2, h2⟩ := zc_129 (zs_rf (key := zs_kM) (kl := zs_lM) hJ.2.1) (x1 := a0)
  exact ⟨r, r2.1, r2.2, e1, e2, zj_keep (zs_rf hJ.1) (h2.1.2) hJ⟩
theorem zz_15 : st_15 zj_J zj_J := by
  intro σ τ a0 hJ
  obtain ⟨r, e1, h1⟩ := zc_130 (zs_rf (key := zs_kC) (kl := zs_lC) hJ.1) (x1 := a0)
  obtain ⟨r2, e2, h2⟩ := zc_136 (zs_rf (key := zs_kM) (kl := zs_lM) hJ.2.1) (x1 := a0)
  exact ⟨r, r2.1, r2.2, e1, e2, zj_keep (zs_rf hJ.1) (h2.1.2) hJ⟩
theorem zz_16 : st_16 zj_J zj_J := by
  intro σ τ hJ
  obtain ⟨r, e1, h1⟩ := zc_141 (zs_rf (key := zs_kC) (kl := zs_lC) hJ.1) 
  obtain ⟨r2, e2, h2⟩ := zc_146 (zs_rf (key := zs_kM) (kl := zs_lM) hJ.2.1) 
  exact ⟨r, r2.1, r2.2, e1, e2, zj_keep (zs_rf hJ.1) (h2.2) hJ⟩
theorem zz_17 : st_17 zj_J zj_J := by
  intro σ τ hJ
  obtain ⟨r, e1, h1⟩ := zc_149 (zs_rf (key := zs_kC) (kl := zs_lC) hJ.1) 
  obtain ⟨r2, e2, h2⟩ := zc_154 (zs_rf (key := zs_kM) (kl := zs_lM) hJ.2.1) 
  exact ⟨r, r2.1, r2.2, e1, e2, zj_keep (zs_rf hJ.1) (h2.2) hJ⟩
theorem zz_18 : st_18 zj_J zj_J := by
  intro σ τ hJ
  obtain ⟨r, e1, h1⟩ := zc_159 (zs_rf (key := zs_kC) (kl := zs_lC) hJ.1) 
  obtain ⟨r2, e2, h2⟩ := zc_164 (zs_rf (key := zs_kM) (kl := zs_lM) hJ.2.1) 
  exact ⟨r, r2.1, r2.2, e1, e2, zj_keep (zs_rf hJ.1) (h2.2) hJ⟩
theorem zz_19 : st_19 zj_J zj_J := by
  intro σ τ a0 hJ
  obtain ⟨r, e1, h1⟩ := zc_176 (zs_rf (key := zs_kC) (kl := zs_lC) hJ.1) (x1 := a0)
  obtain ⟨r2, e2, h2⟩ := zc_186 (zs_rf (key := zs_kM) (kl := zs_lM) hJ.2.1) (x1 := a0)
  exact ⟨r, r2.1, r2.2, e1, e2, zj_keep (zs_rf hJ.1) (h2.1.2) hJ⟩
theorem zz_20 : st_20 zj_J zj_J := by
  intro σ τ a0 a1 hJ
  obtain ⟨r, e1, h1⟩ := zc_188 (zs_rf (key := zs_kC) (kl := zs_lC) hJ.1) (x1 := a0) (x2 := a1)
  obtain ⟨r2, e2, h2⟩ := zc_191 (zs_rf (key := zs_kM) (kl := zs_lM) hJ.2.1) (x1 := a0) (x2 := a1)
  exact ⟨r, r2.1, r2.2, e1, e2, zj_keep (zs_rf hJ.1) (h2.1.2) hJ⟩
theorem zz_21 : st_21 zj_J zj_J := by
  intro σ τ a0 hJ
  obtain ⟨r, e1, h1⟩ := zc_199 (zs_rf (key := zs_kC) (kl := zs_lC) hJ.1) (x1 := a0)
  obtain ⟨r2, e2, h2⟩ := zc_211 (zs_rf (key := zs_kM) (kl := zs_lM) hJ.2.1) (x1 := a0)
  exact ⟨r, r2.1, r2.2, e1, e2, zj_keep (zs_rf hJ.1) (h2.1.2) hJ⟩
theorem zz_22 : st_22 zj_J zj_J := by
  intro σ τ hJ
  obtain ⟨r, e1, h1⟩ := zc_215 (zs_rf (key := zs_kC) (kl := zs_lC) hJ.1) 
  obtain ⟨r2, e2, h2⟩ := zc_220 (zs_rf (key := zs_kM) (kl := zs_lM) hJ.2.1) 
  exact ⟨r, r2.1, r2.2, e1, e2, zj_keep (zs_rf hJ.1) (h2.2) hJ⟩
theorem zz_23 : st_23 zj_J zj_J := by
  intro σ τ a0 hJ
  obtain ⟨r, e1, h1⟩ := zc_225 (zs_rf (key := zs_kC) (kl := zs_lC) hJ.1) (x1 := a0)
  obtain ⟨r2, e2, h2⟩ := zc_228 (zs_rf (key := zs_kM) (kl := zs_lM) hJ.2.1) (x1 := a0)
  exact ⟨r, r2.1, r2.2, e1, e2, zj_keep (zs_rf hJ.1) (h2.1.2) hJ⟩
theorem zz_24 : st_24 zj_J zj_J := by
  intro σ τ a0 hJ
  obtain ⟨r, e1, h1⟩ := zc_238 (zs_rf (key := zs_kC) (kl := zs_lC) hJ.1) (x1 := a0)
  obtain ⟨r2, e2, h2⟩ := zc_263 (zs_rf (key := zs_kM) (kl := zs_lM) hJ.2.1) (x1 := a0)
  exact ⟨r.1, r2.1, r.2, r2.2, e1, e2, zj_keep (zs_c0 h1.2) (h2.2) hJ⟩
theorem zz_25 : st_25 zj_J zj_J := by
  intro σ τ hJ
  obtain ⟨r, e1, h1⟩ := zc_276 (zs_rf (key := zs_kC) (kl := zs_lC) hJ.1) 
  obtain ⟨r2, e2, h2⟩ := zc_313 (zs_rf (key := zs_kM) (kl := zs_lM) hJ.2.1) 
  exact ⟨r.1, r2.1, r.2, r2.2, e1, e2, zj_keep (zs_c0 h1.2) (h2.2) hJ⟩
theorem zz_26 : st_26 zj_J zj_J := by
  intro σ τ a0 hJ
  obtain ⟨r, e1, h1⟩ := zc_353 (zs_rf (key := zs_kC) (kl := zs_lC) hJ.1) (x1 := a0)
  obtain ⟨r2, e2, h2⟩ := zc_362 (zs_rf (key := zs_kM) (kl := zs_lM) hJ.2.1) (x1 := a0)
  exact ⟨r.1, r2.1, r.2, r2.2, e1, e2, zj_keep (zs_c0 h1.1.2) (h2.1.2) hJ⟩
theorem zz_27 : st_27 zj_J zj_J := by
  intro σ τ a0 hJ
  obtain ⟨r, e1, h1⟩ := zc_367 (zs_rf (key := zs_kC) (kl := zs_lC) hJ.1) (x1 := a0)
  obtain ⟨r2, e2, h2⟩ := zc_376 (zs_rf (key := zs_kM) (kl := zs_lM) hJ.2.1) (x1 := a0)
  exact ⟨r.1, r2.1, r.2, r2.2, e1, e2, zj_keep (zs_c0 h1.1.2) (h2.1.2) hJ⟩
theorem zz_28 : st_28 zj_J zj_J := by
  intro σ τ hJ
  obtain ⟨r, e1, h1⟩ := zc_384 (zs_rf (key := zs_kC) (kl := zs_lC) hJ.1) 
  obtain ⟨r2, e2, h2⟩ := zc_393 (zs_rf (key := zs_kM) (kl := zs_lM) hJ.2.1) 
  exact ⟨r.1, r2.1, r.2, r2.2, e1, e2, zj_keep (zs_c0 h1.2) (h2.2) hJ⟩
theorem zz_29 : st_29 zj_J zj_J := by
  intro σ τ a0 hJ
  obtain ⟨r, e1, h1⟩ := zc_397 (zs_rf (key := zs_kC) (kl := zs_lC) hJ.1) (x1 := a0)
  obtain ⟨r2, e2, h2⟩ := zc_405 (zs_rf (key := zs_kM) (kl := zs_lM) hJ.2.1) (x1 := a0)
  exact ⟨r.1, r2.1, r.2, r2.2, e1, e2, zj_keep (zs_c0 h1.1.2) (h2.1.2) hJ⟩
theorem zz_30 : st_30 zj_J zj_J := by
  intro σ τ a0 hJ
  obtain ⟨r, e1, h1⟩ := zc_411 (zs_rf (key := zs_kC) (kl := zs_lC) hJ.1) (x1 := a0)
  obtain ⟨r2, e2, h2⟩ := zc_424 (zs_rf (key := zs_kM) (kl := zs_lM) hJ.2.1) (x1 := a0)
  exact ⟨r, r2.1, r2.2, e1, e2, zj_keep (zs_rf hJ.1) (h2.1.2) hJ⟩
theorem zz_31 : st_31 zj_J zj_J := by
  intro σ τ a0 hJ
  obtain ⟨r, e1, h1⟩ := zc_425 (zs_rf (key := zs_kC) (kl := zs_lC) hJ.1) (x1 := a0)
  obtain ⟨r2, e2, h2⟩ := zc_426 (zs_rf (key := zs_kM) (kl := zs_lM) hJ.2.1) (x1 := a0)
  exact ⟨r.1, r2.1, r.2, r2.2, e1, e2, zj_keep (zs_c0 h1.1.2) (h2.1.2) hJ⟩
theorem zz_32 : st_32 zj_J zj_J := by
  intro σ τ a0 hJ
  obtain ⟨r, e1, h1⟩ := zc_427 (zs_rf (key := zs_kC) (kl := zs_lC) hJ.1) (x1 := a0)
  obtain ⟨r2, e2, h2⟩ := zc_428 (zs_rf (key := zs_kM) (kl := zs_lM) hJ.2.1) (x1 := a0)
  exact ⟨r.1, r2.1, r.2, r2.2, e1, e2, zj_keep (zs_c0 h1.1.2) (h2.1.2) hJ⟩
theorem zz_33 : st_33 zj_J zj_J := by
  intro σ τ hJ
  obtain ⟨r, e1, h1⟩ := zc_432 (zs_rf (key := zs_kC) (kl := zs_lC) hJ.1) 
  obtain ⟨r2, e2, h2⟩ := zc_437 (zs_rf (key := zs_kM) (kl := zs_lM) hJ.2.1) 
  exact ⟨r.1, r2.1, r.2, r2.2, e1, e2, zj_keep (zs_c0 h1.2) (h2.2) hJ⟩
theorem zz_34 : st_34 zj_J zj_J := by
  intro σ τ a0 hJ
  obtain ⟨r, e1, h1⟩ := zc_438 (zs_rf (key := zs_kC) (kl := zs_lC) hJ.1) (x1 := a0)
  obtain ⟨r2, e2, h2⟩ := zc_439 (zs_rf (key := zs_kM) (kl := zs_lM) hJ.2.1) (x1 := a0)
  exact ⟨r.1, r2.1, r.2, r2.2, e1, e2, zj_keep (zs_c0 h1.2) (h2.2) hJ⟩
theorem zz_35 : st_35 zj_J zj_J := by
  intro σ τ hJ
  obtain ⟨r, e1, h1⟩ := zc_443 (zs_rf (key := zs_kC) (kl := zs_lC) hJ.1) 
  obtain ⟨r2, e2, h2⟩ := zc_447 (zs_rf (key := zs_kM) (kl := zs_lM) hJ.2.1) 
  exact ⟨r.1, r2.1, r.2, r2.2, e1, e2, zj_keep (zs_c0 h1.2) (h2.2) hJ⟩
theorem zz_36 : st_36 zj_J zj_J := by
  intro σ τ hJ
  obtain ⟨r, e1, h1⟩ := zc_452 (zs_rf (key := zs_kC) (kl := zs_lC) hJ.1) 
  obtain ⟨r2, e2, h2⟩ := zc_457 (zs_rf (key := zs_kM) (kl := zs_lM) hJ.2.1) 
  exact ⟨r.1, r2.1, r.2, r2.2, e1, e2, zj_keep (zs_c0 h1.2) (h2.2) hJ⟩
theorem zz_37 : st_37 zj_J zj_J := by
  intro σ τ hJ
  obtain ⟨r, e1, h1⟩ := zc_461 (zs_rf (key := zs_kC) (kl := zs_lC) hJ.1) 
  obtain ⟨r2, e2, h2⟩ := zh_reserve (zs_rf (key := zs_kM) (kl := zs_lM) hJ.2.1)
  exact ⟨r.1, r2.1, r.2, r2.2, e1, e2, zj_keep (zs_c0 h1.2) (h2) hJ⟩
theorem zz_38 : st_38 zj_J zj_J := by
  intro σ τ a0 hJ
  obtain ⟨r, e1, h1⟩ := zc_464 (zs_rf (key := zs_kC) (kl := zs_lC) hJ.1) (x1 := a0)
  obtain ⟨r2, e2, h2⟩ := zc_473 (zs_rf (key := zs_kM) (kl := zs_lM) hJ.2.1) (x1 := a0)
  exact ⟨r.1, r2.1, r.2, r2.2, e1, e2, zj_keep (zs_c0 h1.2) (h2.2) hJ⟩
theorem zz_39 : st_39 zj_J zj_J := by
  intro σ τ hJ
  obtain ⟨r, e1, h1⟩ := zc_484 (zs_rf (key := zs_kC) (kl := zs_lC) hJ.1) 
  obtain ⟨r2, e2, h2⟩ := zc_490 (zs_rf (key := zs_kM) (kl := zs_lM) hJ.2.1) 
  exact ⟨r.1, r2.1, r.2, r2.2, e1, e2, zj_keep (zs_c0 h1.2) (h2.2) hJ⟩
theorem zz_40 : st_40 zj_J zj_J := by
  intro σ τ a0 hJ
  obtain ⟨r, e1, h1⟩ := zc_498 (zs_rf (key := zs_kC) (kl := zs_lC) hJ.1) (x1 := a0)
  obtain ⟨r2, e2, h2⟩ := zc_505 (zs_rf (key := zs_kM) (kl := zs_lM) hJ.2.1) (x1 := a0)
  exact ⟨r, r2.1, r2.2, e1, e2, zj_keep (zs_rf hJ.1) (h2.1.2) hJ⟩
theorem zz_41 : st_41 zj_J zj_J := by
  intro σ τ a0 hJ
  obtain ⟨r, e1, h1⟩ := zc_506 (zs_rf (key := zs_kC) (kl := zs_lC) hJ.1) (x1 := a0)
  obtain ⟨r2, e2, h2⟩ := zc_507 (zs_rf (key := zs_kM) (kl := zs_lM) hJ.2.1) (x1 := a0)
  exact ⟨r, r2.1, r2.2, e1, e2, zj_keep (zs_rf hJ.1) (h2.1.2) hJ⟩
theorem zz_42 : st_42 zj_J zj_J := by
  intro σ τ a0 hJ
  obtain ⟨r, e1, h1⟩ := zc_516 (zs_rf (key := zs_kC) (kl := zs_lC) hJ.1) (x1 := a0)
  obtain ⟨r2, e2, h2⟩ := zr_price hJ.2.1 a0
  exact ⟨r, r2.1, r2.2, e1, e2, zj_keep (zs_rf hJ.1) (h2) hJ⟩
theorem zz_43 : st_43 zj_J zj_J := by
  intro σ τ a0 hJ
  obtain ⟨r, e1, h1⟩ := zc_538 (zs_rf (key := zs_kC) (kl := zs_lC) hJ.1) (x1 := a0)
  obtain ⟨r2, e2, h2⟩ := zc_554 (zs_rf (key := zs_kM) (kl := zs_lM) hJ.2.1) (x1 := a0)
  exact ⟨r.1, r2.1, r.2, r2.2, e1, e2, zj_keep (zs_c0 h1.1.2) (h2.1.2) hJ⟩
theorem zz_44 : st_44 zj_J zj_J := by
  intro σ τ a0 hJ
  obtain ⟨r, e1, h1⟩ := zc_556 (zs_rf (key := zs_kC) (kl := zs_lC) hJ.1) (x1 := a0)
  obtain ⟨r2, e2, h2⟩ := zc_557 (zs_rf (key := zs_kM) (kl := zs_lM) hJ.2.1) (x1 := a0)
  exact ⟨r.1, r2.1, r.2, r2.2, e1, e2, zj_keep (zs_c0 h1.1.2) (h2.1.2) hJ⟩
theorem zz_45 : st_45 zj_J zj_J := by
  intro σ τ a0 hJ
  obtain ⟨r, e1, h1⟩ := zc_570 (zs_rf (key := zs_kC) (kl := zs_lC) hJ.1) (x1 := a0)
  obtain ⟨r2, e2, h2⟩ := zc_576 (zs_rf (key := zs_kM) (kl := zs_lM) hJ.2.1) (x1 := a0)
  exact ⟨r.1, r2.1, r.2, r2.2, e1, e2, zj_keep (zs_c0 h1.1.2) (h2.1.2) hJ⟩
theorem zz_46 : st_46 zj_J zj_J := by
  intro σ τ a0 hJ
  obtain ⟨r, e1, h1⟩ := zc_577 (zs_rf (key := zs_kC) (kl := zs_lC) hJ.1) (x1 := a0)
  obtain ⟨r2, e2, h2⟩ := zc_578 (zs_rf (key := zs_kM) (kl := zs_lM) hJ.2.1) (x1 := a0)
  exact ⟨r.1, r2.1, r.2, r2.2, e1, e2, zj_keep (zs_c0 h1.1.2) (h2.1.2) hJ⟩
theorem zz_47 : st_47 zj_J zj_J := by
  intro σ τ a0 hJ
  obtain ⟨r, e1, h1⟩ := zc_606 (zs_rf (key := zs_kC) (kl := zs_lC) hJ.1) (x1 := a0)
  obtain ⟨r2, e2, h2⟩ := zc_1585 (zs_rf (key := zs_kM) (kl := zs_lM) hJ.2.1) (x1 := a0)
  exact ⟨r.1, r2.1, r.2, r2.2, e1, e2, zj_keep (zs_c0 h1.1.2) (h2.2) hJ⟩
theorem zz_48 : st_48 zj_J zj_J := by
  intro σ τ a0 hJ
  obtain ⟨r, e1, h1⟩ := zc_607 (zs_rf (key := zs_kC) (kl := zs_lC) hJ.1) (x1 := a0)
  obtain ⟨r2, e2, h2⟩ := zc_1588 (zs_rf (key := zs_kM) (kl := zs_lM) hJ.2.1) (x1 := a0)
  exact ⟨r.1, r2.1, r.2, r2.2, e1, e2, zj_keep (zs_c0 h1.1.2) (h2.2) hJ⟩
theorem zz_49 : st_49 zj_J zj_J := by
  intro σ τ a0 hJ
  obtain ⟨r, e1, h1⟩ := zc_608 (zs_rf (key := zs_kC) (kl := zs_lC) hJ.1) (x1 := a0)
  obtain ⟨r2, e2, h2⟩ := zc_1589 (zs_rf (key := zs_kM) (kl := zs_lM) hJ.2.1) (x1 := a0)
  exact ⟨r.1, r2.1, r.2, r2.2, e1, e2, zj_keep (zs_c0 h1.1.2) (h2.2) hJ⟩
theorem zz_50 : st_50 zj_J zj_J := by
  intro σ τ a0 hJ
  obtain ⟨r, e1, h1⟩ := zc_617 (zs_rf (key := zs_kC) (kl := zs_lC) hJ.1) (x1 := a0)
  obtain ⟨r2, e2, h2⟩ := zc_1601 (zs_rf (key := zs_kM) (kl := zs_lM) hJ.2.1) (x1 := a0)
  exact ⟨r.1, r2.1, r.2, r2.2, e1, e2, zj_keep (zs_c0 h1.1.2) (h2.2) hJ⟩
theorem zz_51 : st_51 zj_J zj_J := by
  intro σ τ a0 hJ
  obtain ⟨r, e1, h1⟩ := zc_618 (zs_rf (key := zs_kC) (kl := zs_lC) hJ.1) (x1 := a0)
  obtain ⟨r2, e2, h2⟩ := zc_1602 (zs_rf (key := zs_kM) (kl := zs_lM) hJ.2.1) (x1 := a0)
  exact ⟨r.1, r2.1, r.2, r2.2, e1, e2, zj_keep (zs_c0 h1.1.2) (h2.2) hJ⟩
theorem zz_52 : st_52 zj_J zj_J := by
  intro σ τ a0 a1 hJ
  obtain ⟨r, e1, h1⟩ := zc_633 (zs_rf (key := zs_kC) (kl := zs_lC) hJ.1) (x1 := a0) (x2 := a1)
  obtain ⟨r2, e2, h2⟩ := zc_669 (zs_rf (key := zs_kM) (kl := zs_lM) hJ.2.1) (x1 := a0) (x2 := a1)
  exact ⟨r.1, r2.1, r.2, r2.2, e1, e2, zj_keep (zs_c0 h1.1.2) (h2.1.2) hJ⟩
theorem zz_53 : st_53 zj_J zj_J := by
  intro σ τ a0 a1 a2 a3 hJ
  obtain ⟨r, e1, h1⟩ := zc_670 (zs_rf (key := zs_kC) (kl := zs_lC) hJ.1) (x1 := a0) (x2 := a1) (x3 := a2) (x4 := a3)
  obtain ⟨r2, e2, h2⟩ := zc_678 (zs_rf (key := zs_kM) (kl := zs_lM) hJ.2.1) (x1 := a0) (x2 := a1) (x3 := a2) (x4 := a3)
  exact ⟨r.1, r2.1, r.2, r2.2, e1, e2, zj_keep (zs_c0 h1.1.2) (h2.1.2) hJ⟩
theorem zz_54 : st_54 zj_J zj_J := by
  intro σ τ a0 hJ
  obtain ⟨r, e1, h1⟩ := zc_681 (zs_rf (key := zs_kC) (kl := zs_lC) hJ.1) (x1 := a0)
  obtain ⟨r2, e2, h2⟩ := zc_684 (zs_rf (key := zs_kM) (kl := zs_lM) hJ.2.1) (x1 := a0)
  exact ⟨r.1, r2.1, r.2, r2.2, e1, e2, zj_keep (zs_c0 h1.1.2) (h2.1.2) hJ⟩
theorem zz_55 : st_55 zj_J zj_J := by
  intro σ τ hJ
  obtain ⟨r, e1, h1⟩ := zc_689 (zs_rf (key := zs_kC) (kl := zs_lC) hJ.1) 
  obtain ⟨r2, e2, h2⟩ := zc_694 (zs_rf (key := zs_kM) (kl := zs_lM) hJ.2.1) 
  exact ⟨r.1, r2.1, r.2, r2.2, e1, e2, zj_keep (zs_c0 h1.2) (h2.2) hJ⟩
theorem zz_56 : st_56 zj_J zj_J := by
  intro σ τ a0 a1 a2 hJ
  obtain ⟨r, e1, h1⟩ := zc_1139 (zs_rf (key := zs_kC) (kl := zs_lC) hJ.1) (x1 := a0) (x2 := a1) (x3 := a2)
  obtain ⟨r2, e2, h2⟩ := zq_chance hJ.2.1 a0 a1 a2
  exact ⟨r.1, r2.1, r.2, r2.2, e1, e2, zj_keep (zs_c0 h1.1.2) (h2) hJ⟩
theorem zz_57 : st_57 zj_J zj_J := by
  intro σ τ a0 a1 a2 hJ
  obtain ⟨r, e1, h1⟩ := zc_1262 (zs_rf (key := zs_kC) (kl := zs_lC) hJ.1) (x1 := a0) (x2 := a1) (x3 := a2)
  obtain ⟨r2, e2, h2⟩ := zq_fair hJ.2.1 a0 a1 a2
  exact ⟨r.1, r2.1, r.2, r2.2, e1, e2, zj_keep (zs_c0 h1.1.2) (h2) hJ⟩
theorem zz_58 : st_58 zj_J zj_J := by
  intro σ τ a0 a1 hJ
  obtain ⟨r, e1, h1⟩ := zc_1472 (zs_rf (key := zs_kC) (kl := zs_lC) hJ.1) (x1 := a0) (x2 := a1)
  obtain ⟨r2, e2, h2⟩ := zq_risk hJ.2.1 a0 a1
  exact ⟨r.1, r2.1, r.2, r2.2, e1, e2, zj_keep (zs_c0 h1.1.2) (h2) hJ⟩
theorem zz_59 : st_59 zj_J zj_J := by
  intro σ τ a0 a1 hJ
  obtain ⟨r, e1, h1⟩ := zc_1519 (zs_rf (key := zs_kC) (kl := zs_lC) hJ.1) (x1 := a0) (x2 := a1)
  obtain ⟨r2, e2, h2⟩ := zc_1520 (zs_rf (key := zs_kM) (kl := zs_lM) hJ.2.1) (x1 := a0) (x2 := a1)
  exact ⟨r.1, r2.1, r.2, r2.2, e1, e2, zj_keep (zs_c0 h1.1.2) (h2.1.2) hJ⟩
theorem zz_60 : st_60 zj_J zj_J := by
  intro σ τ a0 a1 hJ
  obtain ⟨r, e1, h1⟩ := zc_1522 (zs_rf (key := zs_kC) (kl := zs_lC) hJ.1) (x1 := a0) (x2 := a1)
  obtain ⟨r2, e2, h2⟩ := zc_1523 (zs_rf (key := zs_kM) (kl := zs_lM) hJ.2.1) (x1 := a0) (x2 := a1)
  exact ⟨r.1, r2.1, r.2, r2.2, e1, e2, zj_keep (zs_c0 h1.1.2) (h2.1.2) hJ⟩
theorem zz_61 : st_61 zj_J zj_J := by
  intro σ τ hJ
  obtain ⟨r, e1, h1⟩ := zc_1524 (zs_rf (key := zs_kC) (kl := zs_lC) hJ.1) 
  obtain ⟨r2, e2, h2⟩ := zc_1525 (zs_rf (key := zs_kM) (kl := zs_lM) hJ.2.1) 
  exact ⟨r.1, r2.1, r.2, r2.2, e1, e2, zj_keep (zs_c0 h1.2) (h2.2) hJ⟩
theorem zz_62 : st_62 zj_J zj_J := by
  intro σ τ hJ
  obtain ⟨r, e1, h1⟩ := zc_1526 (zs_rf (key := zs_kC) (kl := zs_lC) hJ.1) 
  obtain ⟨r2, e2, h2⟩ := zc_1527 (zs_rf (key := zs_kM) (kl := zs_lM) hJ.2.1) 
  exact ⟨r.1, r2.1, r.2, r2.2, e1, e2, zj_keep (zs_c0 h1.2) (h2.2) hJ⟩
theorem zz_63 : st_63 zj_J zj_J := by
  intro σ τ a0 a1 hJ
  obtain ⟨r, e1, h1⟩ := zc_1534 (zs_rf (key := zs_kC) (kl := zs_lC) hJ.1) (x1 := a0) (x2 := a1)
  obtain ⟨r2, e2, h2⟩ := zc_1542 (zs_rf (key := zs_kM) (kl := zs_lM) hJ.2.1) (x1 := a0) (x2 := a1)
  exact ⟨r.1, r2.1, r.2, r2.2, e1, e2, zj_keep (zs_c0 h1.1.2) (h2.1.2) hJ⟩
theorem zz_64 : st_64 zj_J zj_J := by
  intro σ τ a0 a1 a2 hJ
  obtain ⟨r, e1, h1⟩ := zc_1547 (zs_rf (key := zs_kC) (kl := zs_lC) hJ.1) (x1 := a0) (x2 := a1) (x3 := a2)
  obtain ⟨r2, e2, h2⟩ := zc_1554 (zs_rf (key := zs_kM) (kl := zs_lM) hJ.2.1) (x1 := a0) (x2 := a1) (x3 := a2)
  exact ⟨r.1, r2.1, r.2, r2.2, e1, e2, zj_keep (zs_c0 h1.1.2) (h2.1.2) hJ⟩
theorem zz_65 : st_65 zj_J zj_J := by
  intro σ τ a0 a1 hJ
  obtain ⟨r, e1, h1⟩ := zc_1555 (zs_rf (key := zs_kC) (kl := zs_lC) hJ.1) (x1 := a0) (x2 := a1)
  obtain ⟨r2, e2, h2⟩ := zc_1557 (zs_rf (key := zs_kM) (kl := zs_lM) hJ.2.1) (x1 := a0) (x2 := a1)
  exact ⟨r.1, r2.1, r.2, r2.2, e1, e2, zj_keep (zs_c0 h1.1.2) (h2.1.2) hJ⟩
theorem zz_66 : st_66 zj_J zj_J := by
  intro σ τ a0 hJ
  obtain ⟨r, e1, h1⟩ := zc_1563 (zs_rf (key := zs_kC) (kl := zs_lC) hJ.1) (x1 := a0)
  obtain ⟨r2, e2, h2⟩ := zc_1569 (zs_rf (key := zs_kM) (kl := zs_lM) hJ.2.1) (x1 := a0)
  exact ⟨r, r2, e1, e2, zj_keep (zs_rf hJ.1) (zs_rf hJ.2.1) hJ⟩
theorem zz_67 : st_67 zj_J zj_J := by
  intro σ τ a0 hJ
  obtain ⟨r, σ1, τ1, e1, e2, h⟩ := zj_67 σ τ a0 hJ
  exact ⟨r, r, σ1, τ1, e1, e2, h⟩
theorem zz_68 : st_68 zj_J zj_J := by
  intro σ τ a0 hJ
  obtain ⟨r, σ1, τ1, e1, e2, h⟩ := zj_68 σ τ a0 hJ
  exact ⟨r, r, σ1, τ1, e1, e2, h⟩
theorem zz_69 : st_69 zj_J zj_J := by
  intro σ τ a0 a1 a2 hJ
  obtain ⟨r, σ1, τ1, e1, e2, h⟩ := zj_69 σ τ a0 a1 a2 hJ
  exact ⟨r, r, σ1, τ1, e1, e2, h⟩
theorem zz_70 : st_70 zj_J zj_J := by
  intro σ τ a0 a1 a2 hJ
  obtain ⟨r, σ1, τ1, e1, e2, h⟩ := zj_70 σ τ a0 a1 a2 hJ
  exact ⟨r, r, σ1, τ1, e1, e2, h⟩
theorem zz_71 : st_71 zj_J zj_J := by
  intro σ τ a0 a1 a2 a3 a4 hJ
  obtain ⟨r, σ1, τ1, e1, e2, h⟩ := zj_71 σ τ a0 a1 a2 a3 a4 hJ
  exact ⟨r, r, σ1, τ1, e1, e2, h⟩
theorem sn_pure : ∃ J : Nat → sn_S → sn_S → Prop, J 0 sn_iniX8 sn_iniX9 ∧ (∀ k, k + 6 ≤ 3072 → st_all (J k) (J (k + 6))) ∧ ∀ k, k + 6 ≤ 3072 → ∀ σ τ, J k σ τ → J (k + 6) σ τ := by
  refine ⟨fun _ => zj_J, zj_ini, fun _ _ => ⟨zz_0, zz_1, zz_2, zz_3, zz_4, zz_5, zz_6, zz_7, zz_8, zz_9, zz_10, zz_11, zz_12, zz_13, zz_14, zz_15, zz_16, zz_17, zz_18, zz_19, zz_20, zz_21, zz_22, zz_23, zz_24, zz_25, zz_26, zz_27, zz_28, zz_29, zz_30, zz_31, zz_32, zz_33, zz_34, zz_35, zz_36, zz_37, zz_38, zz_39, zz_40, zz_41, zz_42, zz_43, zz_44, zz_45, zz_46, zz_47, zz_48, zz_49, zz_50, zz_51, zz_52, zz_53, zz_54, zz_55, zz_56, zz_57, zz_58, zz_59, zz_60, zz_61, zz_62, zz_63, zz_64, zz_65, zz_66, zz_67, zz_68, zz_69, zz_70, zz_71⟩, fun _ _ _ _ h => h⟩
