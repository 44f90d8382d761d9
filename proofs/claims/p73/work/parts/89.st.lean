/-! every call keeps what the two have in common, the houses too -/
theorem zz_0 : st_0 zJ zJ := by
  intro σ τ a0 a1 a2 a3 a4 hJ
  obtain ⟨r, σ1, τ1, e1, e2, h⟩ := zJ_0 σ τ a0 a1 a2 a3 a4 hJ
  exact ⟨r, r, σ1, τ1, e1, e2, h⟩
theorem zz_1 : st_1 zJ zJ := by
  intro σ τ a0 hJ
  obtain ⟨r, σ1, τ1, e1, e2, h⟩ := zJ_1 σ τ a0 hJ
  exact ⟨r, r, σ1, τ1, e1, e2, h⟩
theorem zz_2 : st_2 zJ zJ := by
  intro σ τ hJ
  obtain ⟨r, σ1, τ1, e1, e2, h⟩ := zJ_2 σ τ hJ
  exact ⟨r, r, σ1, τ1, e1, e2, h⟩
theorem zz_3 : st_3 zJ zJ := by
  intro σ τ a0 hJ
  obtain ⟨r, e1, e2⟩ := zJ_3 σ τ a0 hJ
  exact ⟨r, r, e1, e2, hJ⟩
theorem zz_4 : st_4 zJ zJ := by
  intro σ τ a0 a1 hJ
  obtain ⟨r, e1, e2⟩ := zJ_4 σ τ a0 a1 hJ
  exact ⟨r, r, e1, e2, hJ⟩
theorem zz_5 : st_5 zJ zJ := by
  intro σ τ a0 a1 hJ
  obtain ⟨r, e1, e2⟩ := zJ_5 σ τ a0 a1 hJ
  exact ⟨r, r, e1, e2, hJ⟩
theorem zz_6 : st_6 zJ zJ := by
  intro σ τ a0 hJ
  obtain ⟨r, e1, h1⟩ := zc_20 (zs_rf (key := zs_kC) (kl := zs_lC) hJ.1.1) (x1 := a0)
  obtain ⟨r2, e2, h2⟩ := zc_43 (zs_rf (key := zs_kM) (kl := zs_lM) hJ.1.2.1) (x1 := a0)
  exact ⟨r, r2.1, r2.2, e1, e2, zJ_keep (zs_rf hJ.1.1) (h2.1.2) hJ⟩
theorem zz_7 : st_7 zJ zJ := by
  intro σ τ a0 hJ
  obtain ⟨r, e1, h1⟩ := zc_45 (zs_rf (key := zs_kC) (kl := zs_lC) hJ.1.1) (x1 := a0)
  obtain ⟨r2, e2, h2⟩ := zc_96 (zs_rf (key := zs_kM) (kl := zs_lM) hJ.1.2.1) (x1 := a0)
  exact ⟨r, r2.1, r2.2, e1, e2, zJ_keep (zs_rf hJ.1.1) (h2.1.2) hJ⟩
theorem zz_8 : st_8 zJ zJ := by
  intro σ τ a0 hJ
  obtain ⟨r, e1, h1⟩ := zc_97 (zs_rf (key := zs_kC) (kl := zs_lC) hJ.1.1) (x1 := a0)
  obtain ⟨r2, e2, h2⟩ := zc_99 (zs_rf (key := zs_kM) (kl := zs_lM) hJ.1.2.1) (x1 := a0)
  exact ⟨r, r2.1, r2.2, e1, e2, zJ_keep (zs_rf hJ.1.1) (h2.1.2) hJ⟩
theorem zz_9 : st_9 zJ zJ := by
  intro σ τ a0 hJ
  obtain ⟨r, e1, h1⟩ := zc_100 (zs_rf (key := zs_kC) (kl := zs_lC) hJ.1.1) (x1 := a0)
  obtain ⟨r2, e2, h2⟩ := zc_101 (zs_rf (key := zs_kM) (kl := zs_lM) hJ.1.2.1) (x1 := a0)
  exact ⟨r, r2.1, r2.2, e1, e2, zJ_keep (zs_rf hJ.1.1) (h2.1.2) hJ⟩
theorem zz_10 : st_10 zJ zJ := by
  intro σ τ hJ
  obtain ⟨r, e1, h1⟩ := zc_106 (zs_rf (key := zs_kC) (kl := zs_lC) hJ.1.1) 
  obtain ⟨r2, e2, h2⟩ := zc_113 (zs_rf (key := zs_kM) (kl := zs_lM) hJ.1.2.1) 
  exact ⟨r, r2.1, r2.2, e1, e2, zJ_keep (zs_rf hJ.1.1) (h2.2) hJ⟩
theorem zz_11 : st_11 zJ zJ := by
  intro σ τ a0 hJ
  obtain ⟨r, e1, h1⟩ := zc_114 (zs_rf (key := zs_kC) (kl := zs_lC) hJ.1.1) (x1 := a0)
  obtain ⟨r2, e2, h2⟩ := zc_115 (zs_rf (key := zs_kM) (kl := zs_lM) hJ.1.2.1) (x1 := a0)
  exact ⟨r, r2.1, r2.2, e1, e2, zJ_keep (zs_rf hJ.1.1) (h2.1.2) hJ⟩
theorem zz_12 : st_12 zJ zJ := by
  intro σ τ a0 a1 hJ
  obtain ⟨r, e1, h1⟩ := zc_117 (zs_rf (key := zs_kC) (kl := zs_lC) hJ.1.1) (x1 := a0) (x2 := a1)
  obtain ⟨r2, e2, h2⟩ := zc_118 (zs_rf (key := zs_kM) (kl := zs_lM) hJ.1.2.1) (x1 := a0) (x2 := a1)
  exact ⟨r, r2.1, r2.2, e1, e2, zJ_keep (zs_rf hJ.1.1) (h2.1.2) hJ⟩
theorem zz_13 : st_13 zJ zJ := by
  intro σ τ a0 hJ
  obtain ⟨r, e1, h1⟩ := zc_121 (zs_rf (key := zs_kC) (kl := zs_lC) hJ.1.1) (x1 := a0)
  obtain ⟨r2, e2, h2⟩ := zc_124 (zs_rf (key := zs_kM) (kl := zs_lM) hJ.1.2.1) (x1 := a0)
  exact ⟨r, r2.1, r2.2, e1, e2, zJ_keep (zs_rf hJ.1.1) (h2.1.2) hJ⟩
theorem zz_14 : st_14 zJ zJ := by
  intro σ τ a0 hJ
  obtain ⟨r, e1, h1⟩ := zc_128 (zs_rf (key := zs_kC) (kl := zs_lC) hJ.1.1) (x1 := a0)
  obtain ⟨r2, e2, h2⟩ := zc_129 (zs_rf (key := zs_kM) (kl := zs_lM) hJ.1.2.1) (x1 := a0)
  exact ⟨r, r2.1, r2.2, e1, e2, zJ_keep (zs_rf hJ.1.1) (h2.1.2) hJ⟩
theorem zz_15 : st_15 zJ zJ := by
  intro σ τ a0 hJ
  obtain ⟨r, e1, h1⟩ := zc_130 (zs_rf (key := zs_kC) (kl := zs_lC) hJ.1.1) (x1 := a0)
  obtain ⟨r2, e2, h2⟩ := zc_136 (zs_rf (key := zs_kM) (kl := zs_lM) hJ.1.2.1) (x1 := a0)
  exact ⟨r, r2.1, r2.2, e1, e2, zJ_keep (zs_rf hJ.1.1) (h2.1.2) hJ⟩
theorem zz_16 : st_16 zJ zJ := by
  intro σ τ hJ
  obtain ⟨r, e1, h1⟩ := zc_141 (zs_rf (key := zs_kC) (kl := zs_lC) hJ.1.1) 
  obtain ⟨r2, e2, h2⟩ := zc_146 (zs_rf (key := zs_kM) (kl := zs_lM) hJ.1.2.1) 
  exact ⟨r, r2.1, r2.2, e1, e2, zJ_keep (zs_rf hJ.1.1) (h2.2) hJ⟩
theorem zz_17 : st_17 zJ zJ := by
  intro σ τ hJ
  obtain ⟨r, e1, h1⟩ := zc_149 (zs_rf (key := zs_kC) (kl := zs_lC) hJ.1.1) 
  obtain ⟨r2, e2, h2⟩ := zc_154 (zs_rf (key := zs_kM) (kl := zs_lM) hJ.1.2.1) 
  exact ⟨r, r2.1, r2.2, e1, e2, zJ_keep (zs_rf hJ.1.1) (h2.2) hJ⟩
theorem zz_18 : st_18 zJ zJ := by
  intro σ τ hJ
  obtain ⟨r, e1, h1⟩ := zc_159 (zs_rf (key := zs_kC) (kl := zs_lC) hJ.1.1) 
  obtain ⟨r2, e2, h2⟩ := zc_164 (zs_rf (key := zs_kM) (kl := zs_lM) hJ.1.2.1) 
  exact ⟨r, r2.1, r2.2, e1, e2, zJ_keep (zs_rf hJ.1.1) (h2.2) hJ⟩
theorem zz_19 : st_19 zJ zJ := by
  intro σ τ a0 hJ
  obtain ⟨r, e1, h1⟩ := zc_176 (zs_rf (key := zs_kC) (kl := zs_lC) hJ.1.1) (x1 := a0)
  obtain ⟨r2, e2, h2⟩ := zc_186 (zs_rf (key := zs_kM) (kl := zs_lM) hJ.1.2.1) (x1 := a0)
  exact ⟨r, r2.1, r2.2, e1, e2, zJ_keep (zs_rf hJ.1.1) (h2.1.2) hJ⟩
theorem zz_20 : st_20 zJ zJ := by
  intro σ τ a0 a1 hJ
  obtain ⟨r, e1, h1⟩ := zc_188 (zs_rf (key := zs_kC) (kl := zs_lC) hJ.1.1) (x1 := a0) (x2 := a1)
  obtain ⟨r2, e2, h2⟩ := zc_191 (zs_rf (key := zs_kM) (kl := zs_lM) hJ.1.2.1) (x1 := a0) (x2 := a1)
  exact ⟨r, r2.1, r2.2, e1, e2, zJ_keep (zs_rf hJ.1.1) (h2.1.2) hJ⟩
theorem zz_21 : st_21 zJ zJ := by
  intro σ τ a0 hJ
  obtain ⟨r, e1, h1⟩ := zc_199 (zs_rf (key := zs_kC) (kl := zs_lC) hJ.1.1) (x1 := a0)
  obtain ⟨r2, e2, h2⟩ := zc_211 (zs_rf (key := zs_kM) (kl := zs_lM) hJ.1.2.1) (x1 := a0)
  exact ⟨r, r2.1, r2.2, e1, e2, zJ_keep (zs_rf hJ.1.1) (h2.1.2) hJ⟩
theorem zz_22 : st_22 zJ zJ := by
  intro σ τ hJ
  obtain ⟨r, e1, h1⟩ := zc_215 (zs_rf (key := zs_kC) (kl := zs_lC) hJ.1.1) 
  obtain ⟨r2, e2, h2⟩ := zc_220 (zs_rf (key := zs_kM) (kl := zs_lM) hJ.1.2.1) 
  exact ⟨r, r2.1, r2.2, e1, e2, zJ_keep (zs_rf hJ.1.1) (h2.2) hJ⟩
theorem zz_23 : st_23 zJ zJ := by
  intro σ τ a0 hJ
  obtain ⟨r, e1, h1⟩ := zc_225 (zs_rf (key := zs_kC) (kl := zs_lC) hJ.1.1) (x1 := a0)
  obtain ⟨r2, e2, h2⟩ := zc_228 (zs_rf (key := zs_kM) (kl := zs_lM) hJ.1.2.1) (x1 := a0)
  exact ⟨r, r2.1, r2.2, e1, e2, zJ_keep (zs_rf hJ.1.1) (h2.1.2) hJ⟩
theorem zz_24 : st_24 zJ zJ := by
  intro σ τ a0 hJ
  obtain ⟨r, e1, h1⟩ := zc_238 (zs_rf (key := zs_kC) (kl := zs_lC) hJ.1.1) (x1 := a0)
  obtain ⟨r2, e2, h2⟩ := zc_263 (zs_rf (key := zs_kM) (kl := zs_lM) hJ.1.2.1) (x1 := a0)
  exact ⟨r.1, r2.1, r.2, r2.2, e1, e2, zJ_keep (h1.2) (h2.2) hJ⟩
theorem zz_25 : st_25 zJ zJ := by
  intro σ τ hJ
  obtain ⟨r, e1, h1⟩ := zc_276 (zs_rf (key := zs_kC) (kl := zs_lC) hJ.1.1) 
  obtain ⟨r2, e2, h2⟩ := zc_313 (zs_rf (key := zs_kM) (kl := zs_lM) hJ.1.2.1) 
  exact ⟨r.1, r2.1, r.2, r2.2, e1, e2, zJ_keep (h1.2) (h2.2) hJ⟩
theorem zz_26 : st_26 zJ zJ := by
  intro σ τ a0 hJ
  obtain ⟨r, e1, h1⟩ := zc_353 (zs_rf (key := zs_kC) (kl := zs_lC) hJ.1.1) (x1 := a0)
  obtain ⟨r2, e2, h2⟩ := zA_70 (zs_rf (key := zs_kM0) (kl := zs_lM) hJ.1.2.1) (x1 := a0)
  exact ⟨r.1, r2.1, r.2, r2.2, e1, e2, zJ_keep0 (h1.1.2) (h2.1.2) (qb_dull hJ.1.2.1 e2) hJ⟩
theorem zz_27 : st_27 zJ zJ := by
  intro σ τ a0 hJ
  obtain ⟨r, e1, h1⟩ := zc_358 (zs_rf (key := zs_kC) (kl := zs_lC) hJ.1.1) (x1 := a0)
  obtain ⟨r2, e2, h2⟩ := zA_79 (zs_rf (key := zs_kM0) (kl := zs_lM) hJ.1.2.1) (x1 := a0)
  exact ⟨r.1, r2.1, r.2, r2.2, e1, e2, zJ_keep0 (h1.1.2) (h2.1.2) (qb_bears hJ.1.2.1 e2) hJ⟩
theorem zz_28 : st_28 zJ zJ := by
  intro σ τ hJ
  obtain ⟨r, e1, h1⟩ := zc_366 (zs_rf (key := zs_kC) (kl := zs_lC) hJ.1.1) 
  obtain ⟨r2, e2, h2⟩ := zA_94 (zs_rf (key := zs_kM0) (kl := zs_lM) hJ.1.2.1) 
  exact ⟨r.1, r2.1, r.2, r2.2, e1, e2, zJ_keep0 (h1.2) (h2.2) (qb_clean hJ.1.2.1 e2) hJ⟩
theorem zz_29 : st_29 zJ zJ := by
  intro σ τ a0 hJ
  obtain ⟨r, e1, h1⟩ := zc_370 (zs_rf (key := zs_kC) (kl := zs_lC) hJ.1.1) (x1 := a0)
  obtain ⟨r2, e2, h2⟩ := zc_378 (zs_rf (key := zs_kM) (kl := zs_lM) hJ.1.2.1) (x1 := a0)
  exact ⟨r.1, r2.1, r.2, r2.2, e1, e2, zJ_keep (h1.1.2) (h2.1.2) hJ⟩
theorem zz_30 : st_30 zJ zJ := by
  intro σ τ a0 hJ
  obtain ⟨r, e1, h1⟩ := zc_384 (zs_rf (key := zs_kC) (kl := zs_lC) hJ.1.1) (x1 := a0)
  obtain ⟨r2, e2, h2⟩ := zc_397 (zs_rf (key := zs_kM) (kl := zs_lM) hJ.1.2.1) (x1 := a0)
  exact ⟨r, r2.1, r2.2, e1, e2, zJ_keep (zs_rf hJ.1.1) (h2.1.2) hJ⟩
theorem zz_31 : st_31 zJ zJ := by
  intro σ τ a0 hJ
  obtain ⟨r, e1, h1⟩ := zc_398 (zs_rf (key := zs_kC) (kl := zs_lC) hJ.1.1) (x1 := a0)
  obtain ⟨r2, e2, h2⟩ := zc_399 (zs_rf (key := zs_kM) (kl := zs_lM) hJ.1.2.1) (x1 := a0)
  exact ⟨r.1, r2.1, r.2, r2.2, e1, e2, zJ_keep (h1.1.2) (h2.1.2) hJ⟩
theorem zz_32 : st_32 zJ zJ := by
  intro σ τ a0 hJ
  obtain ⟨r, e1, h1⟩ := zc_400 (zs_rf (key := zs_kC) (kl := zs_lC) hJ.1.1) (x1 := a0)
  obtain ⟨r2, e2, h2⟩ := zc_401 (zs_rf (key := zs_kM) (kl := zs_lM) hJ.1.2.1) (x1 := a0)
  exact ⟨r.1, r2.1, r.2, r2.2, e1, e2, zJ_keep (h1.1.2) (h2.1.2) hJ⟩
theorem zz_33 : st_33 zJ zJ := by
  intro σ τ hJ
  obtain ⟨r, e1, h1⟩ := zc_405 (zs_rf (key := zs_kC) (kl := zs_lC) hJ.1.1) 
  obtain ⟨r2, e2, h2⟩ := zc_410 (zs_rf (key := zs_kM) (kl := zs_lM) hJ.1.2.1) 
  exact ⟨r.1, r2.1, r.2, r2.2, e1, e2, zJ_keep (h1.2) (h2.2) hJ⟩
theorem zz_34 : st_34 zJ zJ := by
  intro σ τ a0 hJ
  obtain ⟨r, e1, h1⟩ := zc_411 (zs_rf (key := zs_kC) (kl := zs_lC) hJ.1.1) (x1 := a0)
  obtain ⟨r2, e2, h2⟩ := zc_412 (zs_rf (key := zs_kM) (kl := zs_lM) hJ.1.2.1) (x1 := a0)
  exact ⟨r.1, r2.1, r.2, r2.2, e1, e2, zJ_keep (h1.2) (h2.2) hJ⟩
theorem zz_35 : st_35 zJ zJ := by
  intro σ τ hJ
  obtain ⟨r, e1, h1⟩ := zc_416 (zs_rf (key := zs_kC) (kl := zs_lC) hJ.1.1) 
  obtain ⟨r2, e2, h2⟩ := zc_420 (zs_rf (key := zs_kM) (kl := zs_lM) hJ.1.2.1) 
  exact ⟨r.1, r2.1, r.2, r2.2, e1, e2, zJ_keep (h1.2) (h2.2) hJ⟩
theorem zz_36 : st_36 zJ zJ := by
  intro σ τ hJ
  obtain ⟨r, e1, h1⟩ := zc_425 (zs_rf (key := zs_kC) (kl := zs_lC) hJ.1.1) 
  obtain ⟨r2, e2, h2⟩ := zc_430 (zs_rf (key := zs_kM) (kl := zs_lM) hJ.1.2.1) 
  exact ⟨r.1, r2.1, r.2, r2.2, e1, e2, zJ_keep (h1.2) (h2.2) hJ⟩
theorem zz_37 : st_37 zJ zJ := by
  intro σ τ hJ
  obtain ⟨r, e1, h1⟩ := zc_434 (zs_rf (key := zs_kC) (kl := zs_lC) hJ.1.1) 
  obtain ⟨r2, e2, h2⟩ := zh_reserve (zs_rf (key := zs_kM) (kl := zs_lM) hJ.1.2.1)
  exact ⟨r.1, r2.1, r.2, r2.2, e1, e2, zJ_keep (h1.2) (h2) hJ⟩
theorem zz_38 : st_38 zJ zJ := by
  intro σ τ a0 hJ
  obtain ⟨r, e1, h1⟩ := zc_437 (zs_rf (key := zs_kC) (kl := zs_lC) hJ.1.1) (x1 := a0)
  obtain ⟨r2, e2, h2⟩ := zc_446 (zs_rf (key := zs_kM) (kl := zs_lM) hJ.1.2.1) (x1 := a0)
  exact ⟨r.1, r2.1, r.2, r2.2, e1, e2, zJ_keep (h1.2) (h2.2) hJ⟩
theorem zz_39 : st_39 zJ zJ := by
  intro σ τ hJ
  obtain ⟨r, e1, h1⟩ := zc_457 (zs_rf (key := zs_kC) (kl := zs_lC) hJ.1.1) 
  obtain ⟨r2, e2, h2⟩ := zc_463 (zs_rf (key := zs_kM) (kl := zs_lM) hJ.1.2.1) 
  exact ⟨r.1, r2.1, r.2, r2.2, e1, e2, zJ_keep (h1.2) (h2.2) hJ⟩
theorem zz_40 : st_40 zJ zJ := by
  intro σ τ a0 hJ
  obtain ⟨r, e1, h1⟩ := zc_471 (zs_rf (key := zs_kC) (kl := zs_lC) hJ.1.1) (x1 := a0)
  obtain ⟨r2, e2, h2⟩ := zc_478 (zs_rf (key := zs_kM) (kl := zs_lM) hJ.1.2.1) (x1 := a0)
  exact ⟨r, r2.1, r2.2, e1, e2, zJ_keep (zs_rf hJ.1.1) (h2.1.2) hJ⟩
theorem zz_41 : st_41 zJ zJ := by
  intro σ τ a0 hJ
  obtain ⟨r, e1, h1⟩ := zc_479 (zs_rf (key := zs_kC) (kl := zs_lC) hJ.1.1) (x1 := a0)
  obtain ⟨r2, e2, h2⟩ := zc_480 (zs_rf (key := zs_kM) (kl := zs_lM) hJ.1.2.1) (x1 := a0)
  exact ⟨r, r2.1, r2.2, e1, e2, zJ_keep (zs_rf hJ.1.1) (h2.1.2) hJ⟩
theorem zz_42 : st_42 zJ zJ := by
  intro σ τ a0 hJ
  obtain ⟨r, e1, h1⟩ := zc_489 (zs_rf (key := zs_kC) (kl := zs_lC) hJ.1.1) (x1 := a0)
  obtain ⟨r2, e2, h2⟩ := zr_price hJ.1.2.1 a0
  exact ⟨r, r2.1, r2.2, e1, e2, zJ_keep (zs_rf hJ.1.1) (h2) hJ⟩
theorem zz_43 : st_43 zJ zJ := by
  intro σ τ a0 hJ
  obtain ⟨r, e1, h1⟩ := zc_511 (zs_rf (key := zs_kC) (kl := zs_lC) hJ.1.1) (x1 := a0)
  obtain ⟨r2, e2, h2⟩ := zc_527 (zs_rf (key := zs_kM) (kl := zs_lM) hJ.1.2.1) (x1 := a0)
  exact ⟨r.1, r2.1, r.2, r2.2, e1, e2, zJ_keep (h1.1.2) (h2.1.2) hJ⟩
theorem zz_44 : st_44 zJ zJ := by
  intro σ τ a0 hJ
  obtain ⟨r, e1, h1⟩ := zc_529 (zs_rf (key := zs_kC) (kl := zs_lC) hJ.1.1) (x1 := a0)
  obtain ⟨r2, e2, h2⟩ := zc_530 (zs_rf (key := zs_kM) (kl := zs_lM) hJ.1.2.1) (x1 := a0)
  exact ⟨r.1, r2.1, r.2, r2.2, e1, e2, zJ_keep (h1.1.2) (h2.1.2) hJ⟩
theorem zz_45 : st_45 zJ zJ := by
  intro σ τ a0 hJ
  obtain ⟨r, e1, h1⟩ := zc_543 (zs_rf (key := zs_kC) (kl := zs_lC) hJ.1.1) (x1 := a0)
  obtain ⟨r2, e2, h2⟩ := zc_549 (zs_rf (key := zs_kM) (kl := zs_lM) hJ.1.2.1) (x1 := a0)
  exact ⟨r.1, r2.1, r.2, r2.2, e1, e2, zJ_keep (h1.1.2) (h2.1.2) hJ⟩
theorem zz_46 : st_46 zJ zJ := by
  intro σ τ a0 hJ
  obtain ⟨r, e1, h1⟩ := zc_550 (zs_rf (key := zs_kC) (kl := zs_lC) hJ.1.1) (x1 := a0)
  obtain ⟨r2, e2, h2⟩ := zc_551 (zs_rf (key := zs_kM) (kl := zs_lM) hJ.1.2.1) (x1 := a0)
  exact ⟨r.1, r2.1, r.2, r2.2, e1, e2, zJ_keep (h1.1.2) (h2.1.2) hJ⟩
theorem zz_47 : st_47 zJ zJ := by
  intro σ τ a0 hJ
  obtain ⟨r, e1, h1⟩ := zc_579 (zs_rf (key := zs_kC) (kl := zs_lC) hJ.1.1) (x1 := a0)
  obtain ⟨r2, e2, h2⟩ := zc_1545 (zs_rf (key := zs_kM) (kl := zs_lM) hJ.1.2.1) (x1 := a0)
  exact ⟨r.1, r2.1, r.2, r2.2, e1, e2, zJ_keep (h1.1.2) (h2.2) hJ⟩
theorem zz_48 : st_48 zJ zJ := by
  intro σ τ a0 hJ
  obtain ⟨r, e1, h1⟩ := zc_580 (zs_rf (key := zs_kC) (kl := zs_lC) hJ.1.1) (x1 := a0)
  obtain ⟨r2, e2, h2⟩ := zc_1548 (zs_rf (key := zs_kM) (kl := zs_lM) hJ.1.2.1) (x1 := a0)
  exact ⟨r.1, r2.1, r.2, r2.2, e1, e2, zJ_keep (h1.1.2) (h2.2) hJ⟩
theorem zz_49 : st_49 zJ zJ := by
  intro σ τ a0 hJ
  obtain ⟨r, e1, h1⟩ := zc_581 (zs_rf (key := zs_kC) (kl := zs_lC) hJ.1.1) (x1 := a0)
  obtain ⟨r2, e2, h2⟩ := zc_1549 (zs_rf (key := zs_kM) (kl := zs_lM) hJ.1.2.1) (x1 := a0)
  exact ⟨r.1, r2.1, r.2, r2.2, e1, e2, zJ_keep (h1.1.2) (h2.2) hJ⟩
theorem zz_50 : st_50 zJ zJ := by
  intro σ τ a0 hJ
  obtain ⟨r, e1, h1⟩ := zc_590 (zs_rf (key := zs_kC) (kl := zs_lC) hJ.1.1) (x1 := a0)
  obtain ⟨r2, e2, h2⟩ := zc_1561 (zs_rf (key := zs_kM) (kl := zs_lM) hJ.1.2.1) (x1 := a0)
  exact ⟨r.1, r2.1, r.2, r2.2, e1, e2, zJ_keep (h1.1.2) (h2.2) hJ⟩
theorem zz_51 : st_51 zJ zJ := by
  intro σ τ a0 hJ
  obtain ⟨r, e1, h1⟩ := zc_591 (zs_rf (key := zs_kC) (kl := zs_lC) hJ.1.1) (x1 := a0)
  obtain ⟨r2, e2, h2⟩ := zc_1562 (zs_rf (key := zs_kM) (kl := zs_lM) hJ.1.2.1) (x1 := a0)
  exact ⟨r.1, r2.1, r.2, r2.2, e1, e2, zJ_keep (h1.1.2) (h2.2) hJ⟩
theorem zz_52 : st_52 zJ zJ := by
  intro σ τ a0 a1 hJ
  obtain ⟨r, e1, h1⟩ := zc_606 (zs_rf (key := zs_kC) (kl := zs_lC) hJ.1.1) (x1 := a0) (x2 := a1)
  obtain ⟨r2, e2, h2⟩ := zc_642 (zs_rf (key := zs_kM) (kl := zs_lM) hJ.1.2.1) (x1 := a0) (x2 := a1)
  exact ⟨r.1, r2.1, r.2, r2.2, e1, e2, zJ_keep (h1.1.2) (h2.1.2) hJ⟩
theorem zz_53 : st_53 zJ zJ := by
  intro σ τ a0 a1 a2 a3 hJ
  obtain ⟨r, e1, h1⟩ := zc_643 (zs_rf (key := zs_kC) (kl := zs_lC) hJ.1.1) (x1 := a0) (x2 := a1) (x3 := a2) (x4 := a3)
  obtain ⟨r2, e2, h2⟩ := zc_651 (zs_rf (key := zs_kM) (kl := zs_lM) hJ.1.2.1) (x1 := a0) (x2 := a1) (x3 := a2) (x4 := a3)
  exact ⟨r.1, r2.1, r.2, r2.2, e1, e2, zJ_keep (h1.1.2) (h2.1.2) hJ⟩
theorem zz_54 : st_54 zJ zJ := by
  intro σ τ a0 hJ
  obtain ⟨r, e1, h1⟩ := zc_654 (zs_rf (key := zs_kC) (kl := zs_lC) hJ.1.1) (x1 := a0)
  obtain ⟨r2, e2, h2⟩ := zc_657 (zs_rf (key := zs_kM) (kl := zs_lM) hJ.1.2.1) (x1 := a0)
  exact ⟨r.1, r2.1, r.2, r2.2, e1, e2, zJ_keep (h1.1.2) (h2.1.2) hJ⟩
theorem zz_55 : st_55 zJ zJ := by
  intro σ τ hJ
  obtain ⟨r, e1, h1⟩ := zc_662 (zs_rf (key := zs_kC) (kl := zs_lC) hJ.1.1) 
  obtain ⟨r2, e2, h2⟩ := zc_667 (zs_rf (key := zs_kM) (kl := zs_lM) hJ.1.2.1) 
  exact ⟨r.1, r2.1, r.2, r2.2, e1, e2, zJ_keep (h1.2) (h2.2) hJ⟩
theorem zz_56 : st_56 zJ zJ := by
  intro σ τ a0 a1 a2 hJ
  obtain ⟨r, e1, h1⟩ := zc_1112 (zs_rf (key := zs_kC) (kl := zs_lC) hJ.1.1) (x1 := a0) (x2 := a1) (x3 := a2)
  obtain ⟨r2, e2, h2⟩ := zq_chance hJ.1.2.1 a0 a1 a2
  exact ⟨r.1, r2.1, r.2, r2.2, e1, e2, zJ_keep (h1.1.2) (h2) hJ⟩
theorem zz_57 : st_57 zJ zJ := by
  intro σ τ a0 a1 a2 hJ
  obtain ⟨r, e1, h1⟩ := zc_1235 (zs_rf (key := zs_kC) (kl := zs_lC) hJ.1.1) (x1 := a0) (x2 := a1) (x3 := a2)
  obtain ⟨r2, e2, h2⟩ := zq_fair hJ.1.2.1 a0 a1 a2
  exact ⟨r.1, r2.1, r.2, r2.2, e1, e2, zJ_keep (h1.1.2) (h2) hJ⟩
theorem zz_58 : st_58 zJ zJ := by
  intro σ τ a0 a1 hJ
  obtain ⟨r, e1, h1⟩ := zc_1445 (zs_rf (key := zs_kC) (kl := zs_lC) hJ.1.1) (x1 := a0) (x2 := a1)
  obtain ⟨r2, e2, h2⟩ := zq_risk hJ.1.2.1 a0 a1
  exact ⟨r.1, r2.1, r.2, r2.2, e1, e2, zJ_keep (h1.1.2) (h2) hJ⟩
theorem zz_59 : st_59 zJ zJ := by
  intro σ τ a0 a1 hJ
  obtain ⟨r, r2, σ1, τ1, e1, e2, h⟩ := zJ_59 σ τ a0 a1 hJ
  exact ⟨r, r2, σ1, τ1, e1, e2, h⟩
theorem zz_60 : st_60 zJ zJ := by
  intro σ τ a0 a1 hJ
  obtain ⟨r, r2, σ1, τ1, e1, e2, h⟩ := zJ_60 σ τ a0 a1 hJ
  exact ⟨r, r2, σ1, τ1, e1, e2, h⟩
theorem zz_61 : st_61 zJ zJ := by
  intro σ τ hJ
  obtain ⟨r, σ1, τ1, e1, e2, h⟩ := zJ_61 σ τ hJ
  exact ⟨r, r, σ1, τ1, e1, e2, h⟩
theorem zz_62 : st_62 zJ zJ := by
  intro σ τ hJ
  obtain ⟨r, σ1, τ1, e1, e2, h⟩ := zJ_62 σ τ hJ
  exact ⟨r, r, σ1, τ1, e1, e2, h⟩
theorem zz_63 : st_63 zJ zJ := by
  intro σ τ a0 a1 hJ
  obtain ⟨r, e1, h1⟩ := zc_1452 (zs_rf (key := zs_kC) (kl := zs_lC) hJ.1.1) (x1 := a0) (x2 := a1)
  obtain ⟨r2, e2, h2⟩ := zc_1460 (zs_rf (key := zs_kM) (kl := zs_lM) hJ.1.2.1) (x1 := a0) (x2 := a1)
  exact ⟨r.1, r2.1, r.2, r2.2, e1, e2, zJ_keep (h1.1.2) (h2.1.2) hJ⟩
theorem zz_64 : st_64 zJ zJ := by
  intro σ τ a0 a1 a2 hJ
  obtain ⟨r, e1, h1⟩ := zc_1465 (zs_rf (key := zs_kC) (kl := zs_lC) hJ.1.1) (x1 := a0) (x2 := a1) (x3 := a2)
  obtain ⟨r2, e2, h2⟩ := zc_1472 (zs_rf (key := zs_kM) (kl := zs_lM) hJ.1.2.1) (x1 := a0) (x2 := a1) (x3 := a2)
  exact ⟨r.1, r2.1, r.2, r2.2, e1, e2, zJ_keep (h1.1.2) (h2.1.2) hJ⟩
theorem zz_65 : st_65 zJ zJ := by
  intro σ τ a0 a1 hJ
  obtain ⟨r, σ1, τ1, e1, e2, h⟩ := zJ_65 σ τ a0 a1 hJ
  exact ⟨r, r, σ1, τ1, e1, e2, h⟩
theorem zz_66 : st_66 zJ zJ := by
  intro σ τ a0 hJ
  obtain ⟨r, e1, e2⟩ := zJ_66 σ τ a0 hJ
  exact ⟨r, r, e1, e2, hJ⟩
theorem zz_67 : st_67 zJ zJ := by
  intro σ τ a0 hJ
  obtain ⟨r, σ1, τ1, e1, e2, h⟩ := zJ_67 σ τ a0 hJ
  exact ⟨r, r, σ1, τ1, e1, e2, h⟩
theorem zz_68 : st_68 zJ zJ := by
  intro σ τ a0 hJ
  obtain ⟨r, σ1, τ1, e1, e2, h⟩ := zJ_68 σ τ a0 hJ
  exact ⟨r, r, σ1, τ1, e1, e2, h⟩
theorem zz_69 : st_69 zJ zJ := by
  intro σ τ a0 a1 a2 hJ
  obtain ⟨r, σ1, τ1, e1, e2, h⟩ := zJ_69 σ τ a0 a1 a2 hJ
  exact ⟨r, r, σ1, τ1, e1, e2, h⟩
theorem zz_70 : st_70 zJ zJ := by
  intro σ τ a0 a1 a2 hJ
  obtain ⟨r, σ1, τ1, e1, e2, h⟩ := zJ_70 σ τ a0 a1 a2 hJ
  exact ⟨r, r, σ1, τ1, e1, e2, h⟩
theorem zz_71 : st_71 zJ zJ := by
  intro σ τ a0 a1 a2 a3 a4 hJ
  obtain ⟨r, σ1, τ1, e1, e2, h⟩ := zJ_71 σ τ a0 a1 a2 a3 a4 hJ
  exact ⟨r, σ1, τ1, e1, e2, h⟩
theorem zJ_ini : zJ sn_iniX8 sn_iniX9 := by
  have z0 : (0 : Int32).toInt = 0 := by decide
  have H : ∀ (h : Nat) (w : Nat → Int32), (∀ k, sn_iniX8.1 (h + 1) k = 0) → (∀ k, k < 11 → w k = 0) → rr_H h sn_iniX8 w := by
    intro h w h1 hw
    unfold rr_H
    rw [h1 5, h1 6, h1 7, h1 8, h1 9, z0]
    exact ⟨fun k hk => by rw [h1 k, hw k hk], fun i hi => absurd hi (by omega), fun i hi => absurd hi (by omega), fun i hi => absurd hi (by omega), fun i hi => absurd hi (by omega), fun i hi => absurd hi (by omega)⟩
  refine ⟨zj_ini, H 1 _ (fun k => rfl) (fun k _ => rfl), fun j hj => H _ _ (fun k => ?_) (fun k _ => rfl)⟩
  match j, hj with
  | 0, _ => rfl
  | 1, _ => rfl
  | 2, _ => rfl
theorem sn_pure : ∃ J : Nat → sn_S → sn_S → Prop, J 0 sn_iniX8 sn_iniX9 ∧ (∀ k, k + 6 ≤ 3072 → st_all (J k) (J (k + 6))) ∧ ∀ k, k + 6 ≤ 3072 → ∀ σ τ, J k σ τ → J (k + 6) σ τ := by
  refine ⟨fun _ => zJ, zJ_ini, fun _ _ => ⟨zz_0, zz_1, zz_2, zz_3, zz_4, zz_5, zz_6, zz_7, zz_8, zz_9, zz_10, zz_11, zz_12, zz_13, zz_14, zz_15, zz_16, zz_17, zz_18, zz_19, zz_20, zz_21, zz_22, zz_23, zz_24, zz_25, zz_26, zz_27, zz_28, zz_29, zz_30, zz_31, zz_32, zz_33, zz_34, zz_35, zz_36, zz_37, zz_38, zz_39, zz_40, zz_41, zz_42, zz_43, zz_44, zz_45, zz_46, zz_47, zz_48, zz_49, zz_50, zz_51, zz_52, zz_53, zz_54, zz_55, zz_56, zz_57, zz_58, zz_59, zz_60, zz_61, zz_62, zz_63, zz_64, zz_65, zz_66, zz_67, zz_68, zz_69, zz_70, zz_71⟩, fun _ _ _ _ h => h⟩
