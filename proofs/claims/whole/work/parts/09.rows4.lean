theorem cy_271 : cm_by cm_g wo_12 300 271 ck_271 = true := by decide +kernel
theorem cy_272 : cm_by cm_g wo_12 300 272 ck_272 = true := by decide +kernel
theorem cy_273 : cm_by cm_g wo_12 300 273 ck_273 = true := by decide +kernel
theorem cy_274 : cm_by cm_g wo_12 300 274 ck_274 = true := by decide +kernel
theorem cy_275 : cm_by cm_g wo_12 300 275 ck_275 = true := by decide +kernel
theorem cy_276 : cm_by cm_g wo_12 300 276 ck_276 = true := by decide +kernel
theorem cy_277 : cm_by cm_g wo_12 300 277 ck_277 = true := by decide +kernel
theorem cy_278 : cm_by cm_g wo_12 300 278 ck_278 = true := by decide +kernel
theorem cy_279 : cm_by cm_g wo_12 300 279 ck_279 = true := by decide +kernel
theorem cy_280 : cm_by cm_g wo_12 300 280 ck_280 = true := by decide +kernel
theorem cy_281 : cm_by cm_g wo_12 300 281 ck_281 = true := by decide +kernel
theorem cy_282 : cm_by cm_g wo_12 300 282 ck_282 = true := by decide +kernel
theorem cy_283 : cm_by cm_g wo_12 300 283 ck_283 = true := by decide +kernel
theorem cy_284 : cm_by cm_g wo_12 300 284 ck_284 = true := by decide +kernel
theorem cy_285 : cm_by cm_g wo_12 300 285 ck_285 = true := by decide +kernel
theorem cy_286 : cm_by cm_g wo_12 300 286 ck_286 = true := by decide +kernel
theorem cy_287 : cm_by cm_g wo_12 300 287 ck_287 = true := by decide +kernel
theorem cy_288 : cm_by cm_g wo_12 300 288 ck_288 = true := by decide +kernel
theorem cy_289 : cm_by cm_g wo_12 300 289 ck_289 = true := by decide +kernel
theorem cy_290 : cm_by cm_g wo_12 300 290 ck_290 = true := by decide +kernel
theorem cy_291 : cm_by cm_g wo_12 300 291 ck_291 = true := by decide +kernel
theorem cy_292 : cm_by cm_g wo_12 300 292 ck_292 = true := by decide +kernel
theorem cy_293 : cm_by cm_g wo_12 300 293 ck_293 = true := by decide +kernel
theorem cy_294 : cm_by cm_g wo_12 300 294 ck_294 = true := by decide +kernel
theorem cy_295 : cm_by cm_g wo_12 300 295 ck_295 = true := by decide +kernel
theorem cy_296 : cm_by cm_g wo_12 300 296 ck_296 = true := by decide +kernel
theorem cy_297 : cm_by cm_g wo_12 300 297 ck_297 = true := by decide +kernel
theorem cy_298 : cm_by cm_g wo_12 300 298 ck_298 = true := by decide +kernel
theorem cy_299 : cm_by cm_g wo_12 300 299 ck_299 = true := by decide +kernel
theorem cm_by_app {G : cm_G} {T : List Jvm.Cond} {nm y : Nat} {a b : List (List (Nat × cm_D))} (h1 : cm_by G T nm y a = true) (h2 : cm_by G T nm y b = true) : cm_by G T nm y (a ++ b) = true := by
  unfold cm_by at h1 h2 ⊢
  rw [List.all_append, h1, h2]
  rfl
theorem cy_300_0 : cm_by cm_g wo_13 300 300 ck_300_0 = true := by decide +kernel
theorem cy_300_1 : cm_by cm_g wo_13 300 300 ck_300_1 = true := by decide +kernel
theorem cy_300_2 : cm_by cm_g wo_13 300 300 ck_300_2 = true := by decide +kernel
theorem cy_300_3 : cm_by cm_g wo_13 300 300 ck_300_3 = true := by decide +kernel
theorem cy_300_4 : cm_by cm_g wo_13 300 300 ck_300_4 = true := by decide +kernel
theorem cy_300_5 : cm_by cm_g wo_13 300 300 ck_300_5 = true := by decide +kernel
theorem cy_300_6 : cm_by cm_g wo_13 300 300 ck_300_6 = true := by decide +kernel
theorem cy_300_7 : cm_by cm_g wo_13 300 300 ck_300_7 = true := by decide +kernel
theorem cy_300_8 : cm_by cm_g wo_13 300 300 ck_300_8 = true := by decide +kernel
theorem cy_300_9 : cm_by cm_g wo_13 300 300 ck_300_9 = true := by decide +kernel
theorem cy_300_10 : cm_by cm_g wo_13 300 300 ck_300_10 = true := by decide +kernel
theorem cy_300_11 : cm_by cm_g wo_13 300 300 ck_300_11 = true := by decide +kernel
theorem cy_300 : cm_by cm_g wo_13 300 300 ck_300 = true := cm_by_app cy_300_0 (cm_by_app cy_300_1 (cm_by_app cy_300_2 (cm_by_app cy_300_3 (cm_by_app cy_300_4 (cm_by_app cy_300_5 (cm_by_app cy_300_6 (cm_by_app cy_300_7 (cm_by_app cy_300_8 (cm_by_app cy_300_9 (cm_by_app cy_300_10 (cy_300_11)))))))))))
