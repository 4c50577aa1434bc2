set_option maxRecDepth 100000 in
set_option maxHeartbeats 4000000 in
theorem lc_0 {p : Program} {l : Launch} {e : Env} {s : State} {m : MethodId} {below : List Frame} {meth : Method} {c : Code} {g : dk_G} {b L : Nat} {xs : Nat → Int32} {S : dk_S} (C : dk_CL p s m meth c g b L xs) {x3 : Int32} {n : Nat} (hn : n < 512) (hI0 : dk_I n S) {a1 : Int32} {a2 : Int32} (h1 : vp_in (x3 + 1) L ∧ xs (x3 + 1).toNatClampNeg = a1) (h2 : vp_in (x3 + 2) L ∧ xs (x3 + 2).toNatClampNeg = a2) (kk : ∀ S2, dk_I (n + 1) S2 → dk_JL p l e s m below meth c g b 1932 [(0, .ref b), (1, .ref (g.1 0)), (2, .ref (g.1 82)), (3, .int x3)] [] S2) : dk_JL p l e s m below meth c g b 228 [(0, .ref b), (1, .ref (g.1 0)), (2, .ref (g.1 82)), (3, .int x3)] [] S := by
  obtain ⟨r, S1, S2, e1, e2, hI⟩ := pr_row a1 a2 hn hI0
  refine dg_aload_n C 1 rfl dL_law_228 ?_
  refine dg_aload_n C 0 rfl dL_law_229 ?_
  refine dg_iload_n C 3 rfl dL_law_230 ?_
  refine dg_iconst C dL_law_231 dc_iconst_1 ?_
  refine dg_iadd C dL_law_232 ?_
  refine dg_sld (v := a1) C h1.1 h1.2 dL_law_233 ?_
  refine dg_aload_n C 0 rfl dL_law_234 ?_
  refine dg_iload_n C 3 rfl dL_law_235 ?_
  refine dg_iconst C dL_law_236 dc_iconst_2 ?_
  refine dg_iadd C dL_law_237 ?_
  refine dg_sld (v := a2) C h2.1 h2.2 dL_law_238 ?_
  refine dg_calli (k := 0) (t := 8) (As := [.int a1, .int a2]) C dw_L_13 ⟨_, _, rfl⟩ (by decide) dz_0 (ct_X8_row l g a1 a2 S) e1 ⟨Nat.le_of_ble_eq_true rfl, Nat.le_of_ble_eq_true rfl⟩ rfl (Nat.le_of_ble_eq_true rfl) rfl dL_law_239 ?_
  refine dg_aload_n C 2 rfl dL_law_242 ?_
  refine dg_aload_n C 0 rfl dL_law_243 ?_
  refine dg_iload_n C 3 rfl dL_law_244 ?_
  refine dg_iconst C dL_law_245 dc_iconst_1 ?_
  refine dg_iadd C dL_law_246 ?_
  refine dg_sld (v := a1) C h1.1 h1.2 dL_law_247 ?_
  refine dg_aload_n C 0 rfl dL_law_248 ?_
  refine dg_iload_n C 3 rfl dL_law_249 ?_
  refine dg_iconst C dL_law_250 dc_iconst_2 ?_
  refine dg_iadd C dL_law_251 ?_
  refine dg_sld (v := a2) C h2.1 h2.2 dL_law_252 ?_
  refine dg_calli (k := 82) (t := 9) (As := [.int a1, .int a2]) C dw_L_17 ⟨_, _, rfl⟩ (by decide) dz_82 (ct_X9_row l g a1 a2 S1) e2 ⟨Nat.le_of_ble_eq_true rfl, Nat.le_of_ble_eq_true rfl⟩ rfl (Nat.le_of_ble_eq_true rfl) rfl dL_law_253 ?_
  refine dg_eq (tgt := 1932) C dL_law_256 (by decide) ?_
  exact kk _ hI
set_option maxRecDepth 100000 in
set_option maxHeartbeats 4000000 in
theorem lc_1 {p : Program} {l : Launch} {e : Env} {s : State} {m : MethodId} {below : List Frame} {meth : Method} {c : Code} {g : dk_G} {b L : Nat} {xs : Nat → Int32} {S : dk_S} (C : dk_CL p s m meth c g b L xs) {x3 : Int32} {n : Nat} (hn : n < 512) (hI0 : dk_I n S) {a1 : Int32} {a2 : Int32} {a3 : Int32} (h1 : vp_in (x3 + 1) L ∧ xs (x3 + 1).toNatClampNeg = a1) (h2 : vp_in (x3 + 2) L ∧ xs (x3 + 2).toNatClampNeg = a2) (h3 : vp_in (x3 + 3) L ∧ xs (x3 + 3).toNatClampNeg = a3) (kk : ∀ S2, dk_I (n + 1) S2 → dk_JL p l e s m below meth c g b 1932 [(0, .ref b), (1, .ref (g.1 0)), (2, .ref (g.1 82)), (3, .int x3)] [] S2) : dk_JL p l e s m below meth c g b 261 [(0, .ref b), (1, .ref (g.1 0)), (2, .ref (g.1 82)), (3, .int x3)] [] S := by
  obtain ⟨r, S1, S2, e1, e2, hI⟩ := pr_lay a1 a2 a3 hn hI0
  refine dg_aload_n C 1 rfl dL_law_261 ?_
  refine dg_aload_n C 0 rfl dL_law_262 ?_
  refine dg_iload_n C 3 rfl dL_law_263 ?_
  refine dg_iconst C dL_law_264 dc_iconst_1 ?_
  refine dg_iadd C dL_law_265 ?_
  refine dg_sld (v := a1) C h1.1 h1.2 dL_law_266 ?_
  refine dg_aload_n C 0 rfl dL_law_267 ?_
  refine dg_iload_n C 3 rfl dL_law_268 ?_
  refine dg_iconst C dL_law_269 dc_iconst_2 ?_
  refine dg_iadd C dL_law_270 ?_
  refine dg_sld (v := a2) C h2.1 h2.2 dL_law_271 ?_
  refine dg_aload_n C 0 rfl dL_law_272 ?_
  refine dg_iload_n C 3 rfl dL_law_273 ?_
  refine dg_iconst C dL_law_274 dc_iconst_3 ?_
  refine dg_iadd C dL_law_275 ?_
  refine dg_sld (v := a3) C h3.1 h3.2 dL_law_276 ?_
  refine dg_calli (k := 0) (t := 8) (As := [.int a1, .int a2, .int a3]) C dw_L_18 ⟨_, _, rfl⟩ (by decide) dz_0 (ct_X8_lay l g a1 a2 a3 S) e1 ⟨Nat.le_of_ble_eq_true rfl, Nat.le_of_ble_eq_true rfl⟩ rfl (Nat.le_of_ble_eq_true rfl) rfl dL_law_277 ?_
  refine dg_aload_n C 2 rfl dL_law_280 ?_
  refine dg_aload_n C 0 rfl dL_law_281 ?_
  refine dg_iload_n C 3 rfl dL_law_282 ?_
  refine dg_iconst C dL_law_283 dc_iconst_1 ?_
  refine dg_iadd C dL_law_284 ?_
  refine dg_sld (v := a1) C h1.1 h1.2 dL_law_285 ?_
  refine dg_aload_n C 0 rfl dL_law_286 ?_
  refine dg_iload_n C 3 rfl dL_law_287 ?_
  refine dg_iconst C dL_law_288 dc_iconst_2 ?_
  refine dg_iadd C dL_law_289 ?_
  refine dg_sld (v := a2) C h2.1 h2.2 dL_law_290 ?_
  refine dg_aload_n C 0 rfl dL_law_291 ?_
  refine dg_iload_n C 3 rfl dL_law_292 ?_
  refine dg_iconst C dL_law_293 dc_iconst_3 ?_
  refine dg_iadd C dL_law_294 ?_
  refine dg_sld (v := a3) C h3.1 h3.2 dL_law_295 ?_
  refine dg_calli (k := 82) (t := 9) (As := [.int a1, .int a2, .int a3]) C dw_L_22 ⟨_, _, rfl⟩ (by decide) dz_82 (ct_X9_lay l g a1 a2 a3 S1) e2 ⟨Nat.le_of_ble_eq_true rfl, Nat.le_of_ble_eq_true rfl⟩ rfl (Nat.le_of_ble_eq_true rfl) rfl dL_law_296 ?_
  refine dg_eq (tgt := 1932) C dL_law_299 (by decide) ?_
  exact kk _ hI
set_option maxRecDepth 100000 in
set_option maxHeartbeats 4000000 in
theorem lc_2 {p : Program} {l : Launch} {e : Env} {s : State} {m : MethodId} {below : List Frame} {meth : Method} {c : Code} {g : dk_G} {b L : Nat} {xs : Nat → Int32} {S : dk_S} (C : dk_CL p s m meth c g b L xs) {x3 : Int32} {n : Nat} (hn : n < 512) (hI0 : dk_I n S) {a1 : Int32} {a2 : Int32} (h1 : vp_in (x3 + 1) L ∧ xs (x3 + 1).toNatClampNeg = a1) (h2 : vp_in (x3 + 2) L ∧ xs (x3 + 2).toNatClampNeg = a2) (kk : ∀ S2, dk_I (n + 1) S2 → dk_JL p l e s m below meth c g b 1932 [(0, .ref b), (1, .ref (g.1 0)), (2, .ref (g.1 82)), (3, .int x3)] [] S2) : dk_JL p l e s m below meth c g b 304 [(0, .ref b), (1, .ref (g.1 0)), (2, .ref (g.1 82)), (3, .int x3)] [] S := by
  obtain ⟨r, S1, S2, e1, e2, hI⟩ := pr_at a1 a2 hn hI0
  refine dg_aload_n C 1 rfl dL_law_304 ?_
  refine dg_aload_n C 0 rfl dL_law_305 ?_
  refine dg_iload_n C 3 rfl dL_law_306 ?_
  refine dg_iconst C dL_law_307 dc_iconst_1 ?_
  refine dg_iadd C dL_law_308 ?_
  refine dg_sld (v := a1) C h1.1 h1.2 dL_law_309 ?_
  refine dg_aload_n C 0 rfl dL_law_310 ?_
  refine dg_iload_n C 3 rfl dL_law_311 ?_
  refine dg_iconst C dL_law_312 dc_iconst_2 ?_
  refine dg_iadd C dL_law_313 ?_
  refine dg_sld (v := a2) C h2.1 h2.2 dL_law_314 ?_
  refine dg_calli (k := 0) (t := 8) (As := [.int a1, .int a2]) C dw_L_23 ⟨_, _, rfl⟩ (by decide) dz_0 (ct_X8_at l g a1 a2 S) e1 ⟨Nat.le_of_ble_eq_true rfl, Nat.le_of_ble_eq_true rfl⟩ rfl (Nat.le_of_ble_eq_true rfl) rfl dL_law_315 ?_
  refine dg_aload_n C 2 rfl dL_law_318 ?_
  refine dg_aload_n C 0 rfl dL_law_319 ?_
  refine dg_iload_n C 3 rfl dL_law_320 ?_
  refine dg_iconst C dL_law_321 dc_iconst_1 ?_
  refine dg_iadd C dL_law_322 ?_
  refine dg_sld (v := a1) C h1.1 h1.2 dL_law_323 ?_
  refine dg_aload_n C 0 rfl dL_law_324 ?_
  refine dg_iload_n C 3 rfl dL_law_325 ?_
  refine dg_iconst C dL_law_326 dc_iconst_2 ?_
  refine dg_iadd C dL_law_327 ?_
  refine dg_sld (v := a2) C h2.1 h2.2 dL_law_328 ?_
  refine dg_calli (k := 82) (t := 9) (As := [.int a1, .int a2]) C dw_L_26 ⟨_, _, rfl⟩ (by decide) dz_82 (ct_X9_at l g a1 a2 S1) e2 ⟨Nat.le_of_ble_eq_true rfl, Nat.le_of_ble_eq_true rfl⟩ rfl (Nat.le_of_ble_eq_true rfl) rfl dL_law_329 ?_
  refine dg_eq (tgt := 1932) C dL_law_332 (by decide) ?_
  exact kk _ hI
set_option maxRecDepth 100000 in
set_option maxHeartbeats 4000000 in
theorem lc_3 {p : Program} {l : Launch} {e : Env} {s : State} {m : MethodId} {below : List Frame} {meth : Method} {c : Code} {g : dk_G} {b L : Nat} {xs : Nat → Int32} {S : dk_S} (C : dk_CL p s m meth c g b L xs) {x3 : Int32} {n : Nat} (hn : n < 512) (hI0 : dk_I n S) {a1 : Int32} (h1 : vp_in (x3 + 1) L ∧ xs (x3 + 1).toNatClampNeg = a1) (kk : ∀ S2, dk_I (n + 1) S2 → dk_JL p l e s m below meth c g b 1932 [(0, .ref b), (1, .ref (g.1 0)), (2, .ref (g.1 82)), (3, .int x3)] [] S2) : dk_JL p l e s m below meth c g b 337 [(0, .ref b), (1, .ref (g.1 0)), (2, .ref (g.1 82)), (3, .int x3)] [] S := by
  obtain ⟨r, S1, S2, e1, e2, hI⟩ := pr_tear a1 hn hI0
  refine dg_aload_n C 1 rfl dL_law_337 ?_
  refine dg_aload_n C 0 rfl dL_law_338 ?_
  refine dg_iload_n C 3 rfl dL_law_339 ?_
  refine dg_iconst C dL_law_340 dc_iconst_1 ?_
  refine dg_iadd C dL_law_341 ?_
  refine dg_sld (v := a1) C h1.1 h1.2 dL_law_342 ?_
  refine dg_calli (k := 0) (t := 8) (As := [.int a1]) C dw_L_27 ⟨_, _, rfl⟩ (by decide) dz_0 (ct_X8_tear l g a1 S) e1 ⟨Nat.le_of_ble_eq_true rfl, Nat.le_of_ble_eq_true rfl⟩ rfl (Nat.le_of_ble_eq_true rfl) rfl dL_law_343 ?_
  refine dg_aload_n C 2 rfl dL_law_346 ?_
  refine dg_aload_n C 0 rfl dL_law_347 ?_
  refine dg_iload_n C 3 rfl dL_law_348 ?_
  refine dg_iconst C dL_law_349 dc_iconst_1 ?_
  refine dg_iadd C dL_law_350 ?_
  refine dg_sld (v := a1) C h1.1 h1.2 dL_law_351 ?_
  refine dg_calli (k := 82) (t := 9) (As := [.int a1]) C dw_L_31 ⟨_, _, rfl⟩ (by decide) dz_82 (ct_X9_tear l g a1 S1) e2 ⟨Nat.le_of_ble_eq_true rfl, Nat.le_of_ble_eq_true rfl⟩ rfl (Nat.le_of_ble_eq_true rfl) rfl dL_law_352 ?_
  refine dg_eq (tgt := 1932) C dL_law_355 (by decide) ?_
  exact kk _ hI
set_option maxRecDepth 100000 in
set_option maxHeartbeats 4000000 in
theorem lc_4 {p : Program} {l : Launch} {e : Env} {s : State} {m : MethodId} {below : List Frame} {meth : Method} {c : Code} {g : dk_G} {b L : Nat} {xs : Nat → Int32} {S : dk_S} (C : dk_CL p s m meth c g b L xs) {x3 : Int32} {n : Nat} (hn : n < 512) (hI0 : dk_I n S) {a1 : Int32} {a2 : Int32} {a3 : Int32} {a4 : Int32} {a5 : Int32} (h1 : vp_in (x3 + 1) L ∧ xs (x3 + 1).toNatClampNeg = a1) (h2 : vp_in (x3 + 2) L ∧ xs (x3 + 2).toNatClampNeg = a2) (h3 : vp_in (x3 + 3) L ∧ xs (x3 + 3).toNatClampNeg = a3) (h4 : vp_in (x3 + 4) L ∧ xs (x3 + 4).toNatClampNeg = a4) (h5 : vp_in (x3 + 5) L ∧ xs (x3 + 5).toNatClampNeg = a5) (kk : ∀ S2, dk_I (n + 1) S2 → dk_JL p l e s m below meth c g b 1932 [(0, .ref b), (1, .ref (g.1 0)), (2, .ref (g.1 82)), (3, .int x3)] [] S2) : dk_JL p l e s m below meth c g b 360 [(0, .ref b), (1, .ref (g.1 0)), (2, .ref (g.1 82)), (3, .int x3)] [] S := by
  obtain ⟨r, S1, S2, e1, e2, hI⟩ := pr_copy a1 a2 a3 a4 a5 hn hI0
  refine dg_aload_n C 1 rfl dL_law_360 ?_
  refine dg_aload_n C 0 rfl dL_law_361 ?_
  refine dg_iload_n C 3 rfl dL_law_362 ?_
  refine dg_iconst C dL_law_363 dc_iconst_1 ?_
  refine dg_iadd C dL_law_364 ?_
  refine dg_sld (v := a1) C h1.1 h1.2 dL_law_365 ?_
  refine dg_aload_n C 0 rfl dL_law_366 ?_
  refine dg_iload_n C 3 rfl dL_law_367 ?_
  refine dg_iconst C dL_law_368 dc_iconst_2 ?_
  refine dg_iadd C dL_law_369 ?_
  refine dg_sld (v := a2) C h2.1 h2.2 dL_law_370 ?_
  refine dg_aload_n C 0 rfl dL_law_371 ?_
  refine dg_iload_n C 3 rfl dL_law_372 ?_
  refine dg_iconst C dL_law_373 dc_iconst_3 ?_
  refine dg_iadd C dL_law_374 ?_
  refine dg_sld (v := a3) C h3.1 h3.2 dL_law_375 ?_
  refine dg_aload_n C 0 rfl dL_law_376 ?_
  refine dg_iload_n C 3 rfl dL_law_377 ?_
  refine dg_iconst C dL_law_378 dc_iconst_4 ?_
  refine dg_iadd C dL_law_379 ?_
  refine dg_sld (v := a4) C h4.1 h4.2 dL_law_380 ?_
  refine dg_aload_n C 0 rfl dL_law_381 ?_
  refine dg_iload_n C 3 rfl dL_law_382 ?_
  refine dg_iconst C dL_law_383 dc_iconst_5 ?_
  refine dg_iadd C dL_law_384 ?_
  refine dg_sld (v := a5) C h5.1 h5.2 dL_law_385 ?_
  refine dg_calli (k := 0) (t := 8) (As := [.int a1, .int a2, .int a3, .int a4, .int a5]) C dw_L_32 ⟨_, _, rfl⟩ (by decide) dz_0 (ct_X8_copy l g a1 a2 a3 a4 a5 S) e1 ⟨Nat.le_of_ble_eq_true rfl, Nat.le_of_ble_eq_true rfl⟩ rfl (Nat.le_of_ble_eq_true rfl) rfl dL_law_386 ?_
  refine dg_aload_n C 2 rfl dL_law_389 ?_
  refine dg_aload_n C 0 rfl dL_law_390 ?_
  refine dg_iload_n C 3 rfl dL_law_391 ?_
  refine dg_iconst C dL_law_392 dc_iconst_1 ?_
  refine dg_iadd C dL_law_393 ?_
  refine dg_sld (v := a1) C h1.1 h1.2 dL_law_394 ?_
  refine dg_aload_n C 0 rfl dL_law_395 ?_
  refine dg_iload_n C 3 rfl dL_law_396 ?_
  refine dg_iconst C dL_law_397 dc_iconst_2 ?_
  refine dg_iadd C dL_law_398 ?_
  refine dg_sld (v := a2) C h2.1 h2.2 dL_law_399 ?_
  refine dg_aload_n C 0 rfl dL_law_400 ?_
  refine dg_iload_n C 3 rfl dL_law_401 ?_
  refine dg_iconst C dL_law_402 dc_iconst_3 ?_
  refine dg_iadd C dL_law_403 ?_
  refine dg_sld (v := a3) C h3.1 h3.2 dL_law_404 ?_
  refine dg_aload_n C 0 rfl dL_law_405 ?_
  refine dg_iload_n C 3 rfl dL_law_406 ?_
  refine dg_iconst C dL_law_407 dc_iconst_4 ?_
  refine dg_iadd C dL_law_408 ?_
  refine dg_sld (v := a4) C h4.1 h4.2 dL_law_409 ?_
  refine dg_aload_n C 0 rfl dL_law_410 ?_
  refine dg_iload_n C 3 rfl dL_law_411 ?_
  refine dg_iconst C dL_law_412 dc_iconst_5 ?_
  refine dg_iadd C dL_law_413 ?_
  refine dg_sld (v := a5) C h5.1 h5.2 dL_law_414 ?_
  refine dg_calli (k := 82) (t := 9) (As := [.int a1, .int a2, .int a3, .int a4, .int a5]) C dw_L_36 ⟨_, _, rfl⟩ (by decide) dz_82 (ct_X9_copy l g a1 a2 a3 a4 a5 S1) e2 ⟨Nat.le_of_ble_eq_true rfl, Nat.le_of_ble_eq_true rfl⟩ rfl (Nat.le_of_ble_eq_true rfl) rfl dL_law_415 ?_
  refine dg_eq (tgt := 1932) C dL_law_418 (by decide) ?_
  exact kk _ hI
set_option maxRecDepth 100000 in
set_option maxHeartbeats 4000000 in
theorem lc_5 {p : Program} {l : Launch} {e : Env} {s : State} {m : MethodId} {below : List Frame} {meth : Method} {c : Code} {g : dk_G} {b L : Nat} {xs : Nat → Int32} {S : dk_S} (C : dk_CL p s m meth c g b L xs) {x3 : Int32} {n : Nat} (hn : n < 512) (hI0 : dk_I n S) {a1 : Int32} (h1 : vp_in (x3 + 1) L ∧ xs (x3 + 1).toNatClampNeg = a1) (kk : ∀ S2, dk_I (n + 1) S2 → dk_JL p l e s m below meth c g b 1932 [(0, .ref b), (1, .ref (g.1 0)), (2, .ref (g.1 82)), (3, .int x3)] [] S2) : dk_JL p l e s m below meth c g b 423 [(0, .ref b), (1, .ref (g.1 0)), (2, .ref (g.1 82)), (3, .int x3)] [] S := by
  obtain ⟨r, S1, S2, e1, e2, hI⟩ := pr_mean a1 hn hI0
  refine dg_aload_n C 1 rfl dL_law_423 ?_
  refine dg_aload_n C 0 rfl dL_law_424 ?_
  refine dg_iload_n C 3 rfl dL_law_425 ?_
  refine dg_iconst C dL_law_426 dc_iconst_1 ?_
  refine dg_iadd C dL_law_427 ?_
  refine dg_sld (v := a1) C h1.1 h1.2 dL_law_428 ?_
  refine dg_calli (k := 0) (t := 8) (As := [.int a1]) C dw_L_37 ⟨_, _, rfl⟩ (by decide) dz_0 (ct_X8_mean l g a1 S) e1 ⟨Nat.le_of_ble_eq_true rfl, Nat.le_of_ble_eq_true rfl⟩ rfl (Nat.le_of_ble_eq_true rfl) rfl dL_law_429 ?_
  refine dg_aload_n C 2 rfl dL_law_432 ?_
  refine dg_aload_n C 0 rfl dL_law_433 ?_
  refine dg_iload_n C 3 rfl dL_law_434 ?_
  refine dg_iconst C dL_law_435 dc_iconst_1 ?_
  refine dg_iadd C dL_law_436 ?_
  refine dg_sld (v := a1) C h1.1 h1.2 dL_law_437 ?_
  refine dg_calli (k := 82) (t := 9) (As := [.int a1]) C dw_L_40 ⟨_, _, rfl⟩ (by decide) dz_82 (ct_X9_mean l g a1 S1) e2 ⟨Nat.le_of_ble_eq_true rfl, Nat.le_of_ble_eq_true rfl⟩ rfl (Nat.le_of_ble_eq_true rfl) rfl dL_law_438 ?_
  refine dg_eq (tgt := 1932) C dL_law_441 (by decide) ?_
  exact kk _ hI
set_option maxRecDepth 100000 in
set_option maxHeartbeats 4000000 in
theorem lc_6 {p : Program} {l : Launch} {e : Env} {s : State} {m : MethodId} {below : List Frame} {meth : Method} {c : Code} {g : dk_G} {b L : Nat} {xs : Nat → Int32} {S : dk_S} (C : dk_CL p s m meth c g b L xs) {x3 : Int32} {n : Nat} (hn : n < 512) (hI0 : dk_I n S) {a1 : Int32} {a2 : Int32} (h1 : vp_in (x3 + 1) L ∧ xs (x3 + 1).toNatClampNeg = a1) (h2 : vp_in (x3 + 2) L ∧ xs (x3 + 2).toNatClampNeg = a2) (kk : ∀ S2, dk_I (n + 1) S2 → dk_JL p l e s m below meth c g b 1932 [(0, .ref b), (1, .ref (g.1 0)), (2, .ref (g.1 82)), (3, .int x3)] [] S2) : dk_JL p l e s m below meth c g b 446 [(0, .ref b), (1, .ref (g.1 0)), (2, .ref (g.1 82)), (3, .int x3)] [] S := by
  obtain ⟨r, S1, S2, e1, e2, hI⟩ := pr_text a1 a2 hn hI0
  refine dg_aload_n C 1 rfl dL_law_446 ?_
  refine dg_aload_n C 0 rfl dL_law_447 ?_
  refine dg_iload_n C 3 rfl dL_law_448 ?_
  refine dg_iconst C dL_law_449 dc_iconst_1 ?_
  refine dg_iadd C dL_law_450 ?_
  refine dg_sld (v := a1) C h1.1 h1.2 dL_law_451 ?_
  refine dg_aload_n C 0 rfl dL_law_452 ?_
  refine dg_iload_n C 3 rfl dL_law_453 ?_
  refine dg_iconst C dL_law_454 dc_iconst_2 ?_
  refine dg_iadd C dL_law_455 ?_
  refine dg_sld (v := a2) C h2.1 h2.2 dL_law_456 ?_
  refine dg_calli (k := 0) (t := 8) (As := [.int a1, .int a2]) C dw_L_41 ⟨_, _, rfl⟩ (by decide) dz_0 (ct_X8_text l g a1 a2 S) e1 ⟨Nat.le_of_ble_eq_true rfl, Nat.le_of_ble_eq_true rfl⟩ rfl (Nat.le_of_ble_eq_true rfl) rfl dL_law_457 ?_
  refine dg_aload_n C 2 rfl dL_law_460 ?_
  refine dg_aload_n C 0 rfl dL_law_461 ?_
  refine dg_iload_n C 3 rfl dL_law_462 ?_
  refine dg_iconst C dL_law_463 dc_iconst_1 ?_
  refine dg_iadd C dL_law_464 ?_
  refine dg_sld (v := a1) C h1.1 h1.2 dL_law_465 ?_
  refine dg_aload_n C 0 rfl dL_law_466 ?_
  refine dg_iload_n C 3 rfl dL_law_467 ?_
  refine dg_iconst C dL_law_468 dc_iconst_2 ?_
  refine dg_iadd C dL_law_469 ?_
  refine dg_sld (v := a2) C h2.1 h2.2 dL_law_470 ?_
  refine dg_calli (k := 82) (t := 9) (As := [.int a1, .int a2]) C dw_L_44 ⟨_, _, rfl⟩ (by decide) dz_82 (ct_X9_text l g a1 a2 S1) e2 ⟨Nat.le_of_ble_eq_true rfl, Nat.le_of_ble_eq_true rfl⟩ rfl (Nat.le_of_ble_eq_true rfl) rfl dL_law_471 ?_
  refine dg_eq (tgt := 1932) C dL_law_474 (by decide) ?_
  exact kk _ hI
set_option maxRecDepth 100000 in
set_option maxHeartbeats 4000000 in
theorem lc_7 {p : Program} {l : Launch} {e : Env} {s : State} {m : MethodId} {below : List Frame} {meth : Method} {c : Code} {g : dk_G} {b L : Nat} {xs : Nat → Int32} {S : dk_S} (C : dk_CL p s m meth c g b L xs) {x3 : Int32} {n : Nat} (hn : n < 512) (hI0 : dk_I n S) {a1 : Int32} {a2 : Int32} {a3 : Int32} (h1 : vp_in (x3 + 1) L ∧ xs (x3 + 1).toNatClampNeg = a1) (h2 : vp_in (x3 + 2) L ∧ xs (x3 + 2).toNatClampNeg = a2) (h3 : vp_in (x3 + 3) L ∧ xs (x3 + 3).toNatClampNeg = a3) (kk : ∀ S2, dk_I (n + 1) S2 → dk_JL p l e s m below meth c g b 1932 [(0, .ref b), (1, .ref (g.1 0)), (2, .ref (g.1 82)), (3, .int x3)] [] S2) : dk_JL p l e s m below meth c g b 479 [(0, .ref b), (1, .ref (g.1 0)), (2, .ref (g.1 82)), (3, .int x3)] [] S := by
  obtain ⟨r, S1, S2, e1, e2, hI⟩ := pr_put a1 a2 a3 hn hI0
  refine dg_aload_n C 1 rfl dL_law_479 ?_
  refine dg_aload_n C 0 rfl dL_law_480 ?_
  refine dg_iload_n C 3 rfl dL_law_481 ?_
  refine dg_iconst C dL_law_482 dc_iconst_1 ?_
  refine dg_iadd C dL_law_483 ?_
  refine dg_sld (v := a1) C h1.1 h1.2 dL_law_484 ?_
  refine dg_aload_n C 0 rfl dL_law_485 ?_
  refine dg_iload_n C 3 rfl dL_law_486 ?_
  refine dg_iconst C dL_law_487 dc_iconst_2 ?_
  refine dg_iadd C dL_law_488 ?_
  refine dg_sld (v := a2) C h2.1 h2.2 dL_law_489 ?_
  refine dg_aload_n C 0 rfl dL_law_490 ?_
  refine dg_iload_n C 3 rfl dL_law_491 ?_
  refine dg_iconst C dL_law_492 dc_iconst_3 ?_
  refine dg_iadd C dL_law_493 ?_
  refine dg_sld (v := a3) C h3.1 h3.2 dL_law_494 ?_
  refine dg_calli (k := 0) (t := 8) (As := [.int a1, .int a2, .int a3]) C dw_L_45 ⟨_, _, rfl⟩ (by decide) dz_0 (ct_X8_put l g a1 a2 a3 S) e1 ⟨Nat.le_of_ble_eq_true rfl, Nat.le_of_ble_eq_true rfl⟩ rfl (Nat.le_of_ble_eq_true rfl) rfl dL_law_495 ?_
  refine dg_aload_n C 2 rfl dL_law_498 ?_
  refine dg_aload_n C 0 rfl dL_law_499 ?_
  refine dg_iload_n C 3 rfl dL_law_500 ?_
  refine dg_iconst C dL_law_501 dc_iconst_1 ?_
  refine dg_iadd C dL_law_502 ?_
  refine dg_sld (v := a1) C h1.1 h1.2 dL_law_503 ?_
  refine dg_aload_n C 0 rfl dL_law_504 ?_
  refine dg_iload_n C 3 rfl dL_law_505 ?_
  refine dg_iconst C dL_law_506 dc_iconst_2 ?_
  refine dg_iadd C dL_law_507 ?_
  refine dg_sld (v := a2) C h2.1 h2.2 dL_law_508 ?_
  refine dg_aload_n C 0 rfl dL_law_509 ?_
  refine dg_iload_n C 3 rfl dL_law_510 ?_
  refine dg_iconst C dL_law_511 dc_iconst_3 ?_
  refine dg_iadd C dL_law_512 ?_
  refine dg_sld (v := a3) C h3.1 h3.2 dL_law_513 ?_
  refine dg_calli (k := 82) (t := 9) (As := [.int a1, .int a2, .int a3]) C dw_L_48 ⟨_, _, rfl⟩ (by decide) dz_82 (ct_X9_put l g a1 a2 a3 S1) e2 ⟨Nat.le_of_ble_eq_true rfl, Nat.le_of_ble_eq_true rfl⟩ rfl (Nat.le_of_ble_eq_true rfl) rfl dL_law_514 ?_
  refine dg_eq (tgt := 1932) C dL_law_517 (by decide) ?_
  exact kk _ hI
set_option maxRecDepth 100000 in
set_option maxHeartbeats 4000000 in
theorem lc_8 {p : Program} {l : Launch} {e : Env} {s : State} {m : MethodId} {below : List Frame} {meth : Method} {c : Code} {g : dk_G} {b L : Nat} {xs : Nat → Int32} {S : dk_S} (C : dk_CL p s m meth c g b L xs) {x3 : Int32} {n : Nat} (hn : n < 512) (hI0 : dk_I n S) {a1 : Int32} {a2 : Int32} (h1 : vp_in (x3 + 1) L ∧ xs (x3 + 1).toNatClampNeg = a1) (h2 : vp_in (x3 + 2) L ∧ xs (x3 + 2).toNatClampNeg = a2) (kk : ∀ S2, dk_I (n + 1) S2 → dk_JL p l e s m below meth c g b 1932 [(0, .ref b), (1, .ref (g.1 0)), (2, .ref (g.1 82)), (3, .int x3)] [] S2) : dk_JL p l e s m below meth c g b 522 [(0, .ref b), (1, .ref (g.1 0)), (2, .ref (g.1 82)), (3, .int x3)] [] S := by
  obtain ⟨r, S1, S2, e1, e2, hI⟩ := pr_fault a1 a2 hn hI0
  refine dg_aload_n C 1 rfl dL_law_522 ?_
  refine dg_aload_n C 0 rfl dL_law_523 ?_
  refine dg_iload_n C 3 rfl dL_law_524 ?_
  refine dg_iconst C dL_law_525 dc_iconst_1 ?_
  refine dg_iadd C dL_law_526 ?_
  refine dg_sld (v := a1) C h1.1 h1.2 dL_law_527 ?_
  refine dg_aload_n C 0 rfl dL_law_528 ?_
  refine dg_iload_n C 3 rfl dL_law_529 ?_
  refine dg_iconst C dL_law_530 dc_iconst_2 ?_
  refine dg_iadd C dL_law_531 ?_
  refine dg_sld (v := a2) C h2.1 h2.2 dL_law_532 ?_
  refine dg_ifeq (tgt := 540) C dL_law_533 (by decide) (fun c0 => ?_) (fun c0 => ?_)
  · rw [if_pos c0] at e1 e2
    refine dg_iconst C dL_law_540 dc_iconst_0 ?_
    refine dg_calli (k := 0) (t := 8) (As := [.int a1, .int 0]) C dw_L_49 ⟨_, _, rfl⟩ (by decide) dz_0 (ct_X8_fault l g a1 0 S) e1 ⟨Nat.le_of_ble_eq_true rfl, Nat.le_of_ble_eq_true rfl⟩ rfl (Nat.le_of_ble_eq_true rfl) rfl dL_law_541 ?_
    refine dg_aload_n C 2 rfl dL_law_544 ?_
    refine dg_aload_n C 0 rfl dL_law_545 ?_
    refine dg_iload_n C 3 rfl dL_law_546 ?_
    refine dg_iconst C dL_law_547 dc_iconst_1 ?_
    refine dg_iadd C dL_law_548 ?_
    refine dg_sld (v := a1) C h1.1 h1.2 dL_law_549 ?_
    refine dg_aload_n C 0 rfl dL_law_550 ?_
    refine dg_iload_n C 3 rfl dL_law_551 ?_
    refine dg_iconst C dL_law_552 dc_iconst_2 ?_
    refine dg_iadd C dL_law_553 ?_
    refine dg_sld (v := a2) C h2.1 h2.2 dL_law_554 ?_
    refine dg_ifeq (tgt := 562) C dL_law_555 (by decide) (fun _ => ?_) (fun h => absurd c0 h)
    refine dg_iconst C dL_law_562 dc_iconst_0 ?_
    refine dg_calli (k := 82) (t := 9) (As := [.int a1, .int 0]) C dw_L_53 ⟨_, _, rfl⟩ (by decide) dz_82 (ct_X9_fault l g a1 0 S1) e2 ⟨Nat.le_of_ble_eq_true rfl, Nat.le_of_ble_eq_true rfl⟩ rfl (Nat.le_of_ble_eq_true rfl) rfl dL_law_563 ?_
    refine dg_eq (tgt := 1932) C dL_law_566 (by decide) ?_
    exact kk _ hI
  · rw [if_neg c0] at e1 e2
    refine dg_iconst C dL_law_536 dc_iconst_1 ?_
    refine dg_goto (tgt := 541) C dL_law_537 (by decide) ?_
    refine dg_calli (k := 0) (t := 8) (As := [.int a1, .int 1]) C dw_L_49 ⟨_, _, rfl⟩ (by decide) dz_0 (ct_X8_fault l g a1 1 S) e1 ⟨Nat.le_of_ble_eq_true rfl, Nat.le_of_ble_eq_true rfl⟩ rfl (Nat.le_of_ble_eq_true rfl) rfl dL_law_541 ?_
    refine dg_aload_n C 2 rfl dL_law_544 ?_
    refine dg_aload_n C 0 rfl dL_law_545 ?_
    refine dg_iload_n C 3 rfl dL_law_546 ?_
    refine dg_iconst C dL_law_547 dc_iconst_1 ?_
    refine dg_iadd C dL_law_548 ?_
    refine dg_sld (v := a1) C h1.1 h1.2 dL_law_549 ?_
    refine dg_aload_n C 0 rfl dL_law_550 ?_
    refine dg_iload_n C 3 rfl dL_law_551 ?_
    refine dg_iconst C dL_law_552 dc_iconst_2 ?_
    refine dg_iadd C dL_law_553 ?_
    refine dg_sld (v := a2) C h2.1 h2.2 dL_law_554 ?_
    refine dg_ifeq (tgt := 562) C dL_law_555 (by decide) (fun h => absurd h c0) (fun _ => ?_)
    refine dg_iconst C dL_law_558 dc_iconst_1 ?_
    refine dg_goto (tgt := 563) C dL_law_559 (by decide) ?_
    refine dg_calli (k := 82) (t := 9) (As := [.int a1, .int 1]) C dw_L_53 ⟨_, _, rfl⟩ (by decide) dz_82 (ct_X9_fault l g a1 1 S1) e2 ⟨Nat.le_of_ble_eq_true rfl, Nat.le_of_ble_eq_true rfl⟩ rfl (Nat.le_of_ble_eq_true rfl) rfl dL_law_563 ?_
    refine dg_eq (tgt := 1932) C dL_law_566 (by decide) ?_
    exact kk _ hI
set_option maxRecDepth 100000 in
set_option maxHeartbeats 4000000 in
theorem lc_9 {p : Program} {l : Launch} {e : Env} {s : State} {m : MethodId} {below : List Frame} {meth : Method} {c : Code} {g : dk_G} {b L : Nat} {xs : Nat → Int32} {S : dk_S} (C : dk_CL p s m meth c g b L xs) {x3 : Int32} {n : Nat} (hn : n < 512) (hI0 : dk_I n S) {a1 : Int32} {a2 : Int32} (h1 : vp_in (x3 + 1) L ∧ xs (x3 + 1).toNatClampNeg = a1) (h2 : vp_in (x3 + 2) L ∧ xs (x3 + 2).toNatClampNeg = a2) (kk : ∀ S2, dk_I (n + 1) S2 → dk_JL p l e s m below meth c g b 1932 [(0, .ref b), (1, .ref (g.1 0)), (2, .ref (g.1 82)), (3, .int x3)] [] S2) : dk_JL p l e s m below meth c g b 571 [(0, .ref b), (1, .ref (g.1 0)), (2, .ref (g.1 82)), (3, .int x3)] [] S := by
  obtain ⟨r, S1, S2, e1, e2, hI⟩ := pr_walker a1 a2 hn hI0
  refine dg_aload_n C 1 rfl dL_law_571 ?_
  refine dg_aload_n C 0 rfl dL_law_572 ?_
  refine dg_iload_n C 3 rfl dL_law_573 ?_
  refine dg_iconst C dL_law_574 dc_iconst_1 ?_
  refine dg_iadd C dL_law_575 ?_
  refine dg_sld (v := a1) C h1.1 h1.2 dL_law_576 ?_
  refine dg_aload_n C 0 rfl dL_law_577 ?_
  refine dg_iload_n C 3 rfl dL_law_578 ?_
  refine dg_iconst C dL_law_579 dc_iconst_2 ?_
  refine dg_iadd C dL_law_580 ?_
  refine dg_sld (v := a2) C h2.1 h2.2 dL_law_581 ?_
  refine dg_calli (k := 0) (t := 8) (As := [.int a1, .int a2]) C dw_L_54 ⟨_, _, rfl⟩ (by decide) dz_0 (ct_X8_walker l g a1 a2 S) e1 ⟨Nat.le_of_ble_eq_true rfl, Nat.le_of_ble_eq_true rfl⟩ rfl (Nat.le_of_ble_eq_true rfl) rfl dL_law_582 ?_
  refine dg_aload_n C 2 rfl dL_law_585 ?_
  refine dg_aload_n C 0 rfl dL_law_586 ?_
  refine dg_iload_n C 3 rfl dL_law_587 ?_
  refine dg_iconst C dL_law_588 dc_iconst_1 ?_
  refine dg_iadd C dL_law_589 ?_
  refine dg_sld (v := a1) C h1.1 h1.2 dL_law_590 ?_
  refine dg_aload_n C 0 rfl dL_law_591 ?_
  refine dg_iload_n C 3 rfl dL_law_592 ?_
  refine dg_iconst C dL_law_593 dc_iconst_2 ?_
  refine dg_iadd C dL_law_594 ?_
  refine dg_sld (v := a2) C h2.1 h2.2 dL_law_595 ?_
  refine dg_calli (k := 82) (t := 9) (As := [.int a1, .int a2]) C dw_L_57 ⟨_, _, rfl⟩ (by decide) dz_82 (ct_X9_walker l g a1 a2 S1) e2 ⟨Nat.le_of_ble_eq_true rfl, Nat.le_of_ble_eq_true rfl⟩ rfl (Nat.le_of_ble_eq_true rfl) rfl dL_law_596 ?_
  refine dg_eq (tgt := 1932) C dL_law_599 (by decide) ?_
  exact kk _ hI
set_option maxRecDepth 100000 in
set_option maxHeartbeats 4000000 in
theorem lc_10 {p : Program} {l : Launch} {e : Env} {s : State} {m : MethodId} {below : List Frame} {meth : Method} {c : Code} {g : dk_G} {b L : Nat} {xs : Nat → Int32} {S : dk_S} (C : dk_CL p s m meth c g b L xs) {x3 : Int32} {n : Nat} (hn : n < 512) (hI0 : dk_I n S) {a1 : Int32} {a2 : Int32} (h1 : vp_in (x3 + 1) L ∧ xs (x3 + 1).toNatClampNeg = a1) (h2 : vp_in (x3 + 2) L ∧ xs (x3 + 2).toNatClampNeg = a2) (kk : ∀ S2, dk_I (n + 1) S2 → dk_JL p l e s m below meth c g b 1932 [(0, .ref b), (1, .ref (g.1 0)), (2, .ref (g.1 82)), (3, .int x3)] [] S2) : dk_JL p l e s m below meth c g b 604 [(0, .ref b), (1, .ref (g.1 0)), (2, .ref (g.1 82)), (3, .int x3)] [] S := by
  obtain ⟨r, S1, S2, e1, e2, hI⟩ := pr_board a1 a2 hn hI0
  refine dg_aload_n C 1 rfl dL_law_604 ?_
  refine dg_aload_n C 0 rfl dL_law_605 ?_
  refine dg_iload_n C 3 rfl dL_law_606 ?_
  refine dg_iconst C dL_law_607 dc_iconst_1 ?_
  refine dg_iadd C dL_law_608 ?_
  refine dg_sld (v := a1) C h1.1 h1.2 dL_law_609 ?_
  refine dg_aload_n C 0 rfl dL_law_610 ?_
  refine dg_iload_n C 3 rfl dL_law_611 ?_
  refine dg_iconst C dL_law_612 dc_iconst_2 ?_
  refine dg_iadd C dL_law_613 ?_
  refine dg_sld (v := a2) C h2.1 h2.2 dL_law_614 ?_
  refine dg_calli (k := 0) (t := 8) (As := [.int a1, .int a2]) C dw_L_58 ⟨_, _, rfl⟩ (by decide) dz_0 (ct_X8_board l g a1 a2 S) e1 ⟨Nat.le_of_ble_eq_true rfl, Nat.le_of_ble_eq_true rfl⟩ rfl (Nat.le_of_ble_eq_true rfl) rfl dL_law_615 ?_
  refine dg_aload_n C 2 rfl dL_law_618 ?_
  refine dg_aload_n C 0 rfl dL_law_619 ?_
  refine dg_iload_n C 3 rfl dL_law_620 ?_
  refine dg_iconst C dL_law_621 dc_iconst_1 ?_
  refine dg_iadd C dL_law_622 ?_
  refine dg_sld (v := a1) C h1.1 h1.2 dL_law_623 ?_
  refine dg_aload_n C 0 rfl dL_law_624 ?_
  refine dg_iload_n C 3 rfl dL_law_625 ?_
  refine dg_iconst C dL_law_626 dc_iconst_2 ?_
  refine dg_iadd C dL_law_627 ?_
  refine dg_sld (v := a2) C h2.1 h2.2 dL_law_628 ?_
  refine dg_calli (k := 82) (t := 9) (As := [.int a1, .int a2]) C dw_L_61 ⟨_, _, rfl⟩ (by decide) dz_82 (ct_X9_board l g a1 a2 S1) e2 ⟨Nat.le_of_ble_eq_true rfl, Nat.le_of_ble_eq_true rfl⟩ rfl (Nat.le_of_ble_eq_true rfl) rfl dL_law_629 ?_
  refine dg_eq (tgt := 1932) C dL_law_632 (by decide) ?_
  exact kk _ hI
set_option maxRecDepth 100000 in
set_option maxHeartbeats 4000000 in
theorem lc_11 {p : Program} {l : Launch} {e : Env} {s : State} {m : MethodId} {below : List Frame} {meth : Method} {c : Code} {g : dk_G} {b L : Nat} {xs : Nat → Int32} {S : dk_S} (C : dk_CL p s m meth c g b L xs) {x3 : Int32} {n : Nat} (hn : n < 512) (hI0 : dk_I n S) {a1 : Int32} {a2 : Int32} (h1 : vp_in (x3 + 1) L ∧ xs (x3 + 1).toNatClampNeg = a1) (h2 : vp_in (x3 + 2) L ∧ xs (x3 + 2).toNatClampNeg = a2) (kk : ∀ S2, dk_I (n + 1) S2 → dk_JL p l e s m below meth c g b 1932 [(0, .ref b), (1, .ref (g.1 0)), (2, .ref (g.1 82)), (3, .int x3)] [] S2) : dk_JL p l e s m below meth c g b 637 [(0, .ref b), (1, .ref (g.1 0)), (2, .ref (g.1 82)), (3, .int x3)] [] S := by
  obtain ⟨r, S1, S2, e1, e2, hI⟩ := pr_about a1 a2 hn hI0
  refine dg_aload_n C 1 rfl dL_law_637 ?_
  refine dg_aload_n C 0 rfl dL_law_638 ?_
  refine dg_iload_n C 3 rfl dL_law_639 ?_
  refine dg_iconst C dL_law_640 dc_iconst_1 ?_
  refine dg_iadd C dL_law_641 ?_
  refine dg_sld (v := a1) C h1.1 h1.2 dL_law_642 ?_
  refine dg_aload_n C 0 rfl dL_law_643 ?_
  refine dg_iload_n C 3 rfl dL_law_644 ?_
  refine dg_iconst C dL_law_645 dc_iconst_2 ?_
  refine dg_iadd C dL_law_646 ?_
  refine dg_sld (v := a2) C h2.1 h2.2 dL_law_647 ?_
  refine dg_calli (k := 0) (t := 8) (As := [.int a1, .int a2]) C dw_L_62 ⟨_, _, rfl⟩ (by decide) dz_0 (ct_X8_about l g a1 a2 S) e1 ⟨Nat.le_of_ble_eq_true rfl, Nat.le_of_ble_eq_true rfl⟩ rfl (Nat.le_of_ble_eq_true rfl) rfl dL_law_648 ?_
  refine dg_aload_n C 2 rfl dL_law_651 ?_
  refine dg_aload_n C 0 rfl dL_law_652 ?_
  refine dg_iload_n C 3 rfl dL_law_653 ?_
  refine dg_iconst C dL_law_654 dc_iconst_1 ?_
  refine dg_iadd C dL_law_655 ?_
  refine dg_sld (v := a1) C h1.1 h1.2 dL_law_656 ?_
  refine dg_aload_n C 0 rfl dL_law_657 ?_
  refine dg_iload_n C 3 rfl dL_law_658 ?_
  refine dg_iconst C dL_law_659 dc_iconst_2 ?_
  refine dg_iadd C dL_law_660 ?_
  refine dg_sld (v := a2) C h2.1 h2.2 dL_law_661 ?_
  refine dg_calli (k := 82) (t := 9) (As := [.int a1, .int a2]) C dw_L_65 ⟨_, _, rfl⟩ (by decide) dz_82 (ct_X9_about l g a1 a2 S1) e2 ⟨Nat.le_of_ble_eq_true rfl, Nat.le_of_ble_eq_true rfl⟩ rfl (Nat.le_of_ble_eq_true rfl) rfl dL_law_662 ?_
  refine dg_eq (tgt := 1932) C dL_law_665 (by decide) ?_
  exact kk _ hI
set_option maxRecDepth 100000 in
set_option maxHeartbeats 4000000 in
theorem lc_12 {p : Program} {l : Launch} {e : Env} {s : State} {m : MethodId} {below : List Frame} {meth : Method} {c : Code} {g : dk_G} {b L : Nat} {xs : Nat → Int32} {S : dk_S} (C : dk_CL p s m meth c g b L xs) {x3 : Int32} {n : Nat} (hn : n < 512) (hI0 : dk_I n S) {a1 : Int32} {a2 : Int32} (h1 : vp_in (x3 + 1) L ∧ xs (x3 + 1).toNatClampNeg = a1) (h2 : vp_in (x3 + 2) L ∧ xs (x3 + 2).toNatClampNeg = a2) (kk : ∀ S2, dk_I (n + 1) S2 → dk_JL p l e s m below meth c g b 1932 [(0, .ref b), (1, .ref (g.1 0)), (2, .ref (g.1 82)), (3, .int x3)] [] S2) : dk_JL p l e s m below meth c g b 670 [(0, .ref b), (1, .ref (g.1 0)), (2, .ref (g.1 82)), (3, .int x3)] [] S := by
  obtain ⟨r, S1, S2, e1, e2, hI⟩ := pr_rub a1 a2 hn hI0
  refine dg_aload_n C 1 rfl dL_law_670 ?_
  refine dg_aload_n C 0 rfl dL_law_671 ?_
  refine dg_iload_n C 3 rfl dL_law_672 ?_
  refine dg_iconst C dL_law_673 dc_iconst_1 ?_
  refine dg_iadd C dL_law_674 ?_
  refine dg_sld (v := a1) C h1.1 h1.2 dL_law_675 ?_
  refine dg_aload_n C 0 rfl dL_law_676 ?_
  refine dg_iload_n C 3 rfl dL_law_677 ?_
  refine dg_iconst C dL_law_678 dc_iconst_2 ?_
  refine dg_iadd C dL_law_679 ?_
  refine dg_sld (v := a2) C h2.1 h2.2 dL_law_680 ?_
  refine dg_calli (k := 0) (t := 8) (As := [.int a1, .int a2]) C dw_L_66 ⟨_, _, rfl⟩ (by decide) dz_0 (ct_X8_rub l g a1 a2 S) e1 ⟨Nat.le_of_ble_eq_true rfl, Nat.le_of_ble_eq_true rfl⟩ rfl (Nat.le_of_ble_eq_true rfl) rfl dL_law_681 ?_
  refine dg_aload_n C 2 rfl dL_law_684 ?_
  refine dg_aload_n C 0 rfl dL_law_685 ?_
  refine dg_iload_n C 3 rfl dL_law_686 ?_
  refine dg_iconst C dL_law_687 dc_iconst_1 ?_
  refine dg_iadd C dL_law_688 ?_
  refine dg_sld (v := a1) C h1.1 h1.2 dL_law_689 ?_
  refine dg_aload_n C 0 rfl dL_law_690 ?_
  refine dg_iload_n C 3 rfl dL_law_691 ?_
  refine dg_iconst C dL_law_692 dc_iconst_2 ?_
  refine dg_iadd C dL_law_693 ?_
  refine dg_sld (v := a2) C h2.1 h2.2 dL_law_694 ?_
  refine dg_calli (k := 82) (t := 9) (As := [.int a1, .int a2]) C dw_L_69 ⟨_, _, rfl⟩ (by decide) dz_82 (ct_X9_rub l g a1 a2 S1) e2 ⟨Nat.le_of_ble_eq_true rfl, Nat.le_of_ble_eq_true rfl⟩ rfl (Nat.le_of_ble_eq_true rfl) rfl dL_law_695 ?_
  refine dg_eq (tgt := 1932) C dL_law_698 (by decide) ?_
  exact kk _ hI
set_option maxRecDepth 100000 in
set_option maxHeartbeats 4000000 in
theorem lc_13 {p : Program} {l : Launch} {e : Env} {s : State} {m : MethodId} {below : List Frame} {meth : Method} {c : Code} {g : dk_G} {b L : Nat} {xs : Nat → Int32} {S : dk_S} (C : dk_CL p s m meth c g b L xs) {x3 : Int32} {n : Nat} (hn : n < 512) (hI0 : dk_I n S) {a1 : Int32} {a2 : Int32} {a3 : Int32} (h1 : vp_in (x3 + 1) L ∧ xs (x3 + 1).toNatClampNeg = a1) (h2 : vp_in (x3 + 2) L ∧ xs (x3 + 2).toNatClampNeg = a2) (h3 : vp_in (x3 + 3) L ∧ xs (x3 + 3).toNatClampNeg = a3) (kk : ∀ S2, dk_I (n + 1) S2 → dk_JL p l e s m below meth c g b 1932 [(0, .ref b), (1, .ref (g.1 0)), (2, .ref (g.1 82)), (3, .int x3)] [] S2) : dk_JL p l e s m below meth c g b 703 [(0, .ref b), (1, .ref (g.1 0)), (2, .ref (g.1 82)), (3, .int x3)] [] S := by
  obtain ⟨r, S1, S2, e1, e2, hI⟩ := pr_wax a1 a2 a3 hn hI0
  refine dg_aload_n C 1 rfl dL_law_703 ?_
  refine dg_aload_n C 0 rfl dL_law_704 ?_
  refine dg_iload_n C 3 rfl dL_law_705 ?_
  refine dg_iconst C dL_law_706 dc_iconst_1 ?_
  refine dg_iadd C dL_law_707 ?_
  refine dg_sld (v := a1) C h1.1 h1.2 dL_law_708 ?_
  refine dg_aload_n C 0 rfl dL_law_709 ?_
  refine dg_iload_n C 3 rfl dL_law_710 ?_
  refine dg_iconst C dL_law_711 dc_iconst_2 ?_
  refine dg_iadd C dL_law_712 ?_
  refine dg_sld (v := a2) C h2.1 h2.2 dL_law_713 ?_
  refine dg_aload_n C 0 rfl dL_law_714 ?_
  refine dg_iload_n C 3 rfl dL_law_715 ?_
  refine dg_iconst C dL_law_716 dc_iconst_3 ?_
  refine dg_iadd C dL_law_717 ?_
  refine dg_sld (v := a3) C h3.1 h3.2 dL_law_718 ?_
  refine dg_calli (k := 0) (t := 8) (As := [.int a1, .int a2, .int a3]) C dw_L_70 ⟨_, _, rfl⟩ (by decide) dz_0 (ct_X8_wax l g a1 a2 a3 S) e1 ⟨Nat.le_of_ble_eq_true rfl, Nat.le_of_ble_eq_true rfl⟩ rfl (Nat.le_of_ble_eq_true rfl) rfl dL_law_719 ?_
  refine dg_aload_n C 2 rfl dL_law_722 ?_
  refine dg_aload_n C 0 rfl dL_law_723 ?_
  refine dg_iload_n C 3 rfl dL_law_724 ?_
  refine dg_iconst C dL_law_725 dc_iconst_1 ?_
  refine dg_iadd C dL_law_726 ?_
  refine dg_sld (v := a1) C h1.1 h1.2 dL_law_727 ?_
  refine dg_aload_n C 0 rfl dL_law_728 ?_
  refine dg_iload_n C 3 rfl dL_law_729 ?_
  refine dg_iconst C dL_law_730 dc_iconst_2 ?_
  refine dg_iadd C dL_law_731 ?_
  refine dg_sld (v := a2) C h2.1 h2.2 dL_law_732 ?_
  refine dg_aload_n C 0 rfl dL_law_733 ?_
  refine dg_iload_n C 3 rfl dL_law_734 ?_
  refine dg_iconst C dL_law_735 dc_iconst_3 ?_
  refine dg_iadd C dL_law_736 ?_
  refine dg_sld (v := a3) C h3.1 h3.2 dL_law_737 ?_
  refine dg_calli (k := 82) (t := 9) (As := [.int a1, .int a2, .int a3]) C dw_L_73 ⟨_, _, rfl⟩ (by decide) dz_82 (ct_X9_wax l g a1 a2 a3 S1) e2 ⟨Nat.le_of_ble_eq_true rfl, Nat.le_of_ble_eq_true rfl⟩ rfl (Nat.le_of_ble_eq_true rfl) rfl dL_law_738 ?_
  refine dg_eq (tgt := 1932) C dL_law_741 (by decide) ?_
  exact kk _ hI
set_option maxRecDepth 100000 in
set_option maxHeartbeats 4000000 in
theorem lc_14 {p : Program} {l : Launch} {e : Env} {s : State} {m : MethodId} {below : List Frame} {meth : Method} {c : Code} {g : dk_G} {b L : Nat} {xs : Nat → Int32} {S : dk_S} (C : dk_CL p s m meth c g b L xs) {x3 : Int32} {n : Nat} (hn : n < 512) (hI0 : dk_I n S) {a1 : Int32} {a2 : Int32} {a3 : Int32} {a4 : Int32} {a5 : Int32} (h1 : vp_in (x3 + 1) L ∧ xs (x3 + 1).toNatClampNeg = a1) (h2 : vp_in (x3 + 2) L ∧ xs (x3 + 2).toNatClampNeg = a2) (h3 : vp_in (x3 + 3) L ∧ xs (x3 + 3).toNatClampNeg = a3) (h4 : vp_in (x3 + 4) L ∧ xs (x3 + 4).toNatClampNeg = a4) (h5 : vp_in (x3 + 5) L ∧ xs (x3 + 5).toNatClampNeg = a5) (kk : ∀ S2, dk_I (n + 1) S2 → dk_JL p l e s m below meth c g b 1932 [(0, .ref b), (1, .ref (g.1 0)), (2, .ref (g.1 82)), (3, .int x3)] [] S2) : dk_JL p l e s m below meth c g b 746 [(0, .ref b), (1, .ref (g.1 0)), (2, .ref (g.1 82)), (3, .int x3)] [] S := by
  obtain ⟨r, S1, S2, e1, e2, hI⟩ := pr_walk a1 a2 a3 a4 a5 hn hI0
  refine dg_aload_n C 1 rfl dL_law_746 ?_
  refine dg_aload_n C 0 rfl dL_law_747 ?_
  refine dg_iload_n C 3 rfl dL_law_748 ?_
  refine dg_iconst C dL_law_749 dc_iconst_1 ?_
  refine dg_iadd C dL_law_750 ?_
  refine dg_sld (v := a1) C h1.1 h1.2 dL_law_751 ?_
  refine dg_aload_n C 0 rfl dL_law_752 ?_
  refine dg_iload_n C 3 rfl dL_law_753 ?_
  refine dg_iconst C dL_law_754 dc_iconst_2 ?_
  refine dg_iadd C dL_law_755 ?_
  refine dg_sld (v := a2) C h2.1 h2.2 dL_law_756 ?_
  refine dg_aload_n C 0 rfl dL_law_757 ?_
  refine dg_iload_n C 3 rfl dL_law_758 ?_
  refine dg_iconst C dL_law_759 dc_iconst_3 ?_
  refine dg_iadd C dL_law_760 ?_
  refine dg_sld (v := a3) C h3.1 h3.2 dL_law_761 ?_
  refine dg_aload_n C 0 rfl dL_law_762 ?_
  refine dg_iload_n C 3 rfl dL_law_763 ?_
  refine dg_iconst C dL_law_764 dc_iconst_4 ?_
  refine dg_iadd C dL_law_765 ?_
  refine dg_sld (v := a4) C h4.1 h4.2 dL_law_766 ?_
  refine dg_aload_n C 0 rfl dL_law_767 ?_
  refine dg_iload_n C 3 rfl dL_law_768 ?_
  refine dg_iconst C dL_law_769 dc_iconst_5 ?_
  refine dg_iadd C dL_law_770 ?_
  refine dg_sld (v := a5) C h5.1 h5.2 dL_law_771 ?_
  refine dg_calli (k := 0) (t := 8) (As := [.int a1, .int a2, .int a3, .int a4, .int a5]) C dw_L_74 ⟨_, _, rfl⟩ (by decide) dz_0 (ct_X8_walk l g a1 a2 a3 a4 a5 S) e1 ⟨Nat.le_of_ble_eq_true rfl, Nat.le_of_ble_eq_true rfl⟩ rfl (Nat.le_of_ble_eq_true rfl) rfl dL_law_772 ?_
  refine dg_aload_n C 2 rfl dL_law_775 ?_
  refine dg_aload_n C 0 rfl dL_law_776 ?_
  refine dg_iload_n C 3 rfl dL_law_777 ?_
  refine dg_iconst C dL_law_778 dc_iconst_1 ?_
  refine dg_iadd C dL_law_779 ?_
  refine dg_sld (v := a1) C h1.1 h1.2 dL_law_780 ?_
  refine dg_aload_n C 0 rfl dL_law_781 ?_
  refine dg_iload_n C 3 rfl dL_law_782 ?_
  refine dg_iconst C dL_law_783 dc_iconst_2 ?_
  refine dg_iadd C dL_law_784 ?_
  refine dg_sld (v := a2) C h2.1 h2.2 dL_law_785 ?_
  refine dg_aload_n C 0 rfl dL_law_786 ?_
  refine dg_iload_n C 3 rfl dL_law_787 ?_
  refine dg_iconst C dL_law_788 dc_iconst_3 ?_
  refine dg_iadd C dL_law_789 ?_
  refine dg_sld (v := a3) C h3.1 h3.2 dL_law_790 ?_
  refine dg_aload_n C 0 rfl dL_law_791 ?_
  refine dg_iload_n C 3 rfl dL_law_792 ?_
  refine dg_iconst C dL_law_793 dc_iconst_4 ?_
  refine dg_iadd C dL_law_794 ?_
  refine dg_sld (v := a4) C h4.1 h4.2 dL_law_795 ?_
  refine dg_aload_n C 0 rfl dL_law_796 ?_
  refine dg_iload_n C 3 rfl dL_law_797 ?_
  refine dg_iconst C dL_law_798 dc_iconst_5 ?_
  refine dg_iadd C dL_law_799 ?_
  refine dg_sld (v := a5) C h5.1 h5.2 dL_law_800 ?_
  refine dg_calli (k := 82) (t := 9) (As := [.int a1, .int a2, .int a3, .int a4, .int a5]) C dw_L_77 ⟨_, _, rfl⟩ (by decide) dz_82 (ct_X9_walk l g a1 a2 a3 a4 a5 S1) e2 ⟨Nat.le_of_ble_eq_true rfl, Nat.le_of_ble_eq_true rfl⟩ rfl (Nat.le_of_ble_eq_true rfl) rfl dL_law_801 ?_
  refine dg_eq (tgt := 1932) C dL_law_804 (by decide) ?_
  exact kk _ hI
set_option maxRecDepth 100000 in
set_option maxHeartbeats 4000000 in
theorem lc_15 {p : Program} {l : Launch} {e : Env} {s : State} {m : MethodId} {below : List Frame} {meth : Method} {c : Code} {g : dk_G} {b L : Nat} {xs : Nat → Int32} {S : dk_S} (C : dk_CL p s m meth c g b L xs) {x3 : Int32} {n : Nat} (hn : n < 512) (hI0 : dk_I n S) {a1 : Int32} (h1 : vp_in (x3 + 1) L ∧ xs (x3 + 1).toNatClampNeg = a1) (kk : ∀ S2, dk_I (n + 1) S2 → dk_JL p l e s m below meth c g b 1932 [(0, .ref b), (1, .ref (g.1 0)), (2, .ref (g.1 82)), (3, .int x3)] [] S2) : dk_JL p l e s m below meth c g b 809 [(0, .ref b), (1, .ref (g.1 0)), (2, .ref (g.1 82)), (3, .int x3)] [] S := by
  obtain ⟨r, S1, S2, e1, e2, hI⟩ := pr_go a1 hn hI0
  refine dg_aload_n C 1 rfl dL_law_809 ?_
  refine dg_aload_n C 0 rfl dL_law_810 ?_
  refine dg_iload_n C 3 rfl dL_law_811 ?_
  refine dg_iconst C dL_law_812 dc_iconst_1 ?_
  refine dg_iadd C dL_law_813 ?_
  refine dg_sld (v := a1) C h1.1 h1.2 dL_law_814 ?_
  refine dg_calli (k := 0) (t := 8) (As := [.int a1]) C dw_L_78 ⟨_, _, rfl⟩ (by decide) dz_0 (ct_X8_go l g a1 S) e1 ⟨Nat.le_of_ble_eq_true rfl, Nat.le_of_ble_eq_true rfl⟩ rfl (Nat.le_of_ble_eq_true rfl) rfl dL_law_815 ?_
  refine dg_aload_n C 2 rfl dL_law_818 ?_
  refine dg_aload_n C 0 rfl dL_law_819 ?_
  refine dg_iload_n C 3 rfl dL_law_820 ?_
  refine dg_iconst C dL_law_821 dc_iconst_1 ?_
  refine dg_iadd C dL_law_822 ?_
  refine dg_sld (v := a1) C h1.1 h1.2 dL_law_823 ?_
  refine dg_calli (k := 82) (t := 9) (As := [.int a1]) C dw_L_81 ⟨_, _, rfl⟩ (by decide) dz_82 (ct_X9_go l g a1 S1) e2 ⟨Nat.le_of_ble_eq_true rfl, Nat.le_of_ble_eq_true rfl⟩ rfl (Nat.le_of_ble_eq_true rfl) rfl dL_law_824 ?_
  refine dg_eq (tgt := 1932) C dL_law_827 (by decide) ?_
  exact kk _ hI
set_option maxRecDepth 100000 in
set_option maxHeartbeats 4000000 in
theorem lc_16 {p : Program} {l : Launch} {e : Env} {s : State} {m : MethodId} {below : List Frame} {meth : Method} {c : Code} {g : dk_G} {b L : Nat} {xs : Nat → Int32} {S : dk_S} (C : dk_CL p s m meth c g b L xs) {x3 : Int32} {n : Nat} (hn : n < 512) (hI0 : dk_I n S) {a1 : Int32} (h1 : vp_in (x3 + 1) L ∧ xs (x3 + 1).toNatClampNeg = a1) (kk : ∀ S2, dk_I (n + 1) S2 → dk_JL p l e s m below meth c g b 1932 [(0, .ref b), (1, .ref (g.1 0)), (2, .ref (g.1 82)), (3, .int x3)] [] S2) : dk_JL p l e s m below meth c g b 832 [(0, .ref b), (1, .ref (g.1 0)), (2, .ref (g.1 82)), (3, .int x3)] [] S := by
  obtain ⟨r, S1, S2, e1, e2, hI⟩ := pr_told a1 hn hI0
  refine dg_aload_n C 1 rfl dL_law_832 ?_
  refine dg_aload_n C 0 rfl dL_law_833 ?_
  refine dg_iload_n C 3 rfl dL_law_834 ?_
  refine dg_iconst C dL_law_835 dc_iconst_1 ?_
  refine dg_iadd C dL_law_836 ?_
  refine dg_sld (v := a1) C h1.1 h1.2 dL_law_837 ?_
  refine dg_calli (k := 0) (t := 8) (As := [.int a1]) C dw_L_82 ⟨_, _, rfl⟩ (by decide) dz_0 (ct_X8_told l g a1 S) e1 ⟨Nat.le_of_ble_eq_true rfl, Nat.le_of_ble_eq_true rfl⟩ rfl (Nat.le_of_ble_eq_true rfl) rfl dL_law_838 ?_
  refine dg_aload_n C 2 rfl dL_law_841 ?_
  refine dg_aload_n C 0 rfl dL_law_842 ?_
  refine dg_iload_n C 3 rfl dL_law_843 ?_
  refine dg_iconst C dL_law_844 dc_iconst_1 ?_
  refine dg_iadd C dL_law_845 ?_
  refine dg_sld (v := a1) C h1.1 h1.2 dL_law_846 ?_
  refine dg_calli (k := 82) (t := 9) (As := [.int a1]) C dw_L_85 ⟨_, _, rfl⟩ (by decide) dz_82 (ct_X9_told l g a1 S1) e2 ⟨Nat.le_of_ble_eq_true rfl, Nat.le_of_ble_eq_true rfl⟩ rfl (Nat.le_of_ble_eq_true rfl) rfl dL_law_847 ?_
  refine dg_eq (tgt := 1932) C dL_law_850 (by decide) ?_
  exact kk _ hI
set_option maxRecDepth 100000 in
set_option maxHeartbeats 4000000 in
theorem lc_17 {p : Program} {l : Launch} {e : Env} {s : State} {m : MethodId} {below : List Frame} {meth : Method} {c : Code} {g : dk_G} {b L : Nat} {xs : Nat → Int32} {S : dk_S} (C : dk_CL p s m meth c g b L xs) {x3 : Int32} {n : Nat} (hn : n < 512) (hI0 : dk_I n S) {a1 : Int32} {a2 : Int32} (h1 : vp_in (x3 + 1) L ∧ xs (x3 + 1).toNatClampNeg = a1) (h2 : vp_in (x3 + 2) L ∧ xs (x3 + 2).toNatClampNeg = a2) (kk : ∀ S2, dk_I (n + 1) S2 → dk_JL p l e s m below meth c g b 1932 [(0, .ref b), (1, .ref (g.1 0)), (2, .ref (g.1 82)), (3, .int x3)] [] S2) : dk_JL p l e s m below meth c g b 855 [(0, .ref b), (1, .ref (g.1 0)), (2, .ref (g.1 82)), (3, .int x3)] [] S := by
  obtain ⟨r, S1, S2, e1, e2, hI⟩ := pr_tocks a1 a2 hn hI0
  refine dg_aload_n C 1 rfl dL_law_855 ?_
  refine dg_aload_n C 0 rfl dL_law_856 ?_
  refine dg_iload_n C 3 rfl dL_law_857 ?_
  refine dg_iconst C dL_law_858 dc_iconst_1 ?_
  refine dg_iadd C dL_law_859 ?_
  refine dg_sld (v := a1) C h1.1 h1.2 dL_law_860 ?_
  refine dg_aload_n C 0 rfl dL_law_861 ?_
  refine dg_iload_n C 3 rfl dL_law_862 ?_
  refine dg_iconst C dL_law_863 dc_iconst_2 ?_
  refine dg_iadd C dL_law_864 ?_
  refine dg_sld (v := a2) C h2.1 h2.2 dL_law_865 ?_
  refine dg_calli (k := 0) (t := 8) (As := [.int a1, .int a2]) C dw_L_86 ⟨_, _, rfl⟩ (by decide) dz_0 (ct_X8_tocks l g a1 a2 S) e1 ⟨Nat.le_of_ble_eq_true rfl, Nat.le_of_ble_eq_true rfl⟩ rfl (Nat.le_of_ble_eq_true rfl) rfl dL_law_866 ?_
  refine dg_aload_n C 2 rfl dL_law_869 ?_
  refine dg_aload_n C 0 rfl dL_law_870 ?_
  refine dg_iload_n C 3 rfl dL_law_871 ?_
  refine dg_iconst C dL_law_872 dc_iconst_1 ?_
  refine dg_iadd C dL_law_873 ?_
  refine dg_sld (v := a1) C h1.1 h1.2 dL_law_874 ?_
  refine dg_aload_n C 0 rfl dL_law_875 ?_
  refine dg_iload_n C 3 rfl dL_law_876 ?_
  refine dg_iconst C dL_law_877 dc_iconst_2 ?_
  refine dg_iadd C dL_law_878 ?_
  refine dg_sld (v := a2) C h2.1 h2.2 dL_law_879 ?_
  refine dg_calli (k := 82) (t := 9) (As := [.int a1, .int a2]) C dw_L_89 ⟨_, _, rfl⟩ (by decide) dz_82 (ct_X9_tocks l g a1 a2 S1) e2 ⟨Nat.le_of_ble_eq_true rfl, Nat.le_of_ble_eq_true rfl⟩ rfl (Nat.le_of_ble_eq_true rfl) rfl dL_law_880 ?_
  refine dg_eq (tgt := 1932) C dL_law_883 (by decide) ?_
  exact kk _ hI
set_option maxRecDepth 100000 in
set_option maxHeartbeats 4000000 in
theorem lc_18 {p : Program} {l : Launch} {e : Env} {s : State} {m : MethodId} {below : List Frame} {meth : Method} {c : Code} {g : dk_G} {b L : Nat} {xs : Nat → Int32} {S : dk_S} (C : dk_CL p s m meth c g b L xs) {x3 : Int32} {n : Nat} (hn : n < 512) (hI0 : dk_I n S) {a1 : Int32} (h1 : vp_in (x3 + 1) L ∧ xs (x3 + 1).toNatClampNeg = a1) (kk : ∀ S2, dk_I (n + 1) S2 → dk_JL p l e s m below meth c g b 1932 [(0, .ref b), (1, .ref (g.1 0)), (2, .ref (g.1 82)), (3, .int x3)] [] S2) : dk_JL p l e s m below meth c g b 888 [(0, .ref b), (1, .ref (g.1 0)), (2, .ref (g.1 82)), (3, .int x3)] [] S := by
  obtain ⟨r, S1, S2, e1, e2, hI⟩ := pr_tilt a1 hn hI0
  refine dg_aload_n C 1 rfl dL_law_888 ?_
  refine dg_aload_n C 0 rfl dL_law_889 ?_
  refine dg_iload_n C 3 rfl dL_law_890 ?_
  refine dg_iconst C dL_law_891 dc_iconst_1 ?_
  refine dg_iadd C dL_law_892 ?_
  refine dg_sld (v := a1) C h1.1 h1.2 dL_law_893 ?_
  refine dg_calli (k := 0) (t := 8) (As := [.int a1]) C dw_L_90 ⟨_, _, rfl⟩ (by decide) dz_0 (ct_X8_tilt l g a1 S) e1 ⟨Nat.le_of_ble_eq_true rfl, Nat.le_of_ble_eq_true rfl⟩ rfl (Nat.le_of_ble_eq_true rfl) rfl dL_law_894 ?_
  refine dg_aload_n C 2 rfl dL_law_897 ?_
  refine dg_aload_n C 0 rfl dL_law_898 ?_
  refine dg_iload_n C 3 rfl dL_law_899 ?_
  refine dg_iconst C dL_law_900 dc_iconst_1 ?_
  refine dg_iadd C dL_law_901 ?_
  refine dg_sld (v := a1) C h1.1 h1.2 dL_law_902 ?_
  refine dg_calli (k := 82) (t := 9) (As := [.int a1]) C dw_L_93 ⟨_, _, rfl⟩ (by decide) dz_82 (ct_X9_tilt l g a1 S1) e2 ⟨Nat.le_of_ble_eq_true rfl, Nat.le_of_ble_eq_true rfl⟩ rfl (Nat.le_of_ble_eq_true rfl) rfl dL_law_903 ?_
  refine dg_eq (tgt := 1932) C dL_law_906 (by decide) ?_
  exact kk _ hI
set_option maxRecDepth 100000 in
set_option maxHeartbeats 4000000 in
theorem lc_19 {p : Program} {l : Launch} {e : Env} {s : State} {m : MethodId} {below : List Frame} {meth : Method} {c : Code} {g : dk_G} {b L : Nat} {xs : Nat → Int32} {S : dk_S} (C : dk_CL p s m meth c g b L xs) {x3 : Int32} {n : Nat} (hn : n < 512) (hI0 : dk_I n S) {a1 : Int32} (h1 : vp_in (x3 + 1) L ∧ xs (x3 + 1).toNatClampNeg = a1) (kk : ∀ S2, dk_I (n + 1) S2 → dk_JL p l e s m below meth c g b 1932 [(0, .ref b), (1, .ref (g.1 0)), (2, .ref (g.1 82)), (3, .int x3)] [] S2) : dk_JL p l e s m below meth c g b 911 [(0, .ref b), (1, .ref (g.1 0)), (2, .ref (g.1 82)), (3, .int x3)] [] S := by
  obtain ⟨r, S1, S2, e1, e2, hI⟩ := pr_keep a1 hn hI0
  refine dg_aload_n C 1 rfl dL_law_911 ?_
  refine dg_aload_n C 0 rfl dL_law_912 ?_
  refine dg_iload_n C 3 rfl dL_law_913 ?_
  refine dg_iconst C dL_law_914 dc_iconst_1 ?_
  refine dg_iadd C dL_law_915 ?_
  refine dg_sld (v := a1) C h1.1 h1.2 dL_law_916 ?_
  refine dg_calli (k := 0) (t := 8) (As := [.int a1]) C dw_L_94 ⟨_, _, rfl⟩ (by decide) dz_0 (ct_X8_keep l g a1 S) e1 ⟨Nat.le_of_ble_eq_true rfl, Nat.le_of_ble_eq_true rfl⟩ rfl (Nat.le_of_ble_eq_true rfl) rfl dL_law_917 ?_
  refine dg_aload_n C 2 rfl dL_law_920 ?_
  refine dg_aload_n C 0 rfl dL_law_921 ?_
  refine dg_iload_n C 3 rfl dL_law_922 ?_
  refine dg_iconst C dL_law_923 dc_iconst_1 ?_
  refine dg_iadd C dL_law_924 ?_
  refine dg_sld (v := a1) C h1.1 h1.2 dL_law_925 ?_
  refine dg_calli (k := 82) (t := 9) (As := [.int a1]) C dw_L_97 ⟨_, _, rfl⟩ (by decide) dz_82 (ct_X9_keep l g a1 S1) e2 ⟨Nat.le_of_ble_eq_true rfl, Nat.le_of_ble_eq_true rfl⟩ rfl (Nat.le_of_ble_eq_true rfl) rfl dL_law_926 ?_
  refine dg_eq (tgt := 1932) C dL_law_929 (by decide) ?_
  exact kk _ hI
set_option maxRecDepth 100000 in
set_option maxHeartbeats 4000000 in
theorem lc_20 {p : Program} {l : Launch} {e : Env} {s : State} {m : MethodId} {below : List Frame} {meth : Method} {c : Code} {g : dk_G} {b L : Nat} {xs : Nat → Int32} {S : dk_S} (C : dk_CL p s m meth c g b L xs) {x3 : Int32} {n : Nat} (hn : n < 512) (hI0 : dk_I n S) {a1 : Int32} (h1 : vp_in (x3 + 1) L ∧ xs (x3 + 1).toNatClampNeg = a1) (kk : ∀ S2, dk_I (n + 1) S2 → dk_JL p l e s m below meth c g b 1932 [(0, .ref b), (1, .ref (g.1 0)), (2, .ref (g.1 82)), (3, .int x3)] [] S2) : dk_JL p l e s m below meth c g b 934 [(0, .ref b), (1, .ref (g.1 0)), (2, .ref (g.1 82)), (3, .int x3)] [] S := by
  obtain ⟨r, S1, S2, e1, e2, hI⟩ := pr_on a1 hn hI0
  refine dg_aload_n C 1 rfl dL_law_934 ?_
  refine dg_aload_n C 0 rfl dL_law_935 ?_
  refine dg_iload_n C 3 rfl dL_law_936 ?_
  refine dg_iconst C dL_law_937 dc_iconst_1 ?_
  refine dg_iadd C dL_law_938 ?_
  refine dg_sld (v := a1) C h1.1 h1.2 dL_law_939 ?_
  refine dg_calli (k := 0) (t := 8) (As := [.int a1]) C dw_L_98 ⟨_, _, rfl⟩ (by decide) dz_0 (ct_X8_on l g a1 S) e1 ⟨Nat.le_of_ble_eq_true rfl, Nat.le_of_ble_eq_true rfl⟩ rfl (Nat.le_of_ble_eq_true rfl) rfl dL_law_940 ?_
  refine dg_aload_n C 2 rfl dL_law_943 ?_
  refine dg_aload_n C 0 rfl dL_law_944 ?_
  refine dg_iload_n C 3 rfl dL_law_945 ?_
  refine dg_iconst C dL_law_946 dc_iconst_1 ?_
  refine dg_iadd C dL_law_947 ?_
  refine dg_sld (v := a1) C h1.1 h1.2 dL_law_948 ?_
  refine dg_calli (k := 82) (t := 9) (As := [.int a1]) C dw_L_101 ⟨_, _, rfl⟩ (by decide) dz_82 (ct_X9_on l g a1 S1) e2 ⟨Nat.le_of_ble_eq_true rfl, Nat.le_of_ble_eq_true rfl⟩ rfl (Nat.le_of_ble_eq_true rfl) rfl dL_law_949 ?_
  refine dg_eq (tgt := 1932) C dL_law_952 (by decide) ?_
  exact kk _ hI
set_option maxRecDepth 100000 in
set_option maxHeartbeats 4000000 in
theorem lc_21 {p : Program} {l : Launch} {e : Env} {s : State} {m : MethodId} {below : List Frame} {meth : Method} {c : Code} {g : dk_G} {b L : Nat} {xs : Nat → Int32} {S : dk_S} (C : dk_CL p s m meth c g b L xs) {x3 : Int32} {n : Nat} (hn : n < 512) (hI0 : dk_I n S)   (kk : ∀ S2, dk_I (n + 1) S2 → dk_JL p l e s m below meth c g b 1932 [(0, .ref b), (1, .ref (g.1 0)), (2, .ref (g.1 82)), (3, .int x3)] [] S2) : dk_JL p l e s m below meth c g b 957 [(0, .ref b), (1, .ref (g.1 0)), (2, .ref (g.1 82)), (3, .int x3)] [] S := by
  obtain ⟨r, S1, S2, e1, e2, hI⟩ := pr_turns  hn hI0
  refine dg_aload_n C 1 rfl dL_law_957 ?_
  refine dg_calli (k := 0) (t := 8) (As := []) C dw_L_102 ⟨_, _, rfl⟩ (by decide) dz_0 (ct_X8_turns l g  S) e1 ⟨Nat.le_of_ble_eq_true rfl, Nat.le_of_ble_eq_true rfl⟩ rfl (Nat.le_of_ble_eq_true rfl) rfl dL_law_958 ?_
  refine dg_aload_n C 2 rfl dL_law_961 ?_
  refine dg_calli (k := 82) (t := 9) (As := []) C dw_L_106 ⟨_, _, rfl⟩ (by decide) dz_82 (ct_X9_turns l g  S1) e2 ⟨Nat.le_of_ble_eq_true rfl, Nat.le_of_ble_eq_true rfl⟩ rfl (Nat.le_of_ble_eq_true rfl) rfl dL_law_962 ?_
  refine dg_eq (tgt := 1932) C dL_law_965 (by decide) ?_
  exact kk _ hI
set_option maxRecDepth 100000 in
set_option maxHeartbeats 4000000 in
theorem lc_22 {p : Program} {l : Launch} {e : Env} {s : State} {m : MethodId} {below : List Frame} {meth : Method} {c : Code} {g : dk_G} {b L : Nat} {xs : Nat → Int32} {S : dk_S} (C : dk_CL p s m meth c g b L xs) {x3 : Int32} {n : Nat} (hn : n < 512) (hI0 : dk_I n S) {a1 : Int32} {a2 : Int32} {a3 : Int32} {a4 : Int32} (h1 : vp_in (x3 + 1) L ∧ xs (x3 + 1).toNatClampNeg = a1) (h2 : vp_in (x3 + 2) L ∧ xs (x3 + 2).toNatClampNeg = a2) (h3 : vp_in (x3 + 3) L ∧ xs (x3 + 3).toNatClampNeg = a3) (h4 : vp_in (x3 + 4) L ∧ xs (x3 + 4).toNatClampNeg = a4) (kk : ∀ S2, dk_I (n + 1) S2 → dk_JL p l e s m below meth c g b 1932 [(0, .ref b), (1, .ref (g.1 0)), (2, .ref (g.1 82)), (3, .int x3)] [] S2) : dk_JL p l e s m below meth c g b 970 [(0, .ref b), (1, .ref (g.1 0)), (2, .ref (g.1 82)), (3, .int x3)] [] S := by
  obtain ⟨r, S1, S2, e1, e2, hI⟩ := pr_going a1 a2 a3 a4 hn hI0
  refine dg_aload_n C 1 rfl dL_law_970 ?_
  refine dg_aload_n C 0 rfl dL_law_971 ?_
  refine dg_iload_n C 3 rfl dL_law_972 ?_
  refine dg_iconst C dL_law_973 dc_iconst_1 ?_
  refine dg_iadd C dL_law_974 ?_
  refine dg_sld (v := a1) C h1.1 h1.2 dL_law_975 ?_
  refine dg_aload_n C 0 rfl dL_law_976 ?_
  refine dg_iload_n C 3 rfl dL_law_977 ?_
  refine dg_iconst C dL_law_978 dc_iconst_2 ?_
  refine dg_iadd C dL_law_979 ?_
  refine dg_sld (v := a2) C h2.1 h2.2 dL_law_980 ?_
  refine dg_aload_n C 0 rfl dL_law_981 ?_
  refine dg_iload_n C 3 rfl dL_law_982 ?_
  refine dg_iconst C dL_law_983 dc_iconst_3 ?_
  refine dg_iadd C dL_law_984 ?_
  refine dg_sld (v := a3) C h3.1 h3.2 dL_law_985 ?_
  refine dg_aload_n C 0 rfl dL_law_986 ?_
  refine dg_iload_n C 3 rfl dL_law_987 ?_
  refine dg_iconst C dL_law_988 dc_iconst_4 ?_
  refine dg_iadd C dL_law_989 ?_
  refine dg_sld (v := a4) C h4.1 h4.2 dL_law_990 ?_
  refine dg_calli (k := 0) (t := 8) (As := [.int a1, .int a2, .int a3, .int a4]) C dw_L_107 ⟨_, _, rfl⟩ (by decide) dz_0 (ct_X8_going l g a1 a2 a3 a4 S) e1 ⟨Nat.le_of_ble_eq_true rfl, Nat.le_of_ble_eq_true rfl⟩ rfl (Nat.le_of_ble_eq_true rfl) rfl dL_law_991 ?_
  refine dg_aload_n C 2 rfl dL_law_994 ?_
  refine dg_aload_n C 0 rfl dL_law_995 ?_
  refine dg_iload_n C 3 rfl dL_law_996 ?_
  refine dg_iconst C dL_law_997 dc_iconst_1 ?_
  refine dg_iadd C dL_law_998 ?_
  refine dg_sld (v := a1) C h1.1 h1.2 dL_law_999 ?_
  refine dg_aload_n C 0 rfl dL_law_1000 ?_
  refine dg_iload_n C 3 rfl dL_law_1001 ?_
  refine dg_iconst C dL_law_1002 dc_iconst_2 ?_
  refine dg_iadd C dL_law_1003 ?_
  refine dg_sld (v := a2) C h2.1 h2.2 dL_law_1004 ?_
  refine dg_aload_n C 0 rfl dL_law_1005 ?_
  refine dg_iload_n C 3 rfl dL_law_1006 ?_
  refine dg_iconst C dL_law_1007 dc_iconst_3 ?_
  refine dg_iadd C dL_law_1008 ?_
  refine dg_sld (v := a3) C h3.1 h3.2 dL_law_1009 ?_
  refine dg_aload_n C 0 rfl dL_law_1010 ?_
  refine dg_iload_n C 3 rfl dL_law_1011 ?_
  refine dg_iconst C dL_law_1012 dc_iconst_4 ?_
  refine dg_iadd C dL_law_1013 ?_
  refine dg_sld (v := a4) C h4.1 h4.2 dL_law_1014 ?_
  refine dg_calli (k := 82) (t := 9) (As := [.int a1, .int a2, .int a3, .int a4]) C dw_L_111 ⟨_, _, rfl⟩ (by decide) dz_82 (ct_X9_going l g a1 a2 a3 a4 S1) e2 ⟨Nat.le_of_ble_eq_true rfl, Nat.le_of_ble_eq_true rfl⟩ rfl (Nat.le_of_ble_eq_true rfl) rfl dL_law_1015 ?_
  refine dg_eq (tgt := 1932) C dL_law_1018 (by decide) ?_
  exact kk _ hI
set_option maxRecDepth 100000 in
set_option maxHeartbeats 4000000 in
theorem lc_23 {p : Program} {l : Launch} {e : Env} {s : State} {m : MethodId} {below : List Frame} {meth : Method} {c : Code} {g : dk_G} {b L : Nat} {xs : Nat → Int32} {S : dk_S} (C : dk_CL p s m meth c g b L xs) {x3 : Int32} {n : Nat} (hn : n < 512) (hI0 : dk_I n S) {a1 : Int32} {a2 : Int32} {a3 : Int32} {a4 : Int32} {a5 : Int32} (h1 : vp_in (x3 + 1) L ∧ xs (x3 + 1).toNatClampNeg = a1) (h2 : vp_in (x3 + 2) L ∧ xs (x3 + 2).toNatClampNeg = a2) (h3 : vp_in (x3 + 3) L ∧ xs (x3 + 3).toNatClampNeg = a3) (h4 : vp_in (x3 + 4) L ∧ xs (x3 + 4).toNatClampNeg = a4) (h5 : vp_in (x3 + 5) L ∧ xs (x3 + 5).toNatClampNeg = a5) (kk : ∀ S2, dk_I (n + 1) S2 → dk_JL p l e s m below meth c g b 1932 [(0, .ref b), (1, .ref (g.1 0)), (2, .ref (g.1 82)), (3, .int x3)] [] S2) : dk_JL p l e s m below meth c g b 1023 [(0, .ref b), (1, .ref (g.1 0)), (2, .ref (g.1 82)), (3, .int x3)] [] S := by
  obtain ⟨r, S1, S2, e1, e2, hI⟩ := pr_mark a1 a2 a3 a4 a5 hn hI0
  refine dg_aload_n C 1 rfl dL_law_1023 ?_
  refine dg_aload_n C 0 rfl dL_law_1024 ?_
  refine dg_iload_n C 3 rfl dL_law_1025 ?_
  refine dg_iconst C dL_law_1026 dc_iconst_1 ?_
  refine dg_iadd C dL_law_1027 ?_
  refine dg_sld (v := a1) C h1.1 h1.2 dL_law_1028 ?_
  refine dg_aload_n C 0 rfl dL_law_1029 ?_
  refine dg_iload_n C 3 rfl dL_law_1030 ?_
  refine dg_iconst C dL_law_1031 dc_iconst_2 ?_
  refine dg_iadd C dL_law_1032 ?_
  refine dg_sld (v := a2) C h2.1 h2.2 dL_law_1033 ?_
  refine dg_aload_n C 0 rfl dL_law_1034 ?_
  refine dg_iload_n C 3 rfl dL_law_1035 ?_
  refine dg_iconst C dL_law_1036 dc_iconst_3 ?_
  refine dg_iadd C dL_law_1037 ?_
  refine dg_sld (v := a3) C h3.1 h3.2 dL_law_1038 ?_
  refine dg_aload_n C 0 rfl dL_law_1039 ?_
  refine dg_iload_n C 3 rfl dL_law_1040 ?_
  refine dg_iconst C dL_law_1041 dc_iconst_4 ?_
  refine dg_iadd C dL_law_1042 ?_
  refine dg_sld (v := a4) C h4.1 h4.2 dL_law_1043 ?_
  refine dg_aload_n C 0 rfl dL_law_1044 ?_
  refine dg_iload_n C 3 rfl dL_law_1045 ?_
  refine dg_iconst C dL_law_1046 dc_iconst_5 ?_
  refine dg_iadd C dL_law_1047 ?_
  refine dg_sld (v := a5) C h5.1 h5.2 dL_law_1048 ?_
  refine dg_calli (k := 0) (t := 8) (As := [.int a1, .int a2, .int a3, .int a4, .int a5]) C dw_L_112 ⟨_, _, rfl⟩ (by decide) dz_0 (ct_X8_mark l g a1 a2 a3 a4 a5 S) e1 ⟨Nat.le_of_ble_eq_true rfl, Nat.le_of_ble_eq_true rfl⟩ rfl (Nat.le_of_ble_eq_true rfl) rfl dL_law_1049 ?_
  refine dg_aload_n C 2 rfl dL_law_1052 ?_
  refine dg_aload_n C 0 rfl dL_law_1053 ?_
  refine dg_iload_n C 3 rfl dL_law_1054 ?_
  refine dg_iconst C dL_law_1055 dc_iconst_1 ?_
  refine dg_iadd C dL_law_1056 ?_
  refine dg_sld (v := a1) C h1.1 h1.2 dL_law_1057 ?_
  refine dg_aload_n C 0 rfl dL_law_1058 ?_
  refine dg_iload_n C 3 rfl dL_law_1059 ?_
  refine dg_iconst C dL_law_1060 dc_iconst_2 ?_
  refine dg_iadd C dL_law_1061 ?_
  refine dg_sld (v := a2) C h2.1 h2.2 dL_law_1062 ?_
  refine dg_aload_n C 0 rfl dL_law_1063 ?_
  refine dg_iload_n C 3 rfl dL_law_1064 ?_
  refine dg_iconst C dL_law_1065 dc_iconst_3 ?_
  refine dg_iadd C dL_law_1066 ?_
  refine dg_sld (v := a3) C h3.1 h3.2 dL_law_1067 ?_
  refine dg_aload_n C 0 rfl dL_law_1068 ?_
  refine dg_iload_n C 3 rfl dL_law_1069 ?_
  refine dg_iconst C dL_law_1070 dc_iconst_4 ?_
  refine dg_iadd C dL_law_1071 ?_
  refine dg_sld (v := a4) C h4.1 h4.2 dL_law_1072 ?_
  refine dg_aload_n C 0 rfl dL_law_1073 ?_
  refine dg_iload_n C 3 rfl dL_law_1074 ?_
  refine dg_iconst C dL_law_1075 dc_iconst_5 ?_
  refine dg_iadd C dL_law_1076 ?_
  refine dg_sld (v := a5) C h5.1 h5.2 dL_law_1077 ?_
  refine dg_calli (k := 82) (t := 9) (As := [.int a1, .int a2, .int a3, .int a4, .int a5]) C dw_L_115 ⟨_, _, rfl⟩ (by decide) dz_82 (ct_X9_mark l g a1 a2 a3 a4 a5 S1) e2 ⟨Nat.le_of_ble_eq_true rfl, Nat.le_of_ble_eq_true rfl⟩ rfl (Nat.le_of_ble_eq_true rfl) rfl dL_law_1078 ?_
  refine dg_eq (tgt := 1932) C dL_law_1081 (by decide) ?_
  exact kk _ hI
set_option maxRecDepth 100000 in
set_option maxHeartbeats 4000000 in
theorem lc_24 {p : Program} {l : Launch} {e : Env} {s : State} {m : MethodId} {below : List Frame} {meth : Method} {c : Code} {g : dk_G} {b L : Nat} {xs : Nat → Int32} {S : dk_S} (C : dk_CL p s m meth c g b L xs) {x3 : Int32} {n : Nat} (hn : n < 512) (hI0 : dk_I n S) {a1 : Int32} {a2 : Int32} {a3 : Int32} {a4 : Int32} (h1 : vp_in (x3 + 1) L ∧ xs (x3 + 1).toNatClampNeg = a1) (h2 : vp_in (x3 + 2) L ∧ xs (x3 + 2).toNatClampNeg = a2) (h3 : vp_in (x3 + 3) L ∧ xs (x3 + 3).toNatClampNeg = a3) (h4 : vp_in (x3 + 4) L ∧ xs (x3 + 4).toNatClampNeg = a4) (kk : ∀ S2, dk_I (n + 1) S2 → dk_JL p l e s m below meth c g b 1932 [(0, .ref b), (1, .ref (g.1 0)), (2, .ref (g.1 82)), (3, .int x3)] [] S2) : dk_JL p l e s m below meth c g b 1086 [(0, .ref b), (1, .ref (g.1 0)), (2, .ref (g.1 82)), (3, .int x3)] [] S := by
  obtain ⟨r, S1, S2, e1, e2, hI⟩ := pr_lines a1 a2 a3 a4 hn hI0
  refine dg_aload_n C 1 rfl dL_law_1086 ?_
  refine dg_aload_n C 0 rfl dL_law_1087 ?_
  refine dg_iload_n C 3 rfl dL_law_1088 ?_
  refine dg_iconst C dL_law_1089 dc_iconst_1 ?_
  refine dg_iadd C dL_law_1090 ?_
  refine dg_sld (v := a1) C h1.1 h1.2 dL_law_1091 ?_
  refine dg_aload_n C 0 rfl dL_law_1092 ?_
  refine dg_iload_n C 3 rfl dL_law_1093 ?_
  refine dg_iconst C dL_law_1094 dc_iconst_2 ?_
  refine dg_iadd C dL_law_1095 ?_
  refine dg_sld (v := a2) C h2.1 h2.2 dL_law_1096 ?_
  refine dg_aload_n C 0 rfl dL_law_1097 ?_
  refine dg_iload_n C 3 rfl dL_law_1098 ?_
  refine dg_iconst C dL_law_1099 dc_iconst_3 ?_
  refine dg_iadd C dL_law_1100 ?_
  refine dg_sld (v := a3) C h3.1 h3.2 dL_law_1101 ?_
  refine dg_aload_n C 0 rfl dL_law_1102 ?_
  refine dg_iload_n C 3 rfl dL_law_1103 ?_
  refine dg_iconst C dL_law_1104 dc_iconst_4 ?_
  refine dg_iadd C dL_law_1105 ?_
  refine dg_sld (v := a4) C h4.1 h4.2 dL_law_1106 ?_
  refine dg_calli (k := 0) (t := 8) (As := [.int a1, .int a2, .int a3, .int a4]) C dw_L_116 ⟨_, _, rfl⟩ (by decide) dz_0 (ct_X8_lines l g a1 a2 a3 a4 S) e1 ⟨Nat.le_of_ble_eq_true rfl, Nat.le_of_ble_eq_true rfl⟩ rfl (Nat.le_of_ble_eq_true rfl) rfl dL_law_1107 ?_
  refine dg_aload_n C 2 rfl dL_law_1110 ?_
  refine dg_aload_n C 0 rfl dL_law_1111 ?_
  refine dg_iload_n C 3 rfl dL_law_1112 ?_
  refine dg_iconst C dL_law_1113 dc_iconst_1 ?_
  refine dg_iadd C dL_law_1114 ?_
  refine dg_sld (v := a1) C h1.1 h1.2 dL_law_1115 ?_
  refine dg_aload_n C 0 rfl dL_law_1116 ?_
  refine dg_iload_n C 3 rfl dL_law_1117 ?_
  refine dg_iconst C dL_law_1118 dc_iconst_2 ?_
  refine dg_iadd C dL_law_1119 ?_
  refine dg_sld (v := a2) C h2.1 h2.2 dL_law_1120 ?_
  refine dg_aload_n C 0 rfl dL_law_1121 ?_
  refine dg_iload_n C 3 rfl dL_law_1122 ?_
  refine dg_iconst C dL_law_1123 dc_iconst_3 ?_
  refine dg_iadd C dL_law_1124 ?_
  refine dg_sld (v := a3) C h3.1 h3.2 dL_law_1125 ?_
  refine dg_aload_n C 0 rfl dL_law_1126 ?_
  refine dg_iload_n C 3 rfl dL_law_1127 ?_
  refine dg_iconst C dL_law_1128 dc_iconst_4 ?_
  refine dg_iadd C dL_law_1129 ?_
  refine dg_sld (v := a4) C h4.1 h4.2 dL_law_1130 ?_
  refine dg_calli (k := 82) (t := 9) (As := [.int a1, .int a2, .int a3, .int a4]) C dw_L_119 ⟨_, _, rfl⟩ (by decide) dz_82 (ct_X9_lines l g a1 a2 a3 a4 S1) e2 ⟨Nat.le_of_ble_eq_true rfl, Nat.le_of_ble_eq_true rfl⟩ rfl (Nat.le_of_ble_eq_true rfl) rfl dL_law_1131 ?_
  refine dg_eq (tgt := 1932) C dL_law_1134 (by decide) ?_
  exact kk _ hI
set_option maxRecDepth 100000 in
set_option maxHeartbeats 4000000 in
theorem lc_25 {p : Program} {l : Launch} {e : Env} {s : State} {m : MethodId} {below : List Frame} {meth : Method} {c : Code} {g : dk_G} {b L : Nat} {xs : Nat → Int32} {S : dk_S} (C : dk_CL p s m meth c g b L xs) {x3 : Int32} {n : Nat} (hn : n < 512) (hI0 : dk_I n S) {a1 : Int32} {a2 : Int32} {a3 : Int32} (h1 : vp_in (x3 + 1) L ∧ xs (x3 + 1).toNatClampNeg = a1) (h2 : vp_in (x3 + 2) L ∧ xs (x3 + 2).toNatClampNeg = a2) (h3 : vp_in (x3 + 3) L ∧ xs (x3 + 3).toNatClampNeg = a3) (kk : ∀ S2, dk_I (n + 1) S2 → dk_JL p l e s m below meth c g b 1932 [(0, .ref b), (1, .ref (g.1 0)), (2, .ref (g.1 82)), (3, .int x3)] [] S2) : dk_JL p l e s m below meth c g b 1139 [(0, .ref b), (1, .ref (g.1 0)), (2, .ref (g.1 82)), (3, .int x3)] [] S := by
  obtain ⟨r, S1, S2, e1, e2, hI⟩ := pr_begins a1 a2 a3 hn hI0
  refine dg_aload_n C 1 rfl dL_law_1139 ?_
  refine dg_aload_n C 0 rfl dL_law_1140 ?_
  refine dg_iload_n C 3 rfl dL_law_1141 ?_
  refine dg_iconst C dL_law_1142 dc_iconst_1 ?_
  refine dg_iadd C dL_law_1143 ?_
  refine dg_sld (v := a1) C h1.1 h1.2 dL_law_1144 ?_
  refine dg_aload_n C 0 rfl dL_law_1145 ?_
  refine dg_iload_n C 3 rfl dL_law_1146 ?_
  refine dg_iconst C dL_law_1147 dc_iconst_2 ?_
  refine dg_iadd C dL_law_1148 ?_
  refine dg_sld (v := a2) C h2.1 h2.2 dL_law_1149 ?_
  refine dg_aload_n C 0 rfl dL_law_1150 ?_
  refine dg_iload_n C 3 rfl dL_law_1151 ?_
  refine dg_iconst C dL_law_1152 dc_iconst_3 ?_
  refine dg_iadd C dL_law_1153 ?_
  refine dg_sld (v := a3) C h3.1 h3.2 dL_law_1154 ?_
  refine dg_calli (k := 0) (t := 8) (As := [.int a1, .int a2, .int a3]) C dw_L_120 ⟨_, _, rfl⟩ (by decide) dz_0 (ct_X8_begins l g a1 a2 a3 S) e1 ⟨Nat.le_of_ble_eq_true rfl, Nat.le_of_ble_eq_true rfl⟩ rfl (Nat.le_of_ble_eq_true rfl) rfl dL_law_1155 ?_
  refine dg_aload_n C 2 rfl dL_law_1158 ?_
  refine dg_aload_n C 0 rfl dL_law_1159 ?_
  refine dg_iload_n C 3 rfl dL_law_1160 ?_
  refine dg_iconst C dL_law_1161 dc_iconst_1 ?_
  refine dg_iadd C dL_law_1162 ?_
  refine dg_sld (v := a1) C h1.1 h1.2 dL_law_1163 ?_
  refine dg_aload_n C 0 rfl dL_law_1164 ?_
  refine dg_iload_n C 3 rfl dL_law_1165 ?_
  refine dg_iconst C dL_law_1166 dc_iconst_2 ?_
  refine dg_iadd C dL_law_1167 ?_
  refine dg_sld (v := a2) C h2.1 h2.2 dL_law_1168 ?_
  refine dg_aload_n C 0 rfl dL_law_1169 ?_
  refine dg_iload_n C 3 rfl dL_law_1170 ?_
  refine dg_iconst C dL_law_1171 dc_iconst_3 ?_
  refine dg_iadd C dL_law_1172 ?_
  refine dg_sld (v := a3) C h3.1 h3.2 dL_law_1173 ?_
  refine dg_calli (k := 82) (t := 9) (As := [.int a1, .int a2, .int a3]) C dw_L_123 ⟨_, _, rfl⟩ (by decide) dz_82 (ct_X9_begins l g a1 a2 a3 S1) e2 ⟨Nat.le_of_ble_eq_true rfl, Nat.le_of_ble_eq_true rfl⟩ rfl (Nat.le_of_ble_eq_true rfl) rfl dL_law_1174 ?_
  refine dg_eq (tgt := 1932) C dL_law_1177 (by decide) ?_
  exact kk _ hI
set_option maxRecDepth 100000 in
set_option maxHeartbeats 4000000 in
theorem lc_26 {p : Program} {l : Launch} {e : Env} {s : State} {m : MethodId} {below : List Frame} {meth : Method} {c : Code} {g : dk_G} {b L : Nat} {xs : Nat → Int32} {S : dk_S} (C : dk_CL p s m meth c g b L xs) {x3 : Int32} {n : Nat} (hn : n < 512) (hI0 : dk_I n S) {a1 : Int32} {a2 : Int32} {a3 : Int32} {a4 : Int32} {a5 : Int32} (h1 : vp_in (x3 + 1) L ∧ xs (x3 + 1).toNatClampNeg = a1) (h2 : vp_in (x3 + 2) L ∧ xs (x3 + 2).toNatClampNeg = a2) (h3 : vp_in (x3 + 3) L ∧ xs (x3 + 3).toNatClampNeg = a3) (h4 : vp_in (x3 + 4) L ∧ xs (x3 + 4).toNatClampNeg = a4) (h5 : vp_in (x3 + 5) L ∧ xs (x3 + 5).toNatClampNeg = a5) (kk : ∀ S2, dk_I (n + 1) S2 → dk_JL p l e s m below meth c g b 1932 [(0, .ref b), (1, .ref (g.1 0)), (2, .ref (g.1 82)), (3, .int x3)] [] S2) : dk_JL p l e s m below meth c g b 1182 [(0, .ref b), (1, .ref (g.1 0)), (2, .ref (g.1 82)), (3, .int x3)] [] S := by
  obtain ⟨r, S1, S2, e1, e2, hI⟩ := pr_mends a1 a2 a3 a4 a5 hn hI0
  refine dg_aload_n C 1 rfl dL_law_1182 ?_
  refine dg_aload_n C 0 rfl dL_law_1183 ?_
  refine dg_iload_n C 3 rfl dL_law_1184 ?_
  refine dg_iconst C dL_law_1185 dc_iconst_1 ?_
  refine dg_iadd C dL_law_1186 ?_
  refine dg_sld (v := a1) C h1.1 h1.2 dL_law_1187 ?_
  refine dg_aload_n C 0 rfl dL_law_1188 ?_
  refine dg_iload_n C 3 rfl dL_law_1189 ?_
  refine dg_iconst C dL_law_1190 dc_iconst_2 ?_
  refine dg_iadd C dL_law_1191 ?_
  refine dg_sld (v := a2) C h2.1 h2.2 dL_law_1192 ?_
  refine dg_aload_n C 0 rfl dL_law_1193 ?_
  refine dg_iload_n C 3 rfl dL_law_1194 ?_
  refine dg_iconst C dL_law_1195 dc_iconst_3 ?_
  refine dg_iadd C dL_law_1196 ?_
  refine dg_sld (v := a3) C h3.1 h3.2 dL_law_1197 ?_
  refine dg_aload_n C 0 rfl dL_law_1198 ?_
  refine dg_iload_n C 3 rfl dL_law_1199 ?_
  refine dg_iconst C dL_law_1200 dc_iconst_4 ?_
  refine dg_iadd C dL_law_1201 ?_
  refine dg_sld (v := a4) C h4.1 h4.2 dL_law_1202 ?_
  refine dg_aload_n C 0 rfl dL_law_1203 ?_
  refine dg_iload_n C 3 rfl dL_law_1204 ?_
  refine dg_iconst C dL_law_1205 dc_iconst_5 ?_
  refine dg_iadd C dL_law_1206 ?_
  refine dg_sld (v := a5) C h5.1 h5.2 dL_law_1207 ?_
  refine dg_calli (k := 0) (t := 8) (As := [.int a1, .int a2, .int a3, .int a4, .int a5]) C dw_L_124 ⟨_, _, rfl⟩ (by decide) dz_0 (ct_X8_mends l g a1 a2 a3 a4 a5 S) e1 ⟨Nat.le_of_ble_eq_true rfl, Nat.le_of_ble_eq_true rfl⟩ rfl (Nat.le_of_ble_eq_true rfl) rfl dL_law_1208 ?_
  refine dg_aload_n C 2 rfl dL_law_1211 ?_
  refine dg_aload_n C 0 rfl dL_law_1212 ?_
  refine dg_iload_n C 3 rfl dL_law_1213 ?_
  refine dg_iconst C dL_law_1214 dc_iconst_1 ?_
  refine dg_iadd C dL_law_1215 ?_
  refine dg_sld (v := a1) C h1.1 h1.2 dL_law_1216 ?_
  refine dg_aload_n C 0 rfl dL_law_1217 ?_
  refine dg_iload_n C 3 rfl dL_law_1218 ?_
  refine dg_iconst C dL_law_1219 dc_iconst_2 ?_
  refine dg_iadd C dL_law_1220 ?_
  refine dg_sld (v := a2) C h2.1 h2.2 dL_law_1221 ?_
  refine dg_aload_n C 0 rfl dL_law_1222 ?_
  refine dg_iload_n C 3 rfl dL_law_1223 ?_
  refine dg_iconst C dL_law_1224 dc_iconst_3 ?_
  refine dg_iadd C dL_law_1225 ?_
  refine dg_sld (v := a3) C h3.1 h3.2 dL_law_1226 ?_
  refine dg_aload_n C 0 rfl dL_law_1227 ?_
  refine dg_iload_n C 3 rfl dL_law_1228 ?_
  refine dg_iconst C dL_law_1229 dc_iconst_4 ?_
  refine dg_iadd C dL_law_1230 ?_
  refine dg_sld (v := a4) C h4.1 h4.2 dL_law_1231 ?_
  refine dg_aload_n C 0 rfl dL_law_1232 ?_
  refine dg_iload_n C 3 rfl dL_law_1233 ?_
  refine dg_iconst C dL_law_1234 dc_iconst_5 ?_
  refine dg_iadd C dL_law_1235 ?_
  refine dg_sld (v := a5) C h5.1 h5.2 dL_law_1236 ?_
  refine dg_calli (k := 82) (t := 9) (As := [.int a1, .int a2, .int a3, .int a4, .int a5]) C dw_L_127 ⟨_, _, rfl⟩ (by decide) dz_82 (ct_X9_mends l g a1 a2 a3 a4 a5 S1) e2 ⟨Nat.le_of_ble_eq_true rfl, Nat.le_of_ble_eq_true rfl⟩ rfl (Nat.le_of_ble_eq_true rfl) rfl dL_law_1237 ?_
  refine dg_eq (tgt := 1932) C dL_law_1240 (by decide) ?_
  exact kk _ hI
set_option maxRecDepth 100000 in
set_option maxHeartbeats 4000000 in
theorem lc_27 {p : Program} {l : Launch} {e : Env} {s : State} {m : MethodId} {below : List Frame} {meth : Method} {c : Code} {g : dk_G} {b L : Nat} {xs : Nat → Int32} {S : dk_S} (C : dk_CL p s m meth c g b L xs) {x3 : Int32} {n : Nat} (hn : n < 512) (hI0 : dk_I n S) {a1 : Int32} {a2 : Int32} {a3 : Int32} (h1 : vp_in (x3 + 1) L ∧ xs (x3 + 1).toNatClampNeg = a1) (h2 : vp_in (x3 + 2) L ∧ xs (x3 + 2).toNatClampNeg = a2) (h3 : vp_in (x3 + 3) L ∧ xs (x3 + 3).toNatClampNeg = a3) (kk : ∀ S2, dk_I (n + 1) S2 → dk_JL p l e s m below meth c g b 1932 [(0, .ref b), (1, .ref (g.1 0)), (2, .ref (g.1 82)), (3, .int x3)] [] S2) : dk_JL p l e s m below meth c g b 1245 [(0, .ref b), (1, .ref (g.1 0)), (2, .ref (g.1 82)), (3, .int x3)] [] S := by
  obtain ⟨r, S1, S2, e1, e2, hI⟩ := pr_wide a1 a2 a3 hn hI0
  refine dg_aload_n C 1 rfl dL_law_1245 ?_
  refine dg_aload_n C 0 rfl dL_law_1246 ?_
  refine dg_iload_n C 3 rfl dL_law_1247 ?_
  refine dg_iconst C dL_law_1248 dc_iconst_1 ?_
  refine dg_iadd C dL_law_1249 ?_
  refine dg_sld (v := a1) C h1.1 h1.2 dL_law_1250 ?_
  refine dg_aload_n C 0 rfl dL_law_1251 ?_
  refine dg_iload_n C 3 rfl dL_law_1252 ?_
  refine dg_iconst C dL_law_1253 dc_iconst_2 ?_
  refine dg_iadd C dL_law_1254 ?_
  refine dg_sld (v := a2) C h2.1 h2.2 dL_law_1255 ?_
  refine dg_aload_n C 0 rfl dL_law_1256 ?_
  refine dg_iload_n C 3 rfl dL_law_1257 ?_
  refine dg_iconst C dL_law_1258 dc_iconst_3 ?_
  refine dg_iadd C dL_law_1259 ?_
  refine dg_sld (v := a3) C h3.1 h3.2 dL_law_1260 ?_
  refine dg_calli (k := 0) (t := 8) (As := [.int a1, .int a2, .int a3]) C dw_L_128 ⟨_, _, rfl⟩ (by decide) dz_0 (ct_X8_wide l g a1 a2 a3 S) e1 ⟨Nat.le_of_ble_eq_true rfl, Nat.le_of_ble_eq_true rfl⟩ rfl (Nat.le_of_ble_eq_true rfl) rfl dL_law_1261 ?_
  refine dg_aload_n C 2 rfl dL_law_1264 ?_
  refine dg_aload_n C 0 rfl dL_law_1265 ?_
  refine dg_iload_n C 3 rfl dL_law_1266 ?_
  refine dg_iconst C dL_law_1267 dc_iconst_1 ?_
  refine dg_iadd C dL_law_1268 ?_
  refine dg_sld (v := a1) C h1.1 h1.2 dL_law_1269 ?_
  refine dg_aload_n C 0 rfl dL_law_1270 ?_
  refine dg_iload_n C 3 rfl dL_law_1271 ?_
  refine dg_iconst C dL_law_1272 dc_iconst_2 ?_
  refine dg_iadd C dL_law_1273 ?_
  refine dg_sld (v := a2) C h2.1 h2.2 dL_law_1274 ?_
  refine dg_aload_n C 0 rfl dL_law_1275 ?_
  refine dg_iload_n C 3 rfl dL_law_1276 ?_
  refine dg_iconst C dL_law_1277 dc_iconst_3 ?_
  refine dg_iadd C dL_law_1278 ?_
  refine dg_sld (v := a3) C h3.1 h3.2 dL_law_1279 ?_
  refine dg_calli (k := 82) (t := 9) (As := [.int a1, .int a2, .int a3]) C dw_L_131 ⟨_, _, rfl⟩ (by decide) dz_82 (ct_X9_wide l g a1 a2 a3 S1) e2 ⟨Nat.le_of_ble_eq_true rfl, Nat.le_of_ble_eq_true rfl⟩ rfl (Nat.le_of_ble_eq_true rfl) rfl dL_law_1280 ?_
  refine dg_eq (tgt := 1932) C dL_law_1283 (by decide) ?_
  exact kk _ hI
set_option maxRecDepth 100000 in
set_option maxHeartbeats 4000000 in
theorem lc_28 {p : Program} {l : Launch} {e : Env} {s : State} {m : MethodId} {below : List Frame} {meth : Method} {c : Code} {g : dk_G} {b L : Nat} {xs : Nat → Int32} {S : dk_S} (C : dk_CL p s m meth c g b L xs) {x3 : Int32} {n : Nat} (hn : n < 512) (hI0 : dk_I n S) {a1 : Int32} {a2 : Int32} {a3 : Int32} {a4 : Int32} (h1 : vp_in (x3 + 1) L ∧ xs (x3 + 1).toNatClampNeg = a1) (h2 : vp_in (x3 + 2) L ∧ xs (x3 + 2).toNatClampNeg = a2) (h3 : vp_in (x3 + 3) L ∧ xs (x3 + 3).toNatClampNeg = a3) (h4 : vp_in (x3 + 4) L ∧ xs (x3 + 4).toNatClampNeg = a4) (kk : ∀ S2, dk_I (n + 1) S2 → dk_JL p l e s m below meth c g b 1932 [(0, .ref b), (1, .ref (g.1 0)), (2, .ref (g.1 82)), (3, .int x3)] [] S2) : dk_JL p l e s m below meth c g b 1288 [(0, .ref b), (1, .ref (g.1 0)), (2, .ref (g.1 82)), (3, .int x3)] [] S := by
  obtain ⟨r, S1, S2, e1, e2, hI⟩ := pr_mend a1 a2 a3 a4 hn hI0
  refine dg_aload_n C 1 rfl dL_law_1288 ?_
  refine dg_aload_n C 0 rfl dL_law_1289 ?_
  refine dg_iload_n C 3 rfl dL_law_1290 ?_
  refine dg_iconst C dL_law_1291 dc_iconst_1 ?_
  refine dg_iadd C dL_law_1292 ?_
  refine dg_sld (v := a1) C h1.1 h1.2 dL_law_1293 ?_
  refine dg_aload_n C 0 rfl dL_law_1294 ?_
  refine dg_iload_n C 3 rfl dL_law_1295 ?_
  refine dg_iconst C dL_law_1296 dc_iconst_2 ?_
  refine dg_iadd C dL_law_1297 ?_
  refine dg_sld (v := a2) C h2.1 h2.2 dL_law_1298 ?_
  refine dg_aload_n C 0 rfl dL_law_1299 ?_
  refine dg_iload_n C 3 rfl dL_law_1300 ?_
  refine dg_iconst C dL_law_1301 dc_iconst_3 ?_
  refine dg_iadd C dL_law_1302 ?_
  refine dg_sld (v := a3) C h3.1 h3.2 dL_law_1303 ?_
  refine dg_aload_n C 0 rfl dL_law_1304 ?_
  refine dg_iload_n C 3 rfl dL_law_1305 ?_
  refine dg_iconst C dL_law_1306 dc_iconst_4 ?_
  refine dg_iadd C dL_law_1307 ?_
  refine dg_sld (v := a4) C h4.1 h4.2 dL_law_1308 ?_
  refine dg_calli (k := 0) (t := 8) (As := [.int a1, .int a2, .int a3, .int a4]) C dw_L_132 ⟨_, _, rfl⟩ (by decide) dz_0 (ct_X8_mend l g a1 a2 a3 a4 S) e1 ⟨Nat.le_of_ble_eq_true rfl, Nat.le_of_ble_eq_true rfl⟩ rfl (Nat.le_of_ble_eq_true rfl) rfl dL_law_1309 ?_
  refine dg_aload_n C 2 rfl dL_law_1312 ?_
  refine dg_aload_n C 0 rfl dL_law_1313 ?_
  refine dg_iload_n C 3 rfl dL_law_1314 ?_
  refine dg_iconst C dL_law_1315 dc_iconst_1 ?_
  refine dg_iadd C dL_law_1316 ?_
  refine dg_sld (v := a1) C h1.1 h1.2 dL_law_1317 ?_
  refine dg_aload_n C 0 rfl dL_law_1318 ?_
  refine dg_iload_n C 3 rfl dL_law_1319 ?_
  refine dg_iconst C dL_law_1320 dc_iconst_2 ?_
  refine dg_iadd C dL_law_1321 ?_
  refine dg_sld (v := a2) C h2.1 h2.2 dL_law_1322 ?_
  refine dg_aload_n C 0 rfl dL_law_1323 ?_
  refine dg_iload_n C 3 rfl dL_law_1324 ?_
  refine dg_iconst C dL_law_1325 dc_iconst_3 ?_
  refine dg_iadd C dL_law_1326 ?_
  refine dg_sld (v := a3) C h3.1 h3.2 dL_law_1327 ?_
  refine dg_aload_n C 0 rfl dL_law_1328 ?_
  refine dg_iload_n C 3 rfl dL_law_1329 ?_
  refine dg_iconst C dL_law_1330 dc_iconst_4 ?_
  refine dg_iadd C dL_law_1331 ?_
  refine dg_sld (v := a4) C h4.1 h4.2 dL_law_1332 ?_
  refine dg_calli (k := 82) (t := 9) (As := [.int a1, .int a2, .int a3, .int a4]) C dw_L_135 ⟨_, _, rfl⟩ (by decide) dz_82 (ct_X9_mend l g a1 a2 a3 a4 S1) e2 ⟨Nat.le_of_ble_eq_true rfl, Nat.le_of_ble_eq_true rfl⟩ rfl (Nat.le_of_ble_eq_true rfl) rfl dL_law_1333 ?_
  refine dg_eq (tgt := 1932) C dL_law_1336 (by decide) ?_
  exact kk _ hI
set_option maxRecDepth 100000 in
set_option maxHeartbeats 4000000 in
theorem lc_29 {p : Program} {l : Launch} {e : Env} {s : State} {m : MethodId} {below : List Frame} {meth : Method} {c : Code} {g : dk_G} {b L : Nat} {xs : Nat → Int32} {S : dk_S} (C : dk_CL p s m meth c g b L xs) {x3 : Int32} {n : Nat} (hn : n < 512) (hI0 : dk_I n S) {a1 : Int32} {a2 : Int32} {a3 : Int32} (h1 : vp_in (x3 + 1) L ∧ xs (x3 + 1).toNatClampNeg = a1) (h2 : vp_in (x3 + 2) L ∧ xs (x3 + 2).toNatClampNeg = a2) (h3 : vp_in (x3 + 3) L ∧ xs (x3 + 3).toNatClampNeg = a3) (kk : ∀ S2, dk_I (n + 1) S2 → dk_JL p l e s m below meth c g b 1932 [(0, .ref b), (1, .ref (g.1 0)), (2, .ref (g.1 82)), (3, .int x3)] [] S2) : dk_JL p l e s m below meth c g b 1341 [(0, .ref b), (1, .ref (g.1 0)), (2, .ref (g.1 82)), (3, .int x3)] [] S := by
  obtain ⟨r, S1, S2, e1, e2, hI⟩ := pr_limp a1 a2 a3 hn hI0
  refine dg_aload_n C 1 rfl dL_law_1341 ?_
  refine dg_aload_n C 0 rfl dL_law_1342 ?_
  refine dg_iload_n C 3 rfl dL_law_1343 ?_
  refine dg_iconst C dL_law_1344 dc_iconst_1 ?_
  refine dg_iadd C dL_law_1345 ?_
  refine dg_sld (v := a1) C h1.1 h1.2 dL_law_1346 ?_
  refine dg_aload_n C 0 rfl dL_law_1347 ?_
  refine dg_iload_n C 3 rfl dL_law_1348 ?_
  refine dg_iconst C dL_law_1349 dc_iconst_2 ?_
  refine dg_iadd C dL_law_1350 ?_
  refine dg_sld (v := a2) C h2.1 h2.2 dL_law_1351 ?_
  refine dg_aload_n C 0 rfl dL_law_1352 ?_
  refine dg_iload_n C 3 rfl dL_law_1353 ?_
  refine dg_iconst C dL_law_1354 dc_iconst_3 ?_
  refine dg_iadd C dL_law_1355 ?_
  refine dg_sld (v := a3) C h3.1 h3.2 dL_law_1356 ?_
  refine dg_calli (k := 0) (t := 8) (As := [.int a1, .int a2, .int a3]) C dw_L_136 ⟨_, _, rfl⟩ (by decide) dz_0 (ct_X8_limp l g a1 a2 a3 S) e1 ⟨Nat.le_of_ble_eq_true rfl, Nat.le_of_ble_eq_true rfl⟩ rfl (Nat.le_of_ble_eq_true rfl) rfl dL_law_1357 ?_
  refine dg_aload_n C 2 rfl dL_law_1360 ?_
  refine dg_aload_n C 0 rfl dL_law_1361 ?_
  refine dg_iload_n C 3 rfl dL_law_1362 ?_
  refine dg_iconst C dL_law_1363 dc_iconst_1 ?_
  refine dg_iadd C dL_law_1364 ?_
  refine dg_sld (v := a1) C h1.1 h1.2 dL_law_1365 ?_
  refine dg_aload_n C 0 rfl dL_law_1366 ?_
  refine dg_iload_n C 3 rfl dL_law_1367 ?_
  refine dg_iconst C dL_law_1368 dc_iconst_2 ?_
  refine dg_iadd C dL_law_1369 ?_
  refine dg_sld (v := a2) C h2.1 h2.2 dL_law_1370 ?_
  refine dg_aload_n C 0 rfl dL_law_1371 ?_
  refine dg_iload_n C 3 rfl dL_law_1372 ?_
  refine dg_iconst C dL_law_1373 dc_iconst_3 ?_
  refine dg_iadd C dL_law_1374 ?_
  refine dg_sld (v := a3) C h3.1 h3.2 dL_law_1375 ?_
  refine dg_calli (k := 82) (t := 9) (As := [.int a1, .int a2, .int a3]) C dw_L_139 ⟨_, _, rfl⟩ (by decide) dz_82 (ct_X9_limp l g a1 a2 a3 S1) e2 ⟨Nat.le_of_ble_eq_true rfl, Nat.le_of_ble_eq_true rfl⟩ rfl (Nat.le_of_ble_eq_true rfl) rfl dL_law_1376 ?_
  refine dg_eq (tgt := 1932) C dL_law_1379 (by decide) ?_
  exact kk _ hI
set_option maxRecDepth 100000 in
set_option maxHeartbeats 4000000 in
theorem lc_30 {p : Program} {l : Launch} {e : Env} {s : State} {m : MethodId} {below : List Frame} {meth : Method} {c : Code} {g : dk_G} {b L : Nat} {xs : Nat → Int32} {S : dk_S} (C : dk_CL p s m meth c g b L xs) {x3 : Int32} {n : Nat} (hn : n < 512) (hI0 : dk_I n S) {a1 : Int32} {a2 : Int32} {a3 : Int32} (h1 : vp_in (x3 + 1) L ∧ xs (x3 + 1).toNatClampNeg = a1) (h2 : vp_in (x3 + 2) L ∧ xs (x3 + 2).toNatClampNeg = a2) (h3 : vp_in (x3 + 3) L ∧ xs (x3 + 3).toNatClampNeg = a3) (kk : ∀ S2, dk_I (n + 1) S2 → dk_JL p l e s m below meth c g b 1932 [(0, .ref b), (1, .ref (g.1 0)), (2, .ref (g.1 82)), (3, .int x3)] [] S2) : dk_JL p l e s m below meth c g b 1384 [(0, .ref b), (1, .ref (g.1 0)), (2, .ref (g.1 82)), (3, .int x3)] [] S := by
  obtain ⟨r, S1, S2, e1, e2, hI⟩ := pr_odds a1 a2 a3 hn hI0
  refine dg_aload_n C 1 rfl dL_law_1384 ?_
  refine dg_aload_n C 0 rfl dL_law_1385 ?_
  refine dg_iload_n C 3 rfl dL_law_1386 ?_
  refine dg_iconst C dL_law_1387 dc_iconst_1 ?_
  refine dg_iadd C dL_law_1388 ?_
  refine dg_sld (v := a1) C h1.1 h1.2 dL_law_1389 ?_
  refine dg_aload_n C 0 rfl dL_law_1390 ?_
  refine dg_iload_n C 3 rfl dL_law_1391 ?_
  refine dg_iconst C dL_law_1392 dc_iconst_2 ?_
  refine dg_iadd C dL_law_1393 ?_
  refine dg_sld (v := a2) C h2.1 h2.2 dL_law_1394 ?_
  refine dg_aload_n C 0 rfl dL_law_1395 ?_
  refine dg_iload_n C 3 rfl dL_law_1396 ?_
  refine dg_iconst C dL_law_1397 dc_iconst_3 ?_
  refine dg_iadd C dL_law_1398 ?_
  refine dg_sld (v := a3) C h3.1 h3.2 dL_law_1399 ?_
  refine dg_calli (k := 0) (t := 8) (As := [.int a1, .int a2, .int a3]) C dw_L_140 ⟨_, _, rfl⟩ (by decide) dz_0 (ct_X8_odds l g a1 a2 a3 S) e1 ⟨Nat.le_of_ble_eq_true rfl, Nat.le_of_ble_eq_true rfl⟩ rfl (Nat.le_of_ble_eq_true rfl) rfl dL_law_1400 ?_
  refine dg_aload_n C 2 rfl dL_law_1403 ?_
  refine dg_aload_n C 0 rfl dL_law_1404 ?_
  refine dg_iload_n C 3 rfl dL_law_1405 ?_
  refine dg_iconst C dL_law_1406 dc_iconst_1 ?_
  refine dg_iadd C dL_law_1407 ?_
  refine dg_sld (v := a1) C h1.1 h1.2 dL_law_1408 ?_
  refine dg_aload_n C 0 rfl dL_law_1409 ?_
  refine dg_iload_n C 3 rfl dL_law_1410 ?_
  refine dg_iconst C dL_law_1411 dc_iconst_2 ?_
  refine dg_iadd C dL_law_1412 ?_
  refine dg_sld (v := a2) C h2.1 h2.2 dL_law_1413 ?_
  refine dg_aload_n C 0 rfl dL_law_1414 ?_
  refine dg_iload_n C 3 rfl dL_law_1415 ?_
  refine dg_iconst C dL_law_1416 dc_iconst_3 ?_
  refine dg_iadd C dL_law_1417 ?_
  refine dg_sld (v := a3) C h3.1 h3.2 dL_law_1418 ?_
  refine dg_calli (k := 82) (t := 9) (As := [.int a1, .int a2, .int a3]) C dw_L_143 ⟨_, _, rfl⟩ (by decide) dz_82 (ct_X9_odds l g a1 a2 a3 S1) e2 ⟨Nat.le_of_ble_eq_true rfl, Nat.le_of_ble_eq_true rfl⟩ rfl (Nat.le_of_ble_eq_true rfl) rfl dL_law_1419 ?_
  refine dg_eq (tgt := 1932) C dL_law_1422 (by decide) ?_
  exact kk _ hI
set_option maxRecDepth 100000 in
set_option maxHeartbeats 4000000 in
theorem lc_31 {p : Program} {l : Launch} {e : Env} {s : State} {m : MethodId} {below : List Frame} {meth : Method} {c : Code} {g : dk_G} {b L : Nat} {xs : Nat → Int32} {S : dk_S} (C : dk_CL p s m meth c g b L xs) {x3 : Int32} {n : Nat} (hn : n < 512) (hI0 : dk_I n S) {a1 : Int32} {a2 : Int32} {a3 : Int32} {a4 : Int32} (h1 : vp_in (x3 + 1) L ∧ xs (x3 + 1).toNatClampNeg = a1) (h2 : vp_in (x3 + 2) L ∧ xs (x3 + 2).toNatClampNeg = a2) (h3 : vp_in (x3 + 3) L ∧ xs (x3 + 3).toNatClampNeg = a3) (h4 : vp_in (x3 + 4) L ∧ xs (x3 + 4).toNatClampNeg = a4) (kk : ∀ S2, dk_I (n + 1) S2 → dk_JL p l e s m below meth c g b 1932 [(0, .ref b), (1, .ref (g.1 0)), (2, .ref (g.1 82)), (3, .int x3)] [] S2) : dk_JL p l e s m below meth c g b 1427 [(0, .ref b), (1, .ref (g.1 0)), (2, .ref (g.1 82)), (3, .int x3)] [] S := by
  obtain ⟨r, S1, S2, e1, e2, hI⟩ := pr_part a1 a2 a3 a4 hn hI0
  refine dg_aload_n C 1 rfl dL_law_1427 ?_
  refine dg_aload_n C 0 rfl dL_law_1428 ?_
  refine dg_iload_n C 3 rfl dL_law_1429 ?_
  refine dg_iconst C dL_law_1430 dc_iconst_1 ?_
  refine dg_iadd C dL_law_1431 ?_
  refine dg_sld (v := a1) C h1.1 h1.2 dL_law_1432 ?_
  refine dg_aload_n C 0 rfl dL_law_1433 ?_
  refine dg_iload_n C 3 rfl dL_law_1434 ?_
  refine dg_iconst C dL_law_1435 dc_iconst_2 ?_
  refine dg_iadd C dL_law_1436 ?_
  refine dg_sld (v := a2) C h2.1 h2.2 dL_law_1437 ?_
  refine dg_aload_n C 0 rfl dL_law_1438 ?_
  refine dg_iload_n C 3 rfl dL_law_1439 ?_
  refine dg_iconst C dL_law_1440 dc_iconst_3 ?_
  refine dg_iadd C dL_law_1441 ?_
  refine dg_sld (v := a3) C h3.1 h3.2 dL_law_1442 ?_
  refine dg_aload_n C 0 rfl dL_law_1443 ?_
  refine dg_iload_n C 3 rfl dL_law_1444 ?_
  refine dg_iconst C dL_law_1445 dc_iconst_4 ?_
  refine dg_iadd C dL_law_1446 ?_
  refine dg_sld (v := a4) C h4.1 h4.2 dL_law_1447 ?_
  refine dg_calli (k := 0) (t := 8) (As := [.int a1, .int a2, .int a3, .int a4]) C dw_L_144 ⟨_, _, rfl⟩ (by decide) dz_0 (ct_X8_part l g a1 a2 a3 a4 S) e1 ⟨Nat.le_of_ble_eq_true rfl, Nat.le_of_ble_eq_true rfl⟩ rfl (Nat.le_of_ble_eq_true rfl) rfl dL_law_1448 ?_
  refine dg_aload_n C 2 rfl dL_law_1451 ?_
  refine dg_aload_n C 0 rfl dL_law_1452 ?_
  refine dg_iload_n C 3 rfl dL_law_1453 ?_
  refine dg_iconst C dL_law_1454 dc_iconst_1 ?_
  refine dg_iadd C dL_law_1455 ?_
  refine dg_sld (v := a1) C h1.1 h1.2 dL_law_1456 ?_
  refine dg_aload_n C 0 rfl dL_law_1457 ?_
  refine dg_iload_n C 3 rfl dL_law_1458 ?_
  refine dg_iconst C dL_law_1459 dc_iconst_2 ?_
  refine dg_iadd C dL_law_1460 ?_
  refine dg_sld (v := a2) C h2.1 h2.2 dL_law_1461 ?_
  refine dg_aload_n C 0 rfl dL_law_1462 ?_
  refine dg_iload_n C 3 rfl dL_law_1463 ?_
  refine dg_iconst C dL_law_1464 dc_iconst_3 ?_
  refine dg_iadd C dL_law_1465 ?_
  refine dg_sld (v := a3) C h3.1 h3.2 dL_law_1466 ?_
  refine dg_aload_n C 0 rfl dL_law_1467 ?_
  refine dg_iload_n C 3 rfl dL_law_1468 ?_
  refine dg_iconst C dL_law_1469 dc_iconst_4 ?_
  refine dg_iadd C dL_law_1470 ?_
  refine dg_sld (v := a4) C h4.1 h4.2 dL_law_1471 ?_
  refine dg_calli (k := 82) (t := 9) (As := [.int a1, .int a2, .int a3, .int a4]) C dw_L_147 ⟨_, _, rfl⟩ (by decide) dz_82 (ct_X9_part l g a1 a2 a3 a4 S1) e2 ⟨Nat.le_of_ble_eq_true rfl, Nat.le_of_ble_eq_true rfl⟩ rfl (Nat.le_of_ble_eq_true rfl) rfl dL_law_1472 ?_
  refine dg_eq (tgt := 1932) C dL_law_1475 (by decide) ?_
  exact kk _ hI
set_option maxRecDepth 100000 in
set_option maxHeartbeats 4000000 in
theorem lc_32 {p : Program} {l : Launch} {e : Env} {s : State} {m : MethodId} {below : List Frame} {meth : Method} {c : Code} {g : dk_G} {b L : Nat} {xs : Nat → Int32} {S : dk_S} (C : dk_CL p s m meth c g b L xs) {x3 : Int32} {n : Nat} (hn : n < 512) (hI0 : dk_I n S) {a1 : Int32} {a2 : Int32} {a3 : Int32} {a4 : Int32} (h1 : vp_in (x3 + 1) L ∧ xs (x3 + 1).toNatClampNeg = a1) (h2 : vp_in (x3 + 2) L ∧ xs (x3 + 2).toNatClampNeg = a2) (h3 : vp_in (x3 + 3) L ∧ xs (x3 + 3).toNatClampNeg = a3) (h4 : vp_in (x3 + 4) L ∧ xs (x3 + 4).toNatClampNeg = a4) (kk : ∀ S2, dk_I (n + 1) S2 → dk_JL p l e s m below meth c g b 1932 [(0, .ref b), (1, .ref (g.1 0)), (2, .ref (g.1 82)), (3, .int x3)] [] S2) : dk_JL p l e s m below meth c g b 1480 [(0, .ref b), (1, .ref (g.1 0)), (2, .ref (g.1 82)), (3, .int x3)] [] S := by
  obtain ⟨r, S1, S2, e1, e2, hI⟩ := pr_made a1 a2 a3 a4 hn hI0
  refine dg_aload_n C 1 rfl dL_law_1480 ?_
  refine dg_aload_n C 0 rfl dL_law_1481 ?_
  refine dg_iload_n C 3 rfl dL_law_1482 ?_
  refine dg_iconst C dL_law_1483 dc_iconst_1 ?_
  refine dg_iadd C dL_law_1484 ?_
  refine dg_sld (v := a1) C h1.1 h1.2 dL_law_1485 ?_
  refine dg_aload_n C 0 rfl dL_law_1486 ?_
  refine dg_iload_n C 3 rfl dL_law_1487 ?_
  refine dg_iconst C dL_law_1488 dc_iconst_2 ?_
  refine dg_iadd C dL_law_1489 ?_
  refine dg_sld (v := a2) C h2.1 h2.2 dL_law_1490 ?_
  refine dg_aload_n C 0 rfl dL_law_1491 ?_
  refine dg_iload_n C 3 rfl dL_law_1492 ?_
  refine dg_iconst C dL_law_1493 dc_iconst_3 ?_
  refine dg_iadd C dL_law_1494 ?_
  refine dg_sld (v := a3) C h3.1 h3.2 dL_law_1495 ?_
  refine dg_aload_n C 0 rfl dL_law_1496 ?_
  refine dg_iload_n C 3 rfl dL_law_1497 ?_
  refine dg_iconst C dL_law_1498 dc_iconst_4 ?_
  refine dg_iadd C dL_law_1499 ?_
  refine dg_sld (v := a4) C h4.1 h4.2 dL_law_1500 ?_
  refine dg_calli (k := 0) (t := 8) (As := [.int a1, .int a2, .int a3, .int a4]) C dw_L_148 ⟨_, _, rfl⟩ (by decide) dz_0 (ct_X8_made l g a1 a2 a3 a4 S) e1 ⟨Nat.le_of_ble_eq_true rfl, Nat.le_of_ble_eq_true rfl⟩ rfl (Nat.le_of_ble_eq_true rfl) rfl dL_law_1501 ?_
  refine dg_aload_n C 2 rfl dL_law_1504 ?_
  refine dg_aload_n C 0 rfl dL_law_1505 ?_
  refine dg_iload_n C 3 rfl dL_law_1506 ?_
  refine dg_iconst C dL_law_1507 dc_iconst_1 ?_
  refine dg_iadd C dL_law_1508 ?_
  refine dg_sld (v := a1) C h1.1 h1.2 dL_law_1509 ?_
  refine dg_aload_n C 0 rfl dL_law_1510 ?_
  refine dg_iload_n C 3 rfl dL_law_1511 ?_
  refine dg_iconst C dL_law_1512 dc_iconst_2 ?_
  refine dg_iadd C dL_law_1513 ?_
  refine dg_sld (v := a2) C h2.1 h2.2 dL_law_1514 ?_
  refine dg_aload_n C 0 rfl dL_law_1515 ?_
  refine dg_iload_n C 3 rfl dL_law_1516 ?_
  refine dg_iconst C dL_law_1517 dc_iconst_3 ?_
  refine dg_iadd C dL_law_1518 ?_
  refine dg_sld (v := a3) C h3.1 h3.2 dL_law_1519 ?_
  refine dg_aload_n C 0 rfl dL_law_1520 ?_
  refine dg_iload_n C 3 rfl dL_law_1521 ?_
  refine dg_iconst C dL_law_1522 dc_iconst_4 ?_
  refine dg_iadd C dL_law_1523 ?_
  refine dg_sld (v := a4) C h4.1 h4.2 dL_law_1524 ?_
  refine dg_calli (k := 82) (t := 9) (As := [.int a1, .int a2, .int a3, .int a4]) C dw_L_151 ⟨_, _, rfl⟩ (by decide) dz_82 (ct_X9_made l g a1 a2 a3 a4 S1) e2 ⟨Nat.le_of_ble_eq_true rfl, Nat.le_of_ble_eq_true rfl⟩ rfl (Nat.le_of_ble_eq_true rfl) rfl dL_law_1525 ?_
  refine dg_eq (tgt := 1932) C dL_law_1528 (by decide) ?_
  exact kk _ hI
set_option maxRecDepth 100000 in
set_option maxHeartbeats 4000000 in
theorem lc_33 {p : Program} {l : Launch} {e : Env} {s : State} {m : MethodId} {below : List Frame} {meth : Method} {c : Code} {g : dk_G} {b L : Nat} {xs : Nat → Int32} {S : dk_S} (C : dk_CL p s m meth c g b L xs) {x3 : Int32} {n : Nat} (hn : n < 512) (hI0 : dk_I n S) {a1 : Int32} {a2 : Int32} {a3 : Int32} {a4 : Int32} (h1 : vp_in (x3 + 1) L ∧ xs (x3 + 1).toNatClampNeg = a1) (h2 : vp_in (x3 + 2) L ∧ xs (x3 + 2).toNatClampNeg = a2) (h3 : vp_in (x3 + 3) L ∧ xs (x3 + 3).toNatClampNeg = a3) (h4 : vp_in (x3 + 4) L ∧ xs (x3 + 4).toNatClampNeg = a4) (kk : ∀ S2, dk_I (n + 1) S2 → dk_JL p l e s m below meth c g b 1932 [(0, .ref b), (1, .ref (g.1 0)), (2, .ref (g.1 82)), (3, .int x3)] [] S2) : dk_JL p l e s m below meth c g b 1533 [(0, .ref b), (1, .ref (g.1 0)), (2, .ref (g.1 82)), (3, .int x3)] [] S := by
  obtain ⟨r, S1, S2, e1, e2, hI⟩ := pr_would a1 a2 a3 a4 hn hI0
  refine dg_aload_n C 1 rfl dL_law_1533 ?_
  refine dg_aload_n C 0 rfl dL_law_1534 ?_
  refine dg_iload_n C 3 rfl dL_law_1535 ?_
  refine dg_iconst C dL_law_1536 dc_iconst_1 ?_
  refine dg_iadd C dL_law_1537 ?_
  refine dg_sld (v := a1) C h1.1 h1.2 dL_law_1538 ?_
  refine dg_aload_n C 0 rfl dL_law_1539 ?_
  refine dg_iload_n C 3 rfl dL_law_1540 ?_
  refine dg_iconst C dL_law_1541 dc_iconst_2 ?_
  refine dg_iadd C dL_law_1542 ?_
  refine dg_sld (v := a2) C h2.1 h2.2 dL_law_1543 ?_
  refine dg_aload_n C 0 rfl dL_law_1544 ?_
  refine dg_iload_n C 3 rfl dL_law_1545 ?_
  refine dg_iconst C dL_law_1546 dc_iconst_3 ?_
  refine dg_iadd C dL_law_1547 ?_
  refine dg_sld (v := a3) C h3.1 h3.2 dL_law_1548 ?_
  refine dg_aload_n C 0 rfl dL_law_1549 ?_
  refine dg_iload_n C 3 rfl dL_law_1550 ?_
  refine dg_iconst C dL_law_1551 dc_iconst_4 ?_
  refine dg_iadd C dL_law_1552 ?_
  refine dg_sld (v := a4) C h4.1 h4.2 dL_law_1553 ?_
  refine dg_calli (k := 0) (t := 8) (As := [.int a1, .int a2, .int a3, .int a4]) C dw_L_152 ⟨_, _, rfl⟩ (by decide) dz_0 (ct_X8_would l g a1 a2 a3 a4 S) e1 ⟨Nat.le_of_ble_eq_true rfl, Nat.le_of_ble_eq_true rfl⟩ rfl (Nat.le_of_ble_eq_true rfl) rfl dL_law_1554 ?_
  refine dg_aload_n C 2 rfl dL_law_1557 ?_
  refine dg_aload_n C 0 rfl dL_law_1558 ?_
  refine dg_iload_n C 3 rfl dL_law_1559 ?_
  refine dg_iconst C dL_law_1560 dc_iconst_1 ?_
  refine dg_iadd C dL_law_1561 ?_
  refine dg_sld (v := a1) C h1.1 h1.2 dL_law_1562 ?_
  refine dg_aload_n C 0 rfl dL_law_1563 ?_
  refine dg_iload_n C 3 rfl dL_law_1564 ?_
  refine dg_iconst C dL_law_1565 dc_iconst_2 ?_
  refine dg_iadd C dL_law_1566 ?_
  refine dg_sld (v := a2) C h2.1 h2.2 dL_law_1567 ?_
  refine dg_aload_n C 0 rfl dL_law_1568 ?_
  refine dg_iload_n C 3 rfl dL_law_1569 ?_
  refine dg_iconst C dL_law_1570 dc_iconst_3 ?_
  refine dg_iadd C dL_law_1571 ?_
  refine dg_sld (v := a3) C h3.1 h3.2 dL_law_1572 ?_
  refine dg_aload_n C 0 rfl dL_law_1573 ?_
  refine dg_iload_n C 3 rfl dL_law_1574 ?_
  refine dg_iconst C dL_law_1575 dc_iconst_4 ?_
  refine dg_iadd C dL_law_1576 ?_
  refine dg_sld (v := a4) C h4.1 h4.2 dL_law_1577 ?_
  refine dg_calli (k := 82) (t := 9) (As := [.int a1, .int a2, .int a3, .int a4]) C dw_L_155 ⟨_, _, rfl⟩ (by decide) dz_82 (ct_X9_would l g a1 a2 a3 a4 S1) e2 ⟨Nat.le_of_ble_eq_true rfl, Nat.le_of_ble_eq_true rfl⟩ rfl (Nat.le_of_ble_eq_true rfl) rfl dL_law_1578 ?_
  refine dg_eq (tgt := 1932) C dL_law_1581 (by decide) ?_
  exact kk _ hI
set_option maxRecDepth 100000 in
set_option maxHeartbeats 4000000 in
theorem lc_34 {p : Program} {l : Launch} {e : Env} {s : State} {m : MethodId} {below : List Frame} {meth : Method} {c : Code} {g : dk_G} {b L : Nat} {xs : Nat → Int32} {S : dk_S} (C : dk_CL p s m meth c g b L xs) {x3 : Int32} {n : Nat} (hn : n < 512) (hI0 : dk_I n S) {a1 : Int32} {a2 : Int32} {a3 : Int32} {a4 : Int32} {a5 : Int32} (h1 : vp_in (x3 + 1) L ∧ xs (x3 + 1).toNatClampNeg = a1) (h2 : vp_in (x3 + 2) L ∧ xs (x3 + 2).toNatClampNeg = a2) (h3 : vp_in (x3 + 3) L ∧ xs (x3 + 3).toNatClampNeg = a3) (h4 : vp_in (x3 + 4) L ∧ xs (x3 + 4).toNatClampNeg = a4) (h5 : vp_in (x3 + 5) L ∧ xs (x3 + 5).toNatClampNeg = a5) (kk : ∀ S2, dk_I (n + 1) S2 → dk_JL p l e s m below meth c g b 1932 [(0, .ref b), (1, .ref (g.1 0)), (2, .ref (g.1 82)), (3, .int x3)] [] S2) : dk_JL p l e s m below meth c g b 1586 [(0, .ref b), (1, .ref (g.1 0)), (2, .ref (g.1 82)), (3, .int x3)] [] S := by
  obtain ⟨r, S1, S2, e1, e2, hI⟩ := pr_yard a1 a2 a3 a4 a5 hn hI0
  refine dg_aload_n C 1 rfl dL_law_1586 ?_
  refine dg_aload_n C 0 rfl dL_law_1587 ?_
  refine dg_iload_n C 3 rfl dL_law_1588 ?_
  refine dg_iconst C dL_law_1589 dc_iconst_1 ?_
  refine dg_iadd C dL_law_1590 ?_
  refine dg_sld (v := a1) C h1.1 h1.2 dL_law_1591 ?_
  refine dg_aload_n C 0 rfl dL_law_1592 ?_
  refine dg_iload_n C 3 rfl dL_law_1593 ?_
  refine dg_iconst C dL_law_1594 dc_iconst_2 ?_
  refine dg_iadd C dL_law_1595 ?_
  refine dg_sld (v := a2) C h2.1 h2.2 dL_law_1596 ?_
  refine dg_aload_n C 0 rfl dL_law_1597 ?_
  refine dg_iload_n C 3 rfl dL_law_1598 ?_
  refine dg_iconst C dL_law_1599 dc_iconst_3 ?_
  refine dg_iadd C dL_law_1600 ?_
  refine dg_sld (v := a3) C h3.1 h3.2 dL_law_1601 ?_
  refine dg_aload_n C 0 rfl dL_law_1602 ?_
  refine dg_iload_n C 3 rfl dL_law_1603 ?_
  refine dg_iconst C dL_law_1604 dc_iconst_4 ?_
  refine dg_iadd C dL_law_1605 ?_
  refine dg_sld (v := a4) C h4.1 h4.2 dL_law_1606 ?_
  refine dg_aload_n C 0 rfl dL_law_1607 ?_
  refine dg_iload_n C 3 rfl dL_law_1608 ?_
  refine dg_iconst C dL_law_1609 dc_iconst_5 ?_
  refine dg_iadd C dL_law_1610 ?_
  refine dg_sld (v := a5) C h5.1 h5.2 dL_law_1611 ?_
  refine dg_calli (k := 0) (t := 8) (As := [.int a1, .int a2, .int a3, .int a4, .int a5]) C dw_L_156 ⟨_, _, rfl⟩ (by decide) dz_0 (ct_X8_yard l g a1 a2 a3 a4 a5 S) e1 ⟨Nat.le_of_ble_eq_true rfl, Nat.le_of_ble_eq_true rfl⟩ rfl (Nat.le_of_ble_eq_true rfl) rfl dL_law_1612 ?_
  refine dg_aload_n C 2 rfl dL_law_1615 ?_
  refine dg_aload_n C 0 rfl dL_law_1616 ?_
  refine dg_iload_n C 3 rfl dL_law_1617 ?_
  refine dg_iconst C dL_law_1618 dc_iconst_1 ?_
  refine dg_iadd C dL_law_1619 ?_
  refine dg_sld (v := a1) C h1.1 h1.2 dL_law_1620 ?_
  refine dg_aload_n C 0 rfl dL_law_1621 ?_
  refine dg_iload_n C 3 rfl dL_law_1622 ?_
  refine dg_iconst C dL_law_1623 dc_iconst_2 ?_
  refine dg_iadd C dL_law_1624 ?_
  refine dg_sld (v := a2) C h2.1 h2.2 dL_law_1625 ?_
  refine dg_aload_n C 0 rfl dL_law_1626 ?_
  refine dg_iload_n C 3 rfl dL_law_1627 ?_
  refine dg_iconst C dL_law_1628 dc_iconst_3 ?_
  refine dg_iadd C dL_law_1629 ?_
  refine dg_sld (v := a3) C h3.1 h3.2 dL_law_1630 ?_
  refine dg_aload_n C 0 rfl dL_law_1631 ?_
  refine dg_iload_n C 3 rfl dL_law_1632 ?_
  refine dg_iconst C dL_law_1633 dc_iconst_4 ?_
  refine dg_iadd C dL_law_1634 ?_
  refine dg_sld (v := a4) C h4.1 h4.2 dL_law_1635 ?_
  refine dg_aload_n C 0 rfl dL_law_1636 ?_
  refine dg_iload_n C 3 rfl dL_law_1637 ?_
  refine dg_iconst C dL_law_1638 dc_iconst_5 ?_
  refine dg_iadd C dL_law_1639 ?_
  refine dg_sld (v := a5) C h5.1 h5.2 dL_law_1640 ?_
  refine dg_calli (k := 82) (t := 9) (As := [.int a1, .int a2, .int a3, .int a4, .int a5]) C dw_L_159 ⟨_, _, rfl⟩ (by decide) dz_82 (ct_X9_yard l g a1 a2 a3 a4 a5 S1) e2 ⟨Nat.le_of_ble_eq_true rfl, Nat.le_of_ble_eq_true rfl⟩ rfl (Nat.le_of_ble_eq_true rfl) rfl dL_law_1641 ?_
  refine dg_eq (tgt := 1932) C dL_law_1644 (by decide) ?_
  exact kk _ hI
set_option maxRecDepth 100000 in
set_option maxHeartbeats 4000000 in
theorem lc_35 {p : Program} {l : Launch} {e : Env} {s : State} {m : MethodId} {below : List Frame} {meth : Method} {c : Code} {g : dk_G} {b L : Nat} {xs : Nat → Int32} {S : dk_S} (C : dk_CL p s m meth c g b L xs) {x3 : Int32} {n : Nat} (hn : n < 512) (hI0 : dk_I n S) {a1 : Int32} {a2 : Int32} {a3 : Int32} (h1 : vp_in (x3 + 1) L ∧ xs (x3 + 1).toNatClampNeg = a1) (h2 : vp_in (x3 + 2) L ∧ xs (x3 + 2).toNatClampNeg = a2) (h3 : vp_in (x3 + 3) L ∧ xs (x3 + 3).toNatClampNeg = a3) (kk : ∀ S2, dk_I (n + 1) S2 → dk_JL p l e s m below meth c g b 1932 [(0, .ref b), (1, .ref (g.1 0)), (2, .ref (g.1 82)), (3, .int x3)] [] S2) : dk_JL p l e s m below meth c g b 1649 [(0, .ref b), (1, .ref (g.1 0)), (2, .ref (g.1 82)), (3, .int x3)] [] S := by
  obtain ⟨r, S1, S2, e1, e2, hI⟩ := pr_push a1 a2 a3 hn hI0
  refine dg_aload_n C 1 rfl dL_law_1649 ?_
  refine dg_aload_n C 0 rfl dL_law_1650 ?_
  refine dg_iload_n C 3 rfl dL_law_1651 ?_
  refine dg_iconst C dL_law_1652 dc_iconst_1 ?_
  refine dg_iadd C dL_law_1653 ?_
  refine dg_sld (v := a1) C h1.1 h1.2 dL_law_1654 ?_
  refine dg_aload_n C 0 rfl dL_law_1655 ?_
  refine dg_iload_n C 3 rfl dL_law_1656 ?_
  refine dg_iconst C dL_law_1657 dc_iconst_2 ?_
  refine dg_iadd C dL_law_1658 ?_
  refine dg_sld (v := a2) C h2.1 h2.2 dL_law_1659 ?_
  refine dg_aload_n C 0 rfl dL_law_1660 ?_
  refine dg_iload_n C 3 rfl dL_law_1661 ?_
  refine dg_iconst C dL_law_1662 dc_iconst_3 ?_
  refine dg_iadd C dL_law_1663 ?_
  refine dg_sld (v := a3) C h3.1 h3.2 dL_law_1664 ?_
  refine dg_calli (k := 0) (t := 8) (As := [.int a1, .int a2, .int a3]) C dw_L_160 ⟨_, _, rfl⟩ (by decide) dz_0 (ct_X8_push l g a1 a2 a3 S) e1 ⟨Nat.le_of_ble_eq_true rfl, Nat.le_of_ble_eq_true rfl⟩ rfl (Nat.le_of_ble_eq_true rfl) rfl dL_law_1665 ?_
  refine dg_aload_n C 2 rfl dL_law_1668 ?_
  refine dg_aload_n C 0 rfl dL_law_1669 ?_
  refine dg_iload_n C 3 rfl dL_law_1670 ?_
  refine dg_iconst C dL_law_1671 dc_iconst_1 ?_
  refine dg_iadd C dL_law_1672 ?_
  refine dg_sld (v := a1) C h1.1 h1.2 dL_law_1673 ?_
  refine dg_aload_n C 0 rfl dL_law_1674 ?_
  refine dg_iload_n C 3 rfl dL_law_1675 ?_
  refine dg_iconst C dL_law_1676 dc_iconst_2 ?_
  refine dg_iadd C dL_law_1677 ?_
  refine dg_sld (v := a2) C h2.1 h2.2 dL_law_1678 ?_
  refine dg_aload_n C 0 rfl dL_law_1679 ?_
  refine dg_iload_n C 3 rfl dL_law_1680 ?_
  refine dg_iconst C dL_law_1681 dc_iconst_3 ?_
  refine dg_iadd C dL_law_1682 ?_
  refine dg_sld (v := a3) C h3.1 h3.2 dL_law_1683 ?_
  refine dg_calli (k := 82) (t := 9) (As := [.int a1, .int a2, .int a3]) C dw_L_163 ⟨_, _, rfl⟩ (by decide) dz_82 (ct_X9_push l g a1 a2 a3 S1) e2 ⟨Nat.le_of_ble_eq_true rfl, Nat.le_of_ble_eq_true rfl⟩ rfl (Nat.le_of_ble_eq_true rfl) rfl dL_law_1684 ?_
  refine dg_eq (tgt := 1932) C dL_law_1687 (by decide) ?_
  exact kk _ hI
set_option maxRecDepth 100000 in
set_option maxHeartbeats 4000000 in
theorem lc_36 {p : Program} {l : Launch} {e : Env} {s : State} {m : MethodId} {below : List Frame} {meth : Method} {c : Code} {g : dk_G} {b L : Nat} {xs : Nat → Int32} {S : dk_S} (C : dk_CL p s m meth c g b L xs) {x3 : Int32} {n : Nat} (hn : n < 512) (hI0 : dk_I n S) {a1 : Int32} {a2 : Int32} {a3 : Int32} {a4 : Int32} {a5 : Int32} (h1 : vp_in (x3 + 1) L ∧ xs (x3 + 1).toNatClampNeg = a1) (h2 : vp_in (x3 + 2) L ∧ xs (x3 + 2).toNatClampNeg = a2) (h3 : vp_in (x3 + 3) L ∧ xs (x3 + 3).toNatClampNeg = a3) (h4 : vp_in (x3 + 4) L ∧ xs (x3 + 4).toNatClampNeg = a4) (h5 : vp_in (x3 + 5) L ∧ xs (x3 + 5).toNatClampNeg = a5) (kk : ∀ S2, dk_I (n + 1) S2 → dk_JL p l e s m below meth c g b 1932 [(0, .ref b), (1, .ref (g.1 0)), (2, .ref (g.1 82)), (3, .int x3)] [] S2) : dk_JL p l e s m below meth c g b 1692 [(0, .ref b), (1, .ref (g.1 0)), (2, .ref (g.1 82)), (3, .int x3)] [] S := by
  obtain ⟨r, S1, S2, e1, e2, hI⟩ := pr_bears a1 a2 a3 a4 a5 hn hI0
  refine dg_aload_n C 1 rfl dL_law_1692 ?_
  refine dg_aload_n C 0 rfl dL_law_1693 ?_
  refine dg_iload_n C 3 rfl dL_law_1694 ?_
  refine dg_iconst C dL_law_1695 dc_iconst_1 ?_
  refine dg_iadd C dL_law_1696 ?_
  refine dg_sld (v := a1) C h1.1 h1.2 dL_law_1697 ?_
  refine dg_aload_n C 0 rfl dL_law_1698 ?_
  refine dg_iload_n C 3 rfl dL_law_1699 ?_
  refine dg_iconst C dL_law_1700 dc_iconst_2 ?_
  refine dg_iadd C dL_law_1701 ?_
  refine dg_sld (v := a2) C h2.1 h2.2 dL_law_1702 ?_
  refine dg_aload_n C 0 rfl dL_law_1703 ?_
  refine dg_iload_n C 3 rfl dL_law_1704 ?_
  refine dg_iconst C dL_law_1705 dc_iconst_3 ?_
  refine dg_iadd C dL_law_1706 ?_
  refine dg_sld (v := a3) C h3.1 h3.2 dL_law_1707 ?_
  refine dg_aload_n C 0 rfl dL_law_1708 ?_
  refine dg_iload_n C 3 rfl dL_law_1709 ?_
  refine dg_iconst C dL_law_1710 dc_iconst_4 ?_
  refine dg_iadd C dL_law_1711 ?_
  refine dg_sld (v := a4) C h4.1 h4.2 dL_law_1712 ?_
  refine dg_aload_n C 0 rfl dL_law_1713 ?_
  refine dg_iload_n C 3 rfl dL_law_1714 ?_
  refine dg_iconst C dL_law_1715 dc_iconst_5 ?_
  refine dg_iadd C dL_law_1716 ?_
  refine dg_sld (v := a5) C h5.1 h5.2 dL_law_1717 ?_
  refine dg_calli (k := 0) (t := 8) (As := [.int a1, .int a2, .int a3, .int a4, .int a5]) C dw_L_164 ⟨_, _, rfl⟩ (by decide) dz_0 (ct_X8_bears l g a1 a2 a3 a4 a5 S) e1 ⟨Nat.le_of_ble_eq_true rfl, Nat.le_of_ble_eq_true rfl⟩ rfl (Nat.le_of_ble_eq_true rfl) rfl dL_law_1718 ?_
  refine dg_aload_n C 2 rfl dL_law_1721 ?_
  refine dg_aload_n C 0 rfl dL_law_1722 ?_
  refine dg_iload_n C 3 rfl dL_law_1723 ?_
  refine dg_iconst C dL_law_1724 dc_iconst_1 ?_
  refine dg_iadd C dL_law_1725 ?_
  refine dg_sld (v := a1) C h1.1 h1.2 dL_law_1726 ?_
  refine dg_aload_n C 0 rfl dL_law_1727 ?_
  refine dg_iload_n C 3 rfl dL_law_1728 ?_
  refine dg_iconst C dL_law_1729 dc_iconst_2 ?_
  refine dg_iadd C dL_law_1730 ?_
  refine dg_sld (v := a2) C h2.1 h2.2 dL_law_1731 ?_
  refine dg_aload_n C 0 rfl dL_law_1732 ?_
  refine dg_iload_n C 3 rfl dL_law_1733 ?_
  refine dg_iconst C dL_law_1734 dc_iconst_3 ?_
  refine dg_iadd C dL_law_1735 ?_
  refine dg_sld (v := a3) C h3.1 h3.2 dL_law_1736 ?_
  refine dg_aload_n C 0 rfl dL_law_1737 ?_
  refine dg_iload_n C 3 rfl dL_law_1738 ?_
  refine dg_iconst C dL_law_1739 dc_iconst_4 ?_
  refine dg_iadd C dL_law_1740 ?_
  refine dg_sld (v := a4) C h4.1 h4.2 dL_law_1741 ?_
  refine dg_aload_n C 0 rfl dL_law_1742 ?_
  refine dg_iload_n C 3 rfl dL_law_1743 ?_
  refine dg_iconst C dL_law_1744 dc_iconst_5 ?_
  refine dg_iadd C dL_law_1745 ?_
  refine dg_sld (v := a5) C h5.1 h5.2 dL_law_1746 ?_
  refine dg_calli (k := 82) (t := 9) (As := [.int a1, .int a2, .int a3, .int a4, .int a5]) C dw_L_167 ⟨_, _, rfl⟩ (by decide) dz_82 (ct_X9_bears l g a1 a2 a3 a4 a5 S1) e2 ⟨Nat.le_of_ble_eq_true rfl, Nat.le_of_ble_eq_true rfl⟩ rfl (Nat.le_of_ble_eq_true rfl) rfl dL_law_1747 ?_
  refine dg_eq (tgt := 1932) C dL_law_1750 (by decide) ?_
  exact kk _ hI
set_option maxRecDepth 100000 in
set_option maxHeartbeats 4000000 in
theorem lc_37 {p : Program} {l : Launch} {e : Env} {s : State} {m : MethodId} {below : List Frame} {meth : Method} {c : Code} {g : dk_G} {b L : Nat} {xs : Nat → Int32} {S : dk_S} (C : dk_CL p s m meth c g b L xs) {x3 : Int32} {n : Nat} (hn : n < 512) (hI0 : dk_I n S) {a1 : Int32} {a2 : Int32} {a3 : Int32} {a4 : Int32} {a5 : Int32} (h1 : vp_in (x3 + 1) L ∧ xs (x3 + 1).toNatClampNeg = a1) (h2 : vp_in (x3 + 2) L ∧ xs (x3 + 2).toNatClampNeg = a2) (h3 : vp_in (x3 + 3) L ∧ xs (x3 + 3).toNatClampNeg = a3) (h4 : vp_in (x3 + 4) L ∧ xs (x3 + 4).toNatClampNeg = a4) (h5 : vp_in (x3 + 5) L ∧ xs (x3 + 5).toNatClampNeg = a5) (kk : ∀ S2, dk_I (n + 1) S2 → dk_JL p l e s m below meth c g b 1932 [(0, .ref b), (1, .ref (g.1 0)), (2, .ref (g.1 82)), (3, .int x3)] [] S2) : dk_JL p l e s m below meth c g b 1755 [(0, .ref b), (1, .ref (g.1 0)), (2, .ref (g.1 82)), (3, .int x3)] [] S := by
  obtain ⟨r, S1, S2, e1, e2, hI⟩ := pr_meets a1 a2 a3 a4 a5 hn hI0
  refine dg_aload_n C 1 rfl dL_law_1755 ?_
  refine dg_aload_n C 0 rfl dL_law_1756 ?_
  refine dg_iload_n C 3 rfl dL_law_1757 ?_
  refine dg_iconst C dL_law_1758 dc_iconst_1 ?_
  refine dg_iadd C dL_law_1759 ?_
  refine dg_sld (v := a1) C h1.1 h1.2 dL_law_1760 ?_
  refine dg_aload_n C 0 rfl dL_law_1761 ?_
  refine dg_iload_n C 3 rfl dL_law_1762 ?_
  refine dg_iconst C dL_law_1763 dc_iconst_2 ?_
  refine dg_iadd C dL_law_1764 ?_
  refine dg_sld (v := a2) C h2.1 h2.2 dL_law_1765 ?_
  refine dg_aload_n C 0 rfl dL_law_1766 ?_
  refine dg_iload_n C 3 rfl dL_law_1767 ?_
  refine dg_iconst C dL_law_1768 dc_iconst_3 ?_
  refine dg_iadd C dL_law_1769 ?_
  refine dg_sld (v := a3) C h3.1 h3.2 dL_law_1770 ?_
  refine dg_aload_n C 0 rfl dL_law_1771 ?_
  refine dg_iload_n C 3 rfl dL_law_1772 ?_
  refine dg_iconst C dL_law_1773 dc_iconst_4 ?_
  refine dg_iadd C dL_law_1774 ?_
  refine dg_sld (v := a4) C h4.1 h4.2 dL_law_1775 ?_
  refine dg_aload_n C 0 rfl dL_law_1776 ?_
  refine dg_iload_n C 3 rfl dL_law_1777 ?_
  refine dg_iconst C dL_law_1778 dc_iconst_5 ?_
  refine dg_iadd C dL_law_1779 ?_
  refine dg_sld (v := a5) C h5.1 h5.2 dL_law_1780 ?_
  refine dg_calli (k := 0) (t := 8) (As := [.int a1, .int a2, .int a3, .int a4, .int a5]) C dw_L_168 ⟨_, _, rfl⟩ (by decide) dz_0 (ct_X8_meets l g a1 a2 a3 a4 a5 S) e1 ⟨Nat.le_of_ble_eq_true rfl, Nat.le_of_ble_eq_true rfl⟩ rfl (Nat.le_of_ble_eq_true rfl) rfl dL_law_1781 ?_
  refine dg_aload_n C 2 rfl dL_law_1784 ?_
  refine dg_aload_n C 0 rfl dL_law_1785 ?_
  refine dg_iload_n C 3 rfl dL_law_1786 ?_
  refine dg_iconst C dL_law_1787 dc_iconst_1 ?_
  refine dg_iadd C dL_law_1788 ?_
  refine dg_sld (v := a1) C h1.1 h1.2 dL_law_1789 ?_
  refine dg_aload_n C 0 rfl dL_law_1790 ?_
  refine dg_iload_n C 3 rfl dL_law_1791 ?_
  refine dg_iconst C dL_law_1792 dc_iconst_2 ?_
  refine dg_iadd C dL_law_1793 ?_
  refine dg_sld (v := a2) C h2.1 h2.2 dL_law_1794 ?_
  refine dg_aload_n C 0 rfl dL_law_1795 ?_
  refine dg_iload_n C 3 rfl dL_law_1796 ?_
  refine dg_iconst C dL_law_1797 dc_iconst_3 ?_
  refine dg_iadd C dL_law_1798 ?_
  refine dg_sld (v := a3) C h3.1 h3.2 dL_law_1799 ?_
  refine dg_aload_n C 0 rfl dL_law_1800 ?_
  refine dg_iload_n C 3 rfl dL_law_1801 ?_
  refine dg_iconst C dL_law_1802 dc_iconst_4 ?_
  refine dg_iadd C dL_law_1803 ?_
  refine dg_sld (v := a4) C h4.1 h4.2 dL_law_1804 ?_
  refine dg_aload_n C 0 rfl dL_law_1805 ?_
  refine dg_iload_n C 3 rfl dL_law_1806 ?_
  refine dg_iconst C dL_law_1807 dc_iconst_5 ?_
  refine dg_iadd C dL_law_1808 ?_
  refine dg_sld (v := a5) C h5.1 h5.2 dL_law_1809 ?_
  refine dg_calli (k := 82) (t := 9) (As := [.int a1, .int a2, .int a3, .int a4, .int a5]) C dw_L_171 ⟨_, _, rfl⟩ (by decide) dz_82 (ct_X9_meets l g a1 a2 a3 a4 a5 S1) e2 ⟨Nat.le_of_ble_eq_true rfl, Nat.le_of_ble_eq_true rfl⟩ rfl (Nat.le_of_ble_eq_true rfl) rfl dL_law_1810 ?_
  refine dg_eq (tgt := 1932) C dL_law_1813 (by decide) ?_
  exact kk _ hI
set_option maxRecDepth 100000 in
set_option maxHeartbeats 4000000 in
theorem lc_38 {p : Program} {l : Launch} {e : Env} {s : State} {m : MethodId} {below : List Frame} {meth : Method} {c : Code} {g : dk_G} {b L : Nat} {xs : Nat → Int32} {S : dk_S} (C : dk_CL p s m meth c g b L xs) {x3 : Int32} {n : Nat} (hn : n < 512) (hI0 : dk_I n S)   (kk : ∀ S2, dk_I (n + 1) S2 → dk_JL p l e s m below meth c g b 1932 [(0, .ref b), (1, .ref (g.1 0)), (2, .ref (g.1 82)), (3, .int x3)] [] S2) : dk_JL p l e s m below meth c g b 1818 [(0, .ref b), (1, .ref (g.1 0)), (2, .ref (g.1 82)), (3, .int x3)] [] S := by
  obtain ⟨r, S1, S2, e1, e2, hI⟩ := pr_asked  hn hI0
  refine dg_aload_n C 1 rfl dL_law_1818 ?_
  refine dg_calli (k := 0) (t := 8) (As := []) C dw_L_172 ⟨_, _, rfl⟩ (by decide) dz_0 (ct_X8_asked l g  S) e1 ⟨Nat.le_of_ble_eq_true rfl, Nat.le_of_ble_eq_true rfl⟩ rfl (Nat.le_of_ble_eq_true rfl) rfl dL_law_1819 ?_
  refine dg_aload_n C 2 rfl dL_law_1822 ?_
  refine dg_calli (k := 82) (t := 9) (As := []) C dw_L_175 ⟨_, _, rfl⟩ (by decide) dz_82 (ct_X9_asked l g  S1) e2 ⟨Nat.le_of_ble_eq_true rfl, Nat.le_of_ble_eq_true rfl⟩ rfl (Nat.le_of_ble_eq_true rfl) rfl dL_law_1823 ?_
  refine dg_eq (tgt := 1932) C dL_law_1826 (by decide) ?_
  exact kk _ hI
set_option maxRecDepth 100000 in
set_option maxHeartbeats 4000000 in
theorem lc_39 {p : Program} {l : Launch} {e : Env} {s : State} {m : MethodId} {below : List Frame} {meth : Method} {c : Code} {g : dk_G} {b L : Nat} {xs : Nat → Int32} {S : dk_S} (C : dk_CL p s m meth c g b L xs) {x3 : Int32} {n : Nat} (hn : n < 512) (hI0 : dk_I n S)   (kk : ∀ S2, dk_I (n + 1) S2 → dk_JL p l e s m below meth c g b 1932 [(0, .ref b), (1, .ref (g.1 0)), (2, .ref (g.1 82)), (3, .int x3)] [] S2) : dk_JL p l e s m below meth c g b 1831 [(0, .ref b), (1, .ref (g.1 0)), (2, .ref (g.1 82)), (3, .int x3)] [] S := by
  obtain ⟨r, S1, S2, e1, e2, hI⟩ := pr_upper  hn hI0
  refine dg_aload_n C 1 rfl dL_law_1831 ?_
  refine dg_calll (k := 0) (t := 8) (As := []) C dw_L_176 ⟨_, _, rfl⟩ (by decide) dz_0 (ct_X8_upper l g  S) e1 ⟨Nat.le_of_ble_eq_true rfl, Nat.le_of_ble_eq_true rfl⟩ rfl (Nat.le_of_ble_eq_true rfl) rfl dL_law_1832 ?_
  refine dg_aload_n C 2 rfl dL_law_1835 ?_
  refine dg_calll (k := 82) (t := 9) (As := []) C dw_L_180 ⟨_, _, rfl⟩ (by decide) dz_82 (ct_X9_upper l g  S1) e2 ⟨Nat.le_of_ble_eq_true rfl, Nat.le_of_ble_eq_true rfl⟩ rfl (Nat.le_of_ble_eq_true rfl) rfl dL_law_1836 ?_
  refine dg_lcmp C dL_law_1839 ?_
  refine dg_ifeq0 (tgt := 1932) C dL_law_1840 (by decide) ?_
  exact kk _ hI
set_option maxRecDepth 100000 in
set_option maxHeartbeats 4000000 in
theorem lc_40 {p : Program} {l : Launch} {e : Env} {s : State} {m : MethodId} {below : List Frame} {meth : Method} {c : Code} {g : dk_G} {b L : Nat} {xs : Nat → Int32} {S : dk_S} (C : dk_CL p s m meth c g b L xs) {x3 : Int32} {n : Nat} (hn : n < 512) (hI0 : dk_I n S)   (kk : ∀ S2, dk_I (n + 1) S2 → dk_JL p l e s m below meth c g b 1932 [(0, .ref b), (1, .ref (g.1 0)), (2, .ref (g.1 82)), (3, .int x3)] [] S2) : dk_JL p l e s m below meth c g b 1845 [(0, .ref b), (1, .ref (g.1 0)), (2, .ref (g.1 82)), (3, .int x3)] [] S := by
  obtain ⟨r, S1, S2, e1, e2, hI⟩ := pr_lower  hn hI0
  refine dg_aload_n C 1 rfl dL_law_1845 ?_
  refine dg_calll (k := 0) (t := 8) (As := []) C dw_L_181 ⟨_, _, rfl⟩ (by decide) dz_0 (ct_X8_lower l g  S) e1 ⟨Nat.le_of_ble_eq_true rfl, Nat.le_of_ble_eq_true rfl⟩ rfl (Nat.le_of_ble_eq_true rfl) rfl dL_law_1846 ?_
  refine dg_aload_n C 2 rfl dL_law_1849 ?_
  refine dg_calll (k := 82) (t := 9) (As := []) C dw_L_184 ⟨_, _, rfl⟩ (by decide) dz_82 (ct_X9_lower l g  S1) e2 ⟨Nat.le_of_ble_eq_true rfl, Nat.le_of_ble_eq_true rfl⟩ rfl (Nat.le_of_ble_eq_true rfl) rfl dL_law_1850 ?_
  refine dg_lcmp C dL_law_1853 ?_
  refine dg_ifeq0 (tgt := 1932) C dL_law_1854 (by decide) ?_
  exact kk _ hI
set_option maxRecDepth 100000 in
set_option maxHeartbeats 4000000 in
theorem lc_41 {p : Program} {l : Launch} {e : Env} {s : State} {m : MethodId} {below : List Frame} {meth : Method} {c : Code} {g : dk_G} {b L : Nat} {xs : Nat → Int32} {S : dk_S} (C : dk_CL p s m meth c g b L xs) {x3 : Int32} {n : Nat} (hn : n < 512) (hI0 : dk_I n S) {a1 : Int32} (h1 : vp_in (x3 + 1) L ∧ xs (x3 + 1).toNatClampNeg = a1) (kk : ∀ S2, dk_I (n + 1) S2 → dk_JL p l e s m below meth c g b 1932 [(0, .ref b), (1, .ref (g.1 0)), (2, .ref (g.1 82)), (3, .int x3)] [] S2) : dk_JL p l e s m below meth c g b 1859 [(0, .ref b), (1, .ref (g.1 0)), (2, .ref (g.1 82)), (3, .int x3)] [] S := by
  obtain ⟨r, S1, S2, e1, e2, hI⟩ := pr_count a1 hn hI0
  refine dg_aload_n C 1 rfl dL_law_1859 ?_
  refine dg_aload_n C 0 rfl dL_law_1860 ?_
  refine dg_iload_n C 3 rfl dL_law_1861 ?_
  refine dg_iconst C dL_law_1862 dc_iconst_1 ?_
  refine dg_iadd C dL_law_1863 ?_
  refine dg_sld (v := a1) C h1.1 h1.2 dL_law_1864 ?_
  refine dg_calli (k := 0) (t := 8) (As := [.int a1]) C dw_L_185 ⟨_, _, rfl⟩ (by decide) dz_0 (ct_X8_count l g a1 S) e1 ⟨Nat.le_of_ble_eq_true rfl, Nat.le_of_ble_eq_true rfl⟩ rfl (Nat.le_of_ble_eq_true rfl) rfl dL_law_1865 ?_
  refine dg_aload_n C 2 rfl dL_law_1868 ?_
  refine dg_aload_n C 0 rfl dL_law_1869 ?_
  refine dg_iload_n C 3 rfl dL_law_1870 ?_
  refine dg_iconst C dL_law_1871 dc_iconst_1 ?_
  refine dg_iadd C dL_law_1872 ?_
  refine dg_sld (v := a1) C h1.1 h1.2 dL_law_1873 ?_
  refine dg_calli (k := 82) (t := 9) (As := [.int a1]) C dw_L_188 ⟨_, _, rfl⟩ (by decide) dz_82 (ct_X9_count l g a1 S1) e2 ⟨Nat.le_of_ble_eq_true rfl, Nat.le_of_ble_eq_true rfl⟩ rfl (Nat.le_of_ble_eq_true rfl) rfl dL_law_1874 ?_
  refine dg_eq (tgt := 1932) C dL_law_1877 (by decide) ?_
  exact kk _ hI
set_option maxRecDepth 100000 in
set_option maxHeartbeats 4000000 in
theorem lc_42 {p : Program} {l : Launch} {e : Env} {s : State} {m : MethodId} {below : List Frame} {meth : Method} {c : Code} {g : dk_G} {b L : Nat} {xs : Nat → Int32} {S : dk_S} (C : dk_CL p s m meth c g b L xs) {x3 : Int32} {n : Nat} (hn : n < 512) (hI0 : dk_I n S)   (kk : ∀ S2, dk_I (n + 1) S2 → dk_JL p l e s m below meth c g b 1932 [(0, .ref b), (1, .ref (g.1 0)), (2, .ref (g.1 82)), (3, .int x3)] [] S2) : dk_JL p l e s m below meth c g b 1882 [(0, .ref b), (1, .ref (g.1 0)), (2, .ref (g.1 82)), (3, .int x3)] [] S := by
  obtain ⟨r, S1, S2, e1, e2, hI⟩ := pr_finding  hn hI0
  refine dg_aload_n C 1 rfl dL_law_1882 ?_
  refine dg_calli (k := 0) (t := 8) (As := []) C dw_L_189 ⟨_, _, rfl⟩ (by decide) dz_0 (ct_X8_finding l g  S) e1 ⟨Nat.le_of_ble_eq_true rfl, Nat.le_of_ble_eq_true rfl⟩ rfl (Nat.le_of_ble_eq_true rfl) rfl dL_law_1883 ?_
  refine dg_aload_n C 2 rfl dL_law_1886 ?_
  refine dg_calli (k := 82) (t := 9) (As := []) C dw_L_192 ⟨_, _, rfl⟩ (by decide) dz_82 (ct_X9_finding l g  S1) e2 ⟨Nat.le_of_ble_eq_true rfl, Nat.le_of_ble_eq_true rfl⟩ rfl (Nat.le_of_ble_eq_true rfl) rfl dL_law_1887 ?_
  refine dg_eq (tgt := 1932) C dL_law_1890 (by decide) ?_
  exact kk _ hI
set_option maxRecDepth 100000 in
set_option maxHeartbeats 4000000 in
theorem lc_43 {p : Program} {l : Launch} {e : Env} {s : State} {m : MethodId} {below : List Frame} {meth : Method} {c : Code} {g : dk_G} {b L : Nat} {xs : Nat → Int32} {S : dk_S} (C : dk_CL p s m meth c g b L xs) {x3 : Int32} {n : Nat} (hn : n < 512) (hI0 : dk_I n S) {a1 : Int32} (h1 : vp_in (x3 + 1) L ∧ xs (x3 + 1).toNatClampNeg = a1) (kk : ∀ S2, dk_I (n + 1) S2 → dk_JL p l e s m below meth c g b 1932 [(0, .ref b), (1, .ref (g.1 0)), (2, .ref (g.1 82)), (3, .int x3)] [] S2) : dk_JL p l e s m below meth c g b 1895 [(0, .ref b), (1, .ref (g.1 0)), (2, .ref (g.1 82)), (3, .int x3)] [] S := by
  obtain ⟨r, S1, S2, e1, e2, hI⟩ := pr_findings a1 hn hI0
  refine dg_aload_n C 1 rfl dL_law_1895 ?_
  refine dg_aload_n C 0 rfl dL_law_1896 ?_
  refine dg_iload_n C 3 rfl dL_law_1897 ?_
  refine dg_iconst C dL_law_1898 dc_iconst_1 ?_
  refine dg_iadd C dL_law_1899 ?_
  refine dg_sld (v := a1) C h1.1 h1.2 dL_law_1900 ?_
  refine dg_calli (k := 0) (t := 8) (As := [.int a1]) C dw_L_193 ⟨_, _, rfl⟩ (by decide) dz_0 (ct_X8_findings l g a1 S) e1 ⟨Nat.le_of_ble_eq_true rfl, Nat.le_of_ble_eq_true rfl⟩ rfl (Nat.le_of_ble_eq_true rfl) rfl dL_law_1901 ?_
  refine dg_aload_n C 2 rfl dL_law_1904 ?_
  refine dg_aload_n C 0 rfl dL_law_1905 ?_
  refine dg_iload_n C 3 rfl dL_law_1906 ?_
  refine dg_iconst C dL_law_1907 dc_iconst_1 ?_
  refine dg_iadd C dL_law_1908 ?_
  refine dg_sld (v := a1) C h1.1 h1.2 dL_law_1909 ?_
  refine dg_calli (k := 82) (t := 9) (As := [.int a1]) C dw_L_196 ⟨_, _, rfl⟩ (by decide) dz_82 (ct_X9_findings l g a1 S1) e2 ⟨Nat.le_of_ble_eq_true rfl, Nat.le_of_ble_eq_true rfl⟩ rfl (Nat.le_of_ble_eq_true rfl) rfl dL_law_1910 ?_
  refine dg_eq (tgt := 1932) C dL_law_1913 (by decide) ?_
  exact kk _ hI
set_option maxRecDepth 100000 in
set_option maxHeartbeats 4000000 in
theorem lc_44 {p : Program} {l : Launch} {e : Env} {s : State} {m : MethodId} {below : List Frame} {meth : Method} {c : Code} {g : dk_G} {b L : Nat} {xs : Nat → Int32} {S : dk_S} (C : dk_CL p s m meth c g b L xs) {x3 : Int32} {n : Nat} (hn : n < 512) (hI0 : dk_I n S)   (kk : ∀ S2, dk_I (n + 1) S2 → dk_JL p l e s m below meth c g b 1932 [(0, .ref b), (1, .ref (g.1 0)), (2, .ref (g.1 82)), (3, .int x3)] [] S2) : dk_JL p l e s m below meth c g b 1918 [(0, .ref b), (1, .ref (g.1 0)), (2, .ref (g.1 82)), (3, .int x3)] [] S := by
  obtain ⟨r, S1, S2, e1, e2, hI⟩ := pr_digest  hn hI0
  refine dg_aload_n C 1 rfl dL_law_1918 ?_
  refine dg_calll (k := 0) (t := 8) (As := []) C dw_L_197 ⟨_, _, rfl⟩ (by decide) dz_0 (ct_X8_digest l g  S) e1 ⟨Nat.le_of_ble_eq_true rfl, Nat.le_of_ble_eq_true rfl⟩ rfl (Nat.le_of_ble_eq_true rfl) rfl dL_law_1919 ?_
  refine dg_aload_n C 2 rfl dL_law_1922 ?_
  refine dg_calll (k := 82) (t := 9) (As := []) C dw_L_200 ⟨_, _, rfl⟩ (by decide) dz_82 (ct_X9_digest l g  S1) e2 ⟨Nat.le_of_ble_eq_true rfl, Nat.le_of_ble_eq_true rfl⟩ rfl (Nat.le_of_ble_eq_true rfl) rfl dL_law_1923 ?_
  refine dg_lcmp C dL_law_1926 ?_
  refine dg_ifeq0 (tgt := 1932) C dL_law_1927 (by decide) ?_
  exact kk _ hI
