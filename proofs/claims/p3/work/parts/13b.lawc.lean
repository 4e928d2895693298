section LAWW
variable {p : Program} {l : Launch} {e : Env} {s : State} {m : MethodId} {below : List Frame} {meth : Method} {c : Code} {b L : Nat} {xs : Nat → Int32} {z : AZ} {pc : Nat} {lv : List (Nat × Value)} {st : List Value} {g : AG}
theorem lwc_stretch {Inv0 Inv : AG → Prop} (hsim : Sim_stretch Inv0 Inv) (C : LC p s m meth c b L xs z) (hL : L ≤ 3072) {i : Int} (h0 : 0 ≤ i) (h1 : i + 6 ≤ L) (hI : Inv0 g) (kk : ∀ g9, Inv g9 → LW p l e s m below meth c b z 1914 [(3, iv i), (2, rv z 117), (1, rv z 0), (0, .ref b)] [] g9) : LW p l e s m below meth c b z 216 [(3, iv i), (2, rv z 117), (1, rv z 0), (0, .ref b)] [] g := by
  obtain ⟨r1, r2, e1, e2, hv, hI2⟩ := hsim ((xs (ix (i + 1))).toInt) ((xs (ix (i + 2))).toInt) ((xs (ix (i + 3))).toInt) ((xs (ix (i + 4))).toInt) g (I32_of _) (I32_of _) (I32_of _) (I32_of _) hI
  refine LW.aload_n C 2 dL_law_216 rfl ?_
  refine LW.aload_n C 3 dL_law_217 rfl ?_
  refine LW.iload_n C 0 dL_law_218 rfl ?_
  refine LW.iconst C dL_law_219 ?_
  refine LW.iadd C dL_law_220 ?_
  refine LW.sld C (lw_in hL h0 h1 (by decide) (by decide)) dL_law_221 ?_
  refine LW.aload_n C 3 dL_law_222 rfl ?_
  refine LW.iload_n C 0 dL_law_223 rfl ?_
  refine LW.iconst C dL_law_224 ?_
  refine LW.iadd C dL_law_225 ?_
  refine LW.sld C (lw_in hL h0 h1 (by decide) (by decide)) dL_law_226 ?_
  refine LW.aload_n C 3 dL_law_227 rfl ?_
  refine LW.iload_n C 0 dL_law_228 rfl ?_
  refine LW.iconst C dL_law_229 ?_
  refine LW.iadd C dL_law_230 ?_
  refine LW.sld C (lw_in hL h0 h1 (by decide) (by decide)) dL_law_231 ?_
  refine LW.aload_n C 3 dL_law_232 rfl ?_
  refine LW.iload_n C 0 dL_law_233 rfl ?_
  refine LW.iconst C dL_law_234 ?_
  refine LW.iadd C dL_law_235 ?_
  refine LW.sld C (lw_in hL h0 h1 (by decide) (by decide)) dL_law_236 ?_
  refine LW.callV C (As := [iv (xs (ix (i + 1))).toInt, iv (xs (ix (i + 2))).toInt, iv (xs (ix (i + 3))).toInt, iv (xs (ix (i + 4))).toInt]) (st := []) (X_stretch_ok e1) cqL_13 crL_13 (by decide) rfl dL_law_237 rfl (Nat.le_of_ble_eq_true rfl) ?_
  refine LW.pop C dL_law_240 ?_
  refine LW.aload_n C 1 dL_law_241 rfl ?_
  refine LW.aload_n C 3 dL_law_242 rfl ?_
  refine LW.iload_n C 0 dL_law_243 rfl ?_
  refine LW.iconst C dL_law_244 ?_
  refine LW.iadd C dL_law_245 ?_
  refine LW.sld C (lw_in hL h0 h1 (by decide) (by decide)) dL_law_246 ?_
  refine LW.aload_n C 3 dL_law_247 rfl ?_
  refine LW.iload_n C 0 dL_law_248 rfl ?_
  refine LW.iconst C dL_law_249 ?_
  refine LW.iadd C dL_law_250 ?_
  refine LW.sld C (lw_in hL h0 h1 (by decide) (by decide)) dL_law_251 ?_
  refine LW.aload_n C 3 dL_law_252 rfl ?_
  refine LW.iload_n C 0 dL_law_253 rfl ?_
  refine LW.iconst C dL_law_254 ?_
  refine LW.iadd C dL_law_255 ?_
  refine LW.sld C (lw_in hL h0 h1 (by decide) (by decide)) dL_law_256 ?_
  refine LW.aload_n C 3 dL_law_257 rfl ?_
  refine LW.iload_n C 0 dL_law_258 rfl ?_
  refine LW.iconst C dL_law_259 ?_
  refine LW.iadd C dL_law_260 ?_
  refine LW.sld C (lw_in hL h0 h1 (by decide) (by decide)) dL_law_261 ?_
  refine LW.callV C (As := [iv (xs (ix (i + 1))).toInt, iv (xs (ix (i + 2))).toInt, iv (xs (ix (i + 3))).toInt, iv (xs (ix (i + 4))).toInt]) (st := []) (M_stretch_ok e2) cqL_17 crL_17 (by decide) rfl dL_law_262 rfl (Nat.le_of_ble_eq_true rfl) ?_
  refine LW.pop C dL_law_265 ?_
  refine LW.goto (tgt := 1914) C dL_law_266 (by decide) ?_
  exact kk _ hI2
theorem lwc_water {Inv0 Inv : AG → Prop} (hsim : Sim_water Inv0 Inv) (C : LC p s m meth c b L xs z) (hL : L ≤ 3072) {i : Int} (h0 : 0 ≤ i) (h1 : i + 6 ≤ L) (hI : Inv0 g) (kk : ∀ g9, Inv g9 → LW p l e s m below meth c b z 1914 [(3, iv i), (2, rv z 117), (1, rv z 0), (0, .ref b)] [] g9) : LW p l e s m below meth c b z 269 [(3, iv i), (2, rv z 117), (1, rv z 0), (0, .ref b)] [] g := by
  obtain ⟨r1, r2, e1, e2, hv, hI2⟩ := hsim ((xs (ix (i + 1))).toInt) g (I32_of _) hI
  refine LW.aload_n C 2 dL_law_269 rfl ?_
  refine LW.aload_n C 3 dL_law_270 rfl ?_
  refine LW.iload_n C 0 dL_law_271 rfl ?_
  refine LW.iconst C dL_law_272 ?_
  refine LW.iadd C dL_law_273 ?_
  refine LW.sld C (lw_in hL h0 h1 (by decide) (by decide)) dL_law_274 ?_
  refine LW.callV C (As := [iv (xs (ix (i + 1))).toInt]) (st := []) (X_water_ok e1) cqL_18 crL_18 (by decide) rfl dL_law_275 rfl (Nat.le_of_ble_eq_true rfl) ?_
  refine LW.aload_n C 1 dL_law_278 rfl ?_
  refine LW.aload_n C 3 dL_law_279 rfl ?_
  refine LW.iload_n C 0 dL_law_280 rfl ?_
  refine LW.iconst C dL_law_281 ?_
  refine LW.iadd C dL_law_282 ?_
  refine LW.sld C (lw_in hL h0 h1 (by decide) (by decide)) dL_law_283 ?_
  refine LW.callV C (As := [iv (xs (ix (i + 1))).toInt]) (st := [iv r1.1]) (M_water_ok e2) cqL_22 crL_22 (by decide) rfl dL_law_284 rfl (Nat.le_of_ble_eq_true rfl) ?_
  refine LW.icmp_eq (tgt := 1914) C dL_law_287 (by decide) hv ?_
  exact kk _ hI2
theorem lwc_stoppage {Inv0 Inv : AG → Prop} (hsim : Sim_stoppage Inv0 Inv) (C : LC p s m meth c b L xs z) (hL : L ≤ 3072) {i : Int} (h0 : 0 ≤ i) (h1 : i + 6 ≤ L) (hI : Inv0 g) (kk : ∀ g9, Inv g9 → LW p l e s m below meth c b z 1914 [(3, iv i), (2, rv z 117), (1, rv z 0), (0, .ref b)] [] g9) : LW p l e s m below meth c b z 292 [(3, iv i), (2, rv z 117), (1, rv z 0), (0, .ref b)] [] g := by
  obtain ⟨r1, r2, e1, e2, hv, hI2⟩ := hsim ((xs (ix (i + 1))).toInt) ((xs (ix (i + 2))).toInt) ((xs (ix (i + 3))).toInt) g (I32_of _) (I32_of _) (I32_of _) hI
  refine LW.aload_n C 2 dL_law_292 rfl ?_
  refine LW.aload_n C 3 dL_law_293 rfl ?_
  refine LW.iload_n C 0 dL_law_294 rfl ?_
  refine LW.iconst C dL_law_295 ?_
  refine LW.iadd C dL_law_296 ?_
  refine LW.sld C (lw_in hL h0 h1 (by decide) (by decide)) dL_law_297 ?_
  refine LW.aload_n C 3 dL_law_298 rfl ?_
  refine LW.iload_n C 0 dL_law_299 rfl ?_
  refine LW.iconst C dL_law_300 ?_
  refine LW.iadd C dL_law_301 ?_
  refine LW.sld C (lw_in hL h0 h1 (by decide) (by decide)) dL_law_302 ?_
  refine LW.aload_n C 3 dL_law_303 rfl ?_
  refine LW.iload_n C 0 dL_law_304 rfl ?_
  refine LW.iconst C dL_law_305 ?_
  refine LW.iadd C dL_law_306 ?_
  refine LW.sld C (lw_in hL h0 h1 (by decide) (by decide)) dL_law_307 ?_
  refine LW.callV C (As := [iv (xs (ix (i + 1))).toInt, iv (xs (ix (i + 2))).toInt, iv (xs (ix (i + 3))).toInt]) (st := []) (X_stoppage_ok e1) cqL_23 crL_23 (by decide) rfl dL_law_308 rfl (Nat.le_of_ble_eq_true rfl) ?_
  refine LW.pop C dL_law_311 ?_
  refine LW.aload_n C 1 dL_law_312 rfl ?_
  refine LW.aload_n C 3 dL_law_313 rfl ?_
  refine LW.iload_n C 0 dL_law_314 rfl ?_
  refine LW.iconst C dL_law_315 ?_
  refine LW.iadd C dL_law_316 ?_
  refine LW.sld C (lw_in hL h0 h1 (by decide) (by decide)) dL_law_317 ?_
  refine LW.aload_n C 3 dL_law_318 rfl ?_
  refine LW.iload_n C 0 dL_law_319 rfl ?_
  refine LW.iconst C dL_law_320 ?_
  refine LW.iadd C dL_law_321 ?_
  refine LW.sld C (lw_in hL h0 h1 (by decide) (by decide)) dL_law_322 ?_
  refine LW.aload_n C 3 dL_law_323 rfl ?_
  refine LW.iload_n C 0 dL_law_324 rfl ?_
  refine LW.iconst C dL_law_325 ?_
  refine LW.iadd C dL_law_326 ?_
  refine LW.sld C (lw_in hL h0 h1 (by decide) (by decide)) dL_law_327 ?_
  refine LW.callV C (As := [iv (xs (ix (i + 1))).toInt, iv (xs (ix (i + 2))).toInt, iv (xs (ix (i + 3))).toInt]) (st := []) (M_stoppage_ok e2) cqL_27 crL_27 (by decide) rfl dL_law_328 rfl (Nat.le_of_ble_eq_true rfl) ?_
  refine LW.pop C dL_law_331 ?_
  refine LW.goto (tgt := 1914) C dL_law_332 (by decide) ?_
  exact kk _ hI2
theorem lwc_boat {Inv0 Inv : AG → Prop} (hsim : Sim_boat Inv0 Inv) (C : LC p s m meth c b L xs z) (hL : L ≤ 3072) {i : Int} (h0 : 0 ≤ i) (h1 : i + 6 ≤ L) (hI : Inv0 g) (kk : ∀ g9, Inv g9 → LW p l e s m below meth c b z 1914 [(3, iv i), (2, rv z 117), (1, rv z 0), (0, .ref b)] [] g9) : LW p l e s m below meth c b z 335 [(3, iv i), (2, rv z 117), (1, rv z 0), (0, .ref b)] [] g := by
  obtain ⟨r1, r2, e1, e2, hv, hI2⟩ := hsim ((xs (ix (i + 1))).toInt) ((xs (ix (i + 2))).toInt) ((xs (ix (i + 3))).toInt) ((xs (ix (i + 4))).toInt) g (I32_of _) (I32_of _) (I32_of _) (I32_of _) hI
  refine LW.aload_n C 2 dL_law_335 rfl ?_
  refine LW.aload_n C 3 dL_law_336 rfl ?_
  refine LW.iload_n C 0 dL_law_337 rfl ?_
  refine LW.iconst C dL_law_338 ?_
  refine LW.iadd C dL_law_339 ?_
  refine LW.sld C (lw_in hL h0 h1 (by decide) (by decide)) dL_law_340 ?_
  refine LW.aload_n C 3 dL_law_341 rfl ?_
  refine LW.iload_n C 0 dL_law_342 rfl ?_
  refine LW.iconst C dL_law_343 ?_
  refine LW.iadd C dL_law_344 ?_
  refine LW.sld C (lw_in hL h0 h1 (by decide) (by decide)) dL_law_345 ?_
  refine LW.aload_n C 3 dL_law_346 rfl ?_
  refine LW.iload_n C 0 dL_law_347 rfl ?_
  refine LW.iconst C dL_law_348 ?_
  refine LW.iadd C dL_law_349 ?_
  refine LW.sld C (lw_in hL h0 h1 (by decide) (by decide)) dL_law_350 ?_
  refine LW.aload_n C 3 dL_law_351 rfl ?_
  refine LW.iload_n C 0 dL_law_352 rfl ?_
  refine LW.iconst C dL_law_353 ?_
  refine LW.iadd C dL_law_354 ?_
  refine LW.sld C (lw_in hL h0 h1 (by decide) (by decide)) dL_law_355 ?_
  refine LW.callV C (As := [iv (xs (ix (i + 1))).toInt, iv (xs (ix (i + 2))).toInt, iv (xs (ix (i + 3))).toInt, iv (xs (ix (i + 4))).toInt]) (st := []) (X_boat_ok e1) cqL_28 crL_28 (by decide) rfl dL_law_356 rfl (Nat.le_of_ble_eq_true rfl) ?_
  refine LW.pop C dL_law_359 ?_
  refine LW.aload_n C 1 dL_law_360 rfl ?_
  refine LW.aload_n C 3 dL_law_361 rfl ?_
  refine LW.iload_n C 0 dL_law_362 rfl ?_
  refine LW.iconst C dL_law_363 ?_
  refine LW.iadd C dL_law_364 ?_
  refine LW.sld C (lw_in hL h0 h1 (by decide) (by decide)) dL_law_365 ?_
  refine LW.aload_n C 3 dL_law_366 rfl ?_
  refine LW.iload_n C 0 dL_law_367 rfl ?_
  refine LW.iconst C dL_law_368 ?_
  refine LW.iadd C dL_law_369 ?_
  refine LW.sld C (lw_in hL h0 h1 (by decide) (by decide)) dL_law_370 ?_
  refine LW.aload_n C 3 dL_law_371 rfl ?_
  refine LW.iload_n C 0 dL_law_372 rfl ?_
  refine LW.iconst C dL_law_373 ?_
  refine LW.iadd C dL_law_374 ?_
  refine LW.sld C (lw_in hL h0 h1 (by decide) (by decide)) dL_law_375 ?_
  refine LW.aload_n C 3 dL_law_376 rfl ?_
  refine LW.iload_n C 0 dL_law_377 rfl ?_
  refine LW.iconst C dL_law_378 ?_
  refine LW.iadd C dL_law_379 ?_
  refine LW.sld C (lw_in hL h0 h1 (by decide) (by decide)) dL_law_380 ?_
  refine LW.callV C (As := [iv (xs (ix (i + 1))).toInt, iv (xs (ix (i + 2))).toInt, iv (xs (ix (i + 3))).toInt, iv (xs (ix (i + 4))).toInt]) (st := []) (M_boat_ok e2) cqL_32 crL_32 (by decide) rfl dL_law_381 rfl (Nat.le_of_ble_eq_true rfl) ?_
  refine LW.pop C dL_law_384 ?_
  refine LW.goto (tgt := 1914) C dL_law_385 (by decide) ?_
  exact kk _ hI2
theorem lwc_feed {Inv0 Inv : AG → Prop} (hsim : Sim_feed Inv0 Inv) (C : LC p s m meth c b L xs z) (hL : L ≤ 3072) {i : Int} (h0 : 0 ≤ i) (h1 : i + 6 ≤ L) (hI : Inv0 g) (kk : ∀ g9, Inv g9 → LW p l e s m below meth c b z 1914 [(3, iv i), (2, rv z 117), (1, rv z 0), (0, .ref b)] [] g9) : LW p l e s m below meth c b z 388 [(3, iv i), (2, rv z 117), (1, rv z 0), (0, .ref b)] [] g := by
  obtain ⟨r1, r2, e1, e2, hv, hI2⟩ := hsim ((xs (ix (i + 1))).toInt) ((xs (ix (i + 2))).toInt) ((xs (ix (i + 3))).toInt) ((xs (ix (i + 4))).toInt) ((xs (ix (i + 5))).toInt) g (I32_of _) (I32_of _) (I32_of _) (I32_of _) (I32_of _) hI
  refine LW.aload_n C 2 dL_law_388 rfl ?_
  refine LW.aload_n C 3 dL_law_389 rfl ?_
  refine LW.iload_n C 0 dL_law_390 rfl ?_
  refine LW.iconst C dL_law_391 ?_
  refine LW.iadd C dL_law_392 ?_
  refine LW.sld C (lw_in hL h0 h1 (by decide) (by decide)) dL_law_393 ?_
  refine LW.aload_n C 3 dL_law_394 rfl ?_
  refine LW.iload_n C 0 dL_law_395 rfl ?_
  refine LW.iconst C dL_law_396 ?_
  refine LW.iadd C dL_law_397 ?_
  refine LW.sld C (lw_in hL h0 h1 (by decide) (by decide)) dL_law_398 ?_
  refine LW.aload_n C 3 dL_law_399 rfl ?_
  refine LW.iload_n C 0 dL_law_400 rfl ?_
  refine LW.iconst C dL_law_401 ?_
  refine LW.iadd C dL_law_402 ?_
  refine LW.sld C (lw_in hL h0 h1 (by decide) (by decide)) dL_law_403 ?_
  refine LW.aload_n C 3 dL_law_404 rfl ?_
  refine LW.iload_n C 0 dL_law_405 rfl ?_
  refine LW.iconst C dL_law_406 ?_
  refine LW.iadd C dL_law_407 ?_
  refine LW.sld C (lw_in hL h0 h1 (by decide) (by decide)) dL_law_408 ?_
  refine LW.aload_n C 3 dL_law_409 rfl ?_
  refine LW.iload_n C 0 dL_law_410 rfl ?_
  refine LW.iconst C dL_law_411 ?_
  refine LW.iadd C dL_law_412 ?_
  refine LW.sld C (lw_in hL h0 h1 (by decide) (by decide)) dL_law_413 ?_
  refine LW.callV C (As := [iv (xs (ix (i + 1))).toInt, iv (xs (ix (i + 2))).toInt, iv (xs (ix (i + 3))).toInt, iv (xs (ix (i + 4))).toInt, iv (xs (ix (i + 5))).toInt]) (st := []) (X_feed_ok e1) cqL_33 crL_33 (by decide) rfl dL_law_414 rfl (Nat.le_of_ble_eq_true rfl) ?_
  refine LW.pop C dL_law_417 ?_
  refine LW.aload_n C 1 dL_law_418 rfl ?_
  refine LW.aload_n C 3 dL_law_419 rfl ?_
  refine LW.iload_n C 0 dL_law_420 rfl ?_
  refine LW.iconst C dL_law_421 ?_
  refine LW.iadd C dL_law_422 ?_
  refine LW.sld C (lw_in hL h0 h1 (by decide) (by decide)) dL_law_423 ?_
  refine LW.aload_n C 3 dL_law_424 rfl ?_
  refine LW.iload_n C 0 dL_law_425 rfl ?_
  refine LW.iconst C dL_law_426 ?_
  refine LW.iadd C dL_law_427 ?_
  refine LW.sld C (lw_in hL h0 h1 (by decide) (by decide)) dL_law_428 ?_
  refine LW.aload_n C 3 dL_law_429 rfl ?_
  refine LW.iload_n C 0 dL_law_430 rfl ?_
  refine LW.iconst C dL_law_431 ?_
  refine LW.iadd C dL_law_432 ?_
  refine LW.sld C (lw_in hL h0 h1 (by decide) (by decide)) dL_law_433 ?_
  refine LW.aload_n C 3 dL_law_434 rfl ?_
  refine LW.iload_n C 0 dL_law_435 rfl ?_
  refine LW.iconst C dL_law_436 ?_
  refine LW.iadd C dL_law_437 ?_
  refine LW.sld C (lw_in hL h0 h1 (by decide) (by decide)) dL_law_438 ?_
  refine LW.aload_n C 3 dL_law_439 rfl ?_
  refine LW.iload_n C 0 dL_law_440 rfl ?_
  refine LW.iconst C dL_law_441 ?_
  refine LW.iadd C dL_law_442 ?_
  refine LW.sld C (lw_in hL h0 h1 (by decide) (by decide)) dL_law_443 ?_
  refine LW.callV C (As := [iv (xs (ix (i + 1))).toInt, iv (xs (ix (i + 2))).toInt, iv (xs (ix (i + 3))).toInt, iv (xs (ix (i + 4))).toInt, iv (xs (ix (i + 5))).toInt]) (st := []) (M_feed_ok e2) cqL_37 crL_37 (by decide) rfl dL_law_444 rfl (Nat.le_of_ble_eq_true rfl) ?_
  refine LW.pop C dL_law_447 ?_
  refine LW.goto (tgt := 1914) C dL_law_448 (by decide) ?_
  exact kk _ hI2
theorem lwc_end {Inv0 Inv : AG → Prop} (hsim : Sim_end Inv0 Inv) (C : LC p s m meth c b L xs z) (hL : L ≤ 3072) {i : Int} (h0 : 0 ≤ i) (h1 : i + 6 ≤ L) (hI : Inv0 g) (kk : ∀ g9, Inv g9 → LW p l e s m below meth c b z 1914 [(3, iv i), (2, rv z 117), (1, rv z 0), (0, .ref b)] [] g9) : LW p l e s m below meth c b z 451 [(3, iv i), (2, rv z 117), (1, rv z 0), (0, .ref b)] [] g := by
  obtain ⟨r1, r2, e1, e2, hv, hI2⟩ := hsim ((xs (ix (i + 1))).toInt) g (I32_of _) hI
  refine LW.aload_n C 2 dL_law_451 rfl ?_
  refine LW.aload_n C 3 dL_law_452 rfl ?_
  refine LW.iload_n C 0 dL_law_453 rfl ?_
  refine LW.iconst C dL_law_454 ?_
  refine LW.iadd C dL_law_455 ?_
  refine LW.sld C (lw_in hL h0 h1 (by decide) (by decide)) dL_law_456 ?_
  refine LW.callV C (As := [iv (xs (ix (i + 1))).toInt]) (st := []) (X_end_ok e1) cqL_38 crL_38 (by decide) rfl dL_law_457 rfl (Nat.le_of_ble_eq_true rfl) ?_
  refine LW.pop C dL_law_460 ?_
  refine LW.aload_n C 1 dL_law_461 rfl ?_
  refine LW.aload_n C 3 dL_law_462 rfl ?_
  refine LW.iload_n C 0 dL_law_463 rfl ?_
  refine LW.iconst C dL_law_464 ?_
  refine LW.iadd C dL_law_465 ?_
  refine LW.sld C (lw_in hL h0 h1 (by decide) (by decide)) dL_law_466 ?_
  refine LW.callV C (As := [iv (xs (ix (i + 1))).toInt]) (st := []) (M_end_ok e2) cqL_41 crL_41 (by decide) rfl dL_law_467 rfl (Nat.le_of_ble_eq_true rfl) ?_
  refine LW.pop C dL_law_470 ?_
  refine LW.goto (tgt := 1914) C dL_law_471 (by decide) ?_
  exact kk _ hI2
theorem lwc_rules {Inv0 Inv : AG → Prop} (hsim : Sim_rules Inv0 Inv) (C : LC p s m meth c b L xs z) (hL : L ≤ 3072) {i : Int} (h0 : 0 ≤ i) (h1 : i + 6 ≤ L) (hI : Inv0 g) (kk : ∀ g9, Inv g9 → LW p l e s m below meth c b z 1914 [(3, iv i), (2, rv z 117), (1, rv z 0), (0, .ref b)] [] g9) : LW p l e s m below meth c b z 474 [(3, iv i), (2, rv z 117), (1, rv z 0), (0, .ref b)] [] g := by
  obtain ⟨r1, r2, e1, e2, hv, hI2⟩ := hsim  g  hI
  refine LW.aload_n C 2 dL_law_474 rfl ?_
  refine LW.callV C (As := []) (st := []) (X_rules_ok e1) cqL_42 crL_42 (by decide) rfl dL_law_475 rfl (Nat.le_of_ble_eq_true rfl) ?_
  refine LW.pop C dL_law_478 ?_
  refine LW.aload_n C 1 dL_law_479 rfl ?_
  refine LW.callV C (As := []) (st := []) (M_rules_ok e2) cqL_46 crL_46 (by decide) rfl dL_law_480 rfl (Nat.le_of_ble_eq_true rfl) ?_
  refine LW.pop C dL_law_483 ?_
  refine LW.goto (tgt := 1914) C dL_law_484 (by decide) ?_
  exact kk _ hI2
theorem lwc_fault {Inv0 Inv : AG → Prop} (hsim : Sim_fault Inv0 Inv) (C : LC p s m meth c b L xs z) (hL : L ≤ 3072) {i : Int} (h0 : 0 ≤ i) (h1 : i + 6 ≤ L) (hI : Inv0 g) (kk : ∀ g9, Inv g9 → LW p l e s m below meth c b z 1914 [(3, iv i), (2, rv z 117), (1, rv z 0), (0, .ref b)] [] g9) : LW p l e s m below meth c b z 487 [(3, iv i), (2, rv z 117), (1, rv z 0), (0, .ref b)] [] g := by
  obtain ⟨hv, hI2⟩ := hsim ((xs (ix (i + 1))).toInt) g (I32_of _) hI
  refine LW.aload_n C 2 dL_law_487 rfl ?_
  refine LW.aload_n C 3 dL_law_488 rfl ?_
  refine LW.iload_n C 0 dL_law_489 rfl ?_
  refine LW.iconst C dL_law_490 ?_
  refine LW.iadd C dL_law_491 ?_
  refine LW.sld C (lw_in hL h0 h1 (by decide) (by decide)) dL_law_492 ?_
  refine LW.callV C (As := [iv (xs (ix (i + 1))).toInt]) (st := []) (X_fault_ok) cqL_47 crL_47 (by decide) rfl dL_law_493 rfl (Nat.le_of_ble_eq_true rfl) ?_
  refine LW.pop C dL_law_496 ?_
  refine LW.aload_n C 1 dL_law_497 rfl ?_
  refine LW.aload_n C 3 dL_law_498 rfl ?_
  refine LW.iload_n C 0 dL_law_499 rfl ?_
  refine LW.iconst C dL_law_500 ?_
  refine LW.iadd C dL_law_501 ?_
  refine LW.sld C (lw_in hL h0 h1 (by decide) (by decide)) dL_law_502 ?_
  refine LW.callV C (As := [iv (xs (ix (i + 1))).toInt]) (st := []) (M_fault_ok) cqL_51 crL_51 (by decide) rfl dL_law_503 rfl (Nat.le_of_ble_eq_true rfl) ?_
  refine LW.pop C dL_law_506 ?_
  refine LW.goto (tgt := 1914) C dL_law_507 (by decide) ?_
  exact kk _ hI2
theorem lwc_open {Inv0 Inv : AG → Prop} (hsim : Sim_open Inv0 Inv) (C : LC p s m meth c b L xs z) (hL : L ≤ 3072) {i : Int} (h0 : 0 ≤ i) (h1 : i + 6 ≤ L) (hI : Inv0 g) (kk : ∀ g9, Inv g9 → LW p l e s m below meth c b z 1914 [(3, iv i), (2, rv z 117), (1, rv z 0), (0, .ref b)] [] g9) : LW p l e s m below meth c b z 510 [(3, iv i), (2, rv z 117), (1, rv z 0), (0, .ref b)] [] g := by
  obtain ⟨v1, r2, e1, e2, hv, hI2⟩ := hsim ((xs (ix (i + 1))).toInt) ((xs (ix (i + 2))).toInt) g (I32_of _) (I32_of _) hI
  refine LW.aload_n C 2 dL_law_510 rfl ?_
  refine LW.aload_n C 3 dL_law_511 rfl ?_
  refine LW.iload_n C 0 dL_law_512 rfl ?_
  refine LW.iconst C dL_law_513 ?_
  refine LW.iadd C dL_law_514 ?_
  refine LW.sld C (lw_in hL h0 h1 (by decide) (by decide)) dL_law_515 ?_
  refine LW.aload_n C 3 dL_law_516 rfl ?_
  refine LW.iload_n C 0 dL_law_517 rfl ?_
  refine LW.iconst C dL_law_518 ?_
  refine LW.iadd C dL_law_519 ?_
  refine LW.sld C (lw_in hL h0 h1 (by decide) (by decide)) dL_law_520 ?_
  refine LW.callV C (As := [iv (xs (ix (i + 1))).toInt, iv (xs (ix (i + 2))).toInt]) (st := []) (X_open_ok e1) cqL_52 crL_52 (by decide) rfl dL_law_521 rfl (Nat.le_of_ble_eq_true rfl) ?_
  refine LW.pop C dL_law_524 ?_
  refine LW.aload_n C 1 dL_law_525 rfl ?_
  refine LW.aload_n C 3 dL_law_526 rfl ?_
  refine LW.iload_n C 0 dL_law_527 rfl ?_
  refine LW.iconst C dL_law_528 ?_
  refine LW.iadd C dL_law_529 ?_
  refine LW.sld C (lw_in hL h0 h1 (by decide) (by decide)) dL_law_530 ?_
  refine LW.aload_n C 3 dL_law_531 rfl ?_
  refine LW.iload_n C 0 dL_law_532 rfl ?_
  refine LW.iconst C dL_law_533 ?_
  refine LW.iadd C dL_law_534 ?_
  refine LW.sld C (lw_in hL h0 h1 (by decide) (by decide)) dL_law_535 ?_
  refine LW.callV C (As := [iv (xs (ix (i + 1))).toInt, iv (xs (ix (i + 2))).toInt]) (st := []) (M_open_ok e2) cqL_56 crL_56 (by decide) rfl dL_law_536 rfl (Nat.le_of_ble_eq_true rfl) ?_
  refine LW.pop C dL_law_539 ?_
  refine LW.goto (tgt := 1914) C dL_law_540 (by decide) ?_
  exact kk _ hI2
theorem lwc_comes {Inv0 Inv : AG → Prop} (hsim : Sim_comes Inv0 Inv) (C : LC p s m meth c b L xs z) (hL : L ≤ 3072) {i : Int} (h0 : 0 ≤ i) (h1 : i + 6 ≤ L) (hI : Inv0 g) (kk : ∀ g9, Inv g9 → LW p l e s m below meth c b z 1914 [(3, iv i), (2, rv z 117), (1, rv z 0), (0, .ref b)] [] g9) : LW p l e s m below meth c b z 543 [(3, iv i), (2, rv z 117), (1, rv z 0), (0, .ref b)] [] g := by
  obtain ⟨r1, r2, e1, e2, hv, hI2⟩ := hsim ((xs (ix (i + 1))).toInt) ((xs (ix (i + 2))).toInt) ((xs (ix (i + 3))).toInt) ((xs (ix (i + 4))).toInt) g (I32_of _) (I32_of _) (I32_of _) (I32_of _) hI
  refine LW.aload_n C 2 dL_law_543 rfl ?_
  refine LW.aload_n C 3 dL_law_544 rfl ?_
  refine LW.iload_n C 0 dL_law_545 rfl ?_
  refine LW.iconst C dL_law_546 ?_
  refine LW.iadd C dL_law_547 ?_
  refine LW.sld C (lw_in hL h0 h1 (by decide) (by decide)) dL_law_548 ?_
  refine LW.aload_n C 3 dL_law_549 rfl ?_
  refine LW.iload_n C 0 dL_law_550 rfl ?_
  refine LW.iconst C dL_law_551 ?_
  refine LW.iadd C dL_law_552 ?_
  refine LW.sld C (lw_in hL h0 h1 (by decide) (by decide)) dL_law_553 ?_
  refine LW.aload_n C 3 dL_law_554 rfl ?_
  refine LW.iload_n C 0 dL_law_555 rfl ?_
  refine LW.iconst C dL_law_556 ?_
  refine LW.iadd C dL_law_557 ?_
  refine LW.sld C (lw_in hL h0 h1 (by decide) (by decide)) dL_law_558 ?_
  refine LW.aload_n C 3 dL_law_559 rfl ?_
  refine LW.iload_n C 0 dL_law_560 rfl ?_
  refine LW.iconst C dL_law_561 ?_
  refine LW.iadd C dL_law_562 ?_
  refine LW.sld C (lw_in hL h0 h1 (by decide) (by decide)) dL_law_563 ?_
  refine LW.callV C (As := [iv (xs (ix (i + 1))).toInt, iv (xs (ix (i + 2))).toInt, iv (xs (ix (i + 3))).toInt, iv (xs (ix (i + 4))).toInt]) (st := []) (X_comes_ok e1) cqL_57 crL_57 (by decide) rfl dL_law_564 rfl (Nat.le_of_ble_eq_true rfl) ?_
  refine LW.pop C dL_law_567 ?_
  refine LW.aload_n C 1 dL_law_568 rfl ?_
  refine LW.aload_n C 3 dL_law_569 rfl ?_
  refine LW.iload_n C 0 dL_law_570 rfl ?_
  refine LW.iconst C dL_law_571 ?_
  refine LW.iadd C dL_law_572 ?_
  refine LW.sld C (lw_in hL h0 h1 (by decide) (by decide)) dL_law_573 ?_
  refine LW.aload_n C 3 dL_law_574 rfl ?_
  refine LW.iload_n C 0 dL_law_575 rfl ?_
  refine LW.iconst C dL_law_576 ?_
  refine LW.iadd C dL_law_577 ?_
  refine LW.sld C (lw_in hL h0 h1 (by decide) (by decide)) dL_law_578 ?_
  refine LW.aload_n C 3 dL_law_579 rfl ?_
  refine LW.iload_n C 0 dL_law_580 rfl ?_
  refine LW.iconst C dL_law_581 ?_
  refine LW.iadd C dL_law_582 ?_
  refine LW.sld C (lw_in hL h0 h1 (by decide) (by decide)) dL_law_583 ?_
  refine LW.aload_n C 3 dL_law_584 rfl ?_
  refine LW.iload_n C 0 dL_law_585 rfl ?_
  refine LW.iconst C dL_law_586 ?_
  refine LW.iadd C dL_law_587 ?_
  refine LW.sld C (lw_in hL h0 h1 (by decide) (by decide)) dL_law_588 ?_
  refine LW.callV C (As := [iv (xs (ix (i + 1))).toInt, iv (xs (ix (i + 2))).toInt, iv (xs (ix (i + 3))).toInt, iv (xs (ix (i + 4))).toInt]) (st := []) (M_comes_ok e2) cqL_60 crL_60 (by decide) rfl dL_law_589 rfl (Nat.le_of_ble_eq_true rfl) ?_
  refine LW.pop C dL_law_592 ?_
  refine LW.goto (tgt := 1914) C dL_law_593 (by decide) ?_
  exact kk _ hI2
theorem lwc_maybe {Inv0 Inv : AG → Prop} (hsim : Sim_maybe Inv0 Inv) (C : LC p s m meth c b L xs z) (hL : L ≤ 3072) {i : Int} (h0 : 0 ≤ i) (h1 : i + 6 ≤ L) (hI : Inv0 g) (kk : ∀ g9, Inv g9 → LW p l e s m below meth c b z 1914 [(3, iv i), (2, rv z 117), (1, rv z 0), (0, .ref b)] [] g9) : LW p l e s m below meth c b z 596 [(3, iv i), (2, rv z 117), (1, rv z 0), (0, .ref b)] [] g := by
  obtain ⟨r1, r2, e1, e2, hv, hI2⟩ := hsim ((xs (ix (i + 1))).toInt) ((xs (ix (i + 2))).toInt) ((xs (ix (i + 3))).toInt) ((xs (ix (i + 4))).toInt) g (I32_of _) (I32_of _) (I32_of _) (I32_of _) hI
  refine LW.aload_n C 2 dL_law_596 rfl ?_
  refine LW.aload_n C 3 dL_law_597 rfl ?_
  refine LW.iload_n C 0 dL_law_598 rfl ?_
  refine LW.iconst C dL_law_599 ?_
  refine LW.iadd C dL_law_600 ?_
  refine LW.sld C (lw_in hL h0 h1 (by decide) (by decide)) dL_law_601 ?_
  refine LW.aload_n C 3 dL_law_602 rfl ?_
  refine LW.iload_n C 0 dL_law_603 rfl ?_
  refine LW.iconst C dL_law_604 ?_
  refine LW.iadd C dL_law_605 ?_
  refine LW.sld C (lw_in hL h0 h1 (by decide) (by decide)) dL_law_606 ?_
  refine LW.aload_n C 3 dL_law_607 rfl ?_
  refine LW.iload_n C 0 dL_law_608 rfl ?_
  refine LW.iconst C dL_law_609 ?_
  refine LW.iadd C dL_law_610 ?_
  refine LW.sld C (lw_in hL h0 h1 (by decide) (by decide)) dL_law_611 ?_
  refine LW.aload_n C 3 dL_law_612 rfl ?_
  refine LW.iload_n C 0 dL_law_613 rfl ?_
  refine LW.iconst C dL_law_614 ?_
  refine LW.iadd C dL_law_615 ?_
  refine LW.sld C (lw_in hL h0 h1 (by decide) (by decide)) dL_law_616 ?_
  refine LW.callV C (As := [iv (xs (ix (i + 1))).toInt, iv (xs (ix (i + 2))).toInt, iv (xs (ix (i + 3))).toInt, iv (xs (ix (i + 4))).toInt]) (st := []) (X_maybe_ok e1) cqL_61 crL_61 (by decide) rfl dL_law_617 rfl (Nat.le_of_ble_eq_true rfl) ?_
  refine LW.pop C dL_law_620 ?_
  refine LW.aload_n C 1 dL_law_621 rfl ?_
  refine LW.aload_n C 3 dL_law_622 rfl ?_
  refine LW.iload_n C 0 dL_law_623 rfl ?_
  refine LW.iconst C dL_law_624 ?_
  refine LW.iadd C dL_law_625 ?_
  refine LW.sld C (lw_in hL h0 h1 (by decide) (by decide)) dL_law_626 ?_
  refine LW.aload_n C 3 dL_law_627 rfl ?_
  refine LW.iload_n C 0 dL_law_628 rfl ?_
  refine LW.iconst C dL_law_629 ?_
  refine LW.iadd C dL_law_630 ?_
  refine LW.sld C (lw_in hL h0 h1 (by decide) (by decide)) dL_law_631 ?_
  refine LW.aload_n C 3 dL_law_632 rfl ?_
  refine LW.iload_n C 0 dL_law_633 rfl ?_
  refine LW.iconst C dL_law_634 ?_
  refine LW.iadd C dL_law_635 ?_
  refine LW.sld C (lw_in hL h0 h1 (by decide) (by decide)) dL_law_636 ?_
  refine LW.aload_n C 3 dL_law_637 rfl ?_
  refine LW.iload_n C 0 dL_law_638 rfl ?_
  refine LW.iconst C dL_law_639 ?_
  refine LW.iadd C dL_law_640 ?_
  refine LW.sld C (lw_in hL h0 h1 (by decide) (by decide)) dL_law_641 ?_
  refine LW.callV C (As := [iv (xs (ix (i + 1))).toInt, iv (xs (ix (i + 2))).toInt, iv (xs (ix (i + 3))).toInt, iv (xs (ix (i + 4))).toInt]) (st := []) (M_maybe_ok e2) cqL_64 crL_64 (by decide) rfl dL_law_642 rfl (Nat.le_of_ble_eq_true rfl) ?_
  refine LW.pop C dL_law_645 ?_
  refine LW.goto (tgt := 1914) C dL_law_646 (by decide) ?_
  exact kk _ hI2
theorem lwc_harm {Inv0 Inv : AG → Prop} (hsim : Sim_harm Inv0 Inv) (C : LC p s m meth c b L xs z) (hL : L ≤ 3072) {i : Int} (h0 : 0 ≤ i) (h1 : i + 6 ≤ L) (hI : Inv0 g) (kk : ∀ g9, Inv g9 → LW p l e s m below meth c b z 1914 [(3, iv i), (2, rv z 117), (1, rv z 0), (0, .ref b)] [] g9) : LW p l e s m below meth c b z 649 [(3, iv i), (2, rv z 117), (1, rv z 0), (0, .ref b)] [] g := by
  obtain ⟨r1, r2, e1, e2, hv, hI2⟩ := hsim ((xs (ix (i + 1))).toInt) ((xs (ix (i + 2))).toInt) ((xs (ix (i + 3))).toInt) ((xs (ix (i + 4))).toInt) g (I32_of _) (I32_of _) (I32_of _) (I32_of _) hI
  refine LW.aload_n C 2 dL_law_649 rfl ?_
  refine LW.aload_n C 3 dL_law_650 rfl ?_
  refine LW.iload_n C 0 dL_law_651 rfl ?_
  refine LW.iconst C dL_law_652 ?_
  refine LW.iadd C dL_law_653 ?_
  refine LW.sld C (lw_in hL h0 h1 (by decide) (by decide)) dL_law_654 ?_
  refine LW.aload_n C 3 dL_law_655 rfl ?_
  refine LW.iload_n C 0 dL_law_656 rfl ?_
  refine LW.iconst C dL_law_657 ?_
  refine LW.iadd C dL_law_658 ?_
  refine LW.sld C (lw_in hL h0 h1 (by decide) (by decide)) dL_law_659 ?_
  refine LW.aload_n C 3 dL_law_660 rfl ?_
  refine LW.iload_n C 0 dL_law_661 rfl ?_
  refine LW.iconst C dL_law_662 ?_
  refine LW.iadd C dL_law_663 ?_
  refine LW.sld C (lw_in hL h0 h1 (by decide) (by decide)) dL_law_664 ?_
  refine LW.aload_n C 3 dL_law_665 rfl ?_
  refine LW.iload_n C 0 dL_law_666 rfl ?_
  refine LW.iconst C dL_law_667 ?_
  refine LW.iadd C dL_law_668 ?_
  refine LW.sld C (lw_in hL h0 h1 (by decide) (by decide)) dL_law_669 ?_
  refine LW.callV C (As := [iv (xs (ix (i + 1))).toInt, iv (xs (ix (i + 2))).toInt, iv (xs (ix (i + 3))).toInt, iv (xs (ix (i + 4))).toInt]) (st := []) (X_harm_ok e1) cqL_65 crL_65 (by decide) rfl dL_law_670 rfl (Nat.le_of_ble_eq_true rfl) ?_
  refine LW.pop C dL_law_673 ?_
  refine LW.aload_n C 1 dL_law_674 rfl ?_
  refine LW.aload_n C 3 dL_law_675 rfl ?_
  refine LW.iload_n C 0 dL_law_676 rfl ?_
  refine LW.iconst C dL_law_677 ?_
  refine LW.iadd C dL_law_678 ?_
  refine LW.sld C (lw_in hL h0 h1 (by decide) (by decide)) dL_law_679 ?_
  refine LW.aload_n C 3 dL_law_680 rfl ?_
  refine LW.iload_n C 0 dL_law_681 rfl ?_
  refine LW.iconst C dL_law_682 ?_
  refine LW.iadd C dL_law_683 ?_
  refine LW.sld C (lw_in hL h0 h1 (by decide) (by decide)) dL_law_684 ?_
  refine LW.aload_n C 3 dL_law_685 rfl ?_
  refine LW.iload_n C 0 dL_law_686 rfl ?_
  refine LW.iconst C dL_law_687 ?_
  refine LW.iadd C dL_law_688 ?_
  refine LW.sld C (lw_in hL h0 h1 (by decide) (by decide)) dL_law_689 ?_
  refine LW.aload_n C 3 dL_law_690 rfl ?_
  refine LW.iload_n C 0 dL_law_691 rfl ?_
  refine LW.iconst C dL_law_692 ?_
  refine LW.iadd C dL_law_693 ?_
  refine LW.sld C (lw_in hL h0 h1 (by decide) (by decide)) dL_law_694 ?_
  refine LW.callV C (As := [iv (xs (ix (i + 1))).toInt, iv (xs (ix (i + 2))).toInt, iv (xs (ix (i + 3))).toInt, iv (xs (ix (i + 4))).toInt]) (st := []) (M_harm_ok e2) cqL_68 crL_68 (by decide) rfl dL_law_695 rfl (Nat.le_of_ble_eq_true rfl) ?_
  refine LW.pop C dL_law_698 ?_
  refine LW.goto (tgt := 1914) C dL_law_699 (by decide) ?_
  exact kk _ hI2
theorem lwc_back {Inv0 Inv : AG → Prop} (hsim : Sim_back Inv0 Inv) (C : LC p s m meth c b L xs z) (hL : L ≤ 3072) {i : Int} (h0 : 0 ≤ i) (h1 : i + 6 ≤ L) (hI : Inv0 g) (kk : ∀ g9, Inv g9 → LW p l e s m below meth c b z 1914 [(3, iv i), (2, rv z 117), (1, rv z 0), (0, .ref b)] [] g9) : LW p l e s m below meth c b z 702 [(3, iv i), (2, rv z 117), (1, rv z 0), (0, .ref b)] [] g := by
  obtain ⟨r1, r2, e1, e2, hv, hI2⟩ := hsim ((xs (ix (i + 1))).toInt) ((xs (ix (i + 2))).toInt) g (I32_of _) (I32_of _) hI
  refine LW.aload_n C 2 dL_law_702 rfl ?_
  refine LW.aload_n C 3 dL_law_703 rfl ?_
  refine LW.iload_n C 0 dL_law_704 rfl ?_
  refine LW.iconst C dL_law_705 ?_
  refine LW.iadd C dL_law_706 ?_
  refine LW.sld C (lw_in hL h0 h1 (by decide) (by decide)) dL_law_707 ?_
  refine LW.aload_n C 3 dL_law_708 rfl ?_
  refine LW.iload_n C 0 dL_law_709 rfl ?_
  refine LW.iconst C dL_law_710 ?_
  refine LW.iadd C dL_law_711 ?_
  refine LW.sld C (lw_in hL h0 h1 (by decide) (by decide)) dL_law_712 ?_
  refine LW.callV C (As := [iv (xs (ix (i + 1))).toInt, iv (xs (ix (i + 2))).toInt]) (st := []) (X_back_ok e1) cqL_69 crL_69 (by decide) rfl dL_law_713 rfl (Nat.le_of_ble_eq_true rfl) ?_
  refine LW.pop C dL_law_716 ?_
  refine LW.aload_n C 1 dL_law_717 rfl ?_
  refine LW.aload_n C 3 dL_law_718 rfl ?_
  refine LW.iload_n C 0 dL_law_719 rfl ?_
  refine LW.iconst C dL_law_720 ?_
  refine LW.iadd C dL_law_721 ?_
  refine LW.sld C (lw_in hL h0 h1 (by decide) (by decide)) dL_law_722 ?_
  refine LW.aload_n C 3 dL_law_723 rfl ?_
  refine LW.iload_n C 0 dL_law_724 rfl ?_
  refine LW.iconst C dL_law_725 ?_
  refine LW.iadd C dL_law_726 ?_
  refine LW.sld C (lw_in hL h0 h1 (by decide) (by decide)) dL_law_727 ?_
  refine LW.callV C (As := [iv (xs (ix (i + 1))).toInt, iv (xs (ix (i + 2))).toInt]) (st := []) (M_back_ok e2) cqL_72 crL_72 (by decide) rfl dL_law_728 rfl (Nat.le_of_ble_eq_true rfl) ?_
  refine LW.pop C dL_law_731 ?_
  refine LW.goto (tgt := 1914) C dL_law_732 (by decide) ?_
  exact kk _ hI2
theorem lwc_rung {Inv0 Inv : AG → Prop} (hsim : Sim_rung Inv0 Inv) (C : LC p s m meth c b L xs z) (hL : L ≤ 3072) {i : Int} (h0 : 0 ≤ i) (h1 : i + 6 ≤ L) (hI : Inv0 g) (kk : ∀ g9, Inv g9 → LW p l e s m below meth c b z 1914 [(3, iv i), (2, rv z 117), (1, rv z 0), (0, .ref b)] [] g9) : LW p l e s m below meth c b z 735 [(3, iv i), (2, rv z 117), (1, rv z 0), (0, .ref b)] [] g := by
  obtain ⟨r1, r2, e1, e2, hv, hI2⟩ := hsim  g  hI
  refine LW.aload_n C 2 dL_law_735 rfl ?_
  refine LW.callV C (As := []) (st := []) (X_rung_ok e1) cqL_73 crL_73 (by decide) rfl dL_law_736 rfl (Nat.le_of_ble_eq_true rfl) ?_
  refine LW.pop C dL_law_739 ?_
  refine LW.aload_n C 1 dL_law_740 rfl ?_
  refine LW.callV C (As := []) (st := []) (M_rung_ok e2) cqL_76 crL_76 (by decide) rfl dL_law_741 rfl (Nat.le_of_ble_eq_true rfl) ?_
  refine LW.pop C dL_law_744 ?_
  refine LW.goto (tgt := 1914) C dL_law_745 (by decide) ?_
  exact kk _ hI2
end LAWW
