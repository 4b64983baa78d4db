theorem lw_0 {p : Program} {l : Launch} {e : Env} {s : State} {m : MethodId} {below : List Frame} {meth : Method} {c : Code} {b L : Nat} {xs : Nat → Int32} {D : va_G} {ad : Ky → Nat} {cy : Nat → ClassId} {g : GS} (X : LX p s m c b L xs D ad cy) {i : Nat} (hi : i + 6 ≤ L) (hL : L ≤ 384) (h : Rel g) (k : ∀ g', Rel g' → Vl p l e s m below meth c b D ad cy 1435 (llc ad b i) [] g') : Vl p l e s m below meth c b D ad cy 200 (llc ad b i) [] g := by
  obtain ⟨r, g1, g2', e1, e2, h2⟩ := p_row 2000 (by decide) (xs (i + 1)) (xs (i + 2)) (xs (i + 3)) g h
  refine l_obj X dL_law_200 (j := 1) rfl rfl ?_
  refine l_arg X (n := 1) (by omega) hL dL_law_201 dL_law_202 dL_law_203 (by decide) dL_law_204 dL_law_205 ?_
  refine l_arg X (n := 2) (by omega) hL dL_law_206 dL_law_207 dL_law_208 (by decide) dL_law_209 dL_law_210 ?_
  refine l_arg X (n := 3) (by omega) hL dL_law_211 dL_law_212 dL_law_213 (by decide) dL_law_214 dL_law_215 ?_
  refine l_callI X (c_X7_row l D ad cy X.2.2.2.2.2.2.2.2.1 2000 (xs (i + 1)) (xs (i + 2)) (xs (i + 3)) g r g1 e1) mw_X7_row ml_L_13 (by decide) (a := 7) (by decide +kernel) (by decide) rfl rfl (As := [.int (xs (i + 1)), .int (xs (i + 2)), .int (xs (i + 3))]) rfl (rest := []) rfl (by decide) dL_law_216 ?_
  refine l_obj X dL_law_219 (j := 2) rfl rfl ?_
  refine l_arg X (n := 1) (by omega) hL dL_law_220 dL_law_221 dL_law_222 (by decide) dL_law_223 dL_law_224 ?_
  refine l_arg X (n := 2) (by omega) hL dL_law_225 dL_law_226 dL_law_227 (by decide) dL_law_228 dL_law_229 ?_
  refine l_arg X (n := 3) (by omega) hL dL_law_230 dL_law_231 dL_law_232 (by decide) dL_law_233 dL_law_234 ?_
  refine l_callI X (c_X8_row l D ad cy X.2.2.2.2.2.2.2.2.1 2000 (xs (i + 1)) (xs (i + 2)) (xs (i + 3)) g1 r g2' e2) mw_X8_row ml_L_17 (by decide) (a := 8) (by decide +kernel) (by decide) rfl rfl (As := [.int (xs (i + 1)), .int (xs (i + 2)), .int (xs (i + 3))]) rfl (rest := [.int r]) rfl (by exact Nat.le_of_ble_eq_true rfl) dL_law_235 ?_
  exact l_same X dL_law_238 (by decide) (k g2' h2)
theorem lw_1 {p : Program} {l : Launch} {e : Env} {s : State} {m : MethodId} {below : List Frame} {meth : Method} {c : Code} {b L : Nat} {xs : Nat → Int32} {D : va_G} {ad : Ky → Nat} {cy : Nat → ClassId} {g : GS} (X : LX p s m c b L xs D ad cy) {i : Nat} (hi : i + 6 ≤ L) (hL : L ≤ 384) (h : Rel g) (k : ∀ g', Rel g' → Vl p l e s m below meth c b D ad cy 1435 (llc ad b i) [] g') : Vl p l e s m below meth c b D ad cy 243 (llc ad b i) [] g := by
  obtain ⟨r, g1, g2', e1, e2, h2⟩ := p_set 2000 (xs (i + 1)) (xs (i + 2)) (xs (i + 3)) g h
  refine l_obj X dL_law_243 (j := 1) rfl rfl ?_
  refine l_arg X (n := 1) (by omega) hL dL_law_244 dL_law_245 dL_law_246 (by decide) dL_law_247 dL_law_248 ?_
  refine l_arg X (n := 2) (by omega) hL dL_law_249 dL_law_250 dL_law_251 (by decide) dL_law_252 dL_law_253 ?_
  refine l_arg X (n := 3) (by omega) hL dL_law_254 dL_law_255 dL_law_256 (by decide) dL_law_257 dL_law_258 ?_
  refine l_callI X (c_X7_set l D ad cy X.2.2.2.2.2.2.2.2.1 2000 (xs (i + 1)) (xs (i + 2)) (xs (i + 3)) g r g1 e1) mw_X7_set ml_L_18 (by decide) (a := 7) (by decide +kernel) (by decide) rfl rfl (As := [.int (xs (i + 1)), .int (xs (i + 2)), .int (xs (i + 3))]) rfl (rest := []) rfl (by decide) dL_law_259 ?_
  refine l_obj X dL_law_262 (j := 2) rfl rfl ?_
  refine l_arg X (n := 1) (by omega) hL dL_law_263 dL_law_264 dL_law_265 (by decide) dL_law_266 dL_law_267 ?_
  refine l_arg X (n := 2) (by omega) hL dL_law_268 dL_law_269 dL_law_270 (by decide) dL_law_271 dL_law_272 ?_
  refine l_arg X (n := 3) (by omega) hL dL_law_273 dL_law_274 dL_law_275 (by decide) dL_law_276 dL_law_277 ?_
  refine l_callI X (c_X8_set l D ad cy X.2.2.2.2.2.2.2.2.1 2000 (xs (i + 1)) (xs (i + 2)) (xs (i + 3)) g1 r g2' e2) mw_X8_set ml_L_21 (by decide) (a := 8) (by decide +kernel) (by decide) rfl rfl (As := [.int (xs (i + 1)), .int (xs (i + 2)), .int (xs (i + 3))]) rfl (rest := [.int r]) rfl (by exact Nat.le_of_ble_eq_true rfl) dL_law_278 ?_
  exact l_same X dL_law_281 (by decide) (k g2' h2)
theorem lw_2 {p : Program} {l : Launch} {e : Env} {s : State} {m : MethodId} {below : List Frame} {meth : Method} {c : Code} {b L : Nat} {xs : Nat → Int32} {D : va_G} {ad : Ky → Nat} {cy : Nat → ClassId} {g : GS} (X : LX p s m c b L xs D ad cy) {i : Nat} (hi : i + 6 ≤ L) (hL : L ≤ 384) (h : Rel g) (k : ∀ g', Rel g' → Vl p l e s m below meth c b D ad cy 1435 (llc ad b i) [] g') : Vl p l e s m below meth c b D ad cy 286 (llc ad b i) [] g := by
  obtain ⟨r, g1, g2', e1, e2, h2⟩ := p_copy 2000 (by decide) (xs (i + 1)) (xs (i + 2)) (xs (i + 3)) (xs (i + 4)) (xs (i + 5)) g h
  refine l_obj X dL_law_286 (j := 1) rfl rfl ?_
  refine l_arg X (n := 1) (by omega) hL dL_law_287 dL_law_288 dL_law_289 (by decide) dL_law_290 dL_law_291 ?_
  refine l_arg X (n := 2) (by omega) hL dL_law_292 dL_law_293 dL_law_294 (by decide) dL_law_295 dL_law_296 ?_
  refine l_arg X (n := 3) (by omega) hL dL_law_297 dL_law_298 dL_law_299 (by decide) dL_law_300 dL_law_301 ?_
  refine l_arg X (n := 4) (by omega) hL dL_law_302 dL_law_303 dL_law_304 (by decide) dL_law_305 dL_law_306 ?_
  refine l_arg X (n := 5) (by omega) hL dL_law_307 dL_law_308 dL_law_309 (by decide) dL_law_310 dL_law_311 ?_
  refine l_callI X (c_X7_copy l D ad cy X.2.2.2.2.2.2.2.2.1 2000 (xs (i + 1)) (xs (i + 2)) (xs (i + 3)) (xs (i + 4)) (xs (i + 5)) g r g1 e1) mw_X7_copy ml_L_22 (by decide) (a := 7) (by decide +kernel) (by decide) rfl rfl (As := [.int (xs (i + 1)), .int (xs (i + 2)), .int (xs (i + 3)), .int (xs (i + 4)), .int (xs (i + 5))]) rfl (rest := []) rfl (by decide) dL_law_312 ?_
  refine l_obj X dL_law_315 (j := 2) rfl rfl ?_
  refine l_arg X (n := 1) (by omega) hL dL_law_316 dL_law_317 dL_law_318 (by decide) dL_law_319 dL_law_320 ?_
  refine l_arg X (n := 2) (by omega) hL dL_law_321 dL_law_322 dL_law_323 (by decide) dL_law_324 dL_law_325 ?_
  refine l_arg X (n := 3) (by omega) hL dL_law_326 dL_law_327 dL_law_328 (by decide) dL_law_329 dL_law_330 ?_
  refine l_arg X (n := 4) (by omega) hL dL_law_331 dL_law_332 dL_law_333 (by decide) dL_law_334 dL_law_335 ?_
  refine l_arg X (n := 5) (by omega) hL dL_law_336 dL_law_337 dL_law_338 (by decide) dL_law_339 dL_law_340 ?_
  refine l_callI X (c_X8_copy l D ad cy X.2.2.2.2.2.2.2.2.1 2000 (xs (i + 1)) (xs (i + 2)) (xs (i + 3)) (xs (i + 4)) (xs (i + 5)) g1 r g2' e2) mw_X8_copy ml_L_26 (by decide) (a := 8) (by decide +kernel) (by decide) rfl rfl (As := [.int (xs (i + 1)), .int (xs (i + 2)), .int (xs (i + 3)), .int (xs (i + 4)), .int (xs (i + 5))]) rfl (rest := [.int r]) rfl (by exact Nat.le_of_ble_eq_true rfl) dL_law_341 ?_
  exact l_same X dL_law_344 (by decide) (k g2' h2)
theorem lw_3 {p : Program} {l : Launch} {e : Env} {s : State} {m : MethodId} {below : List Frame} {meth : Method} {c : Code} {b L : Nat} {xs : Nat → Int32} {D : va_G} {ad : Ky → Nat} {cy : Nat → ClassId} {g : GS} (X : LX p s m c b L xs D ad cy) {i : Nat} (hi : i + 6 ≤ L) (hL : L ≤ 384) (h : Rel g) (k : ∀ g', Rel g' → Vl p l e s m below meth c b D ad cy 1435 (llc ad b i) [] g') : Vl p l e s m below meth c b D ad cy 349 (llc ad b i) [] g := by
  obtain ⟨r, g1, g2', e1, e2, h2⟩ := p_drop 2000 (xs (i + 1)) g h
  refine l_obj X dL_law_349 (j := 1) rfl rfl ?_
  refine l_arg X (n := 1) (by omega) hL dL_law_350 dL_law_351 dL_law_352 (by decide) dL_law_353 dL_law_354 ?_
  refine l_callI X (c_X7_drop l D ad cy X.2.2.2.2.2.2.2.2.1 2000 (xs (i + 1)) g r g1 e1) mw_X7_drop ml_L_27 (by decide) (a := 7) (by decide +kernel) (by decide) rfl rfl (As := [.int (xs (i + 1))]) rfl (rest := []) rfl (by decide) dL_law_355 ?_
  refine l_obj X dL_law_358 (j := 2) rfl rfl ?_
  refine l_arg X (n := 1) (by omega) hL dL_law_359 dL_law_360 dL_law_361 (by decide) dL_law_362 dL_law_363 ?_
  refine l_callI X (c_X8_drop l D ad cy X.2.2.2.2.2.2.2.2.1 2000 (xs (i + 1)) g1 r g2' e2) mw_X8_drop ml_L_31 (by decide) (a := 8) (by decide +kernel) (by decide) rfl rfl (As := [.int (xs (i + 1))]) rfl (rest := [.int r]) rfl (by exact Nat.le_of_ble_eq_true rfl) dL_law_364 ?_
  exact l_same X dL_law_367 (by decide) (k g2' h2)
theorem lw_4 {p : Program} {l : Launch} {e : Env} {s : State} {m : MethodId} {below : List Frame} {meth : Method} {c : Code} {b L : Nat} {xs : Nat → Int32} {D : va_G} {ad : Ky → Nat} {cy : Nat → ClassId} {g : GS} (X : LX p s m c b L xs D ad cy) {i : Nat} (hi : i + 6 ≤ L) (hL : L ≤ 384) (h : Rel g) (k : ∀ g', Rel g' → Vl p l e s m below meth c b D ad cy 1435 (llc ad b i) [] g') : Vl p l e s m below meth c b D ad cy 372 (llc ad b i) [] g := by
  obtain ⟨r, g1, g2', e1, e2, h2⟩ := p_feed 2000 (xs (i + 1)) g h
  refine l_obj X dL_law_372 (j := 1) rfl rfl ?_
  refine l_arg X (n := 1) (by omega) hL dL_law_373 dL_law_374 dL_law_375 (by decide) dL_law_376 dL_law_377 ?_
  refine l_callI X (c_X7_feed l D ad cy X.2.2.2.2.2.2.2.2.1 2000 (xs (i + 1)) g r g1 e1) mw_X7_feed ml_L_32 (by decide) (a := 7) (by decide +kernel) (by decide) rfl rfl (As := [.int (xs (i + 1))]) rfl (rest := []) rfl (by decide) dL_law_378 ?_
  refine l_obj X dL_law_381 (j := 2) rfl rfl ?_
  refine l_arg X (n := 1) (by omega) hL dL_law_382 dL_law_383 dL_law_384 (by decide) dL_law_385 dL_law_386 ?_
  refine l_callI X (c_X8_feed l D ad cy X.2.2.2.2.2.2.2.2.1 2000 (xs (i + 1)) g1 r g2' e2) mw_X8_feed ml_L_35 (by decide) (a := 8) (by decide +kernel) (by decide) rfl rfl (As := [.int (xs (i + 1))]) rfl (rest := [.int r]) rfl (by exact Nat.le_of_ble_eq_true rfl) dL_law_387 ?_
  exact l_same X dL_law_390 (by decide) (k g2' h2)
theorem lw_5 {p : Program} {l : Launch} {e : Env} {s : State} {m : MethodId} {below : List Frame} {meth : Method} {c : Code} {b L : Nat} {xs : Nat → Int32} {D : va_G} {ad : Ky → Nat} {cy : Nat → ClassId} {g : GS} (X : LX p s m c b L xs D ad cy) {i : Nat} (hi : i + 6 ≤ L) (hL : L ≤ 384) (h : Rel g) (k : ∀ g', Rel g' → Vl p l e s m below meth c b D ad cy 1435 (llc ad b i) [] g') : Vl p l e s m below meth c b D ad cy 395 (llc ad b i) [] g := by
  obtain ⟨r, g1, g2', e1, e2, h2⟩ := p_roof 2000 (by decide)  g h
  refine l_obj X dL_law_395 (j := 1) rfl rfl ?_
  refine l_callI X (c_X7_roof l D ad cy X.2.2.2.2.2.2.2.2.1 2000  g r g1 e1) mw_X7_roof ml_L_36 (by decide) (a := 7) (by decide +kernel) (by decide) rfl rfl (As := []) rfl (rest := []) rfl (by decide) dL_law_396 ?_
  refine l_obj X dL_law_399 (j := 2) rfl rfl ?_
  refine l_callI X (c_X8_roof l D ad cy X.2.2.2.2.2.2.2.2.1 2000  g1 r g2' e2) mw_X8_roof ml_L_40 (by decide) (a := 8) (by decide +kernel) (by decide) rfl rfl (As := []) rfl (rest := [.int r]) rfl (by exact Nat.le_of_ble_eq_true rfl) dL_law_400 ?_
  exact l_same X dL_law_403 (by decide) (k g2' h2)
theorem lw_6 {p : Program} {l : Launch} {e : Env} {s : State} {m : MethodId} {below : List Frame} {meth : Method} {c : Code} {b L : Nat} {xs : Nat → Int32} {D : va_G} {ad : Ky → Nat} {cy : Nat → ClassId} {g : GS} (X : LX p s m c b L xs D ad cy) {i : Nat} (hi : i + 6 ≤ L) (hL : L ≤ 384) (h : Rel g) (k : ∀ g', Rel g' → Vl p l e s m below meth c b D ad cy 1435 (llc ad b i) [] g') : Vl p l e s m below meth c b D ad cy 408 (llc ad b i) [] g := by
  obtain ⟨r, g1, g2', e1, e2, h2⟩ := p_fault 2000  g h
  refine l_obj X dL_law_408 (j := 1) rfl rfl ?_
  refine l_callI X (c_X7_fault l D ad cy X.2.2.2.2.2.2.2.2.1 2000  g r g1 e1) mw_X7_fault ml_L_41 (by decide) (a := 7) (by decide +kernel) (by decide) rfl rfl (As := []) rfl (rest := []) rfl (by decide) dL_law_409 ?_
  refine l_obj X dL_law_412 (j := 2) rfl rfl ?_
  refine l_callI X (c_X8_fault l D ad cy X.2.2.2.2.2.2.2.2.1 2000  g1 r g2' e2) mw_X8_fault ml_L_44 (by decide) (a := 8) (by decide +kernel) (by decide) rfl rfl (As := []) rfl (rest := [.int r]) rfl (by exact Nat.le_of_ble_eq_true rfl) dL_law_413 ?_
  exact l_same X dL_law_416 (by decide) (k g2' h2)
theorem lw_7 {p : Program} {l : Launch} {e : Env} {s : State} {m : MethodId} {below : List Frame} {meth : Method} {c : Code} {b L : Nat} {xs : Nat → Int32} {D : va_G} {ad : Ky → Nat} {cy : Nat → ClassId} {g : GS} (X : LX p s m c b L xs D ad cy) {i : Nat} (hi : i + 6 ≤ L) (hL : L ≤ 384) (h : Rel g) (k : ∀ g', Rel g' → Vl p l e s m below meth c b D ad cy 1435 (llc ad b i) [] g') : Vl p l e s m below meth c b D ad cy 421 (llc ad b i) [] g := by
  obtain ⟨r, g1, g2', e1, e2, h2⟩ := p_undo 2000 (by decide)  g h
  refine l_obj X dL_law_421 (j := 1) rfl rfl ?_
  refine l_callI X (c_X7_undo l D ad cy X.2.2.2.2.2.2.2.2.1 2000  g r g1 e1) mw_X7_undo ml_L_45 (by decide) (a := 7) (by decide +kernel) (by decide) rfl rfl (As := []) rfl (rest := []) rfl (by decide) dL_law_422 ?_
  refine l_obj X dL_law_425 (j := 2) rfl rfl ?_
  refine l_callI X (c_X8_undo l D ad cy X.2.2.2.2.2.2.2.2.1 2000  g1 r g2' e2) mw_X8_undo ml_L_48 (by decide) (a := 8) (by decide +kernel) (by decide) rfl rfl (As := []) rfl (rest := [.int r]) rfl (by exact Nat.le_of_ble_eq_true rfl) dL_law_426 ?_
  exact l_same X dL_law_429 (by decide) (k g2' h2)
theorem lw_8 {p : Program} {l : Launch} {e : Env} {s : State} {m : MethodId} {below : List Frame} {meth : Method} {c : Code} {b L : Nat} {xs : Nat → Int32} {D : va_G} {ad : Ky → Nat} {cy : Nat → ClassId} {g : GS} (X : LX p s m c b L xs D ad cy) {i : Nat} (hi : i + 6 ≤ L) (hL : L ≤ 384) (h : Rel g) (k : ∀ g', Rel g' → Vl p l e s m below meth c b D ad cy 1435 (llc ad b i) [] g') : Vl p l e s m below meth c b D ad cy 434 (llc ad b i) [] g := by
  obtain ⟨r, g1, g2', e1, e2, h2⟩ := p_hours 2000 (by decide) (xs (i + 1)) g h
  refine l_obj X dL_law_434 (j := 1) rfl rfl ?_
  refine l_arg X (n := 1) (by omega) hL dL_law_435 dL_law_436 dL_law_437 (by decide) dL_law_438 dL_law_439 ?_
  refine l_callI X (c_X7_hours l D ad cy X.2.2.2.2.2.2.2.2.1 2000 (xs (i + 1)) g r g1 e1) mw_X7_hours ml_L_49 (by decide) (a := 7) (by decide +kernel) (by decide) rfl rfl (As := [.int (xs (i + 1))]) rfl (rest := []) rfl (by decide) dL_law_440 ?_
  refine l_obj X dL_law_443 (j := 2) rfl rfl ?_
  refine l_arg X (n := 1) (by omega) hL dL_law_444 dL_law_445 dL_law_446 (by decide) dL_law_447 dL_law_448 ?_
  refine l_callI X (c_X8_hours l D ad cy X.2.2.2.2.2.2.2.2.1 2000 (xs (i + 1)) g1 r g2' e2) mw_X8_hours ml_L_52 (by decide) (a := 8) (by decide +kernel) (by decide) rfl rfl (As := [.int (xs (i + 1))]) rfl (rest := [.int r]) rfl (by exact Nat.le_of_ble_eq_true rfl) dL_law_449 ?_
  exact l_same X dL_law_452 (by decide) (k g2' h2)
theorem lw_9 {p : Program} {l : Launch} {e : Env} {s : State} {m : MethodId} {below : List Frame} {meth : Method} {c : Code} {b L : Nat} {xs : Nat → Int32} {D : va_G} {ad : Ky → Nat} {cy : Nat → ClassId} {g : GS} (X : LX p s m c b L xs D ad cy) {i : Nat} (hi : i + 6 ≤ L) (hL : L ≤ 384) (h : Rel g) (k : ∀ g', Rel g' → Vl p l e s m below meth c b D ad cy 1435 (llc ad b i) [] g') : Vl p l e s m below meth c b D ad cy 457 (llc ad b i) [] g := by
  obtain ⟨r, g1, g2', e1, e2, h2⟩ := p_send 2000 (by decide) (xs (i + 1)) (xs (i + 2)) g h
  refine l_obj X dL_law_457 (j := 1) rfl rfl ?_
  refine l_arg X (n := 1) (by omega) hL dL_law_458 dL_law_459 dL_law_460 (by decide) dL_law_461 dL_law_462 ?_
  refine l_arg X (n := 2) (by omega) hL dL_law_463 dL_law_464 dL_law_465 (by decide) dL_law_466 dL_law_467 ?_
  refine l_callI X (c_X7_send l D ad cy X.2.2.2.2.2.2.2.2.1 2000 (xs (i + 1)) (xs (i + 2)) g r g1 e1) mw_X7_send ml_L_53 (by decide) (a := 7) (by decide +kernel) (by decide) rfl rfl (As := [.int (xs (i + 1)), .int (xs (i + 2))]) rfl (rest := []) rfl (by decide) dL_law_468 ?_
  refine l_obj X dL_law_471 (j := 2) rfl rfl ?_
  refine l_arg X (n := 1) (by omega) hL dL_law_472 dL_law_473 dL_law_474 (by decide) dL_law_475 dL_law_476 ?_
  refine l_arg X (n := 2) (by omega) hL dL_law_477 dL_law_478 dL_law_479 (by decide) dL_law_480 dL_law_481 ?_
  refine l_callI X (c_X8_send l D ad cy X.2.2.2.2.2.2.2.2.1 2000 (xs (i + 1)) (xs (i + 2)) g1 r g2' e2) mw_X8_send ml_L_57 (by decide) (a := 8) (by decide +kernel) (by decide) rfl rfl (As := [.int (xs (i + 1)), .int (xs (i + 2))]) rfl (rest := [.int r]) rfl (by exact Nat.le_of_ble_eq_true rfl) dL_law_482 ?_
  exact l_same X dL_law_485 (by decide) (k g2' h2)
theorem lw_10 {p : Program} {l : Launch} {e : Env} {s : State} {m : MethodId} {below : List Frame} {meth : Method} {c : Code} {b L : Nat} {xs : Nat → Int32} {D : va_G} {ad : Ky → Nat} {cy : Nat → ClassId} {g : GS} (X : LX p s m c b L xs D ad cy) {i : Nat} (hi : i + 6 ≤ L) (hL : L ≤ 384) (h : Rel g) (k : ∀ g', Rel g' → Vl p l e s m below meth c b D ad cy 1435 (llc ad b i) [] g') : Vl p l e s m below meth c b D ad cy 490 (llc ad b i) [] g := by
  obtain ⟨r, g1, g2', e1, e2, h2⟩ := p_let 2000 (by decide) (xs (i + 1)) (xs (i + 2)) g h
  refine l_obj X dL_law_490 (j := 1) rfl rfl ?_
  refine l_arg X (n := 1) (by omega) hL dL_law_491 dL_law_492 dL_law_493 (by decide) dL_law_494 dL_law_495 ?_
  refine l_arg X (n := 2) (by omega) hL dL_law_496 dL_law_497 dL_law_498 (by decide) dL_law_499 dL_law_500 ?_
  refine l_callI X (c_X7_let l D ad cy X.2.2.2.2.2.2.2.2.1 2000 (xs (i + 1)) (xs (i + 2)) g r g1 e1) mw_X7_let ml_L_58 (by decide) (a := 7) (by decide +kernel) (by decide) rfl rfl (As := [.int (xs (i + 1)), .int (xs (i + 2))]) rfl (rest := []) rfl (by decide) dL_law_501 ?_
  refine l_obj X dL_law_504 (j := 2) rfl rfl ?_
  refine l_arg X (n := 1) (by omega) hL dL_law_505 dL_law_506 dL_law_507 (by decide) dL_law_508 dL_law_509 ?_
  refine l_arg X (n := 2) (by omega) hL dL_law_510 dL_law_511 dL_law_512 (by decide) dL_law_513 dL_law_514 ?_
  refine l_callI X (c_X8_let l D ad cy X.2.2.2.2.2.2.2.2.1 2000 (xs (i + 1)) (xs (i + 2)) g1 r g2' e2) mw_X8_let ml_L_61 (by decide) (a := 8) (by decide +kernel) (by decide) rfl rfl (As := [.int (xs (i + 1)), .int (xs (i + 2))]) rfl (rest := [.int r]) rfl (by exact Nat.le_of_ble_eq_true rfl) dL_law_515 ?_
  exact l_same X dL_law_518 (by decide) (k g2' h2)
theorem lw_11 {p : Program} {l : Launch} {e : Env} {s : State} {m : MethodId} {below : List Frame} {meth : Method} {c : Code} {b L : Nat} {xs : Nat → Int32} {D : va_G} {ad : Ky → Nat} {cy : Nat → ClassId} {g : GS} (X : LX p s m c b L xs D ad cy) {i : Nat} (hi : i + 6 ≤ L) (hL : L ≤ 384) (h : Rel g) (k : ∀ g', Rel g' → Vl p l e s m below meth c b D ad cy 1435 (llc ad b i) [] g') : Vl p l e s m below meth c b D ad cy 523 (llc ad b i) [] g := by
  obtain ⟨r, g1, g2', e1, e2, h2⟩ := p_weigh 2000 (by decide) (xs (i + 1)) (xs (i + 2)) g h
  refine l_obj X dL_law_523 (j := 1) rfl rfl ?_
  refine l_arg X (n := 1) (by omega) hL dL_law_524 dL_law_525 dL_law_526 (by decide) dL_law_527 dL_law_528 ?_
  refine l_arg X (n := 2) (by omega) hL dL_law_529 dL_law_530 dL_law_531 (by decide) dL_law_532 dL_law_533 ?_
  refine l_callI X (c_X7_weigh l D ad cy X.2.2.2.2.2.2.2.2.1 2000 (xs (i + 1)) (xs (i + 2)) g r g1 e1) mw_X7_weigh ml_L_62 (by decide) (a := 7) (by decide +kernel) (by decide) rfl rfl (As := [.int (xs (i + 1)), .int (xs (i + 2))]) rfl (rest := []) rfl (by decide) dL_law_534 ?_
  refine l_obj X dL_law_537 (j := 2) rfl rfl ?_
  refine l_arg X (n := 1) (by omega) hL dL_law_538 dL_law_539 dL_law_540 (by decide) dL_law_541 dL_law_542 ?_
  refine l_arg X (n := 2) (by omega) hL dL_law_543 dL_law_544 dL_law_545 (by decide) dL_law_546 dL_law_547 ?_
  refine l_callI X (c_X8_weigh l D ad cy X.2.2.2.2.2.2.2.2.1 2000 (xs (i + 1)) (xs (i + 2)) g1 r g2' e2) mw_X8_weigh ml_L_65 (by decide) (a := 8) (by decide +kernel) (by decide) rfl rfl (As := [.int (xs (i + 1)), .int (xs (i + 2))]) rfl (rest := [.int r]) rfl (by exact Nat.le_of_ble_eq_true rfl) dL_law_548 ?_
  exact l_same X dL_law_551 (by decide) (k g2' h2)
theorem lw_12 {p : Program} {l : Launch} {e : Env} {s : State} {m : MethodId} {below : List Frame} {meth : Method} {c : Code} {b L : Nat} {xs : Nat → Int32} {D : va_G} {ad : Ky → Nat} {cy : Nat → ClassId} {g : GS} (X : LX p s m c b L xs D ad cy) {i : Nat} (hi : i + 6 ≤ L) (hL : L ≤ 384) (h : Rel g) (k : ∀ g', Rel g' → Vl p l e s m below meth c b D ad cy 1435 (llc ad b i) [] g') : Vl p l e s m below meth c b D ad cy 556 (llc ad b i) [] g := by
  obtain ⟨r, g1, g2', e1, e2, h2⟩ := p_blow 2000 (by decide) (xs (i + 1)) (xs (i + 2)) g h
  refine l_obj X dL_law_556 (j := 1) rfl rfl ?_
  refine l_arg X (n := 1) (by omega) hL dL_law_557 dL_law_558 dL_law_559 (by decide) dL_law_560 dL_law_561 ?_
  refine l_arg X (n := 2) (by omega) hL dL_law_562 dL_law_563 dL_law_564 (by decide) dL_law_565 dL_law_566 ?_
  refine l_callI X (c_X7_blow l D ad cy X.2.2.2.2.2.2.2.2.1 2000 (xs (i + 1)) (xs (i + 2)) g r g1 e1) mw_X7_blow ml_L_66 (by decide) (a := 7) (by decide +kernel) (by decide) rfl rfl (As := [.int (xs (i + 1)), .int (xs (i + 2))]) rfl (rest := []) rfl (by decide) dL_law_567 ?_
  refine l_obj X dL_law_570 (j := 2) rfl rfl ?_
  refine l_arg X (n := 1) (by omega) hL dL_law_571 dL_law_572 dL_law_573 (by decide) dL_law_574 dL_law_575 ?_
  refine l_arg X (n := 2) (by omega) hL dL_law_576 dL_law_577 dL_law_578 (by decide) dL_law_579 dL_law_580 ?_
  refine l_callI X (c_X8_blow l D ad cy X.2.2.2.2.2.2.2.2.1 2000 (xs (i + 1)) (xs (i + 2)) g1 r g2' e2) mw_X8_blow ml_L_69 (by decide) (a := 8) (by decide +kernel) (by decide) rfl rfl (As := [.int (xs (i + 1)), .int (xs (i + 2))]) rfl (rest := [.int r]) rfl (by exact Nat.le_of_ble_eq_true rfl) dL_law_581 ?_
  exact l_same X dL_law_584 (by decide) (k g2' h2)
theorem lw_13 {p : Program} {l : Launch} {e : Env} {s : State} {m : MethodId} {below : List Frame} {meth : Method} {c : Code} {b L : Nat} {xs : Nat → Int32} {D : va_G} {ad : Ky → Nat} {cy : Nat → ClassId} {g : GS} (X : LX p s m c b L xs D ad cy) {i : Nat} (hi : i + 6 ≤ L) (hL : L ≤ 384) (h : Rel g) (k : ∀ g', Rel g' → Vl p l e s m below meth c b D ad cy 1435 (llc ad b i) [] g') : Vl p l e s m below meth c b D ad cy 589 (llc ad b i) [] g := by
  obtain ⟨r, g1, g2', e1, e2, h2⟩ := p_paper 2000 (by decide) (xs (i + 1)) (xs (i + 2)) g h
  refine l_obj X dL_law_589 (j := 1) rfl rfl ?_
  refine l_arg X (n := 1) (by omega) hL dL_law_590 dL_law_591 dL_law_592 (by decide) dL_law_593 dL_law_594 ?_
  refine l_arg X (n := 2) (by omega) hL dL_law_595 dL_law_596 dL_law_597 (by decide) dL_law_598 dL_law_599 ?_
  refine l_callI X (c_X7_paper l D ad cy X.2.2.2.2.2.2.2.2.1 2000 (xs (i + 1)) (xs (i + 2)) g r g1 e1) mw_X7_paper ml_L_70 (by decide) (a := 7) (by decide +kernel) (by decide) rfl rfl (As := [.int (xs (i + 1)), .int (xs (i + 2))]) rfl (rest := []) rfl (by decide) dL_law_600 ?_
  refine l_obj X dL_law_603 (j := 2) rfl rfl ?_
  refine l_arg X (n := 1) (by omega) hL dL_law_604 dL_law_605 dL_law_606 (by decide) dL_law_607 dL_law_608 ?_
  refine l_arg X (n := 2) (by omega) hL dL_law_609 dL_law_610 dL_law_611 (by decide) dL_law_612 dL_law_613 ?_
  refine l_callI X (c_X8_paper l D ad cy X.2.2.2.2.2.2.2.2.1 2000 (xs (i + 1)) (xs (i + 2)) g1 r g2' e2) mw_X8_paper ml_L_73 (by decide) (a := 8) (by decide +kernel) (by decide) rfl rfl (As := [.int (xs (i + 1)), .int (xs (i + 2))]) rfl (rest := [.int r]) rfl (by exact Nat.le_of_ble_eq_true rfl) dL_law_614 ?_
  exact l_same X dL_law_617 (by decide) (k g2' h2)
theorem lw_14 {p : Program} {l : Launch} {e : Env} {s : State} {m : MethodId} {below : List Frame} {meth : Method} {c : Code} {b L : Nat} {xs : Nat → Int32} {D : va_G} {ad : Ky → Nat} {cy : Nat → ClassId} {g : GS} (X : LX p s m c b L xs D ad cy) {i : Nat} (hi : i + 6 ≤ L) (hL : L ≤ 384) (h : Rel g) (k : ∀ g', Rel g' → Vl p l e s m below meth c b D ad cy 1435 (llc ad b i) [] g') : Vl p l e s m below meth c b D ad cy 622 (llc ad b i) [] g := by
  obtain ⟨r, g1, g2', e1, e2, h2⟩ := p_force 2000 (by decide) (xs (i + 1)) g h
  refine l_obj X dL_law_622 (j := 1) rfl rfl ?_
  refine l_arg X (n := 1) (by omega) hL dL_law_623 dL_law_624 dL_law_625 (by decide) dL_law_626 dL_law_627 ?_
  refine l_callI X (c_X7_force l D ad cy X.2.2.2.2.2.2.2.2.1 2000 (xs (i + 1)) g r g1 e1) mw_X7_force ml_L_74 (by decide) (a := 7) (by decide +kernel) (by decide) rfl rfl (As := [.int (xs (i + 1))]) rfl (rest := []) rfl (by decide) dL_law_628 ?_
  refine l_obj X dL_law_631 (j := 2) rfl rfl ?_
  refine l_arg X (n := 1) (by omega) hL dL_law_632 dL_law_633 dL_law_634 (by decide) dL_law_635 dL_law_636 ?_
  refine l_callI X (c_X8_force l D ad cy X.2.2.2.2.2.2.2.2.1 2000 (xs (i + 1)) g1 r g2' e2) mw_X8_force ml_L_77 (by decide) (a := 8) (by decide +kernel) (by decide) rfl rfl (As := [.int (xs (i + 1))]) rfl (rest := [.int r]) rfl (by exact Nat.le_of_ble_eq_true rfl) dL_law_637 ?_
  exact l_same X dL_law_640 (by decide) (k g2' h2)
theorem lw_15 {p : Program} {l : Launch} {e : Env} {s : State} {m : MethodId} {below : List Frame} {meth : Method} {c : Code} {b L : Nat} {xs : Nat → Int32} {D : va_G} {ad : Ky → Nat} {cy : Nat → ClassId} {g : GS} (X : LX p s m c b L xs D ad cy) {i : Nat} (hi : i + 6 ≤ L) (hL : L ≤ 384) (h : Rel g) (k : ∀ g', Rel g' → Vl p l e s m below meth c b D ad cy 1435 (llc ad b i) [] g') : Vl p l e s m below meth c b D ad cy 645 (llc ad b i) [] g := by
  obtain ⟨r, g1, g2', e1, e2, h2⟩ := p_stand 2000 (by decide) (xs (i + 1)) g h
  refine l_obj X dL_law_645 (j := 1) rfl rfl ?_
  refine l_arg X (n := 1) (by omega) hL dL_law_646 dL_law_647 dL_law_648 (by decide) dL_law_649 dL_law_650 ?_
  refine l_callI X (c_X7_stand l D ad cy X.2.2.2.2.2.2.2.2.1 2000 (xs (i + 1)) g r g1 e1) mw_X7_stand ml_L_78 (by decide) (a := 7) (by decide +kernel) (by decide) rfl rfl (As := [.int (xs (i + 1))]) rfl (rest := []) rfl (by decide) dL_law_651 ?_
  refine l_obj X dL_law_654 (j := 2) rfl rfl ?_
  refine l_arg X (n := 1) (by omega) hL dL_law_655 dL_law_656 dL_law_657 (by decide) dL_law_658 dL_law_659 ?_
  refine l_callI X (c_X8_stand l D ad cy X.2.2.2.2.2.2.2.2.1 2000 (xs (i + 1)) g1 r g2' e2) mw_X8_stand ml_L_81 (by decide) (a := 8) (by decide +kernel) (by decide) rfl rfl (As := [.int (xs (i + 1))]) rfl (rest := [.int r]) rfl (by exact Nat.le_of_ble_eq_true rfl) dL_law_660 ?_
  exact l_same X dL_law_663 (by decide) (k g2' h2)
theorem lw_16 {p : Program} {l : Launch} {e : Env} {s : State} {m : MethodId} {below : List Frame} {meth : Method} {c : Code} {b L : Nat} {xs : Nat → Int32} {D : va_G} {ad : Ky → Nat} {cy : Nat → ClassId} {g : GS} (X : LX p s m c b L xs D ad cy) {i : Nat} (hi : i + 6 ≤ L) (hL : L ≤ 384) (h : Rel g) (k : ∀ g', Rel g' → Vl p l e s m below meth c b D ad cy 1435 (llc ad b i) [] g') : Vl p l e s m below meth c b D ad cy 668 (llc ad b i) [] g := by
  obtain ⟨r, g1, g2', e1, e2, h2⟩ := p_ahead 2000 (by decide) (xs (i + 1)) (xs (i + 2)) (xs (i + 3)) g h
  refine l_obj X dL_law_668 (j := 1) rfl rfl ?_
  refine l_arg X (n := 1) (by omega) hL dL_law_669 dL_law_670 dL_law_671 (by decide) dL_law_672 dL_law_673 ?_
  refine l_arg X (n := 2) (by omega) hL dL_law_674 dL_law_675 dL_law_676 (by decide) dL_law_677 dL_law_678 ?_
  refine l_arg X (n := 3) (by omega) hL dL_law_679 dL_law_680 dL_law_681 (by decide) dL_law_682 dL_law_683 ?_
  refine l_callI X (c_X7_ahead l D ad cy X.2.2.2.2.2.2.2.2.1 2000 (xs (i + 1)) (xs (i + 2)) (xs (i + 3)) g r g1 e1) mw_X7_ahead ml_L_82 (by decide) (a := 7) (by decide +kernel) (by decide) rfl rfl (As := [.int (xs (i + 1)), .int (xs (i + 2)), .int (xs (i + 3))]) rfl (rest := []) rfl (by decide) dL_law_684 ?_
  refine l_obj X dL_law_687 (j := 2) rfl rfl ?_
  refine l_arg X (n := 1) (by omega) hL dL_law_688 dL_law_689 dL_law_690 (by decide) dL_law_691 dL_law_692 ?_
  refine l_arg X (n := 2) (by omega) hL dL_law_693 dL_law_694 dL_law_695 (by decide) dL_law_696 dL_law_697 ?_
  refine l_arg X (n := 3) (by omega) hL dL_law_698 dL_law_699 dL_law_700 (by decide) dL_law_701 dL_law_702 ?_
  refine l_callI X (c_X8_ahead l D ad cy X.2.2.2.2.2.2.2.2.1 2000 (xs (i + 1)) (xs (i + 2)) (xs (i + 3)) g1 r g2' e2) mw_X8_ahead ml_L_85 (by decide) (a := 8) (by decide +kernel) (by decide) rfl rfl (As := [.int (xs (i + 1)), .int (xs (i + 2)), .int (xs (i + 3))]) rfl (rest := [.int r]) rfl (by exact Nat.le_of_ble_eq_true rfl) dL_law_703 ?_
  exact l_same X dL_law_706 (by decide) (k g2' h2)
theorem lw_17 {p : Program} {l : Launch} {e : Env} {s : State} {m : MethodId} {below : List Frame} {meth : Method} {c : Code} {b L : Nat} {xs : Nat → Int32} {D : va_G} {ad : Ky → Nat} {cy : Nat → ClassId} {g : GS} (X : LX p s m c b L xs D ad cy) {i : Nat} (hi : i + 6 ≤ L) (hL : L ≤ 384) (h : Rel g) (k : ∀ g', Rel g' → Vl p l e s m below meth c b D ad cy 1435 (llc ad b i) [] g') : Vl p l e s m below meth c b D ad cy 711 (llc ad b i) [] g := by
  obtain ⟨r, g1, g2', e1, e2, h2⟩ := p_when 2000 (by decide) (xs (i + 1)) (xs (i + 2)) g h
  refine l_obj X dL_law_711 (j := 1) rfl rfl ?_
  refine l_arg X (n := 1) (by omega) hL dL_law_712 dL_law_713 dL_law_714 (by decide) dL_law_715 dL_law_716 ?_
  refine l_arg X (n := 2) (by omega) hL dL_law_717 dL_law_718 dL_law_719 (by decide) dL_law_720 dL_law_721 ?_
  refine l_callI X (c_X7_when l D ad cy X.2.2.2.2.2.2.2.2.1 2000 (xs (i + 1)) (xs (i + 2)) g r g1 e1) mw_X7_when ml_L_86 (by decide) (a := 7) (by decide +kernel) (by decide) rfl rfl (As := [.int (xs (i + 1)), .int (xs (i + 2))]) rfl (rest := []) rfl (by decide) dL_law_722 ?_
  refine l_obj X dL_law_725 (j := 2) rfl rfl ?_
  refine l_arg X (n := 1) (by omega) hL dL_law_726 dL_law_727 dL_law_728 (by decide) dL_law_729 dL_law_730 ?_
  refine l_arg X (n := 2) (by omega) hL dL_law_731 dL_law_732 dL_law_733 (by decide) dL_law_734 dL_law_735 ?_
  refine l_callI X (c_X8_when l D ad cy X.2.2.2.2.2.2.2.2.1 2000 (xs (i + 1)) (xs (i + 2)) g1 r g2' e2) mw_X8_when ml_L_89 (by decide) (a := 8) (by decide +kernel) (by decide) rfl rfl (As := [.int (xs (i + 1)), .int (xs (i + 2))]) rfl (rest := [.int r]) rfl (by exact Nat.le_of_ble_eq_true rfl) dL_law_736 ?_
  exact l_same X dL_law_739 (by decide) (k g2' h2)
theorem lw_18 {p : Program} {l : Launch} {e : Env} {s : State} {m : MethodId} {below : List Frame} {meth : Method} {c : Code} {b L : Nat} {xs : Nat → Int32} {D : va_G} {ad : Ky → Nat} {cy : Nat → ClassId} {g : GS} (X : LX p s m c b L xs D ad cy) {i : Nat} (hi : i + 6 ≤ L) (hL : L ≤ 384) (h : Rel g) (k : ∀ g', Rel g' → Vl p l e s m below meth c b D ad cy 1435 (llc ad b i) [] g') : Vl p l e s m below meth c b D ad cy 744 (llc ad b i) [] g := by
  obtain ⟨r, g1, g2', e1, e2, h2⟩ := p_policy 2000 (by decide) (xs (i + 1)) g h
  refine l_obj X dL_law_744 (j := 1) rfl rfl ?_
  refine l_arg X (n := 1) (by omega) hL dL_law_745 dL_law_746 dL_law_747 (by decide) dL_law_748 dL_law_749 ?_
  refine l_callI X (c_X7_policy l D ad cy X.2.2.2.2.2.2.2.2.1 2000 (xs (i + 1)) g r g1 e1) mw_X7_policy ml_L_90 (by decide) (a := 7) (by decide +kernel) (by decide) rfl rfl (As := [.int (xs (i + 1))]) rfl (rest := []) rfl (by decide) dL_law_750 ?_
  refine l_obj X dL_law_753 (j := 2) rfl rfl ?_
  refine l_arg X (n := 1) (by omega) hL dL_law_754 dL_law_755 dL_law_756 (by decide) dL_law_757 dL_law_758 ?_
  refine l_callI X (c_X8_policy l D ad cy X.2.2.2.2.2.2.2.2.1 2000 (xs (i + 1)) g1 r g2' e2) mw_X8_policy ml_L_93 (by decide) (a := 8) (by decide +kernel) (by decide) rfl rfl (As := [.int (xs (i + 1))]) rfl (rest := [.int r]) rfl (by exact Nat.le_of_ble_eq_true rfl) dL_law_759 ?_
  exact l_same X dL_law_762 (by decide) (k g2' h2)
theorem lw_19 {p : Program} {l : Launch} {e : Env} {s : State} {m : MethodId} {below : List Frame} {meth : Method} {c : Code} {b L : Nat} {xs : Nat → Int32} {D : va_G} {ad : Ky → Nat} {cy : Nat → ClassId} {g : GS} (X : LX p s m c b L xs D ad cy) {i : Nat} (hi : i + 6 ≤ L) (hL : L ≤ 384) (h : Rel g) (k : ∀ g', Rel g' → Vl p l e s m below meth c b D ad cy 1435 (llc ad b i) [] g') : Vl p l e s m below meth c b D ad cy 767 (llc ad b i) [] g := by
  obtain ⟨r, g1, g2', e1, e2, h2⟩ := p_pull 2000 (by decide) (xs (i + 1)) g h
  refine l_obj X dL_law_767 (j := 1) rfl rfl ?_
  refine l_arg X (n := 1) (by omega) hL dL_law_768 dL_law_769 dL_law_770 (by decide) dL_law_771 dL_law_772 ?_
  refine l_callI X (c_X7_pull l D ad cy X.2.2.2.2.2.2.2.2.1 2000 (xs (i + 1)) g r g1 e1) mw_X7_pull ml_L_94 (by decide) (a := 7) (by decide +kernel) (by decide) rfl rfl (As := [.int (xs (i + 1))]) rfl (rest := []) rfl (by decide) dL_law_773 ?_
  refine l_obj X dL_law_776 (j := 2) rfl rfl ?_
  refine l_arg X (n := 1) (by omega) hL dL_law_777 dL_law_778 dL_law_779 (by decide) dL_law_780 dL_law_781 ?_
  refine l_callI X (c_X8_pull l D ad cy X.2.2.2.2.2.2.2.2.1 2000 (xs (i + 1)) g1 r g2' e2) mw_X8_pull ml_L_97 (by decide) (a := 8) (by decide +kernel) (by decide) rfl rfl (As := [.int (xs (i + 1))]) rfl (rest := [.int r]) rfl (by exact Nat.le_of_ble_eq_true rfl) dL_law_782 ?_
  exact l_same X dL_law_785 (by decide) (k g2' h2)
theorem lw_20 {p : Program} {l : Launch} {e : Env} {s : State} {m : MethodId} {below : List Frame} {meth : Method} {c : Code} {b L : Nat} {xs : Nat → Int32} {D : va_G} {ad : Ky → Nat} {cy : Nat → ClassId} {g : GS} (X : LX p s m c b L xs D ad cy) {i : Nat} (hi : i + 6 ≤ L) (hL : L ≤ 384) (h : Rel g) (k : ∀ g', Rel g' → Vl p l e s m below meth c b D ad cy 1435 (llc ad b i) [] g') : Vl p l e s m below meth c b D ad cy 790 (llc ad b i) [] g := by
  obtain ⟨r, g1, g2', e1, e2, h2⟩ := p_sends 2000 (by decide) (xs (i + 1)) (xs (i + 2)) (xs (i + 3)) g h
  refine l_obj X dL_law_790 (j := 1) rfl rfl ?_
  refine l_arg X (n := 1) (by omega) hL dL_law_791 dL_law_792 dL_law_793 (by decide) dL_law_794 dL_law_795 ?_
  refine l_arg X (n := 2) (by omega) hL dL_law_796 dL_law_797 dL_law_798 (by decide) dL_law_799 dL_law_800 ?_
  refine l_arg X (n := 3) (by omega) hL dL_law_801 dL_law_802 dL_law_803 (by decide) dL_law_804 dL_law_805 ?_
  refine l_callI X (c_X7_sends l D ad cy X.2.2.2.2.2.2.2.2.1 2000 (xs (i + 1)) (xs (i + 2)) (xs (i + 3)) g r g1 e1) mw_X7_sends ml_L_98 (by decide) (a := 7) (by decide +kernel) (by decide) rfl rfl (As := [.int (xs (i + 1)), .int (xs (i + 2)), .int (xs (i + 3))]) rfl (rest := []) rfl (by decide) dL_law_806 ?_
  refine l_obj X dL_law_809 (j := 2) rfl rfl ?_
  refine l_arg X (n := 1) (by omega) hL dL_law_810 dL_law_811 dL_law_812 (by decide) dL_law_813 dL_law_814 ?_
  refine l_arg X (n := 2) (by omega) hL dL_law_815 dL_law_816 dL_law_817 (by decide) dL_law_818 dL_law_819 ?_
  refine l_arg X (n := 3) (by omega) hL dL_law_820 dL_law_821 dL_law_822 (by decide) dL_law_823 dL_law_824 ?_
  refine l_callI X (c_X8_sends l D ad cy X.2.2.2.2.2.2.2.2.1 2000 (xs (i + 1)) (xs (i + 2)) (xs (i + 3)) g1 r g2' e2) mw_X8_sends ml_L_101 (by decide) (a := 8) (by decide +kernel) (by decide) rfl rfl (As := [.int (xs (i + 1)), .int (xs (i + 2)), .int (xs (i + 3))]) rfl (rest := [.int r]) rfl (by exact Nat.le_of_ble_eq_true rfl) dL_law_825 ?_
  exact l_same X dL_law_828 (by decide) (k g2' h2)
theorem lw_21 {p : Program} {l : Launch} {e : Env} {s : State} {m : MethodId} {below : List Frame} {meth : Method} {c : Code} {b L : Nat} {xs : Nat → Int32} {D : va_G} {ad : Ky → Nat} {cy : Nat → ClassId} {g : GS} (X : LX p s m c b L xs D ad cy) {i : Nat} (hi : i + 6 ≤ L) (hL : L ≤ 384) (h : Rel g) (k : ∀ g', Rel g' → Vl p l e s m below meth c b D ad cy 1435 (llc ad b i) [] g') : Vl p l e s m below meth c b D ad cy 833 (llc ad b i) [] g := by
  obtain ⟨r, g1, g2', e1, e2, h2⟩ := p_lets 2000 (by decide) (xs (i + 1)) (xs (i + 2)) (xs (i + 3)) g h
  refine l_obj X dL_law_833 (j := 1) rfl rfl ?_
  refine l_arg X (n := 1) (by omega) hL dL_law_834 dL_law_835 dL_law_836 (by decide) dL_law_837 dL_law_838 ?_
  refine l_arg X (n := 2) (by omega) hL dL_law_839 dL_law_840 dL_law_841 (by decide) dL_law_842 dL_law_843 ?_
  refine l_arg X (n := 3) (by omega) hL dL_law_844 dL_law_845 dL_law_846 (by decide) dL_law_847 dL_law_848 ?_
  refine l_callI X (c_X7_lets l D ad cy X.2.2.2.2.2.2.2.2.1 2000 (xs (i + 1)) (xs (i + 2)) (xs (i + 3)) g r g1 e1) mw_X7_lets ml_L_102 (by decide) (a := 7) (by decide +kernel) (by decide) rfl rfl (As := [.int (xs (i + 1)), .int (xs (i + 2)), .int (xs (i + 3))]) rfl (rest := []) rfl (by decide) dL_law_849 ?_
  refine l_obj X dL_law_852 (j := 2) rfl rfl ?_
  refine l_arg X (n := 1) (by omega) hL dL_law_853 dL_law_854 dL_law_855 (by decide) dL_law_856 dL_law_857 ?_
  refine l_arg X (n := 2) (by omega) hL dL_law_858 dL_law_859 dL_law_860 (by decide) dL_law_861 dL_law_862 ?_
  refine l_arg X (n := 3) (by omega) hL dL_law_863 dL_law_864 dL_law_865 (by decide) dL_law_866 dL_law_867 ?_
  refine l_callI X (c_X8_lets l D ad cy X.2.2.2.2.2.2.2.2.1 2000 (xs (i + 1)) (xs (i + 2)) (xs (i + 3)) g1 r g2' e2) mw_X8_lets ml_L_105 (by decide) (a := 8) (by decide +kernel) (by decide) rfl rfl (As := [.int (xs (i + 1)), .int (xs (i + 2)), .int (xs (i + 3))]) rfl (rest := [.int r]) rfl (by exact Nat.le_of_ble_eq_true rfl) dL_law_868 ?_
  exact l_same X dL_law_871 (by decide) (k g2' h2)
theorem lw_22 {p : Program} {l : Launch} {e : Env} {s : State} {m : MethodId} {below : List Frame} {meth : Method} {c : Code} {b L : Nat} {xs : Nat → Int32} {D : va_G} {ad : Ky → Nat} {cy : Nat → ClassId} {g : GS} (X : LX p s m c b L xs D ad cy) {i : Nat} (hi : i + 6 ≤ L) (hL : L ≤ 384) (h : Rel g) (k : ∀ g', Rel g' → Vl p l e s m below meth c b D ad cy 1435 (llc ad b i) [] g') : Vl p l e s m below meth c b D ad cy 876 (llc ad b i) [] g := by
  obtain ⟨r, g1, g2', e1, e2, h2⟩ := p_light 2000 (by decide) (xs (i + 1)) (xs (i + 2)) g h
  refine l_obj X dL_law_876 (j := 1) rfl rfl ?_
  refine l_arg X (n := 1) (by omega) hL dL_law_877 dL_law_878 dL_law_879 (by decide) dL_law_880 dL_law_881 ?_
  refine l_arg X (n := 2) (by omega) hL dL_law_882 dL_law_883 dL_law_884 (by decide) dL_law_885 dL_law_886 ?_
  refine l_callI X (c_X7_light l D ad cy X.2.2.2.2.2.2.2.2.1 2000 (xs (i + 1)) (xs (i + 2)) g r g1 e1) mw_X7_light ml_L_106 (by decide) (a := 7) (by decide +kernel) (by decide) rfl rfl (As := [.int (xs (i + 1)), .int (xs (i + 2))]) rfl (rest := []) rfl (by decide) dL_law_887 ?_
  refine l_obj X dL_law_890 (j := 2) rfl rfl ?_
  refine l_arg X (n := 1) (by omega) hL dL_law_891 dL_law_892 dL_law_893 (by decide) dL_law_894 dL_law_895 ?_
  refine l_arg X (n := 2) (by omega) hL dL_law_896 dL_law_897 dL_law_898 (by decide) dL_law_899 dL_law_900 ?_
  refine l_callI X (c_X8_light l D ad cy X.2.2.2.2.2.2.2.2.1 2000 (xs (i + 1)) (xs (i + 2)) g1 r g2' e2) mw_X8_light ml_L_109 (by decide) (a := 8) (by decide +kernel) (by decide) rfl rfl (As := [.int (xs (i + 1)), .int (xs (i + 2))]) rfl (rest := [.int r]) rfl (by exact Nat.le_of_ble_eq_true rfl) dL_law_901 ?_
  exact l_same X dL_law_904 (by decide) (k g2' h2)
theorem lw_23 {p : Program} {l : Launch} {e : Env} {s : State} {m : MethodId} {below : List Frame} {meth : Method} {c : Code} {b L : Nat} {xs : Nat → Int32} {D : va_G} {ad : Ky → Nat} {cy : Nat → ClassId} {g : GS} (X : LX p s m c b L xs D ad cy) {i : Nat} (hi : i + 6 ≤ L) (hL : L ≤ 384) (h : Rel g) (k : ∀ g', Rel g' → Vl p l e s m below meth c b D ad cy 1435 (llc ad b i) [] g') : Vl p l e s m below meth c b D ad cy 909 (llc ad b i) [] g := by
  obtain ⟨r, g1, g2', e1, e2, h2⟩ := p_gust 2000 (by decide) (xs (i + 1)) g h
  refine l_obj X dL_law_909 (j := 1) rfl rfl ?_
  refine l_arg X (n := 1) (by omega) hL dL_law_910 dL_law_911 dL_law_912 (by decide) dL_law_913 dL_law_914 ?_
  refine l_callI X (c_X7_gust l D ad cy X.2.2.2.2.2.2.2.2.1 2000 (xs (i + 1)) g r g1 e1) mw_X7_gust ml_L_110 (by decide) (a := 7) (by decide +kernel) (by decide) rfl rfl (As := [.int (xs (i + 1))]) rfl (rest := []) rfl (by decide) dL_law_915 ?_
  refine l_obj X dL_law_918 (j := 2) rfl rfl ?_
  refine l_arg X (n := 1) (by omega) hL dL_law_919 dL_law_920 dL_law_921 (by decide) dL_law_922 dL_law_923 ?_
  refine l_callI X (c_X8_gust l D ad cy X.2.2.2.2.2.2.2.2.1 2000 (xs (i + 1)) g1 r g2' e2) mw_X8_gust ml_L_113 (by decide) (a := 8) (by decide +kernel) (by decide) rfl rfl (As := [.int (xs (i + 1))]) rfl (rest := [.int r]) rfl (by exact Nat.le_of_ble_eq_true rfl) dL_law_924 ?_
  exact l_same X dL_law_927 (by decide) (k g2' h2)
theorem lw_24 {p : Program} {l : Launch} {e : Env} {s : State} {m : MethodId} {below : List Frame} {meth : Method} {c : Code} {b L : Nat} {xs : Nat → Int32} {D : va_G} {ad : Ky → Nat} {cy : Nat → ClassId} {g : GS} (X : LX p s m c b L xs D ad cy) {i : Nat} (hi : i + 6 ≤ L) (hL : L ≤ 384) (h : Rel g) (k : ∀ g', Rel g' → Vl p l e s m below meth c b D ad cy 1435 (llc ad b i) [] g') : Vl p l e s m below meth c b D ad cy 932 (llc ad b i) [] g := by
  obtain ⟨r, g1, g2', e1, e2, h2⟩ := p_quarrels 2000 (by decide) (xs (i + 1)) g h
  refine l_obj X dL_law_932 (j := 1) rfl rfl ?_
  refine l_arg X (n := 1) (by omega) hL dL_law_933 dL_law_934 dL_law_935 (by decide) dL_law_936 dL_law_937 ?_
  refine l_callI X (c_X7_quarrels l D ad cy X.2.2.2.2.2.2.2.2.1 2000 (xs (i + 1)) g r g1 e1) mw_X7_quarrels ml_L_114 (by decide) (a := 7) (by decide +kernel) (by decide) rfl rfl (As := [.int (xs (i + 1))]) rfl (rest := []) rfl (by decide) dL_law_938 ?_
  refine l_obj X dL_law_941 (j := 2) rfl rfl ?_
  refine l_arg X (n := 1) (by omega) hL dL_law_942 dL_law_943 dL_law_944 (by decide) dL_law_945 dL_law_946 ?_
  refine l_callI X (c_X8_quarrels l D ad cy X.2.2.2.2.2.2.2.2.1 2000 (xs (i + 1)) g1 r g2' e2) mw_X8_quarrels ml_L_117 (by decide) (a := 8) (by decide +kernel) (by decide) rfl rfl (As := [.int (xs (i + 1))]) rfl (rest := [.int r]) rfl (by exact Nat.le_of_ble_eq_true rfl) dL_law_947 ?_
  exact l_same X dL_law_950 (by decide) (k g2' h2)
theorem lw_25 {p : Program} {l : Launch} {e : Env} {s : State} {m : MethodId} {below : List Frame} {meth : Method} {c : Code} {b L : Nat} {xs : Nat → Int32} {D : va_G} {ad : Ky → Nat} {cy : Nat → ClassId} {g : GS} (X : LX p s m c b L xs D ad cy) {i : Nat} (hi : i + 6 ≤ L) (hL : L ≤ 384) (h : Rel g) (k : ∀ g', Rel g' → Vl p l e s m below meth c b D ad cy 1435 (llc ad b i) [] g') : Vl p l e s m below meth c b D ad cy 955 (llc ad b i) [] g := by
  obtain ⟨r, g1, g2', e1, e2, h2⟩ := p_who 2000 (by decide) (xs (i + 1)) (xs (i + 2)) (xs (i + 3)) (xs (i + 4)) (xs (i + 5)) g h
  refine l_obj X dL_law_955 (j := 1) rfl rfl ?_
  refine l_arg X (n := 1) (by omega) hL dL_law_956 dL_law_957 dL_law_958 (by decide) dL_law_959 dL_law_960 ?_
  refine l_arg X (n := 2) (by omega) hL dL_law_961 dL_law_962 dL_law_963 (by decide) dL_law_964 dL_law_965 ?_
  refine l_arg X (n := 3) (by omega) hL dL_law_966 dL_law_967 dL_law_968 (by decide) dL_law_969 dL_law_970 ?_
  refine l_arg X (n := 4) (by omega) hL dL_law_971 dL_law_972 dL_law_973 (by decide) dL_law_974 dL_law_975 ?_
  refine l_arg X (n := 5) (by omega) hL dL_law_976 dL_law_977 dL_law_978 (by decide) dL_law_979 dL_law_980 ?_
  refine l_callI X (c_X7_who l D ad cy X.2.2.2.2.2.2.2.2.1 2000 (xs (i + 1)) (xs (i + 2)) (xs (i + 3)) (xs (i + 4)) (xs (i + 5)) g r g1 e1) mw_X7_who ml_L_118 (by decide) (a := 7) (by decide +kernel) (by decide) rfl rfl (As := [.int (xs (i + 1)), .int (xs (i + 2)), .int (xs (i + 3)), .int (xs (i + 4)), .int (xs (i + 5))]) rfl (rest := []) rfl (by decide) dL_law_981 ?_
  refine l_obj X dL_law_984 (j := 2) rfl rfl ?_
  refine l_arg X (n := 1) (by omega) hL dL_law_985 dL_law_986 dL_law_987 (by decide) dL_law_988 dL_law_989 ?_
  refine l_arg X (n := 2) (by omega) hL dL_law_990 dL_law_991 dL_law_992 (by decide) dL_law_993 dL_law_994 ?_
  refine l_arg X (n := 3) (by omega) hL dL_law_995 dL_law_996 dL_law_997 (by decide) dL_law_998 dL_law_999 ?_
  refine l_arg X (n := 4) (by omega) hL dL_law_1000 dL_law_1001 dL_law_1002 (by decide) dL_law_1003 dL_law_1004 ?_
  refine l_arg X (n := 5) (by omega) hL dL_law_1005 dL_law_1006 dL_law_1007 (by decide) dL_law_1008 dL_law_1009 ?_
  refine l_callI X (c_X8_who l D ad cy X.2.2.2.2.2.2.2.2.1 2000 (xs (i + 1)) (xs (i + 2)) (xs (i + 3)) (xs (i + 4)) (xs (i + 5)) g1 r g2' e2) mw_X8_who ml_L_121 (by decide) (a := 8) (by decide +kernel) (by decide) rfl rfl (As := [.int (xs (i + 1)), .int (xs (i + 2)), .int (xs (i + 3)), .int (xs (i + 4)), .int (xs (i + 5))]) rfl (rest := [.int r]) rfl (by exact Nat.le_of_ble_eq_true rfl) dL_law_1010 ?_
  exact l_same X dL_law_1013 (by decide) (k g2' h2)
theorem lw_26 {p : Program} {l : Launch} {e : Env} {s : State} {m : MethodId} {below : List Frame} {meth : Method} {c : Code} {b L : Nat} {xs : Nat → Int32} {D : va_G} {ad : Ky → Nat} {cy : Nat → ClassId} {g : GS} (X : LX p s m c b L xs D ad cy) {i : Nat} (hi : i + 6 ≤ L) (hL : L ≤ 384) (h : Rel g) (k : ∀ g', Rel g' → Vl p l e s m below meth c b D ad cy 1435 (llc ad b i) [] g') : Vl p l e s m below meth c b D ad cy 1018 (llc ad b i) [] g := by
  obtain ⟨r, g1, g2', e1, e2, h2⟩ := p_winds 2000 (by decide) (xs (i + 1)) (xs (i + 2)) (xs (i + 3)) (xs (i + 4)) (xs (i + 5)) g h
  refine l_obj X dL_law_1018 (j := 1) rfl rfl ?_
  refine l_arg X (n := 1) (by omega) hL dL_law_1019 dL_law_1020 dL_law_1021 (by decide) dL_law_1022 dL_law_1023 ?_
  refine l_arg X (n := 2) (by omega) hL dL_law_1024 dL_law_1025 dL_law_1026 (by decide) dL_law_1027 dL_law_1028 ?_
  refine l_arg X (n := 3) (by omega) hL dL_law_1029 dL_law_1030 dL_law_1031 (by decide) dL_law_1032 dL_law_1033 ?_
  refine l_arg X (n := 4) (by omega) hL dL_law_1034 dL_law_1035 dL_law_1036 (by decide) dL_law_1037 dL_law_1038 ?_
  refine l_arg X (n := 5) (by omega) hL dL_law_1039 dL_law_1040 dL_law_1041 (by decide) dL_law_1042 dL_law_1043 ?_
  refine l_callI X (c_X7_winds l D ad cy X.2.2.2.2.2.2.2.2.1 2000 (xs (i + 1)) (xs (i + 2)) (xs (i + 3)) (xs (i + 4)) (xs (i + 5)) g r g1 e1) mw_X7_winds ml_L_122 (by decide) (a := 7) (by decide +kernel) (by decide) rfl rfl (As := [.int (xs (i + 1)), .int (xs (i + 2)), .int (xs (i + 3)), .int (xs (i + 4)), .int (xs (i + 5))]) rfl (rest := []) rfl (by decide) dL_law_1044 ?_
  refine l_obj X dL_law_1047 (j := 2) rfl rfl ?_
  refine l_arg X (n := 1) (by omega) hL dL_law_1048 dL_law_1049 dL_law_1050 (by decide) dL_law_1051 dL_law_1052 ?_
  refine l_arg X (n := 2) (by omega) hL dL_law_1053 dL_law_1054 dL_law_1055 (by decide) dL_law_1056 dL_law_1057 ?_
  refine l_arg X (n := 3) (by omega) hL dL_law_1058 dL_law_1059 dL_law_1060 (by decide) dL_law_1061 dL_law_1062 ?_
  refine l_arg X (n := 4) (by omega) hL dL_law_1063 dL_law_1064 dL_law_1065 (by decide) dL_law_1066 dL_law_1067 ?_
  refine l_arg X (n := 5) (by omega) hL dL_law_1068 dL_law_1069 dL_law_1070 (by decide) dL_law_1071 dL_law_1072 ?_
  refine l_callI X (c_X8_winds l D ad cy X.2.2.2.2.2.2.2.2.1 2000 (xs (i + 1)) (xs (i + 2)) (xs (i + 3)) (xs (i + 4)) (xs (i + 5)) g1 r g2' e2) mw_X8_winds ml_L_125 (by decide) (a := 8) (by decide +kernel) (by decide) rfl rfl (As := [.int (xs (i + 1)), .int (xs (i + 2)), .int (xs (i + 3)), .int (xs (i + 4)), .int (xs (i + 5))]) rfl (rest := [.int r]) rfl (by exact Nat.le_of_ble_eq_true rfl) dL_law_1073 ?_
  exact l_same X dL_law_1076 (by decide) (k g2' h2)
theorem lw_27 {p : Program} {l : Launch} {e : Env} {s : State} {m : MethodId} {below : List Frame} {meth : Method} {c : Code} {b L : Nat} {xs : Nat → Int32} {D : va_G} {ad : Ky → Nat} {cy : Nat → ClassId} {g : GS} (X : LX p s m c b L xs D ad cy) {i : Nat} (hi : i + 6 ≤ L) (hL : L ≤ 384) (h : Rel g) (k : ∀ g', Rel g' → Vl p l e s m below meth c b D ad cy 1435 (llc ad b i) [] g') : Vl p l e s m below meth c b D ad cy 1081 (llc ad b i) [] g := by
  obtain ⟨r, g1, g2', e1, e2, h2⟩ := p_tapes 2000 (by decide) (xs (i + 1)) (xs (i + 2)) (xs (i + 3)) (xs (i + 4)) (xs (i + 5)) g h
  refine l_obj X dL_law_1081 (j := 1) rfl rfl ?_
  refine l_arg X (n := 1) (by omega) hL dL_law_1082 dL_law_1083 dL_law_1084 (by decide) dL_law_1085 dL_law_1086 ?_
  refine l_arg X (n := 2) (by omega) hL dL_law_1087 dL_law_1088 dL_law_1089 (by decide) dL_law_1090 dL_law_1091 ?_
  refine l_arg X (n := 3) (by omega) hL dL_law_1092 dL_law_1093 dL_law_1094 (by decide) dL_law_1095 dL_law_1096 ?_
  refine l_arg X (n := 4) (by omega) hL dL_law_1097 dL_law_1098 dL_law_1099 (by decide) dL_law_1100 dL_law_1101 ?_
  refine l_arg X (n := 5) (by omega) hL dL_law_1102 dL_law_1103 dL_law_1104 (by decide) dL_law_1105 dL_law_1106 ?_
  refine l_callI X (c_X7_tapes l D ad cy X.2.2.2.2.2.2.2.2.1 2000 (xs (i + 1)) (xs (i + 2)) (xs (i + 3)) (xs (i + 4)) (xs (i + 5)) g r g1 e1) mw_X7_tapes ml_L_126 (by decide) (a := 7) (by decide +kernel) (by decide) rfl rfl (As := [.int (xs (i + 1)), .int (xs (i + 2)), .int (xs (i + 3)), .int (xs (i + 4)), .int (xs (i + 5))]) rfl (rest := []) rfl (by decide) dL_law_1107 ?_
  refine l_obj X dL_law_1110 (j := 2) rfl rfl ?_
  refine l_arg X (n := 1) (by omega) hL dL_law_1111 dL_law_1112 dL_law_1113 (by decide) dL_law_1114 dL_law_1115 ?_
  refine l_arg X (n := 2) (by omega) hL dL_law_1116 dL_law_1117 dL_law_1118 (by decide) dL_law_1119 dL_law_1120 ?_
  refine l_arg X (n := 3) (by omega) hL dL_law_1121 dL_law_1122 dL_law_1123 (by decide) dL_law_1124 dL_law_1125 ?_
  refine l_arg X (n := 4) (by omega) hL dL_law_1126 dL_law_1127 dL_law_1128 (by decide) dL_law_1129 dL_law_1130 ?_
  refine l_arg X (n := 5) (by omega) hL dL_law_1131 dL_law_1132 dL_law_1133 (by decide) dL_law_1134 dL_law_1135 ?_
  refine l_callI X (c_X8_tapes l D ad cy X.2.2.2.2.2.2.2.2.1 2000 (xs (i + 1)) (xs (i + 2)) (xs (i + 3)) (xs (i + 4)) (xs (i + 5)) g1 r g2' e2) mw_X8_tapes ml_L_129 (by decide) (a := 8) (by decide +kernel) (by decide) rfl rfl (As := [.int (xs (i + 1)), .int (xs (i + 2)), .int (xs (i + 3)), .int (xs (i + 4)), .int (xs (i + 5))]) rfl (rest := [.int r]) rfl (by exact Nat.le_of_ble_eq_true rfl) dL_law_1136 ?_
  exact l_same X dL_law_1139 (by decide) (k g2' h2)
theorem lw_28 {p : Program} {l : Launch} {e : Env} {s : State} {m : MethodId} {below : List Frame} {meth : Method} {c : Code} {b L : Nat} {xs : Nat → Int32} {D : va_G} {ad : Ky → Nat} {cy : Nat → ClassId} {g : GS} (X : LX p s m c b L xs D ad cy) {i : Nat} (hi : i + 6 ≤ L) (hL : L ≤ 384) (h : Rel g) (k : ∀ g', Rel g' → Vl p l e s m below meth c b D ad cy 1435 (llc ad b i) [] g') : Vl p l e s m below meth c b D ad cy 1144 (llc ad b i) [] g := by
  obtain ⟨r, g1, g2', e1, e2, h2⟩ := p_calm 2000 (by decide) (xs (i + 1)) (xs (i + 2)) (xs (i + 3)) (xs (i + 4)) g h
  refine l_obj X dL_law_1144 (j := 1) rfl rfl ?_
  refine l_arg X (n := 1) (by omega) hL dL_law_1145 dL_law_1146 dL_law_1147 (by decide) dL_law_1148 dL_law_1149 ?_
  refine l_arg X (n := 2) (by omega) hL dL_law_1150 dL_law_1151 dL_law_1152 (by decide) dL_law_1153 dL_law_1154 ?_
  refine l_arg X (n := 3) (by omega) hL dL_law_1155 dL_law_1156 dL_law_1157 (by decide) dL_law_1158 dL_law_1159 ?_
  refine l_arg X (n := 4) (by omega) hL dL_law_1160 dL_law_1161 dL_law_1162 (by decide) dL_law_1163 dL_law_1164 ?_
  refine l_callL X (c_X7_calm l D ad cy X.2.2.2.2.2.2.2.2.1 2000 (xs (i + 1)) (xs (i + 2)) (xs (i + 3)) (xs (i + 4)) g r g1 e1) mw_X7_calm ml_L_130 (by decide) (a := 7) (by decide +kernel) (by decide) rfl rfl (As := [.int (xs (i + 1)), .int (xs (i + 2)), .int (xs (i + 3)), .int (xs (i + 4))]) rfl (rest := []) rfl (by decide) dL_law_1165 ?_
  refine l_obj X dL_law_1168 (j := 2) rfl rfl ?_
  refine l_arg X (n := 1) (by omega) hL dL_law_1169 dL_law_1170 dL_law_1171 (by decide) dL_law_1172 dL_law_1173 ?_
  refine l_arg X (n := 2) (by omega) hL dL_law_1174 dL_law_1175 dL_law_1176 (by decide) dL_law_1177 dL_law_1178 ?_
  refine l_arg X (n := 3) (by omega) hL dL_law_1179 dL_law_1180 dL_law_1181 (by decide) dL_law_1182 dL_law_1183 ?_
  refine l_arg X (n := 4) (by omega) hL dL_law_1184 dL_law_1185 dL_law_1186 (by decide) dL_law_1187 dL_law_1188 ?_
  refine l_callL X (c_X8_calm l D ad cy X.2.2.2.2.2.2.2.2.1 2000 (xs (i + 1)) (xs (i + 2)) (xs (i + 3)) (xs (i + 4)) g1 r g2' e2) mw_X8_calm ml_L_134 (by decide) (a := 8) (by decide +kernel) (by decide) rfl rfl (As := [.int (xs (i + 1)), .int (xs (i + 2)), .int (xs (i + 3)), .int (xs (i + 4))]) rfl (rest := [.long r]) rfl (by exact Nat.le_of_ble_eq_true rfl) dL_law_1189 ?_
  exact l_sameL X dL_law_1192 dL_law_1193 (by decide) (k g2' h2)
theorem lw_29 {p : Program} {l : Launch} {e : Env} {s : State} {m : MethodId} {below : List Frame} {meth : Method} {c : Code} {b L : Nat} {xs : Nat → Int32} {D : va_G} {ad : Ky → Nat} {cy : Nat → ClassId} {g : GS} (X : LX p s m c b L xs D ad cy) {i : Nat} (hi : i + 6 ≤ L) (hL : L ≤ 384) (h : Rel g) (k : ∀ g', Rel g' → Vl p l e s m below meth c b D ad cy 1435 (llc ad b i) [] g') : Vl p l e s m below meth c b D ad cy 1198 (llc ad b i) [] g := by
  obtain ⟨r, g1, g2', e1, e2, h2⟩ := p_drawn 2000 (by decide) (xs (i + 1)) (xs (i + 2)) (xs (i + 3)) g h
  refine l_obj X dL_law_1198 (j := 1) rfl rfl ?_
  refine l_arg X (n := 1) (by omega) hL dL_law_1199 dL_law_1200 dL_law_1201 (by decide) dL_law_1202 dL_law_1203 ?_
  refine l_arg X (n := 2) (by omega) hL dL_law_1204 dL_law_1205 dL_law_1206 (by decide) dL_law_1207 dL_law_1208 ?_
  refine l_arg X (n := 3) (by omega) hL dL_law_1209 dL_law_1210 dL_law_1211 (by decide) dL_law_1212 dL_law_1213 ?_
  refine l_callI X (c_X7_drawn l D ad cy X.2.2.2.2.2.2.2.2.1 2000 (xs (i + 1)) (xs (i + 2)) (xs (i + 3)) g r g1 e1) mw_X7_drawn ml_L_135 (by decide) (a := 7) (by decide +kernel) (by decide) rfl rfl (As := [.int (xs (i + 1)), .int (xs (i + 2)), .int (xs (i + 3))]) rfl (rest := []) rfl (by decide) dL_law_1214 ?_
  refine l_obj X dL_law_1217 (j := 2) rfl rfl ?_
  refine l_arg X (n := 1) (by omega) hL dL_law_1218 dL_law_1219 dL_law_1220 (by decide) dL_law_1221 dL_law_1222 ?_
  refine l_arg X (n := 2) (by omega) hL dL_law_1223 dL_law_1224 dL_law_1225 (by decide) dL_law_1226 dL_law_1227 ?_
  refine l_arg X (n := 3) (by omega) hL dL_law_1228 dL_law_1229 dL_law_1230 (by decide) dL_law_1231 dL_law_1232 ?_
  refine l_callI X (c_X8_drawn l D ad cy X.2.2.2.2.2.2.2.2.1 2000 (xs (i + 1)) (xs (i + 2)) (xs (i + 3)) g1 r g2' e2) mw_X8_drawn ml_L_138 (by decide) (a := 8) (by decide +kernel) (by decide) rfl rfl (As := [.int (xs (i + 1)), .int (xs (i + 2)), .int (xs (i + 3))]) rfl (rest := [.int r]) rfl (by exact Nat.le_of_ble_eq_true rfl) dL_law_1233 ?_
  exact l_same X dL_law_1236 (by decide) (k g2' h2)
theorem lw_30 {p : Program} {l : Launch} {e : Env} {s : State} {m : MethodId} {below : List Frame} {meth : Method} {c : Code} {b L : Nat} {xs : Nat → Int32} {D : va_G} {ad : Ky → Nat} {cy : Nat → ClassId} {g : GS} (X : LX p s m c b L xs D ad cy) {i : Nat} (hi : i + 6 ≤ L) (hL : L ≤ 384) (h : Rel g) (k : ∀ g', Rel g' → Vl p l e s m below meth c b D ad cy 1435 (llc ad b i) [] g') : Vl p l e s m below meth c b D ad cy 1241 (llc ad b i) [] g := by
  obtain ⟨r, g1, g2', e1, e2, h2⟩ := p_image 2000 (by decide) (xs (i + 1)) g h
  refine l_obj X dL_law_1241 (j := 1) rfl rfl ?_
  refine l_arg X (n := 1) (by omega) hL dL_law_1242 dL_law_1243 dL_law_1244 (by decide) dL_law_1245 dL_law_1246 ?_
  refine l_callI X (c_X7_image l D ad cy X.2.2.2.2.2.2.2.2.1 2000 (xs (i + 1)) g r g1 e1) mw_X7_image ml_L_139 (by decide) (a := 7) (by decide +kernel) (by decide) rfl rfl (As := [.int (xs (i + 1))]) rfl (rest := []) rfl (by decide) dL_law_1247 ?_
  refine l_obj X dL_law_1250 (j := 2) rfl rfl ?_
  refine l_arg X (n := 1) (by omega) hL dL_law_1251 dL_law_1252 dL_law_1253 (by decide) dL_law_1254 dL_law_1255 ?_
  refine l_callI X (c_X8_image l D ad cy X.2.2.2.2.2.2.2.2.1 2000 (xs (i + 1)) g1 r g2' e2) mw_X8_image ml_L_142 (by decide) (a := 8) (by decide +kernel) (by decide) rfl rfl (As := [.int (xs (i + 1))]) rfl (rest := [.int r]) rfl (by exact Nat.le_of_ble_eq_true rfl) dL_law_1256 ?_
  exact l_same X dL_law_1259 (by decide) (k g2' h2)
theorem lw_31 {p : Program} {l : Launch} {e : Env} {s : State} {m : MethodId} {below : List Frame} {meth : Method} {c : Code} {b L : Nat} {xs : Nat → Int32} {D : va_G} {ad : Ky → Nat} {cy : Nat → ClassId} {g : GS} (X : LX p s m c b L xs D ad cy) {i : Nat} (hi : i + 6 ≤ L) (hL : L ≤ 384) (h : Rel g) (k : ∀ g', Rel g' → Vl p l e s m below meth c b D ad cy 1435 (llc ad b i) [] g') : Vl p l e s m below meth c b D ad cy 1264 (llc ad b i) [] g := by
  obtain ⟨r, g1, g2', e1, e2, h2⟩ := p_restore 2000 (by decide) (xs (i + 1)) g h
  refine l_obj X dL_law_1264 (j := 1) rfl rfl ?_
  refine l_arg X (n := 1) (by omega) hL dL_law_1265 dL_law_1266 dL_law_1267 (by decide) dL_law_1268 dL_law_1269 ?_
  refine l_callI X (c_X7_restore l D ad cy X.2.2.2.2.2.2.2.2.1 2000 (xs (i + 1)) g r g1 e1) mw_X7_restore ml_L_143 (by decide) (a := 7) (by decide +kernel) (by decide) rfl rfl (As := [.int (xs (i + 1))]) rfl (rest := []) rfl (by decide) dL_law_1270 ?_
  refine l_obj X dL_law_1273 (j := 2) rfl rfl ?_
  refine l_arg X (n := 1) (by omega) hL dL_law_1274 dL_law_1275 dL_law_1276 (by decide) dL_law_1277 dL_law_1278 ?_
  refine l_callI X (c_X8_restore l D ad cy X.2.2.2.2.2.2.2.2.1 2000 (xs (i + 1)) g1 r g2' e2) mw_X8_restore ml_L_146 (by decide) (a := 8) (by decide +kernel) (by decide) rfl rfl (As := [.int (xs (i + 1))]) rfl (rest := [.int r]) rfl (by exact Nat.le_of_ble_eq_true rfl) dL_law_1279 ?_
  exact l_same X dL_law_1282 (by decide) (k g2' h2)
theorem lw_32 {p : Program} {l : Launch} {e : Env} {s : State} {m : MethodId} {below : List Frame} {meth : Method} {c : Code} {b L : Nat} {xs : Nat → Int32} {D : va_G} {ad : Ky → Nat} {cy : Nat → ClassId} {g : GS} (X : LX p s m c b L xs D ad cy) {i : Nat} (hi : i + 6 ≤ L) (hL : L ≤ 384) (h : Rel g) (k : ∀ g', Rel g' → Vl p l e s m below meth c b D ad cy 1435 (llc ad b i) [] g') : Vl p l e s m below meth c b D ad cy 1287 (llc ad b i) [] g := by
  obtain ⟨r, g1, g2', e1, e2, h2⟩ := p_kind 2000 (by decide) (xs (i + 1)) g h
  refine l_obj X dL_law_1287 (j := 1) rfl rfl ?_
  refine l_arg X (n := 1) (by omega) hL dL_law_1288 dL_law_1289 dL_law_1290 (by decide) dL_law_1291 dL_law_1292 ?_
  refine l_callI X (c_X7_kind l D ad cy X.2.2.2.2.2.2.2.2.1 2000 (xs (i + 1)) g r g1 e1) mw_X7_kind ml_L_147 (by decide) (a := 7) (by decide +kernel) (by decide) rfl rfl (As := [.int (xs (i + 1))]) rfl (rest := []) rfl (by decide) dL_law_1293 ?_
  refine l_obj X dL_law_1296 (j := 2) rfl rfl ?_
  refine l_arg X (n := 1) (by omega) hL dL_law_1297 dL_law_1298 dL_law_1299 (by decide) dL_law_1300 dL_law_1301 ?_
  refine l_callI X (c_X8_kind l D ad cy X.2.2.2.2.2.2.2.2.1 2000 (xs (i + 1)) g1 r g2' e2) mw_X8_kind ml_L_150 (by decide) (a := 8) (by decide +kernel) (by decide) rfl rfl (As := [.int (xs (i + 1))]) rfl (rest := [.int r]) rfl (by exact Nat.le_of_ble_eq_true rfl) dL_law_1302 ?_
  exact l_same X dL_law_1305 (by decide) (k g2' h2)
theorem lw_33 {p : Program} {l : Launch} {e : Env} {s : State} {m : MethodId} {below : List Frame} {meth : Method} {c : Code} {b L : Nat} {xs : Nat → Int32} {D : va_G} {ad : Ky → Nat} {cy : Nat → ClassId} {g : GS} (X : LX p s m c b L xs D ad cy) {i : Nat} (hi : i + 6 ≤ L) (hL : L ≤ 384) (h : Rel g) (k : ∀ g', Rel g' → Vl p l e s m below meth c b D ad cy 1435 (llc ad b i) [] g') : Vl p l e s m below meth c b D ad cy 1310 (llc ad b i) [] g := by
  obtain ⟨r, g1, g2', e1, e2, h2⟩ := p_as 2000 (xs (i + 1)) (xs (i + 2)) g h
  refine l_obj X dL_law_1310 (j := 1) rfl rfl ?_
  refine l_arg X (n := 1) (by omega) hL dL_law_1311 dL_law_1312 dL_law_1313 (by decide) dL_law_1314 dL_law_1315 ?_
  refine l_arg X (n := 2) (by omega) hL dL_law_1316 dL_law_1317 dL_law_1318 (by decide) dL_law_1319 dL_law_1320 ?_
  refine l_callI X (c_X7_as l D ad cy X.2.2.2.2.2.2.2.2.1 2000 (xs (i + 1)) (xs (i + 2)) g r g1 e1) mw_X7_as ml_L_151 (by decide) (a := 7) (by decide +kernel) (by decide) rfl rfl (As := [.int (xs (i + 1)), .int (xs (i + 2))]) rfl (rest := []) rfl (by decide) dL_law_1321 ?_
  refine l_obj X dL_law_1324 (j := 2) rfl rfl ?_
  refine l_arg X (n := 1) (by omega) hL dL_law_1325 dL_law_1326 dL_law_1327 (by decide) dL_law_1328 dL_law_1329 ?_
  refine l_arg X (n := 2) (by omega) hL dL_law_1330 dL_law_1331 dL_law_1332 (by decide) dL_law_1333 dL_law_1334 ?_
  refine l_callI X (c_X8_as l D ad cy X.2.2.2.2.2.2.2.2.1 2000 (xs (i + 1)) (xs (i + 2)) g1 r g2' e2) mw_X8_as ml_L_154 (by decide) (a := 8) (by decide +kernel) (by decide) rfl rfl (As := [.int (xs (i + 1)), .int (xs (i + 2))]) rfl (rest := [.int r]) rfl (by exact Nat.le_of_ble_eq_true rfl) dL_law_1335 ?_
  exact l_same X dL_law_1338 (by decide) (k g2' h2)
theorem lw_34 {p : Program} {l : Launch} {e : Env} {s : State} {m : MethodId} {below : List Frame} {meth : Method} {c : Code} {b L : Nat} {xs : Nat → Int32} {D : va_G} {ad : Ky → Nat} {cy : Nat → ClassId} {g : GS} (X : LX p s m c b L xs D ad cy) {i : Nat} (hi : i + 6 ≤ L) (hL : L ≤ 384) (h : Rel g) (k : ∀ g', Rel g' → Vl p l e s m below meth c b D ad cy 1435 (llc ad b i) [] g') : Vl p l e s m below meth c b D ad cy 1343 (llc ad b i) [] g := by
  obtain ⟨r, g1, g2', e1, e2, h2⟩ := p_ask 2000 (by decide) (xs (i + 1)) (xs (i + 2)) g h
  refine l_obj X dL_law_1343 (j := 1) rfl rfl ?_
  refine l_arg X (n := 1) (by omega) hL dL_law_1344 dL_law_1345 dL_law_1346 (by decide) dL_law_1347 dL_law_1348 ?_
  refine l_arg X (n := 2) (by omega) hL dL_law_1349 dL_law_1350 dL_law_1351 (by decide) dL_law_1352 dL_law_1353 ?_
  refine l_callI X (c_X7_ask l D ad cy X.2.2.2.2.2.2.2.2.1 2000 (xs (i + 1)) (xs (i + 2)) g r g1 e1) mw_X7_ask ml_L_155 (by decide) (a := 7) (by decide +kernel) (by decide) rfl rfl (As := [.int (xs (i + 1)), .int (xs (i + 2))]) rfl (rest := []) rfl (by decide) dL_law_1354 ?_
  refine l_obj X dL_law_1357 (j := 2) rfl rfl ?_
  refine l_arg X (n := 1) (by omega) hL dL_law_1358 dL_law_1359 dL_law_1360 (by decide) dL_law_1361 dL_law_1362 ?_
  refine l_arg X (n := 2) (by omega) hL dL_law_1363 dL_law_1364 dL_law_1365 (by decide) dL_law_1366 dL_law_1367 ?_
  refine l_callI X (c_X8_ask l D ad cy X.2.2.2.2.2.2.2.2.1 2000 (xs (i + 1)) (xs (i + 2)) g1 r g2' e2) mw_X8_ask ml_L_158 (by decide) (a := 8) (by decide +kernel) (by decide) rfl rfl (As := [.int (xs (i + 1)), .int (xs (i + 2))]) rfl (rest := [.int r]) rfl (by exact Nat.le_of_ble_eq_true rfl) dL_law_1368 ?_
  exact l_same X dL_law_1371 (by decide) (k g2' h2)
theorem lw_35 {p : Program} {l : Launch} {e : Env} {s : State} {m : MethodId} {below : List Frame} {meth : Method} {c : Code} {b L : Nat} {xs : Nat → Int32} {D : va_G} {ad : Ky → Nat} {cy : Nat → ClassId} {g : GS} (X : LX p s m c b L xs D ad cy) {i : Nat} (hi : i + 6 ≤ L) (hL : L ≤ 384) (h : Rel g) (k : ∀ g', Rel g' → Vl p l e s m below meth c b D ad cy 1435 (llc ad b i) [] g') : Vl p l e s m below meth c b D ad cy 1376 (llc ad b i) [] g := by
  obtain ⟨r, g1, g2', e1, e2, h2⟩ := p_trace 2000 (xs (i + 1)) g h
  refine l_obj X dL_law_1376 (j := 1) rfl rfl ?_
  refine l_arg X (n := 1) (by omega) hL dL_law_1377 dL_law_1378 dL_law_1379 (by decide) dL_law_1380 dL_law_1381 ?_
  refine l_callI X (c_X7_trace l D ad cy X.2.2.2.2.2.2.2.2.1 2000 (xs (i + 1)) g r g1 e1) mw_X7_trace ml_L_159 (by decide) (a := 7) (by decide +kernel) (by decide) rfl rfl (As := [.int (xs (i + 1))]) rfl (rest := []) rfl (by decide) dL_law_1382 ?_
  refine l_obj X dL_law_1385 (j := 2) rfl rfl ?_
  refine l_arg X (n := 1) (by omega) hL dL_law_1386 dL_law_1387 dL_law_1388 (by decide) dL_law_1389 dL_law_1390 ?_
  refine l_callI X (c_X8_trace l D ad cy X.2.2.2.2.2.2.2.2.1 2000 (xs (i + 1)) g1 r g2' e2) mw_X8_trace ml_L_162 (by decide) (a := 8) (by decide +kernel) (by decide) rfl rfl (As := [.int (xs (i + 1))]) rfl (rest := [.int r]) rfl (by exact Nat.le_of_ble_eq_true rfl) dL_law_1391 ?_
  exact l_same X dL_law_1394 (by decide) (k g2' h2)
theorem lw_36 {p : Program} {l : Launch} {e : Env} {s : State} {m : MethodId} {below : List Frame} {meth : Method} {c : Code} {b L : Nat} {xs : Nat → Int32} {D : va_G} {ad : Ky → Nat} {cy : Nat → ClassId} {g : GS} (X : LX p s m c b L xs D ad cy) {i : Nat} (hi : i + 6 ≤ L) (hL : L ≤ 384) (h : Rel g) (k : ∀ g', Rel g' → Vl p l e s m below meth c b D ad cy 1435 (llc ad b i) [] g') : Vl p l e s m below meth c b D ad cy 1399 (llc ad b i) [] g := by
  obtain ⟨r, g1, g2', e1, e2, h2⟩ := p_count 2000 (by decide) (xs (i + 1)) g h
  refine l_obj X dL_law_1399 (j := 1) rfl rfl ?_
  refine l_arg X (n := 1) (by omega) hL dL_law_1400 dL_law_1401 dL_law_1402 (by decide) dL_law_1403 dL_law_1404 ?_
  refine l_callI X (c_X7_count l D ad cy X.2.2.2.2.2.2.2.2.1 2000 (xs (i + 1)) g r g1 e1) mw_X7_count ml_L_163 (by decide) (a := 7) (by decide +kernel) (by decide) rfl rfl (As := [.int (xs (i + 1))]) rfl (rest := []) rfl (by decide) dL_law_1405 ?_
  refine l_obj X dL_law_1408 (j := 2) rfl rfl ?_
  refine l_arg X (n := 1) (by omega) hL dL_law_1409 dL_law_1410 dL_law_1411 (by decide) dL_law_1412 dL_law_1413 ?_
  refine l_callI X (c_X8_count l D ad cy X.2.2.2.2.2.2.2.2.1 2000 (xs (i + 1)) g1 r g2' e2) mw_X8_count ml_L_166 (by decide) (a := 8) (by decide +kernel) (by decide) rfl rfl (As := [.int (xs (i + 1))]) rfl (rest := [.int r]) rfl (by exact Nat.le_of_ble_eq_true rfl) dL_law_1414 ?_
  exact l_same X dL_law_1417 (by decide) (k g2' h2)
theorem lw_37 {p : Program} {l : Launch} {e : Env} {s : State} {m : MethodId} {below : List Frame} {meth : Method} {c : Code} {b L : Nat} {xs : Nat → Int32} {D : va_G} {ad : Ky → Nat} {cy : Nat → ClassId} {g : GS} (X : LX p s m c b L xs D ad cy) {i : Nat} (hi : i + 6 ≤ L) (hL : L ≤ 384) (h : Rel g) (k : ∀ g', Rel g' → Vl p l e s m below meth c b D ad cy 1435 (llc ad b i) [] g') : Vl p l e s m below meth c b D ad cy 1422 (llc ad b i) [] g := by
  obtain ⟨r, g1, g2', e1, e2, h2⟩ := p_status 2000  g h
  refine l_obj X dL_law_1422 (j := 1) rfl rfl ?_
  refine l_callI X (c_X7_status l D ad cy X.2.2.2.2.2.2.2.2.1 2000  g r g1 e1) mw_X7_status ml_L_167 (by decide) (a := 7) (by decide +kernel) (by decide) rfl rfl (As := []) rfl (rest := []) rfl (by decide) dL_law_1423 ?_
  refine l_obj X dL_law_1426 (j := 2) rfl rfl ?_
  refine l_callI X (c_X8_status l D ad cy X.2.2.2.2.2.2.2.2.1 2000  g1 r g2' e2) mw_X8_status ml_L_170 (by decide) (a := 8) (by decide +kernel) (by decide) rfl rfl (As := []) rfl (rest := [.int r]) rfl (by exact Nat.le_of_ble_eq_true rfl) dL_law_1427 ?_
  exact l_same X dL_law_1430 (by decide) (k g2' h2)
