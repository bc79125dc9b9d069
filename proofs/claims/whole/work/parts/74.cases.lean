/-! the law's cases -/
theorem lw_cmp (v : Int64) : lg_cmp v v = 0 := by
  unfold lg_cmp
  rw [if_neg (Int64.lt_irrefl), if_pos rfl]
section LC
variable {p : Program} {l : Launch} {e : Env} {s : State} {m : MethodId} {below : List Frame} {meth : Method} {c : Code} {b L : Nat} {xs : Nat → Int32} {X Y : zz_Fx} {Q : State → Prop} {H : Heap} {locs : List Loc} {ls : Array Slot} {i : Nat} {h h2 : zz_Hp}
theorem lc_0 (E : lw_E p s m meth c b L xs X Y) (hl : lw_L X Y b i ls) (hi : i + 6 ≤ L) (hJ : lw_J X zKC zNC h Y zKR zNR h2 s H locs) (hs : Sim h h2) (kk : ∀ (h' h2' : zz_Hp) (H' : Heap) (locs' : List Loc), lw_J X zKC zNC h' Y zKR zNR h2' s H' locs' → Sim h' h2' → lw_W p l e s m b below meth c Q H' locs' 1416 ls []) : lw_W p l e s m b below meth c Q H locs 212 ls [] := by
  refine lw_a1 (pc := 212) E hl dL_law_212 ?_
  refine lw_ld (pc := 213) E hl hJ.2.2.2.2.2.2.2 (j := 1) rfl (by omega) dL_law_213 dL_law_214 dL_law_215 dL_law_216 dL_law_217 ?_
  refine lw_ld (pc := 218) E hl hJ.2.2.2.2.2.2.2 (j := 2) rfl (by omega) dL_law_218 dL_law_219 dL_law_220 dL_law_221 dL_law_222 ?_
  refine lw_ld (pc := 223) E hl hJ.2.2.2.2.2.2.2 (j := 3) rfl (by omega) dL_law_223 dL_law_224 dL_law_225 dL_law_226 dL_law_227 ?_
  refine lw_cC (pc := 228) E hl (As := [.int (xs (i + 1)), .int (xs (i + 2)), .int (xs (i + 3))]) lk_L_13 (Nat.le_of_ble_eq_true rfl) (Nat.le_of_ble_eq_true rfl) (sd_X8_thread 0 (eq_thread hs (xs (i + 1)) (xs (i + 2)) (xs (i + 3)))) dL_law_228 rfl (rest := []) rfl (Nat.le_of_ble_eq_true rfl) hJ fun v1 h1 H1 locs1 hq hJ1 => ?_
  refine lw_a2 (pc := 231) E hl dL_law_231 ?_
  refine lw_ld (pc := 232) E hl hJ1.2.2.2.2.2.2.2 (j := 1) rfl (by omega) dL_law_232 dL_law_233 dL_law_234 dL_law_235 dL_law_236 ?_
  refine lw_ld (pc := 237) E hl hJ1.2.2.2.2.2.2.2 (j := 2) rfl (by omega) dL_law_237 dL_law_238 dL_law_239 dL_law_240 dL_law_241 ?_
  refine lw_ld (pc := 242) E hl hJ1.2.2.2.2.2.2.2 (j := 3) rfl (by omega) dL_law_242 dL_law_243 dL_law_244 dL_law_245 dL_law_246 ?_
  refine lw_cR (pc := 247) E hl (As := [.int (xs (i + 1)), .int (xs (i + 2)), .int (xs (i + 3))]) lk_L_17 (Nat.le_of_ble_eq_true rfl) (Nat.le_of_ble_eq_true rfl) (sd_X9_thread 0 hq) dL_law_247 rfl (rest := [.int v1]) rfl (Nat.le_of_ble_eq_true rfl) hJ1 fun v2 h3 H3 locs3 hq2 hJ3 => ?_
  obtain ⟨e1, hs3⟩ := hq2
  exact lv_icmp_eq (pc := 250) (tgt := 1416) E.1.1 E.1.2.1 dL_law_250 (by decide) (fun _ => kk h1 h3 H3 locs3 hJ3 hs3) (fun z => absurd e1 z)
theorem lc_1 (E : lw_E p s m meth c b L xs X Y) (hl : lw_L X Y b i ls) (hi : i + 6 ≤ L) (hJ : lw_J X zKC zNC h Y zKR zNR h2 s H locs) (hs : Sim h h2) (kk : ∀ (h' h2' : zz_Hp) (H' : Heap) (locs' : List Loc), lw_J X zKC zNC h' Y zKR zNR h2' s H' locs' → Sim h' h2' → lw_W p l e s m b below meth c Q H' locs' 1416 ls []) : lw_W p l e s m b below meth c Q H locs 255 ls [] := by
  refine lw_a1 (pc := 255) E hl dL_law_255 ?_
  refine lw_ld (pc := 256) E hl hJ.2.2.2.2.2.2.2 (j := 1) rfl (by omega) dL_law_256 dL_law_257 dL_law_258 dL_law_259 dL_law_260 ?_
  refine lw_cC (pc := 261) E hl (As := [.int (xs (i + 1))]) lk_L_18 (Nat.le_of_ble_eq_true rfl) (Nat.le_of_ble_eq_true rfl) (sd_X8_part 0 (eq_part hs (xs (i + 1)))) dL_law_261 rfl (rest := []) rfl (Nat.le_of_ble_eq_true rfl) hJ fun v1 h1 H1 locs1 hq hJ1 => ?_
  refine lw_a2 (pc := 264) E hl dL_law_264 ?_
  refine lw_ld (pc := 265) E hl hJ1.2.2.2.2.2.2.2 (j := 1) rfl (by omega) dL_law_265 dL_law_266 dL_law_267 dL_law_268 dL_law_269 ?_
  refine lw_cR (pc := 270) E hl (As := [.int (xs (i + 1))]) lk_L_22 (Nat.le_of_ble_eq_true rfl) (Nat.le_of_ble_eq_true rfl) (sd_X9_part 0 hq) dL_law_270 rfl (rest := [.int v1]) rfl (Nat.le_of_ble_eq_true rfl) hJ1 fun v2 h3 H3 locs3 hq2 hJ3 => ?_
  obtain ⟨e1, hs3⟩ := hq2
  exact lv_icmp_eq (pc := 273) (tgt := 1416) E.1.1 E.1.2.1 dL_law_273 (by decide) (fun _ => kk h1 h3 H3 locs3 hJ3 hs3) (fun z => absurd e1 z)
theorem lc_2 (E : lw_E p s m meth c b L xs X Y) (hl : lw_L X Y b i ls) (hi : i + 6 ≤ L) (hJ : lw_J X zKC zNC h Y zKR zNR h2 s H locs) (hs : Sim h h2) (kk : ∀ (h' h2' : zz_Hp) (H' : Heap) (locs' : List Loc), lw_J X zKC zNC h' Y zKR zNR h2' s H' locs' → Sim h' h2' → lw_W p l e s m b below meth c Q H' locs' 1416 ls []) : lw_W p l e s m b below meth c Q H locs 278 ls [] := by
  refine lw_a1 (pc := 278) E hl dL_law_278 ?_
  refine lw_ld (pc := 279) E hl hJ.2.2.2.2.2.2.2 (j := 1) rfl (by omega) dL_law_279 dL_law_280 dL_law_281 dL_law_282 dL_law_283 ?_
  refine lw_cC (pc := 284) E hl (As := [.int (xs (i + 1))]) lk_L_23 (Nat.le_of_ble_eq_true rfl) (Nat.le_of_ble_eq_true rfl) (sd_X8_ply 0 (eq_ply hs (xs (i + 1)))) dL_law_284 rfl (rest := []) rfl (Nat.le_of_ble_eq_true rfl) hJ fun v1 h1 H1 locs1 hq hJ1 => ?_
  refine lw_a2 (pc := 287) E hl dL_law_287 ?_
  refine lw_ld (pc := 288) E hl hJ1.2.2.2.2.2.2.2 (j := 1) rfl (by omega) dL_law_288 dL_law_289 dL_law_290 dL_law_291 dL_law_292 ?_
  refine lw_cR (pc := 293) E hl (As := [.int (xs (i + 1))]) lk_L_26 (Nat.le_of_ble_eq_true rfl) (Nat.le_of_ble_eq_true rfl) (sd_X9_ply 0 hq) dL_law_293 rfl (rest := [.int v1]) rfl (Nat.le_of_ble_eq_true rfl) hJ1 fun v2 h3 H3 locs3 hq2 hJ3 => ?_
  obtain ⟨e1, hs3⟩ := hq2
  exact lv_icmp_eq (pc := 296) (tgt := 1416) E.1.1 E.1.2.1 dL_law_296 (by decide) (fun _ => kk h1 h3 H3 locs3 hJ3 hs3) (fun z => absurd e1 z)
theorem lc_3 (E : lw_E p s m meth c b L xs X Y) (hl : lw_L X Y b i ls) (hi : i + 6 ≤ L) (hJ : lw_J X zKC zNC h Y zKR zNR h2 s H locs) (hs : Sim h h2) (kk : ∀ (h' h2' : zz_Hp) (H' : Heap) (locs' : List Loc), lw_J X zKC zNC h' Y zKR zNR h2' s H' locs' → Sim h' h2' → lw_W p l e s m b below meth c Q H' locs' 1416 ls []) : lw_W p l e s m b below meth c Q H locs 301 ls [] := by
  refine lw_a1 (pc := 301) E hl dL_law_301 ?_
  refine lw_cC (pc := 302) E hl (As := []) lk_L_27 (Nat.le_of_ble_eq_true rfl) (Nat.le_of_ble_eq_true rfl) (sd_X8_clear 0 (eq_clear hs)) dL_law_302 rfl (rest := []) rfl (Nat.le_of_ble_eq_true rfl) hJ fun v1 h1 H1 locs1 hq hJ1 => ?_
  refine lw_a2 (pc := 305) E hl dL_law_305 ?_
  refine lw_cR (pc := 306) E hl (As := []) lk_L_31 (Nat.le_of_ble_eq_true rfl) (Nat.le_of_ble_eq_true rfl) (sd_X9_clear 0 hq) dL_law_306 rfl (rest := [.int v1]) rfl (Nat.le_of_ble_eq_true rfl) hJ1 fun v2 h3 H3 locs3 hq2 hJ3 => ?_
  obtain ⟨e1, hs3⟩ := hq2
  exact lv_icmp_eq (pc := 309) (tgt := 1416) E.1.1 E.1.2.1 dL_law_309 (by decide) (fun _ => kk h1 h3 H3 locs3 hJ3 hs3) (fun z => absurd e1 z)
theorem lc_4 (E : lw_E p s m meth c b L xs X Y) (hl : lw_L X Y b i ls) (hi : i + 6 ≤ L) (hJ : lw_J X zKC zNC h Y zKR zNR h2 s H locs) (hs : Sim h h2) (kk : ∀ (h' h2' : zz_Hp) (H' : Heap) (locs' : List Loc), lw_J X zKC zNC h' Y zKR zNR h2' s H' locs' → Sim h' h2' → lw_W p l e s m b below meth c Q H' locs' 1416 ls []) : lw_W p l e s m b below meth c Q H locs 314 ls [] := by
  refine lw_a1 (pc := 314) E hl dL_law_314 ?_
  refine lw_ld (pc := 315) E hl hJ.2.2.2.2.2.2.2 (j := 1) rfl (by omega) dL_law_315 dL_law_316 dL_law_317 dL_law_318 dL_law_319 ?_
  refine lw_ld (pc := 320) E hl hJ.2.2.2.2.2.2.2 (j := 2) rfl (by omega) dL_law_320 dL_law_321 dL_law_322 dL_law_323 dL_law_324 ?_
  refine lw_ld (pc := 325) E hl hJ.2.2.2.2.2.2.2 (j := 3) rfl (by omega) dL_law_325 dL_law_326 dL_law_327 dL_law_328 dL_law_329 ?_
  refine lw_cC (pc := 330) E hl (As := [.int (xs (i + 1)), .int (xs (i + 2)), .int (xs (i + 3))]) lk_L_32 (Nat.le_of_ble_eq_true rfl) (Nat.le_of_ble_eq_true rfl) (sd_X8_set 0 (eq_set hs (xs (i + 1)) (xs (i + 2)) (xs (i + 3)))) dL_law_330 rfl (rest := []) rfl (Nat.le_of_ble_eq_true rfl) hJ fun v1 h1 H1 locs1 hq hJ1 => ?_
  refine lw_a2 (pc := 333) E hl dL_law_333 ?_
  refine lw_ld (pc := 334) E hl hJ1.2.2.2.2.2.2.2 (j := 1) rfl (by omega) dL_law_334 dL_law_335 dL_law_336 dL_law_337 dL_law_338 ?_
  refine lw_ld (pc := 339) E hl hJ1.2.2.2.2.2.2.2 (j := 2) rfl (by omega) dL_law_339 dL_law_340 dL_law_341 dL_law_342 dL_law_343 ?_
  refine lw_ld (pc := 344) E hl hJ1.2.2.2.2.2.2.2 (j := 3) rfl (by omega) dL_law_344 dL_law_345 dL_law_346 dL_law_347 dL_law_348 ?_
  refine lw_cR (pc := 349) E hl (As := [.int (xs (i + 1)), .int (xs (i + 2)), .int (xs (i + 3))]) lk_L_35 (Nat.le_of_ble_eq_true rfl) (Nat.le_of_ble_eq_true rfl) (sd_X9_set 0 hq) dL_law_349 rfl (rest := [.int v1]) rfl (Nat.le_of_ble_eq_true rfl) hJ1 fun v2 h3 H3 locs3 hq2 hJ3 => ?_
  obtain ⟨e1, hs3⟩ := hq2
  exact lv_icmp_eq (pc := 352) (tgt := 1416) E.1.1 E.1.2.1 dL_law_352 (by decide) (fun _ => kk h1 h3 H3 locs3 hJ3 hs3) (fun z => absurd e1 z)
theorem lc_5 (E : lw_E p s m meth c b L xs X Y) (hl : lw_L X Y b i ls) (hi : i + 6 ≤ L) (hJ : lw_J X zKC zNC h Y zKR zNR h2 s H locs) (hs : Sim h h2) (kk : ∀ (h' h2' : zz_Hp) (H' : Heap) (locs' : List Loc), lw_J X zKC zNC h' Y zKR zNR h2' s H' locs' → Sim h' h2' → lw_W p l e s m b below meth c Q H' locs' 1416 ls []) : lw_W p l e s m b below meth c Q H locs 357 ls [] := by
  refine lw_a1 (pc := 357) E hl dL_law_357 ?_
  refine lw_ld (pc := 358) E hl hJ.2.2.2.2.2.2.2 (j := 1) rfl (by omega) dL_law_358 dL_law_359 dL_law_360 dL_law_361 dL_law_362 ?_
  refine lw_ld (pc := 363) E hl hJ.2.2.2.2.2.2.2 (j := 2) rfl (by omega) dL_law_363 dL_law_364 dL_law_365 dL_law_366 dL_law_367 ?_
  refine lw_cC (pc := 368) E hl (As := [.int (xs (i + 1)), .int (xs (i + 2))]) lk_L_36 (Nat.le_of_ble_eq_true rfl) (Nat.le_of_ble_eq_true rfl) (sd_X8_of 0 (eq_of hs (xs (i + 1)) (xs (i + 2)))) dL_law_368 rfl (rest := []) rfl (Nat.le_of_ble_eq_true rfl) hJ fun v1 h1 H1 locs1 hq hJ1 => ?_
  refine lw_a2 (pc := 371) E hl dL_law_371 ?_
  refine lw_ld (pc := 372) E hl hJ1.2.2.2.2.2.2.2 (j := 1) rfl (by omega) dL_law_372 dL_law_373 dL_law_374 dL_law_375 dL_law_376 ?_
  refine lw_ld (pc := 377) E hl hJ1.2.2.2.2.2.2.2 (j := 2) rfl (by omega) dL_law_377 dL_law_378 dL_law_379 dL_law_380 dL_law_381 ?_
  refine lw_cR (pc := 382) E hl (As := [.int (xs (i + 1)), .int (xs (i + 2))]) lk_L_40 (Nat.le_of_ble_eq_true rfl) (Nat.le_of_ble_eq_true rfl) (sd_X9_of 0 hq) dL_law_382 rfl (rest := [.int v1]) rfl (Nat.le_of_ble_eq_true rfl) hJ1 fun v2 h3 H3 locs3 hq2 hJ3 => ?_
  obtain ⟨e1, hs3⟩ := hq2
  exact lv_icmp_eq (pc := 385) (tgt := 1416) E.1.1 E.1.2.1 dL_law_385 (by decide) (fun _ => kk h1 h3 H3 locs3 hJ3 hs3) (fun z => absurd e1 z)
theorem lc_6 (E : lw_E p s m meth c b L xs X Y) (hl : lw_L X Y b i ls) (hi : i + 6 ≤ L) (hJ : lw_J X zKC zNC h Y zKR zNR h2 s H locs) (hs : Sim h h2) (kk : ∀ (h' h2' : zz_Hp) (H' : Heap) (locs' : List Loc), lw_J X zKC zNC h' Y zKR zNR h2' s H' locs' → Sim h' h2' → lw_W p l e s m b below meth c Q H' locs' 1416 ls []) : lw_W p l e s m b below meth c Q H locs 390 ls [] := by
  refine lw_a1 (pc := 390) E hl dL_law_390 ?_
  refine lw_ld (pc := 391) E hl hJ.2.2.2.2.2.2.2 (j := 1) rfl (by omega) dL_law_391 dL_law_392 dL_law_393 dL_law_394 dL_law_395 ?_
  refine lw_ld (pc := 396) E hl hJ.2.2.2.2.2.2.2 (j := 2) rfl (by omega) dL_law_396 dL_law_397 dL_law_398 dL_law_399 dL_law_400 ?_
  refine lw_cC (pc := 401) E hl (As := [.int (xs (i + 1)), .int (xs (i + 2))]) lk_L_41 (Nat.le_of_ble_eq_true rfl) (Nat.le_of_ble_eq_true rfl) (sd_X8_partOf 0 (eq_partOf hs (xs (i + 1)) (xs (i + 2)))) dL_law_401 rfl (rest := []) rfl (Nat.le_of_ble_eq_true rfl) hJ fun v1 h1 H1 locs1 hq hJ1 => ?_
  refine lw_a2 (pc := 404) E hl dL_law_404 ?_
  refine lw_ld (pc := 405) E hl hJ1.2.2.2.2.2.2.2 (j := 1) rfl (by omega) dL_law_405 dL_law_406 dL_law_407 dL_law_408 dL_law_409 ?_
  refine lw_ld (pc := 410) E hl hJ1.2.2.2.2.2.2.2 (j := 2) rfl (by omega) dL_law_410 dL_law_411 dL_law_412 dL_law_413 dL_law_414 ?_
  refine lw_cR (pc := 415) E hl (As := [.int (xs (i + 1)), .int (xs (i + 2))]) lk_L_44 (Nat.le_of_ble_eq_true rfl) (Nat.le_of_ble_eq_true rfl) (sd_X9_partOf 0 hq) dL_law_415 rfl (rest := [.int v1]) rfl (Nat.le_of_ble_eq_true rfl) hJ1 fun v2 h3 H3 locs3 hq2 hJ3 => ?_
  obtain ⟨e1, hs3⟩ := hq2
  exact lv_icmp_eq (pc := 418) (tgt := 1416) E.1.1 E.1.2.1 dL_law_418 (by decide) (fun _ => kk h1 h3 H3 locs3 hJ3 hs3) (fun z => absurd e1 z)
theorem lc_7 (E : lw_E p s m meth c b L xs X Y) (hl : lw_L X Y b i ls) (hi : i + 6 ≤ L) (hJ : lw_J X zKC zNC h Y zKR zNR h2 s H locs) (hs : Sim h h2) (kk : ∀ (h' h2' : zz_Hp) (H' : Heap) (locs' : List Loc), lw_J X zKC zNC h' Y zKR zNR h2' s H' locs' → Sim h' h2' → lw_W p l e s m b below meth c Q H' locs' 1416 ls []) : lw_W p l e s m b below meth c Q H locs 423 ls [] := by
  refine lw_a1 (pc := 423) E hl dL_law_423 ?_
  refine lw_ld (pc := 424) E hl hJ.2.2.2.2.2.2.2 (j := 1) rfl (by omega) dL_law_424 dL_law_425 dL_law_426 dL_law_427 dL_law_428 ?_
  refine lw_ld (pc := 429) E hl hJ.2.2.2.2.2.2.2 (j := 2) rfl (by omega) dL_law_429 dL_law_430 dL_law_431 dL_law_432 dL_law_433 ?_
  refine lw_ld (pc := 434) E hl hJ.2.2.2.2.2.2.2 (j := 3) rfl (by omega) dL_law_434 dL_law_435 dL_law_436 dL_law_437 dL_law_438 ?_
  refine lw_cC (pc := 439) E hl (As := [.int (xs (i + 1)), .int (xs (i + 2)), .int (xs (i + 3))]) lk_L_45 (Nat.le_of_ble_eq_true rfl) (Nat.le_of_ble_eq_true rfl) (sd_X8_leaf 0 (eq_leaf hs (xs (i + 1)) (xs (i + 2)) (xs (i + 3)))) dL_law_439 rfl (rest := []) rfl (Nat.le_of_ble_eq_true rfl) hJ fun v1 h1 H1 locs1 hq hJ1 => ?_
  refine lw_a2 (pc := 442) E hl dL_law_442 ?_
  refine lw_ld (pc := 443) E hl hJ1.2.2.2.2.2.2.2 (j := 1) rfl (by omega) dL_law_443 dL_law_444 dL_law_445 dL_law_446 dL_law_447 ?_
  refine lw_ld (pc := 448) E hl hJ1.2.2.2.2.2.2.2 (j := 2) rfl (by omega) dL_law_448 dL_law_449 dL_law_450 dL_law_451 dL_law_452 ?_
  refine lw_ld (pc := 453) E hl hJ1.2.2.2.2.2.2.2 (j := 3) rfl (by omega) dL_law_453 dL_law_454 dL_law_455 dL_law_456 dL_law_457 ?_
  refine lw_cR (pc := 458) E hl (As := [.int (xs (i + 1)), .int (xs (i + 2)), .int (xs (i + 3))]) lk_L_48 (Nat.le_of_ble_eq_true rfl) (Nat.le_of_ble_eq_true rfl) (sd_X9_leaf 0 hq) dL_law_458 rfl (rest := [.int v1]) rfl (Nat.le_of_ble_eq_true rfl) hJ1 fun v2 h3 H3 locs3 hq2 hJ3 => ?_
  obtain ⟨e1, hs3⟩ := hq2
  exact lv_icmp_eq (pc := 461) (tgt := 1416) E.1.1 E.1.2.1 dL_law_461 (by decide) (fun _ => kk h1 h3 H3 locs3 hJ3 hs3) (fun z => absurd e1 z)
theorem lc_8 (E : lw_E p s m meth c b L xs X Y) (hl : lw_L X Y b i ls) (hi : i + 6 ≤ L) (hJ : lw_J X zKC zNC h Y zKR zNR h2 s H locs) (hs : Sim h h2) (kk : ∀ (h' h2' : zz_Hp) (H' : Heap) (locs' : List Loc), lw_J X zKC zNC h' Y zKR zNR h2' s H' locs' → Sim h' h2' → lw_W p l e s m b below meth c Q H' locs' 1416 ls []) : lw_W p l e s m b below meth c Q H locs 466 ls [] := by
  refine lw_a1 (pc := 466) E hl dL_law_466 ?_
  refine lw_ld (pc := 467) E hl hJ.2.2.2.2.2.2.2 (j := 1) rfl (by omega) dL_law_467 dL_law_468 dL_law_469 dL_law_470 dL_law_471 ?_
  refine lw_cC (pc := 472) E hl (As := [.int (xs (i + 1))]) lk_L_49 (Nat.le_of_ble_eq_true rfl) (Nat.le_of_ble_eq_true rfl) (sd_X8_torque 0 (eq_torque hs (xs (i + 1)))) dL_law_472 rfl (rest := []) rfl (Nat.le_of_ble_eq_true rfl) hJ fun v1 h1 H1 locs1 hq hJ1 => ?_
  refine lw_a2 (pc := 475) E hl dL_law_475 ?_
  refine lw_ld (pc := 476) E hl hJ1.2.2.2.2.2.2.2 (j := 1) rfl (by omega) dL_law_476 dL_law_477 dL_law_478 dL_law_479 dL_law_480 ?_
  refine lw_cR (pc := 481) E hl (As := [.int (xs (i + 1))]) lk_L_52 (Nat.le_of_ble_eq_true rfl) (Nat.le_of_ble_eq_true rfl) (sd_X9_torque 0 hq) dL_law_481 rfl (rest := [.int v1]) rfl (Nat.le_of_ble_eq_true rfl) hJ1 fun v2 h3 H3 locs3 hq2 hJ3 => ?_
  obtain ⟨e1, hs3⟩ := hq2
  exact lv_icmp_eq (pc := 484) (tgt := 1416) E.1.1 E.1.2.1 dL_law_484 (by decide) (fun _ => kk h1 h3 H3 locs3 hJ3 hs3) (fun z => absurd e1 z)
theorem lc_9 (E : lw_E p s m meth c b L xs X Y) (hl : lw_L X Y b i ls) (hi : i + 6 ≤ L) (hJ : lw_J X zKC zNC h Y zKR zNR h2 s H locs) (hs : Sim h h2) (kk : ∀ (h' h2' : zz_Hp) (H' : Heap) (locs' : List Loc), lw_J X zKC zNC h' Y zKR zNR h2' s H' locs' → Sim h' h2' → lw_W p l e s m b below meth c Q H' locs' 1416 ls []) : lw_W p l e s m b below meth c Q H locs 489 ls [] := by
  refine lw_a1 (pc := 489) E hl dL_law_489 ?_
  refine lw_ld (pc := 490) E hl hJ.2.2.2.2.2.2.2 (j := 1) rfl (by omega) dL_law_490 dL_law_491 dL_law_492 dL_law_493 dL_law_494 ?_
  refine lw_cC (pc := 495) E hl (As := [.int (xs (i + 1))]) lk_L_53 (Nat.le_of_ble_eq_true rfl) (Nat.le_of_ble_eq_true rfl) (sd_X8_tally 0 (eq_tally hs (xs (i + 1)))) dL_law_495 rfl (rest := []) rfl (Nat.le_of_ble_eq_true rfl) hJ fun v1 h1 H1 locs1 hq hJ1 => ?_
  refine lw_a2 (pc := 498) E hl dL_law_498 ?_
  refine lw_ld (pc := 499) E hl hJ1.2.2.2.2.2.2.2 (j := 1) rfl (by omega) dL_law_499 dL_law_500 dL_law_501 dL_law_502 dL_law_503 ?_
  refine lw_cR (pc := 504) E hl (As := [.int (xs (i + 1))]) lk_L_56 (Nat.le_of_ble_eq_true rfl) (Nat.le_of_ble_eq_true rfl) (sd_X9_tally 0 hq) dL_law_504 rfl (rest := [.int v1]) rfl (Nat.le_of_ble_eq_true rfl) hJ1 fun v2 h3 H3 locs3 hq2 hJ3 => ?_
  obtain ⟨e1, hs3⟩ := hq2
  exact lv_icmp_eq (pc := 507) (tgt := 1416) E.1.1 E.1.2.1 dL_law_507 (by decide) (fun _ => kk h1 h3 H3 locs3 hJ3 hs3) (fun z => absurd e1 z)
theorem lc_10 (E : lw_E p s m meth c b L xs X Y) (hl : lw_L X Y b i ls) (hi : i + 6 ≤ L) (hJ : lw_J X zKC zNC h Y zKR zNR h2 s H locs) (hs : Sim h h2) (kk : ∀ (h' h2' : zz_Hp) (H' : Heap) (locs' : List Loc), lw_J X zKC zNC h' Y zKR zNR h2' s H' locs' → Sim h' h2' → lw_W p l e s m b below meth c Q H' locs' 1416 ls []) : lw_W p l e s m b below meth c Q H locs 512 ls [] := by
  refine lw_a1 (pc := 512) E hl dL_law_512 ?_
  refine lw_ld (pc := 513) E hl hJ.2.2.2.2.2.2.2 (j := 1) rfl (by omega) dL_law_513 dL_law_514 dL_law_515 dL_law_516 dL_law_517 ?_
  refine lw_ld (pc := 518) E hl hJ.2.2.2.2.2.2.2 (j := 2) rfl (by omega) dL_law_518 dL_law_519 dL_law_520 dL_law_521 dL_law_522 ?_
  refine lw_ld (pc := 523) E hl hJ.2.2.2.2.2.2.2 (j := 3) rfl (by omega) dL_law_523 dL_law_524 dL_law_525 dL_law_526 dL_law_527 ?_
  refine lw_cCl (pc := 528) E hl (As := [.int (xs (i + 1)), .int (xs (i + 2)), .int (xs (i + 3))]) lk_L_57 (Nat.le_of_ble_eq_true rfl) (Nat.le_of_ble_eq_true rfl) (sd_X8_kept 0 (eq_kept hs (xs (i + 1)) (xs (i + 2)) (xs (i + 3)))) dL_law_528 rfl (rest := []) rfl (Nat.le_of_ble_eq_true rfl) hJ fun v1 h1 H1 locs1 hq hJ1 => ?_
  refine lw_a2 (pc := 531) E hl dL_law_531 ?_
  refine lw_ld (pc := 532) E hl hJ1.2.2.2.2.2.2.2 (j := 1) rfl (by omega) dL_law_532 dL_law_533 dL_law_534 dL_law_535 dL_law_536 ?_
  refine lw_ld (pc := 537) E hl hJ1.2.2.2.2.2.2.2 (j := 2) rfl (by omega) dL_law_537 dL_law_538 dL_law_539 dL_law_540 dL_law_541 ?_
  refine lw_ld (pc := 542) E hl hJ1.2.2.2.2.2.2.2 (j := 3) rfl (by omega) dL_law_542 dL_law_543 dL_law_544 dL_law_545 dL_law_546 ?_
  refine lw_cRl (pc := 547) E hl (As := [.int (xs (i + 1)), .int (xs (i + 2)), .int (xs (i + 3))]) lk_L_61 (Nat.le_of_ble_eq_true rfl) (Nat.le_of_ble_eq_true rfl) (sd_X9_kept 0 hq) dL_law_547 rfl (rest := [.long v1]) rfl (Nat.le_of_ble_eq_true rfl) hJ1 fun v2 h3 H3 locs3 hq2 hJ3 => ?_
  obtain ⟨e1, hs3⟩ := hq2
  refine W.lcmp (pc := 550) E.1.1 E.1.2.1 dL_law_550 ?_
  exact lv_if_eq (pc := 551) (tgt := 1416) E.1.1 E.1.2.1 dL_law_551 (by decide) (fun _ => kk h1 h3 H3 locs3 hJ3 hs3) (fun z => absurd (by rw [e1]; exact lw_cmp v2) z)
theorem lc_11 (E : lw_E p s m meth c b L xs X Y) (hl : lw_L X Y b i ls) (hi : i + 6 ≤ L) (hJ : lw_J X zKC zNC h Y zKR zNR h2 s H locs) (hs : Sim h h2) (kk : ∀ (h' h2' : zz_Hp) (H' : Heap) (locs' : List Loc), lw_J X zKC zNC h' Y zKR zNR h2' s H' locs' → Sim h' h2' → lw_W p l e s m b below meth c Q H' locs' 1416 ls []) : lw_W p l e s m b below meth c Q H locs 556 ls [] := by
  refine lw_a1 (pc := 556) E hl dL_law_556 ?_
  refine lw_ld (pc := 557) E hl hJ.2.2.2.2.2.2.2 (j := 1) rfl (by omega) dL_law_557 dL_law_558 dL_law_559 dL_law_560 dL_law_561 ?_
  refine lw_ld (pc := 562) E hl hJ.2.2.2.2.2.2.2 (j := 2) rfl (by omega) dL_law_562 dL_law_563 dL_law_564 dL_law_565 dL_law_566 ?_
  refine lw_ld (pc := 567) E hl hJ.2.2.2.2.2.2.2 (j := 3) rfl (by omega) dL_law_567 dL_law_568 dL_law_569 dL_law_570 dL_law_571 ?_
  refine lw_cC (pc := 572) E hl (As := [.int (xs (i + 1)), .int (xs (i + 2)), .int (xs (i + 3))]) lk_L_62 (Nat.le_of_ble_eq_true rfl) (Nat.le_of_ble_eq_true rfl) (sd_X8_needs 0 (eq_needs hs (xs (i + 1)) (xs (i + 2)) (xs (i + 3)))) dL_law_572 rfl (rest := []) rfl (Nat.le_of_ble_eq_true rfl) hJ fun v1 h1 H1 locs1 hq hJ1 => ?_
  refine lw_a2 (pc := 575) E hl dL_law_575 ?_
  refine lw_ld (pc := 576) E hl hJ1.2.2.2.2.2.2.2 (j := 1) rfl (by omega) dL_law_576 dL_law_577 dL_law_578 dL_law_579 dL_law_580 ?_
  refine lw_ld (pc := 581) E hl hJ1.2.2.2.2.2.2.2 (j := 2) rfl (by omega) dL_law_581 dL_law_582 dL_law_583 dL_law_584 dL_law_585 ?_
  refine lw_ld (pc := 586) E hl hJ1.2.2.2.2.2.2.2 (j := 3) rfl (by omega) dL_law_586 dL_law_587 dL_law_588 dL_law_589 dL_law_590 ?_
  refine lw_cR (pc := 591) E hl (As := [.int (xs (i + 1)), .int (xs (i + 2)), .int (xs (i + 3))]) lk_L_65 (Nat.le_of_ble_eq_true rfl) (Nat.le_of_ble_eq_true rfl) (sd_X9_needs 0 hq) dL_law_591 rfl (rest := [.int v1]) rfl (Nat.le_of_ble_eq_true rfl) hJ1 fun v2 h3 H3 locs3 hq2 hJ3 => ?_
  obtain ⟨e1, hs3⟩ := hq2
  exact lv_icmp_eq (pc := 594) (tgt := 1416) E.1.1 E.1.2.1 dL_law_594 (by decide) (fun _ => kk h1 h3 H3 locs3 hJ3 hs3) (fun z => absurd e1 z)
theorem lc_12 (E : lw_E p s m meth c b L xs X Y) (hl : lw_L X Y b i ls) (hi : i + 6 ≤ L) (hJ : lw_J X zKC zNC h Y zKR zNR h2 s H locs) (hs : Sim h h2) (kk : ∀ (h' h2' : zz_Hp) (H' : Heap) (locs' : List Loc), lw_J X zKC zNC h' Y zKR zNR h2' s H' locs' → Sim h' h2' → lw_W p l e s m b below meth c Q H' locs' 1416 ls []) : lw_W p l e s m b below meth c Q H locs 599 ls [] := by
  refine lw_a1 (pc := 599) E hl dL_law_599 ?_
  refine lw_ld (pc := 600) E hl hJ.2.2.2.2.2.2.2 (j := 1) rfl (by omega) dL_law_600 dL_law_601 dL_law_602 dL_law_603 dL_law_604 ?_
  refine lw_ld (pc := 605) E hl hJ.2.2.2.2.2.2.2 (j := 2) rfl (by omega) dL_law_605 dL_law_606 dL_law_607 dL_law_608 dL_law_609 ?_
  refine lw_cC (pc := 610) E hl (As := [.int (xs (i + 1)), .int (xs (i + 2))]) lk_L_66 (Nat.le_of_ble_eq_true rfl) (Nat.le_of_ble_eq_true rfl) (sd_X8_heavy 0 (eq_heavy hs (xs (i + 1)) (xs (i + 2)))) dL_law_610 rfl (rest := []) rfl (Nat.le_of_ble_eq_true rfl) hJ fun v1 h1 H1 locs1 hq hJ1 => ?_
  refine lw_a2 (pc := 613) E hl dL_law_613 ?_
  refine lw_ld (pc := 614) E hl hJ1.2.2.2.2.2.2.2 (j := 1) rfl (by omega) dL_law_614 dL_law_615 dL_law_616 dL_law_617 dL_law_618 ?_
  refine lw_ld (pc := 619) E hl hJ1.2.2.2.2.2.2.2 (j := 2) rfl (by omega) dL_law_619 dL_law_620 dL_law_621 dL_law_622 dL_law_623 ?_
  refine lw_cR (pc := 624) E hl (As := [.int (xs (i + 1)), .int (xs (i + 2))]) lk_L_69 (Nat.le_of_ble_eq_true rfl) (Nat.le_of_ble_eq_true rfl) (sd_X9_heavy 0 hq) dL_law_624 rfl (rest := [.int v1]) rfl (Nat.le_of_ble_eq_true rfl) hJ1 fun v2 h3 H3 locs3 hq2 hJ3 => ?_
  obtain ⟨e1, hs3⟩ := hq2
  exact lv_icmp_eq (pc := 627) (tgt := 1416) E.1.1 E.1.2.1 dL_law_627 (by decide) (fun _ => kk h1 h3 H3 locs3 hJ3 hs3) (fun z => absurd e1 z)
theorem lc_13 (E : lw_E p s m meth c b L xs X Y) (hl : lw_L X Y b i ls) (hi : i + 6 ≤ L) (hJ : lw_J X zKC zNC h Y zKR zNR h2 s H locs) (hs : Sim h h2) (kk : ∀ (h' h2' : zz_Hp) (H' : Heap) (locs' : List Loc), lw_J X zKC zNC h' Y zKR zNR h2' s H' locs' → Sim h' h2' → lw_W p l e s m b below meth c Q H' locs' 1416 ls []) : lw_W p l e s m b below meth c Q H locs 632 ls [] := by
  refine lw_a1 (pc := 632) E hl dL_law_632 ?_
  refine lw_ld (pc := 633) E hl hJ.2.2.2.2.2.2.2 (j := 1) rfl (by omega) dL_law_633 dL_law_634 dL_law_635 dL_law_636 dL_law_637 ?_
  refine lw_ld (pc := 638) E hl hJ.2.2.2.2.2.2.2 (j := 2) rfl (by omega) dL_law_638 dL_law_639 dL_law_640 dL_law_641 dL_law_642 ?_
  refine lw_ld (pc := 643) E hl hJ.2.2.2.2.2.2.2 (j := 3) rfl (by omega) dL_law_643 dL_law_644 dL_law_645 dL_law_646 dL_law_647 ?_
  refine lw_cC (pc := 648) E hl (As := [.int (xs (i + 1)), .int (xs (i + 2)), .int (xs (i + 3))]) lk_L_70 (Nat.le_of_ble_eq_true rfl) (Nat.le_of_ble_eq_true rfl) (sd_X8_balance 0 (eq_balance hs (xs (i + 1)) (xs (i + 2)) (xs (i + 3)))) dL_law_648 rfl (rest := []) rfl (Nat.le_of_ble_eq_true rfl) hJ fun v1 h1 H1 locs1 hq hJ1 => ?_
  refine lw_a2 (pc := 651) E hl dL_law_651 ?_
  refine lw_ld (pc := 652) E hl hJ1.2.2.2.2.2.2.2 (j := 1) rfl (by omega) dL_law_652 dL_law_653 dL_law_654 dL_law_655 dL_law_656 ?_
  refine lw_ld (pc := 657) E hl hJ1.2.2.2.2.2.2.2 (j := 2) rfl (by omega) dL_law_657 dL_law_658 dL_law_659 dL_law_660 dL_law_661 ?_
  refine lw_ld (pc := 662) E hl hJ1.2.2.2.2.2.2.2 (j := 3) rfl (by omega) dL_law_662 dL_law_663 dL_law_664 dL_law_665 dL_law_666 ?_
  refine lw_cR (pc := 667) E hl (As := [.int (xs (i + 1)), .int (xs (i + 2)), .int (xs (i + 3))]) lk_L_73 (Nat.le_of_ble_eq_true rfl) (Nat.le_of_ble_eq_true rfl) (sd_X9_balance 0 hq) dL_law_667 rfl (rest := [.int v1]) rfl (Nat.le_of_ble_eq_true rfl) hJ1 fun v2 h3 H3 locs3 hq2 hJ3 => ?_
  obtain ⟨e1, hs3⟩ := hq2
  exact lv_icmp_eq (pc := 670) (tgt := 1416) E.1.1 E.1.2.1 dL_law_670 (by decide) (fun _ => kk h1 h3 H3 locs3 hJ3 hs3) (fun z => absurd e1 z)
theorem lc_14 (E : lw_E p s m meth c b L xs X Y) (hl : lw_L X Y b i ls) (hi : i + 6 ≤ L) (hJ : lw_J X zKC zNC h Y zKR zNR h2 s H locs) (hs : Sim h h2) (kk : ∀ (h' h2' : zz_Hp) (H' : Heap) (locs' : List Loc), lw_J X zKC zNC h' Y zKR zNR h2' s H' locs' → Sim h' h2' → lw_W p l e s m b below meth c Q H' locs' 1416 ls []) : lw_W p l e s m b below meth c Q H locs 675 ls [] := by
  refine lw_a1 (pc := 675) E hl dL_law_675 ?_
  refine lw_ld (pc := 676) E hl hJ.2.2.2.2.2.2.2 (j := 1) rfl (by omega) dL_law_676 dL_law_677 dL_law_678 dL_law_679 dL_law_680 ?_
  refine lw_ld (pc := 681) E hl hJ.2.2.2.2.2.2.2 (j := 2) rfl (by omega) dL_law_681 dL_law_682 dL_law_683 dL_law_684 dL_law_685 ?_
  refine lw_ld (pc := 686) E hl hJ.2.2.2.2.2.2.2 (j := 3) rfl (by omega) dL_law_686 dL_law_687 dL_law_688 dL_law_689 dL_law_690 ?_
  refine lw_ld (pc := 691) E hl hJ.2.2.2.2.2.2.2 (j := 4) rfl (by omega) dL_law_691 dL_law_692 dL_law_693 dL_law_694 dL_law_695 ?_
  refine lw_cC (pc := 696) E hl (As := [.int (xs (i + 1)), .int (xs (i + 2)), .int (xs (i + 3)), .int (xs (i + 4))]) lk_L_74 (Nat.le_of_ble_eq_true rfl) (Nat.le_of_ble_eq_true rfl) (sd_X8_plan 0 (eq_plan hs (xs (i + 1)) (xs (i + 2)) (xs (i + 3)) (xs (i + 4)))) dL_law_696 rfl (rest := []) rfl (Nat.le_of_ble_eq_true rfl) hJ fun v1 h1 H1 locs1 hq hJ1 => ?_
  refine lw_a2 (pc := 699) E hl dL_law_699 ?_
  refine lw_ld (pc := 700) E hl hJ1.2.2.2.2.2.2.2 (j := 1) rfl (by omega) dL_law_700 dL_law_701 dL_law_702 dL_law_703 dL_law_704 ?_
  refine lw_ld (pc := 705) E hl hJ1.2.2.2.2.2.2.2 (j := 2) rfl (by omega) dL_law_705 dL_law_706 dL_law_707 dL_law_708 dL_law_709 ?_
  refine lw_ld (pc := 710) E hl hJ1.2.2.2.2.2.2.2 (j := 3) rfl (by omega) dL_law_710 dL_law_711 dL_law_712 dL_law_713 dL_law_714 ?_
  refine lw_ld (pc := 715) E hl hJ1.2.2.2.2.2.2.2 (j := 4) rfl (by omega) dL_law_715 dL_law_716 dL_law_717 dL_law_718 dL_law_719 ?_
  refine lw_cR (pc := 720) E hl (As := [.int (xs (i + 1)), .int (xs (i + 2)), .int (xs (i + 3)), .int (xs (i + 4))]) lk_L_78 (Nat.le_of_ble_eq_true rfl) (Nat.le_of_ble_eq_true rfl) (sd_X9_plan 0 hq) dL_law_720 rfl (rest := [.int v1]) rfl (Nat.le_of_ble_eq_true rfl) hJ1 fun v2 h3 H3 locs3 hq2 hJ3 => ?_
  obtain ⟨e1, hs3⟩ := hq2
  exact lv_icmp_eq (pc := 723) (tgt := 1416) E.1.1 E.1.2.1 dL_law_723 (by decide) (fun _ => kk h1 h3 H3 locs3 hJ3 hs3) (fun z => absurd e1 z)
theorem lc_15 (E : lw_E p s m meth c b L xs X Y) (hl : lw_L X Y b i ls) (hi : i + 6 ≤ L) (hJ : lw_J X zKC zNC h Y zKR zNR h2 s H locs) (hs : Sim h h2) (kk : ∀ (h' h2' : zz_Hp) (H' : Heap) (locs' : List Loc), lw_J X zKC zNC h' Y zKR zNR h2' s H' locs' → Sim h' h2' → lw_W p l e s m b below meth c Q H' locs' 1416 ls []) : lw_W p l e s m b below meth c Q H locs 728 ls [] := by
  refine lw_a1 (pc := 728) E hl dL_law_728 ?_
  refine lw_ld (pc := 729) E hl hJ.2.2.2.2.2.2.2 (j := 1) rfl (by omega) dL_law_729 dL_law_730 dL_law_731 dL_law_732 dL_law_733 ?_
  refine lw_cC (pc := 734) E hl (As := [.int (xs (i + 1))]) lk_L_79 (Nat.le_of_ble_eq_true rfl) (Nat.le_of_ble_eq_true rfl) (sd_X8_can 0 (eq_can hs (xs (i + 1)))) dL_law_734 rfl (rest := []) rfl (Nat.le_of_ble_eq_true rfl) hJ fun v1 h1 H1 locs1 hq hJ1 => ?_
  refine lw_a2 (pc := 737) E hl dL_law_737 ?_
  refine lw_ld (pc := 738) E hl hJ1.2.2.2.2.2.2.2 (j := 1) rfl (by omega) dL_law_738 dL_law_739 dL_law_740 dL_law_741 dL_law_742 ?_
  refine lw_cR (pc := 743) E hl (As := [.int (xs (i + 1))]) lk_L_82 (Nat.le_of_ble_eq_true rfl) (Nat.le_of_ble_eq_true rfl) (sd_X9_can 0 hq) dL_law_743 rfl (rest := [.int v1]) rfl (Nat.le_of_ble_eq_true rfl) hJ1 fun v2 h3 H3 locs3 hq2 hJ3 => ?_
  obtain ⟨e1, hs3⟩ := hq2
  exact lv_icmp_eq (pc := 746) (tgt := 1416) E.1.1 E.1.2.1 dL_law_746 (by decide) (fun _ => kk h1 h3 H3 locs3 hJ3 hs3) (fun z => absurd e1 z)
theorem lc_16 (E : lw_E p s m meth c b L xs X Y) (hl : lw_L X Y b i ls) (hi : i + 6 ≤ L) (hJ : lw_J X zKC zNC h Y zKR zNR h2 s H locs) (hs : Sim h h2) (kk : ∀ (h' h2' : zz_Hp) (H' : Heap) (locs' : List Loc), lw_J X zKC zNC h' Y zKR zNR h2' s H' locs' → Sim h' h2' → lw_W p l e s m b below meth c Q H' locs' 1416 ls []) : lw_W p l e s m b below meth c Q H locs 751 ls [] := by
  refine lw_a1 (pc := 751) E hl dL_law_751 ?_
  refine lw_ld (pc := 752) E hl hJ.2.2.2.2.2.2.2 (j := 1) rfl (by omega) dL_law_752 dL_law_753 dL_law_754 dL_law_755 dL_law_756 ?_
  refine lw_ld (pc := 757) E hl hJ.2.2.2.2.2.2.2 (j := 2) rfl (by omega) dL_law_757 dL_law_758 dL_law_759 dL_law_760 dL_law_761 ?_
  refine lw_ld (pc := 762) E hl hJ.2.2.2.2.2.2.2 (j := 3) rfl (by omega) dL_law_762 dL_law_763 dL_law_764 dL_law_765 dL_law_766 ?_
  refine lw_cC (pc := 767) E hl (As := [.int (xs (i + 1)), .int (xs (i + 2)), .int (xs (i + 3))]) lk_L_83 (Nat.le_of_ble_eq_true rfl) (Nat.le_of_ble_eq_true rfl) (sd_X8_alike 0 (eq_alike hs (xs (i + 1)) (xs (i + 2)) (xs (i + 3)))) dL_law_767 rfl (rest := []) rfl (Nat.le_of_ble_eq_true rfl) hJ fun v1 h1 H1 locs1 hq hJ1 => ?_
  refine lw_a2 (pc := 770) E hl dL_law_770 ?_
  refine lw_ld (pc := 771) E hl hJ1.2.2.2.2.2.2.2 (j := 1) rfl (by omega) dL_law_771 dL_law_772 dL_law_773 dL_law_774 dL_law_775 ?_
  refine lw_ld (pc := 776) E hl hJ1.2.2.2.2.2.2.2 (j := 2) rfl (by omega) dL_law_776 dL_law_777 dL_law_778 dL_law_779 dL_law_780 ?_
  refine lw_ld (pc := 781) E hl hJ1.2.2.2.2.2.2.2 (j := 3) rfl (by omega) dL_law_781 dL_law_782 dL_law_783 dL_law_784 dL_law_785 ?_
  refine lw_cR (pc := 786) E hl (As := [.int (xs (i + 1)), .int (xs (i + 2)), .int (xs (i + 3))]) lk_L_86 (Nat.le_of_ble_eq_true rfl) (Nat.le_of_ble_eq_true rfl) (sd_X9_alike 0 hq) dL_law_786 rfl (rest := [.int v1]) rfl (Nat.le_of_ble_eq_true rfl) hJ1 fun v2 h3 H3 locs3 hq2 hJ3 => ?_
  obtain ⟨e1, hs3⟩ := hq2
  exact lv_icmp_eq (pc := 789) (tgt := 1416) E.1.1 E.1.2.1 dL_law_789 (by decide) (fun _ => kk h1 h3 H3 locs3 hJ3 hs3) (fun z => absurd e1 z)
theorem lc_17 (E : lw_E p s m meth c b L xs X Y) (hl : lw_L X Y b i ls) (hi : i + 6 ≤ L) (hJ : lw_J X zKC zNC h Y zKR zNR h2 s H locs) (hs : Sim h h2) (kk : ∀ (h' h2' : zz_Hp) (H' : Heap) (locs' : List Loc), lw_J X zKC zNC h' Y zKR zNR h2' s H' locs' → Sim h' h2' → lw_W p l e s m b below meth c Q H' locs' 1416 ls []) : lw_W p l e s m b below meth c Q H locs 794 ls [] := by
  refine lw_a1 (pc := 794) E hl dL_law_794 ?_
  refine lw_ld (pc := 795) E hl hJ.2.2.2.2.2.2.2 (j := 1) rfl (by omega) dL_law_795 dL_law_796 dL_law_797 dL_law_798 dL_law_799 ?_
  refine lw_cC (pc := 800) E hl (As := [.int (xs (i + 1))]) lk_L_87 (Nat.le_of_ble_eq_true rfl) (Nat.le_of_ble_eq_true rfl) (sd_X8_inside 0 (eq_inside hs (xs (i + 1)))) dL_law_800 rfl (rest := []) rfl (Nat.le_of_ble_eq_true rfl) hJ fun v1 h1 H1 locs1 hq hJ1 => ?_
  refine lw_a2 (pc := 803) E hl dL_law_803 ?_
  refine lw_ld (pc := 804) E hl hJ1.2.2.2.2.2.2.2 (j := 1) rfl (by omega) dL_law_804 dL_law_805 dL_law_806 dL_law_807 dL_law_808 ?_
  refine lw_cR (pc := 809) E hl (As := [.int (xs (i + 1))]) lk_L_90 (Nat.le_of_ble_eq_true rfl) (Nat.le_of_ble_eq_true rfl) (sd_X9_inside 0 hq) dL_law_809 rfl (rest := [.int v1]) rfl (Nat.le_of_ble_eq_true rfl) hJ1 fun v2 h3 H3 locs3 hq2 hJ3 => ?_
  obtain ⟨e1, hs3⟩ := hq2
  exact lv_icmp_eq (pc := 812) (tgt := 1416) E.1.1 E.1.2.1 dL_law_812 (by decide) (fun _ => kk h1 h3 H3 locs3 hJ3 hs3) (fun z => absurd e1 z)
theorem lc_18 (E : lw_E p s m meth c b L xs X Y) (hl : lw_L X Y b i ls) (hi : i + 6 ≤ L) (hJ : lw_J X zKC zNC h Y zKR zNR h2 s H locs) (hs : Sim h h2) (kk : ∀ (h' h2' : zz_Hp) (H' : Heap) (locs' : List Loc), lw_J X zKC zNC h' Y zKR zNR h2' s H' locs' → Sim h' h2' → lw_W p l e s m b below meth c Q H' locs' 1416 ls []) : lw_W p l e s m b below meth c Q H locs 817 ls [] := by
  refine lw_a1 (pc := 817) E hl dL_law_817 ?_
  refine lw_ld (pc := 818) E hl hJ.2.2.2.2.2.2.2 (j := 1) rfl (by omega) dL_law_818 dL_law_819 dL_law_820 dL_law_821 dL_law_822 ?_
  refine lw_ld (pc := 823) E hl hJ.2.2.2.2.2.2.2 (j := 2) rfl (by omega) dL_law_823 dL_law_824 dL_law_825 dL_law_826 dL_law_827 ?_
  refine lw_cC (pc := 828) E hl (As := [.int (xs (i + 1)), .int (xs (i + 2))]) lk_L_91 (Nat.le_of_ble_eq_true rfl) (Nat.le_of_ble_eq_true rfl) (sd_X8_make 0 (eq_make hs (xs (i + 1)) (xs (i + 2)))) dL_law_828 rfl (rest := []) rfl (Nat.le_of_ble_eq_true rfl) hJ fun v1 h1 H1 locs1 hq hJ1 => ?_
  refine lw_a2 (pc := 831) E hl dL_law_831 ?_
  refine lw_ld (pc := 832) E hl hJ1.2.2.2.2.2.2.2 (j := 1) rfl (by omega) dL_law_832 dL_law_833 dL_law_834 dL_law_835 dL_law_836 ?_
  refine lw_ld (pc := 837) E hl hJ1.2.2.2.2.2.2.2 (j := 2) rfl (by omega) dL_law_837 dL_law_838 dL_law_839 dL_law_840 dL_law_841 ?_
  refine lw_cR (pc := 842) E hl (As := [.int (xs (i + 1)), .int (xs (i + 2))]) lk_L_94 (Nat.le_of_ble_eq_true rfl) (Nat.le_of_ble_eq_true rfl) (sd_X9_make 0 hq) dL_law_842 rfl (rest := [.int v1]) rfl (Nat.le_of_ble_eq_true rfl) hJ1 fun v2 h3 H3 locs3 hq2 hJ3 => ?_
  obtain ⟨e1, hs3⟩ := hq2
  exact lv_icmp_eq (pc := 845) (tgt := 1416) E.1.1 E.1.2.1 dL_law_845 (by decide) (fun _ => kk h1 h3 H3 locs3 hJ3 hs3) (fun z => absurd e1 z)
theorem lc_19 (E : lw_E p s m meth c b L xs X Y) (hl : lw_L X Y b i ls) (hi : i + 6 ≤ L) (hJ : lw_J X zKC zNC h Y zKR zNR h2 s H locs) (hs : Sim h h2) (kk : ∀ (h' h2' : zz_Hp) (H' : Heap) (locs' : List Loc), lw_J X zKC zNC h' Y zKR zNR h2' s H' locs' → Sim h' h2' → lw_W p l e s m b below meth c Q H' locs' 1416 ls []) : lw_W p l e s m b below meth c Q H locs 850 ls [] := by
  refine lw_a1 (pc := 850) E hl dL_law_850 ?_
  refine lw_ld (pc := 851) E hl hJ.2.2.2.2.2.2.2 (j := 1) rfl (by omega) dL_law_851 dL_law_852 dL_law_853 dL_law_854 dL_law_855 ?_
  refine lw_ld (pc := 856) E hl hJ.2.2.2.2.2.2.2 (j := 2) rfl (by omega) dL_law_856 dL_law_857 dL_law_858 dL_law_859 dL_law_860 ?_
  refine lw_ld (pc := 861) E hl hJ.2.2.2.2.2.2.2 (j := 3) rfl (by omega) dL_law_861 dL_law_862 dL_law_863 dL_law_864 dL_law_865 ?_
  refine lw_cC (pc := 866) E hl (As := [.int (xs (i + 1)), .int (xs (i + 2)), .int (xs (i + 3))]) lk_L_95 (Nat.le_of_ble_eq_true rfl) (Nat.le_of_ble_eq_true rfl) (sd_X8_lay 0 (eq_lay hs (xs (i + 1)) (xs (i + 2)) (xs (i + 3)))) dL_law_866 rfl (rest := []) rfl (Nat.le_of_ble_eq_true rfl) hJ fun v1 h1 H1 locs1 hq hJ1 => ?_
  refine lw_a2 (pc := 869) E hl dL_law_869 ?_
  refine lw_ld (pc := 870) E hl hJ1.2.2.2.2.2.2.2 (j := 1) rfl (by omega) dL_law_870 dL_law_871 dL_law_872 dL_law_873 dL_law_874 ?_
  refine lw_ld (pc := 875) E hl hJ1.2.2.2.2.2.2.2 (j := 2) rfl (by omega) dL_law_875 dL_law_876 dL_law_877 dL_law_878 dL_law_879 ?_
  refine lw_ld (pc := 880) E hl hJ1.2.2.2.2.2.2.2 (j := 3) rfl (by omega) dL_law_880 dL_law_881 dL_law_882 dL_law_883 dL_law_884 ?_
  refine lw_cR (pc := 885) E hl (As := [.int (xs (i + 1)), .int (xs (i + 2)), .int (xs (i + 3))]) lk_L_98 (Nat.le_of_ble_eq_true rfl) (Nat.le_of_ble_eq_true rfl) (sd_X9_lay 0 hq) dL_law_885 rfl (rest := [.int v1]) rfl (Nat.le_of_ble_eq_true rfl) hJ1 fun v2 h3 H3 locs3 hq2 hJ3 => ?_
  obtain ⟨e1, hs3⟩ := hq2
  exact lv_icmp_eq (pc := 888) (tgt := 1416) E.1.1 E.1.2.1 dL_law_888 (by decide) (fun _ => kk h1 h3 H3 locs3 hJ3 hs3) (fun z => absurd e1 z)
theorem lc_20 (E : lw_E p s m meth c b L xs X Y) (hl : lw_L X Y b i ls) (hi : i + 6 ≤ L) (hJ : lw_J X zKC zNC h Y zKR zNR h2 s H locs) (hs : Sim h h2) (kk : ∀ (h' h2' : zz_Hp) (H' : Heap) (locs' : List Loc), lw_J X zKC zNC h' Y zKR zNR h2' s H' locs' → Sim h' h2' → lw_W p l e s m b below meth c Q H' locs' 1416 ls []) : lw_W p l e s m b below meth c Q H locs 893 ls [] := by
  refine lw_a1 (pc := 893) E hl dL_law_893 ?_
  refine lw_ld (pc := 894) E hl hJ.2.2.2.2.2.2.2 (j := 1) rfl (by omega) dL_law_894 dL_law_895 dL_law_896 dL_law_897 dL_law_898 ?_
  refine lw_cC (pc := 899) E hl (As := [.int (xs (i + 1))]) lk_L_99 (Nat.le_of_ble_eq_true rfl) (Nat.le_of_ble_eq_true rfl) (sd_X8_skew 0 (eq_skew hs (xs (i + 1)))) dL_law_899 rfl (rest := []) rfl (Nat.le_of_ble_eq_true rfl) hJ fun v1 h1 H1 locs1 hq hJ1 => ?_
  refine lw_a2 (pc := 902) E hl dL_law_902 ?_
  refine lw_ld (pc := 903) E hl hJ1.2.2.2.2.2.2.2 (j := 1) rfl (by omega) dL_law_903 dL_law_904 dL_law_905 dL_law_906 dL_law_907 ?_
  refine lw_cR (pc := 908) E hl (As := [.int (xs (i + 1))]) lk_L_102 (Nat.le_of_ble_eq_true rfl) (Nat.le_of_ble_eq_true rfl) (sd_X9_skew 0 hq) dL_law_908 rfl (rest := [.int v1]) rfl (Nat.le_of_ble_eq_true rfl) hJ1 fun v2 h3 H3 locs3 hq2 hJ3 => ?_
  obtain ⟨e1, hs3⟩ := hq2
  exact lv_icmp_eq (pc := 911) (tgt := 1416) E.1.1 E.1.2.1 dL_law_911 (by decide) (fun _ => kk h1 h3 H3 locs3 hJ3 hs3) (fun z => absurd e1 z)
theorem lc_21 (E : lw_E p s m meth c b L xs X Y) (hl : lw_L X Y b i ls) (hi : i + 6 ≤ L) (hJ : lw_J X zKC zNC h Y zKR zNR h2 s H locs) (hs : Sim h h2) (kk : ∀ (h' h2' : zz_Hp) (H' : Heap) (locs' : List Loc), lw_J X zKC zNC h' Y zKR zNR h2' s H' locs' → Sim h' h2' → lw_W p l e s m b below meth c Q H' locs' 1416 ls []) : lw_W p l e s m b below meth c Q H locs 916 ls [] := by
  refine lw_a1 (pc := 916) E hl dL_law_916 ?_
  refine lw_cC (pc := 917) E hl (As := []) lk_L_103 (Nat.le_of_ble_eq_true rfl) (Nat.le_of_ble_eq_true rfl) (sd_X8_worst 0 (eq_worst hs)) dL_law_917 rfl (rest := []) rfl (Nat.le_of_ble_eq_true rfl) hJ fun v1 h1 H1 locs1 hq hJ1 => ?_
  refine lw_a2 (pc := 920) E hl dL_law_920 ?_
  refine lw_cR (pc := 921) E hl (As := []) lk_L_106 (Nat.le_of_ble_eq_true rfl) (Nat.le_of_ble_eq_true rfl) (sd_X9_worst 0 hq) dL_law_921 rfl (rest := [.int v1]) rfl (Nat.le_of_ble_eq_true rfl) hJ1 fun v2 h3 H3 locs3 hq2 hJ3 => ?_
  obtain ⟨e1, hs3⟩ := hq2
  exact lv_icmp_eq (pc := 924) (tgt := 1416) E.1.1 E.1.2.1 dL_law_924 (by decide) (fun _ => kk h1 h3 H3 locs3 hJ3 hs3) (fun z => absurd e1 z)
theorem lc_22 (E : lw_E p s m meth c b L xs X Y) (hl : lw_L X Y b i ls) (hi : i + 6 ≤ L) (hJ : lw_J X zKC zNC h Y zKR zNR h2 s H locs) (hs : Sim h h2) (kk : ∀ (h' h2' : zz_Hp) (H' : Heap) (locs' : List Loc), lw_J X zKC zNC h' Y zKR zNR h2' s H' locs' → Sim h' h2' → lw_W p l e s m b below meth c Q H' locs' 1416 ls []) : lw_W p l e s m b below meth c Q H locs 929 ls [] := by
  refine lw_a1 (pc := 929) E hl dL_law_929 ?_
  refine lw_ld (pc := 930) E hl hJ.2.2.2.2.2.2.2 (j := 1) rfl (by omega) dL_law_930 dL_law_931 dL_law_932 dL_law_933 dL_law_934 ?_
  refine lw_cC (pc := 935) E hl (As := [.int (xs (i + 1))]) lk_L_107 (Nat.le_of_ble_eq_true rfl) (Nat.le_of_ble_eq_true rfl) (sd_X8_order 0 (eq_order hs (xs (i + 1)))) dL_law_935 rfl (rest := []) rfl (Nat.le_of_ble_eq_true rfl) hJ fun v1 h1 H1 locs1 hq hJ1 => ?_
  refine lw_a2 (pc := 938) E hl dL_law_938 ?_
  refine lw_ld (pc := 939) E hl hJ1.2.2.2.2.2.2.2 (j := 1) rfl (by omega) dL_law_939 dL_law_940 dL_law_941 dL_law_942 dL_law_943 ?_
  refine lw_cR (pc := 944) E hl (As := [.int (xs (i + 1))]) lk_L_110 (Nat.le_of_ble_eq_true rfl) (Nat.le_of_ble_eq_true rfl) (sd_X9_order 0 hq) dL_law_944 rfl (rest := [.int v1]) rfl (Nat.le_of_ble_eq_true rfl) hJ1 fun v2 h3 H3 locs3 hq2 hJ3 => ?_
  obtain ⟨e1, hs3⟩ := hq2
  exact lv_icmp_eq (pc := 947) (tgt := 1416) E.1.1 E.1.2.1 dL_law_947 (by decide) (fun _ => kk h1 h3 H3 locs3 hJ3 hs3) (fun z => absurd e1 z)
theorem lc_23 (E : lw_E p s m meth c b L xs X Y) (hl : lw_L X Y b i ls) (hi : i + 6 ≤ L) (hJ : lw_J X zKC zNC h Y zKR zNR h2 s H locs) (hs : Sim h h2) (kk : ∀ (h' h2' : zz_Hp) (H' : Heap) (locs' : List Loc), lw_J X zKC zNC h' Y zKR zNR h2' s H' locs' → Sim h' h2' → lw_W p l e s m b below meth c Q H' locs' 1416 ls []) : lw_W p l e s m b below meth c Q H locs 952 ls [] := by
  refine lw_a1 (pc := 952) E hl dL_law_952 ?_
  refine lw_cC (pc := 953) E hl (As := []) lk_L_111 (Nat.le_of_ble_eq_true rfl) (Nat.le_of_ble_eq_true rfl) (sd_X8_turned 0 (eq_turned hs)) dL_law_953 rfl (rest := []) rfl (Nat.le_of_ble_eq_true rfl) hJ fun v1 h1 H1 locs1 hq hJ1 => ?_
  refine lw_a2 (pc := 956) E hl dL_law_956 ?_
  refine lw_cR (pc := 957) E hl (As := []) lk_L_114 (Nat.le_of_ble_eq_true rfl) (Nat.le_of_ble_eq_true rfl) (sd_X9_turned 0 hq) dL_law_957 rfl (rest := [.int v1]) rfl (Nat.le_of_ble_eq_true rfl) hJ1 fun v2 h3 H3 locs3 hq2 hJ3 => ?_
  obtain ⟨e1, hs3⟩ := hq2
  exact lv_icmp_eq (pc := 960) (tgt := 1416) E.1.1 E.1.2.1 dL_law_960 (by decide) (fun _ => kk h1 h3 H3 locs3 hJ3 hs3) (fun z => absurd e1 z)
theorem lc_24 (E : lw_E p s m meth c b L xs X Y) (hl : lw_L X Y b i ls) (hi : i + 6 ≤ L) (hJ : lw_J X zKC zNC h Y zKR zNR h2 s H locs) (hs : Sim h h2) (kk : ∀ (h' h2' : zz_Hp) (H' : Heap) (locs' : List Loc), lw_J X zKC zNC h' Y zKR zNR h2' s H' locs' → Sim h' h2' → lw_W p l e s m b below meth c Q H' locs' 1416 ls []) : lw_W p l e s m b below meth c Q H locs 965 ls [] := by
  refine lw_a1 (pc := 965) E hl dL_law_965 ?_
  refine lw_ld (pc := 966) E hl hJ.2.2.2.2.2.2.2 (j := 1) rfl (by omega) dL_law_966 dL_law_967 dL_law_968 dL_law_969 dL_law_970 ?_
  refine lw_ld (pc := 971) E hl hJ.2.2.2.2.2.2.2 (j := 2) rfl (by omega) dL_law_971 dL_law_972 dL_law_973 dL_law_974 dL_law_975 ?_
  refine lw_ld (pc := 976) E hl hJ.2.2.2.2.2.2.2 (j := 3) rfl (by omega) dL_law_976 dL_law_977 dL_law_978 dL_law_979 dL_law_980 ?_
  refine lw_ld (pc := 981) E hl hJ.2.2.2.2.2.2.2 (j := 4) rfl (by omega) dL_law_981 dL_law_982 dL_law_983 dL_law_984 dL_law_985 ?_
  refine lw_ld (pc := 986) E hl hJ.2.2.2.2.2.2.2 (j := 5) rfl (by omega) dL_law_986 dL_law_987 dL_law_988 dL_law_989 dL_law_990 ?_
  refine lw_cC (pc := 991) E hl (As := [.int (xs (i + 1)), .int (xs (i + 2)), .int (xs (i + 3)), .int (xs (i + 4)), .int (xs (i + 5))]) lk_L_115 (Nat.le_of_ble_eq_true rfl) (Nat.le_of_ble_eq_true rfl) (sd_X8_fits 0 (eq_fits hs (xs (i + 1)) (xs (i + 2)) (xs (i + 3)) (xs (i + 4)) (xs (i + 5)))) dL_law_991 rfl (rest := []) rfl (Nat.le_of_ble_eq_true rfl) hJ fun v1 h1 H1 locs1 hq hJ1 => ?_
  refine lw_a2 (pc := 994) E hl dL_law_994 ?_
  refine lw_ld (pc := 995) E hl hJ1.2.2.2.2.2.2.2 (j := 1) rfl (by omega) dL_law_995 dL_law_996 dL_law_997 dL_law_998 dL_law_999 ?_
  refine lw_ld (pc := 1000) E hl hJ1.2.2.2.2.2.2.2 (j := 2) rfl (by omega) dL_law_1000 dL_law_1001 dL_law_1002 dL_law_1003 dL_law_1004 ?_
  refine lw_ld (pc := 1005) E hl hJ1.2.2.2.2.2.2.2 (j := 3) rfl (by omega) dL_law_1005 dL_law_1006 dL_law_1007 dL_law_1008 dL_law_1009 ?_
  refine lw_ld (pc := 1010) E hl hJ1.2.2.2.2.2.2.2 (j := 4) rfl (by omega) dL_law_1010 dL_law_1011 dL_law_1012 dL_law_1013 dL_law_1014 ?_
  refine lw_ld (pc := 1015) E hl hJ1.2.2.2.2.2.2.2 (j := 5) rfl (by omega) dL_law_1015 dL_law_1016 dL_law_1017 dL_law_1018 dL_law_1019 ?_
  refine lw_cR (pc := 1020) E hl (As := [.int (xs (i + 1)), .int (xs (i + 2)), .int (xs (i + 3)), .int (xs (i + 4)), .int (xs (i + 5))]) lk_L_119 (Nat.le_of_ble_eq_true rfl) (Nat.le_of_ble_eq_true rfl) (sd_X9_fits 0 hq) dL_law_1020 rfl (rest := [.int v1]) rfl (Nat.le_of_ble_eq_true rfl) hJ1 fun v2 h3 H3 locs3 hq2 hJ3 => ?_
  obtain ⟨e1, hs3⟩ := hq2
  exact lv_icmp_eq (pc := 1023) (tgt := 1416) E.1.1 E.1.2.1 dL_law_1023 (by decide) (fun _ => kk h1 h3 H3 locs3 hJ3 hs3) (fun z => absurd e1 z)
theorem lc_25 (E : lw_E p s m meth c b L xs X Y) (hl : lw_L X Y b i ls) (hi : i + 6 ≤ L) (hJ : lw_J X zKC zNC h Y zKR zNR h2 s H locs) (hs : Sim h h2) (kk : ∀ (h' h2' : zz_Hp) (H' : Heap) (locs' : List Loc), lw_J X zKC zNC h' Y zKR zNR h2' s H' locs' → Sim h' h2' → lw_W p l e s m b below meth c Q H' locs' 1416 ls []) : lw_W p l e s m b below meth c Q H locs 1028 ls [] := by
  refine lw_a1 (pc := 1028) E hl dL_law_1028 ?_
  refine lw_ld (pc := 1029) E hl hJ.2.2.2.2.2.2.2 (j := 1) rfl (by omega) dL_law_1029 dL_law_1030 dL_law_1031 dL_law_1032 dL_law_1033 ?_
  refine lw_ld (pc := 1034) E hl hJ.2.2.2.2.2.2.2 (j := 2) rfl (by omega) dL_law_1034 dL_law_1035 dL_law_1036 dL_law_1037 dL_law_1038 ?_
  refine lw_cC (pc := 1039) E hl (As := [.int (xs (i + 1)), .int (xs (i + 2))]) lk_L_120 (Nat.le_of_ble_eq_true rfl) (Nat.le_of_ble_eq_true rfl) (sd_X8_job 0 (eq_job hs (xs (i + 1)) (xs (i + 2)))) dL_law_1039 rfl (rest := []) rfl (Nat.le_of_ble_eq_true rfl) hJ fun v1 h1 H1 locs1 hq hJ1 => ?_
  refine lw_a2 (pc := 1042) E hl dL_law_1042 ?_
  refine lw_ld (pc := 1043) E hl hJ1.2.2.2.2.2.2.2 (j := 1) rfl (by omega) dL_law_1043 dL_law_1044 dL_law_1045 dL_law_1046 dL_law_1047 ?_
  refine lw_ld (pc := 1048) E hl hJ1.2.2.2.2.2.2.2 (j := 2) rfl (by omega) dL_law_1048 dL_law_1049 dL_law_1050 dL_law_1051 dL_law_1052 ?_
  refine lw_cR (pc := 1053) E hl (As := [.int (xs (i + 1)), .int (xs (i + 2))]) lk_L_123 (Nat.le_of_ble_eq_true rfl) (Nat.le_of_ble_eq_true rfl) (sd_X9_job 0 hq) dL_law_1053 rfl (rest := [.int v1]) rfl (Nat.le_of_ble_eq_true rfl) hJ1 fun v2 h3 H3 locs3 hq2 hJ3 => ?_
  obtain ⟨e1, hs3⟩ := hq2
  exact lv_icmp_eq (pc := 1056) (tgt := 1416) E.1.1 E.1.2.1 dL_law_1056 (by decide) (fun _ => kk h1 h3 H3 locs3 hJ3 hs3) (fun z => absurd e1 z)
theorem lc_26 (E : lw_E p s m meth c b L xs X Y) (hl : lw_L X Y b i ls) (hi : i + 6 ≤ L) (hJ : lw_J X zKC zNC h Y zKR zNR h2 s H locs) (hs : Sim h h2) (kk : ∀ (h' h2' : zz_Hp) (H' : Heap) (locs' : List Loc), lw_J X zKC zNC h' Y zKR zNR h2' s H' locs' → Sim h' h2' → lw_W p l e s m b below meth c Q H' locs' 1416 ls []) : lw_W p l e s m b below meth c Q H locs 1061 ls [] := by
  refine lw_a1 (pc := 1061) E hl dL_law_1061 ?_
  refine lw_cC (pc := 1062) E hl (As := []) lk_L_124 (Nat.le_of_ble_eq_true rfl) (Nat.le_of_ble_eq_true rfl) (sd_X8_do1 0 (eq_do1 hs)) dL_law_1062 rfl (rest := []) rfl (Nat.le_of_ble_eq_true rfl) hJ fun v1 h1 H1 locs1 hq hJ1 => ?_
  refine lw_a2 (pc := 1065) E hl dL_law_1065 ?_
  refine lw_cR (pc := 1066) E hl (As := []) lk_L_127 (Nat.le_of_ble_eq_true rfl) (Nat.le_of_ble_eq_true rfl) (sd_X9_do1 0 hq) dL_law_1066 rfl (rest := [.int v1]) rfl (Nat.le_of_ble_eq_true rfl) hJ1 fun v2 h3 H3 locs3 hq2 hJ3 => ?_
  obtain ⟨e1, hs3⟩ := hq2
  exact lv_icmp_eq (pc := 1069) (tgt := 1416) E.1.1 E.1.2.1 dL_law_1069 (by decide) (fun _ => kk h1 h3 H3 locs3 hJ3 hs3) (fun z => absurd e1 z)
theorem lc_27 (E : lw_E p s m meth c b L xs X Y) (hl : lw_L X Y b i ls) (hi : i + 6 ≤ L) (hJ : lw_J X zKC zNC h Y zKR zNR h2 s H locs) (hs : Sim h h2) (kk : ∀ (h' h2' : zz_Hp) (H' : Heap) (locs' : List Loc), lw_J X zKC zNC h' Y zKR zNR h2' s H' locs' → Sim h' h2' → lw_W p l e s m b below meth c Q H' locs' 1416 ls []) : lw_W p l e s m b below meth c Q H locs 1074 ls [] := by
  refine lw_a1 (pc := 1074) E hl dL_law_1074 ?_
  refine lw_ld (pc := 1075) E hl hJ.2.2.2.2.2.2.2 (j := 1) rfl (by omega) dL_law_1075 dL_law_1076 dL_law_1077 dL_law_1078 dL_law_1079 ?_
  refine lw_cC (pc := 1080) E hl (As := [.int (xs (i + 1))]) lk_L_128 (Nat.le_of_ble_eq_true rfl) (Nat.le_of_ble_eq_true rfl) (sd_X8_strike 0 (eq_strike hs (xs (i + 1)))) dL_law_1080 rfl (rest := []) rfl (Nat.le_of_ble_eq_true rfl) hJ fun v1 h1 H1 locs1 hq hJ1 => ?_
  refine lw_a2 (pc := 1083) E hl dL_law_1083 ?_
  refine lw_ld (pc := 1084) E hl hJ1.2.2.2.2.2.2.2 (j := 1) rfl (by omega) dL_law_1084 dL_law_1085 dL_law_1086 dL_law_1087 dL_law_1088 ?_
  refine lw_cR (pc := 1089) E hl (As := [.int (xs (i + 1))]) lk_L_131 (Nat.le_of_ble_eq_true rfl) (Nat.le_of_ble_eq_true rfl) (sd_X9_strike 0 hq) dL_law_1089 rfl (rest := [.int v1]) rfl (Nat.le_of_ble_eq_true rfl) hJ1 fun v2 h3 H3 locs3 hq2 hJ3 => ?_
  obtain ⟨e1, hs3⟩ := hq2
  exact lv_icmp_eq (pc := 1092) (tgt := 1416) E.1.1 E.1.2.1 dL_law_1092 (by decide) (fun _ => kk h1 h3 H3 locs3 hJ3 hs3) (fun z => absurd e1 z)
theorem lc_28 (E : lw_E p s m meth c b L xs X Y) (hl : lw_L X Y b i ls) (hi : i + 6 ≤ L) (hJ : lw_J X zKC zNC h Y zKR zNR h2 s H locs) (hs : Sim h h2) (kk : ∀ (h' h2' : zz_Hp) (H' : Heap) (locs' : List Loc), lw_J X zKC zNC h' Y zKR zNR h2' s H' locs' → Sim h' h2' → lw_W p l e s m b below meth c Q H' locs' 1416 ls []) : lw_W p l e s m b below meth c Q H locs 1097 ls [] := by
  refine lw_a1 (pc := 1097) E hl dL_law_1097 ?_
  refine lw_cC (pc := 1098) E hl (As := []) lk_L_132 (Nat.le_of_ble_eq_true rfl) (Nat.le_of_ble_eq_true rfl) (sd_X8_about 0 (eq_about hs)) dL_law_1098 rfl (rest := []) rfl (Nat.le_of_ble_eq_true rfl) hJ fun v1 h1 H1 locs1 hq hJ1 => ?_
  refine lw_a2 (pc := 1101) E hl dL_law_1101 ?_
  refine lw_cR (pc := 1102) E hl (As := []) lk_L_135 (Nat.le_of_ble_eq_true rfl) (Nat.le_of_ble_eq_true rfl) (sd_X9_about 0 hq) dL_law_1102 rfl (rest := [.int v1]) rfl (Nat.le_of_ble_eq_true rfl) hJ1 fun v2 h3 H3 locs3 hq2 hJ3 => ?_
  obtain ⟨e1, hs3⟩ := hq2
  exact lv_icmp_eq (pc := 1105) (tgt := 1416) E.1.1 E.1.2.1 dL_law_1105 (by decide) (fun _ => kk h1 h3 H3 locs3 hJ3 hs3) (fun z => absurd e1 z)
theorem lc_29 (E : lw_E p s m meth c b L xs X Y) (hl : lw_L X Y b i ls) (hi : i + 6 ≤ L) (hJ : lw_J X zKC zNC h Y zKR zNR h2 s H locs) (hs : Sim h h2) (kk : ∀ (h' h2' : zz_Hp) (H' : Heap) (locs' : List Loc), lw_J X zKC zNC h' Y zKR zNR h2' s H' locs' → Sim h' h2' → lw_W p l e s m b below meth c Q H' locs' 1416 ls []) : lw_W p l e s m b below meth c Q H locs 1110 ls [] := by
  refine lw_a1 (pc := 1110) E hl dL_law_1110 ?_
  refine lw_ld (pc := 1111) E hl hJ.2.2.2.2.2.2.2 (j := 1) rfl (by omega) dL_law_1111 dL_law_1112 dL_law_1113 dL_law_1114 dL_law_1115 ?_
  refine lw_ld (pc := 1116) E hl hJ.2.2.2.2.2.2.2 (j := 2) rfl (by omega) dL_law_1116 dL_law_1117 dL_law_1118 dL_law_1119 dL_law_1120 ?_
  refine lw_cC (pc := 1121) E hl (As := [.int (xs (i + 1)), .int (xs (i + 2))]) lk_L_136 (Nat.le_of_ble_eq_true rfl) (Nat.le_of_ble_eq_true rfl) (sd_X8_jobOf 0 (eq_jobOf hs (xs (i + 1)) (xs (i + 2)))) dL_law_1121 rfl (rest := []) rfl (Nat.le_of_ble_eq_true rfl) hJ fun v1 h1 H1 locs1 hq hJ1 => ?_
  refine lw_a2 (pc := 1124) E hl dL_law_1124 ?_
  refine lw_ld (pc := 1125) E hl hJ1.2.2.2.2.2.2.2 (j := 1) rfl (by omega) dL_law_1125 dL_law_1126 dL_law_1127 dL_law_1128 dL_law_1129 ?_
  refine lw_ld (pc := 1130) E hl hJ1.2.2.2.2.2.2.2 (j := 2) rfl (by omega) dL_law_1130 dL_law_1131 dL_law_1132 dL_law_1133 dL_law_1134 ?_
  refine lw_cR (pc := 1135) E hl (As := [.int (xs (i + 1)), .int (xs (i + 2))]) lk_L_139 (Nat.le_of_ble_eq_true rfl) (Nat.le_of_ble_eq_true rfl) (sd_X9_jobOf 0 hq) dL_law_1135 rfl (rest := [.int v1]) rfl (Nat.le_of_ble_eq_true rfl) hJ1 fun v2 h3 H3 locs3 hq2 hJ3 => ?_
  obtain ⟨e1, hs3⟩ := hq2
  exact lv_icmp_eq (pc := 1138) (tgt := 1416) E.1.1 E.1.2.1 dL_law_1138 (by decide) (fun _ => kk h1 h3 H3 locs3 hJ3 hs3) (fun z => absurd e1 z)
theorem lc_30 (E : lw_E p s m meth c b L xs X Y) (hl : lw_L X Y b i ls) (hi : i + 6 ≤ L) (hJ : lw_J X zKC zNC h Y zKR zNR h2 s H locs) (hs : Sim h h2) (kk : ∀ (h' h2' : zz_Hp) (H' : Heap) (locs' : List Loc), lw_J X zKC zNC h' Y zKR zNR h2' s H' locs' → Sim h' h2' → lw_W p l e s m b below meth c Q H' locs' 1416 ls []) : lw_W p l e s m b below meth c Q H locs 1143 ls [] := by
  refine lw_a1 (pc := 1143) E hl dL_law_1143 ?_
  refine lw_cC (pc := 1144) E hl (As := []) lk_L_140 (Nat.le_of_ble_eq_true rfl) (Nat.le_of_ble_eq_true rfl) (sd_X8_back 0 (eq_back hs)) dL_law_1144 rfl (rest := []) rfl (Nat.le_of_ble_eq_true rfl) hJ fun v1 h1 H1 locs1 hq hJ1 => ?_
  refine lw_a2 (pc := 1147) E hl dL_law_1147 ?_
  refine lw_cR (pc := 1148) E hl (As := []) lk_L_143 (Nat.le_of_ble_eq_true rfl) (Nat.le_of_ble_eq_true rfl) (sd_X9_back 0 hq) dL_law_1148 rfl (rest := [.int v1]) rfl (Nat.le_of_ble_eq_true rfl) hJ1 fun v2 h3 H3 locs3 hq2 hJ3 => ?_
  obtain ⟨e1, hs3⟩ := hq2
  exact lv_icmp_eq (pc := 1151) (tgt := 1416) E.1.1 E.1.2.1 dL_law_1151 (by decide) (fun _ => kk h1 h3 H3 locs3 hJ3 hs3) (fun z => absurd e1 z)
theorem lc_31 (E : lw_E p s m meth c b L xs X Y) (hl : lw_L X Y b i ls) (hi : i + 6 ≤ L) (hJ : lw_J X zKC zNC h Y zKR zNR h2 s H locs) (hs : Sim h h2) (kk : ∀ (h' h2' : zz_Hp) (H' : Heap) (locs' : List Loc), lw_J X zKC zNC h' Y zKR zNR h2' s H' locs' → Sim h' h2' → lw_W p l e s m b below meth c Q H' locs' 1416 ls []) : lw_W p l e s m b below meth c Q H locs 1156 ls [] := by
  refine lw_a1 (pc := 1156) E hl dL_law_1156 ?_
  refine lw_ld (pc := 1157) E hl hJ.2.2.2.2.2.2.2 (j := 1) rfl (by omega) dL_law_1157 dL_law_1158 dL_law_1159 dL_law_1160 dL_law_1161 ?_
  refine lw_cC (pc := 1162) E hl (As := [.int (xs (i + 1))]) lk_L_144 (Nat.le_of_ble_eq_true rfl) (Nat.le_of_ble_eq_true rfl) (sd_X8_feed 0 (eq_feed hs (xs (i + 1)))) dL_law_1162 rfl (rest := []) rfl (Nat.le_of_ble_eq_true rfl) hJ fun v1 h1 H1 locs1 hq hJ1 => ?_
  refine lw_a2 (pc := 1165) E hl dL_law_1165 ?_
  refine lw_ld (pc := 1166) E hl hJ1.2.2.2.2.2.2.2 (j := 1) rfl (by omega) dL_law_1166 dL_law_1167 dL_law_1168 dL_law_1169 dL_law_1170 ?_
  refine lw_cR (pc := 1171) E hl (As := [.int (xs (i + 1))]) lk_L_147 (Nat.le_of_ble_eq_true rfl) (Nat.le_of_ble_eq_true rfl) (sd_X9_feed 0 hq) dL_law_1171 rfl (rest := [.int v1]) rfl (Nat.le_of_ble_eq_true rfl) hJ1 fun v2 h3 H3 locs3 hq2 hJ3 => ?_
  obtain ⟨e1, hs3⟩ := hq2
  exact lv_icmp_eq (pc := 1174) (tgt := 1416) E.1.1 E.1.2.1 dL_law_1174 (by decide) (fun _ => kk h1 h3 H3 locs3 hJ3 hs3) (fun z => absurd e1 z)
theorem lc_32 (E : lw_E p s m meth c b L xs X Y) (hl : lw_L X Y b i ls) (hi : i + 6 ≤ L) (hJ : lw_J X zKC zNC h Y zKR zNR h2 s H locs) (hs : Sim h h2) (kk : ∀ (h' h2' : zz_Hp) (H' : Heap) (locs' : List Loc), lw_J X zKC zNC h' Y zKR zNR h2' s H' locs' → Sim h' h2' → lw_W p l e s m b below meth c Q H' locs' 1416 ls []) : lw_W p l e s m b below meth c Q H locs 1179 ls [] := by
  refine lw_a1 (pc := 1179) E hl dL_law_1179 ?_
  refine lw_cC (pc := 1180) E hl (As := []) lk_L_148 (Nat.le_of_ble_eq_true rfl) (Nat.le_of_ble_eq_true rfl) (sd_X8_wipe 0 (eq_wipe hs)) dL_law_1180 rfl (rest := []) rfl (Nat.le_of_ble_eq_true rfl) hJ fun v1 h1 H1 locs1 hq hJ1 => ?_
  refine lw_a2 (pc := 1183) E hl dL_law_1183 ?_
  refine lw_cR (pc := 1184) E hl (As := []) lk_L_151 (Nat.le_of_ble_eq_true rfl) (Nat.le_of_ble_eq_true rfl) (sd_X9_wipe 0 hq) dL_law_1184 rfl (rest := [.int v1]) rfl (Nat.le_of_ble_eq_true rfl) hJ1 fun v2 h3 H3 locs3 hq2 hJ3 => ?_
  obtain ⟨e1, hs3⟩ := hq2
  exact lv_icmp_eq (pc := 1187) (tgt := 1416) E.1.1 E.1.2.1 dL_law_1187 (by decide) (fun _ => kk h1 h3 H3 locs3 hJ3 hs3) (fun z => absurd e1 z)
theorem lc_33 (E : lw_E p s m meth c b L xs X Y) (hl : lw_L X Y b i ls) (hi : i + 6 ≤ L) (hJ : lw_J X zKC zNC h Y zKR zNR h2 s H locs) (hs : Sim h h2) (kk : ∀ (h' h2' : zz_Hp) (H' : Heap) (locs' : List Loc), lw_J X zKC zNC h' Y zKR zNR h2' s H' locs' → Sim h' h2' → lw_W p l e s m b below meth c Q H' locs' 1416 ls []) : lw_W p l e s m b below meth c Q H locs 1192 ls [] := by
  refine lw_a1 (pc := 1192) E hl dL_law_1192 ?_
  refine lw_cC (pc := 1193) E hl (As := []) lk_L_152 (Nat.le_of_ble_eq_true rfl) (Nat.le_of_ble_eq_true rfl) (sd_X8_read 0 (eq_read hs)) dL_law_1193 rfl (rest := []) rfl (Nat.le_of_ble_eq_true rfl) hJ fun v1 h1 H1 locs1 hq hJ1 => ?_
  refine lw_a2 (pc := 1196) E hl dL_law_1196 ?_
  refine lw_cR (pc := 1197) E hl (As := []) lk_L_155 (Nat.le_of_ble_eq_true rfl) (Nat.le_of_ble_eq_true rfl) (sd_X9_read 0 hq) dL_law_1197 rfl (rest := [.int v1]) rfl (Nat.le_of_ble_eq_true rfl) hJ1 fun v2 h3 H3 locs3 hq2 hJ3 => ?_
  obtain ⟨e1, hs3⟩ := hq2
  exact lv_icmp_eq (pc := 1200) (tgt := 1416) E.1.1 E.1.2.1 dL_law_1200 (by decide) (fun _ => kk h1 h3 H3 locs3 hJ3 hs3) (fun z => absurd e1 z)
theorem lc_34 (E : lw_E p s m meth c b L xs X Y) (hl : lw_L X Y b i ls) (hi : i + 6 ≤ L) (hJ : lw_J X zKC zNC h Y zKR zNR h2 s H locs) (hs : Sim h h2) (kk : ∀ (h' h2' : zz_Hp) (H' : Heap) (locs' : List Loc), lw_J X zKC zNC h' Y zKR zNR h2' s H' locs' → Sim h' h2' → lw_W p l e s m b below meth c Q H' locs' 1416 ls []) : lw_W p l e s m b below meth c Q H locs 1205 ls [] := by
  refine lw_a1 (pc := 1205) E hl dL_law_1205 ?_
  refine lw_ld (pc := 1206) E hl hJ.2.2.2.2.2.2.2 (j := 1) rfl (by omega) dL_law_1206 dL_law_1207 dL_law_1208 dL_law_1209 dL_law_1210 ?_
  refine lw_ld (pc := 1211) E hl hJ.2.2.2.2.2.2.2 (j := 2) rfl (by omega) dL_law_1211 dL_law_1212 dL_law_1213 dL_law_1214 dL_law_1215 ?_
  refine lw_cC (pc := 1216) E hl (As := [.int (xs (i + 1)), .int (xs (i + 2))]) lk_L_156 (Nat.le_of_ble_eq_true rfl) (Nat.le_of_ble_eq_true rfl) (sd_X8_row 0 (eq_row hs (xs (i + 1)) (xs (i + 2)))) dL_law_1216 rfl (rest := []) rfl (Nat.le_of_ble_eq_true rfl) hJ fun v1 h1 H1 locs1 hq hJ1 => ?_
  refine lw_a2 (pc := 1219) E hl dL_law_1219 ?_
  refine lw_ld (pc := 1220) E hl hJ1.2.2.2.2.2.2.2 (j := 1) rfl (by omega) dL_law_1220 dL_law_1221 dL_law_1222 dL_law_1223 dL_law_1224 ?_
  refine lw_ld (pc := 1225) E hl hJ1.2.2.2.2.2.2.2 (j := 2) rfl (by omega) dL_law_1225 dL_law_1226 dL_law_1227 dL_law_1228 dL_law_1229 ?_
  refine lw_cR (pc := 1230) E hl (As := [.int (xs (i + 1)), .int (xs (i + 2))]) lk_L_159 (Nat.le_of_ble_eq_true rfl) (Nat.le_of_ble_eq_true rfl) (sd_X9_row 0 hq) dL_law_1230 rfl (rest := [.int v1]) rfl (Nat.le_of_ble_eq_true rfl) hJ1 fun v2 h3 H3 locs3 hq2 hJ3 => ?_
  obtain ⟨e1, hs3⟩ := hq2
  exact lv_icmp_eq (pc := 1233) (tgt := 1416) E.1.1 E.1.2.1 dL_law_1233 (by decide) (fun _ => kk h1 h3 H3 locs3 hJ3 hs3) (fun z => absurd e1 z)
theorem lc_35 (E : lw_E p s m meth c b L xs X Y) (hl : lw_L X Y b i ls) (hi : i + 6 ≤ L) (hJ : lw_J X zKC zNC h Y zKR zNR h2 s H locs) (hs : Sim h h2) (kk : ∀ (h' h2' : zz_Hp) (H' : Heap) (locs' : List Loc), lw_J X zKC zNC h' Y zKR zNR h2' s H' locs' → Sim h' h2' → lw_W p l e s m b below meth c Q H' locs' 1416 ls []) : lw_W p l e s m b below meth c Q H locs 1238 ls [] := by
  refine lw_a1 (pc := 1238) E hl dL_law_1238 ?_
  refine lw_ld (pc := 1239) E hl hJ.2.2.2.2.2.2.2 (j := 1) rfl (by omega) dL_law_1239 dL_law_1240 dL_law_1241 dL_law_1242 dL_law_1243 ?_
  refine lw_ld (pc := 1244) E hl hJ.2.2.2.2.2.2.2 (j := 2) rfl (by omega) dL_law_1244 dL_law_1245 dL_law_1246 dL_law_1247 dL_law_1248 ?_
  refine lw_ld (pc := 1249) E hl hJ.2.2.2.2.2.2.2 (j := 3) rfl (by omega) dL_law_1249 dL_law_1250 dL_law_1251 dL_law_1252 dL_law_1253 ?_
  refine lw_cC (pc := 1254) E hl (As := [.int (xs (i + 1)), .int (xs (i + 2)), .int (xs (i + 3))]) lk_L_160 (Nat.le_of_ble_eq_true rfl) (Nat.le_of_ble_eq_true rfl) (sd_X8_put 0 (eq_put hs (xs (i + 1)) (xs (i + 2)) (xs (i + 3)))) dL_law_1254 rfl (rest := []) rfl (Nat.le_of_ble_eq_true rfl) hJ fun v1 h1 H1 locs1 hq hJ1 => ?_
  refine lw_a2 (pc := 1257) E hl dL_law_1257 ?_
  refine lw_ld (pc := 1258) E hl hJ1.2.2.2.2.2.2.2 (j := 1) rfl (by omega) dL_law_1258 dL_law_1259 dL_law_1260 dL_law_1261 dL_law_1262 ?_
  refine lw_ld (pc := 1263) E hl hJ1.2.2.2.2.2.2.2 (j := 2) rfl (by omega) dL_law_1263 dL_law_1264 dL_law_1265 dL_law_1266 dL_law_1267 ?_
  refine lw_ld (pc := 1268) E hl hJ1.2.2.2.2.2.2.2 (j := 3) rfl (by omega) dL_law_1268 dL_law_1269 dL_law_1270 dL_law_1271 dL_law_1272 ?_
  refine lw_cR (pc := 1273) E hl (As := [.int (xs (i + 1)), .int (xs (i + 2)), .int (xs (i + 3))]) lk_L_163 (Nat.le_of_ble_eq_true rfl) (Nat.le_of_ble_eq_true rfl) (sd_X9_put 0 hq) dL_law_1273 rfl (rest := [.int v1]) rfl (Nat.le_of_ble_eq_true rfl) hJ1 fun v2 h3 H3 locs3 hq2 hJ3 => ?_
  obtain ⟨e1, hs3⟩ := hq2
  exact lv_icmp_eq (pc := 1276) (tgt := 1416) E.1.1 E.1.2.1 dL_law_1276 (by decide) (fun _ => kk h1 h3 H3 locs3 hJ3 hs3) (fun z => absurd e1 z)
theorem lc_36 (E : lw_E p s m meth c b L xs X Y) (hl : lw_L X Y b i ls) (hi : i + 6 ≤ L) (hJ : lw_J X zKC zNC h Y zKR zNR h2 s H locs) (hs : Sim h h2) (kk : ∀ (h' h2' : zz_Hp) (H' : Heap) (locs' : List Loc), lw_J X zKC zNC h' Y zKR zNR h2' s H' locs' → Sim h' h2' → lw_W p l e s m b below meth c Q H' locs' 1416 ls []) : lw_W p l e s m b below meth c Q H locs 1281 ls [] := by
  refine lw_a1 (pc := 1281) E hl dL_law_1281 ?_
  refine lw_ld (pc := 1282) E hl hJ.2.2.2.2.2.2.2 (j := 1) rfl (by omega) dL_law_1282 dL_law_1283 dL_law_1284 dL_law_1285 dL_law_1286 ?_
  refine lw_ld (pc := 1287) E hl hJ.2.2.2.2.2.2.2 (j := 2) rfl (by omega) dL_law_1287 dL_law_1288 dL_law_1289 dL_law_1290 dL_law_1291 ?_
  refine lw_cC (pc := 1292) E hl (As := [.int (xs (i + 1)), .int (xs (i + 2))]) lk_L_164 (Nat.le_of_ble_eq_true rfl) (Nat.le_of_ble_eq_true rfl) (sd_X8_get 0 (eq_get hs (xs (i + 1)) (xs (i + 2)))) dL_law_1292 rfl (rest := []) rfl (Nat.le_of_ble_eq_true rfl) hJ fun v1 h1 H1 locs1 hq hJ1 => ?_
  refine lw_a2 (pc := 1295) E hl dL_law_1295 ?_
  refine lw_ld (pc := 1296) E hl hJ1.2.2.2.2.2.2.2 (j := 1) rfl (by omega) dL_law_1296 dL_law_1297 dL_law_1298 dL_law_1299 dL_law_1300 ?_
  refine lw_ld (pc := 1301) E hl hJ1.2.2.2.2.2.2.2 (j := 2) rfl (by omega) dL_law_1301 dL_law_1302 dL_law_1303 dL_law_1304 dL_law_1305 ?_
  refine lw_cR (pc := 1306) E hl (As := [.int (xs (i + 1)), .int (xs (i + 2))]) lk_L_167 (Nat.le_of_ble_eq_true rfl) (Nat.le_of_ble_eq_true rfl) (sd_X9_get 0 hq) dL_law_1306 rfl (rest := [.int v1]) rfl (Nat.le_of_ble_eq_true rfl) hJ1 fun v2 h3 H3 locs3 hq2 hJ3 => ?_
  obtain ⟨e1, hs3⟩ := hq2
  exact lv_icmp_eq (pc := 1309) (tgt := 1416) E.1.1 E.1.2.1 dL_law_1309 (by decide) (fun _ => kk h1 h3 H3 locs3 hJ3 hs3) (fun z => absurd e1 z)
theorem lc_37 (E : lw_E p s m meth c b L xs X Y) (hl : lw_L X Y b i ls) (hi : i + 6 ≤ L) (hJ : lw_J X zKC zNC h Y zKR zNR h2 s H locs) (hs : Sim h h2) (kk : ∀ (h' h2' : zz_Hp) (H' : Heap) (locs' : List Loc), lw_J X zKC zNC h' Y zKR zNR h2' s H' locs' → Sim h' h2' → lw_W p l e s m b below meth c Q H' locs' 1416 ls []) : lw_W p l e s m b below meth c Q H locs 1314 ls [] := by
  refine lw_a1 (pc := 1314) E hl dL_law_1314 ?_
  refine lw_ld (pc := 1315) E hl hJ.2.2.2.2.2.2.2 (j := 1) rfl (by omega) dL_law_1315 dL_law_1316 dL_law_1317 dL_law_1318 dL_law_1319 ?_
  refine lw_ld (pc := 1320) E hl hJ.2.2.2.2.2.2.2 (j := 2) rfl (by omega) dL_law_1320 dL_law_1321 dL_law_1322 dL_law_1323 dL_law_1324 ?_
  refine lw_ld (pc := 1325) E hl hJ.2.2.2.2.2.2.2 (j := 3) rfl (by omega) dL_law_1325 dL_law_1326 dL_law_1327 dL_law_1328 dL_law_1329 ?_
  refine lw_ld (pc := 1330) E hl hJ.2.2.2.2.2.2.2 (j := 4) rfl (by omega) dL_law_1330 dL_law_1331 dL_law_1332 dL_law_1333 dL_law_1334 ?_
  refine lw_cC (pc := 1335) E hl (As := [.int (xs (i + 1)), .int (xs (i + 2)), .int (xs (i + 3)), .int (xs (i + 4))]) lk_L_168 (Nat.le_of_ble_eq_true rfl) (Nat.le_of_ble_eq_true rfl) (sd_X8_film 0 (eq_film hs (xs (i + 1)) (xs (i + 2)) (xs (i + 3)) (xs (i + 4)))) dL_law_1335 rfl (rest := []) rfl (Nat.le_of_ble_eq_true rfl) hJ fun v1 h1 H1 locs1 hq hJ1 => ?_
  refine lw_a2 (pc := 1338) E hl dL_law_1338 ?_
  refine lw_ld (pc := 1339) E hl hJ1.2.2.2.2.2.2.2 (j := 1) rfl (by omega) dL_law_1339 dL_law_1340 dL_law_1341 dL_law_1342 dL_law_1343 ?_
  refine lw_ld (pc := 1344) E hl hJ1.2.2.2.2.2.2.2 (j := 2) rfl (by omega) dL_law_1344 dL_law_1345 dL_law_1346 dL_law_1347 dL_law_1348 ?_
  refine lw_ld (pc := 1349) E hl hJ1.2.2.2.2.2.2.2 (j := 3) rfl (by omega) dL_law_1349 dL_law_1350 dL_law_1351 dL_law_1352 dL_law_1353 ?_
  refine lw_ld (pc := 1354) E hl hJ1.2.2.2.2.2.2.2 (j := 4) rfl (by omega) dL_law_1354 dL_law_1355 dL_law_1356 dL_law_1357 dL_law_1358 ?_
  refine lw_cR (pc := 1359) E hl (As := [.int (xs (i + 1)), .int (xs (i + 2)), .int (xs (i + 3)), .int (xs (i + 4))]) lk_L_171 (Nat.le_of_ble_eq_true rfl) (Nat.le_of_ble_eq_true rfl) (sd_X9_film 0 hq) dL_law_1359 rfl (rest := [.int v1]) rfl (Nat.le_of_ble_eq_true rfl) hJ1 fun v2 h3 H3 locs3 hq2 hJ3 => ?_
  obtain ⟨e1, hs3⟩ := hq2
  exact lv_icmp_eq (pc := 1362) (tgt := 1416) E.1.1 E.1.2.1 dL_law_1362 (by decide) (fun _ => kk h1 h3 H3 locs3 hJ3 hs3) (fun z => absurd e1 z)
theorem lc_38 (E : lw_E p s m meth c b L xs X Y) (hl : lw_L X Y b i ls) (hi : i + 6 ≤ L) (hJ : lw_J X zKC zNC h Y zKR zNR h2 s H locs) (hs : Sim h h2) (kk : ∀ (h' h2' : zz_Hp) (H' : Heap) (locs' : List Loc), lw_J X zKC zNC h' Y zKR zNR h2' s H' locs' → Sim h' h2' → lw_W p l e s m b below meth c Q H' locs' 1416 ls []) : lw_W p l e s m b below meth c Q H locs 1367 ls [] := by
  refine lw_a1 (pc := 1367) E hl dL_law_1367 ?_
  refine lw_cC (pc := 1368) E hl (As := []) lk_L_172 (Nat.le_of_ble_eq_true rfl) (Nat.le_of_ble_eq_true rfl) (sd_X8_image 0 (eq_image hs)) dL_law_1368 rfl (rest := []) rfl (Nat.le_of_ble_eq_true rfl) hJ fun v1 h1 H1 locs1 hq hJ1 => ?_
  refine lw_a2 (pc := 1371) E hl dL_law_1371 ?_
  refine lw_cR (pc := 1372) E hl (As := []) lk_L_175 (Nat.le_of_ble_eq_true rfl) (Nat.le_of_ble_eq_true rfl) (sd_X9_image 0 hq) dL_law_1372 rfl (rest := [.int v1]) rfl (Nat.le_of_ble_eq_true rfl) hJ1 fun v2 h3 H3 locs3 hq2 hJ3 => ?_
  obtain ⟨e1, hs3⟩ := hq2
  exact lv_icmp_eq (pc := 1375) (tgt := 1416) E.1.1 E.1.2.1 dL_law_1375 (by decide) (fun _ => kk h1 h3 H3 locs3 hJ3 hs3) (fun z => absurd e1 z)
theorem lc_39 (E : lw_E p s m meth c b L xs X Y) (hl : lw_L X Y b i ls) (hi : i + 6 ≤ L) (hJ : lw_J X zKC zNC h Y zKR zNR h2 s H locs) (hs : Sim h h2) (kk : ∀ (h' h2' : zz_Hp) (H' : Heap) (locs' : List Loc), lw_J X zKC zNC h' Y zKR zNR h2' s H' locs' → Sim h' h2' → lw_W p l e s m b below meth c Q H' locs' 1416 ls []) : lw_W p l e s m b below meth c Q H locs 1380 ls [] := by
  refine lw_a1 (pc := 1380) E hl dL_law_1380 ?_
  refine lw_cC (pc := 1381) E hl (As := []) lk_L_176 (Nat.le_of_ble_eq_true rfl) (Nat.le_of_ble_eq_true rfl) (sd_X8_undo 0 (eq_undo hs)) dL_law_1381 rfl (rest := []) rfl (Nat.le_of_ble_eq_true rfl) hJ fun v1 h1 H1 locs1 hq hJ1 => ?_
  refine lw_a2 (pc := 1384) E hl dL_law_1384 ?_
  refine lw_cR (pc := 1385) E hl (As := []) lk_L_179 (Nat.le_of_ble_eq_true rfl) (Nat.le_of_ble_eq_true rfl) (sd_X9_undo 0 hq) dL_law_1385 rfl (rest := [.int v1]) rfl (Nat.le_of_ble_eq_true rfl) hJ1 fun v2 h3 H3 locs3 hq2 hJ3 => ?_
  obtain ⟨e1, hs3⟩ := hq2
  exact lv_icmp_eq (pc := 1388) (tgt := 1416) E.1.1 E.1.2.1 dL_law_1388 (by decide) (fun _ => kk h1 h3 H3 locs3 hJ3 hs3) (fun z => absurd e1 z)
theorem lc_40 (E : lw_E p s m meth c b L xs X Y) (hl : lw_L X Y b i ls) (hi : i + 6 ≤ L) (hJ : lw_J X zKC zNC h Y zKR zNR h2 s H locs) (hs : Sim h h2) (kk : ∀ (h' h2' : zz_Hp) (H' : Heap) (locs' : List Loc), lw_J X zKC zNC h' Y zKR zNR h2' s H' locs' → Sim h' h2' → lw_W p l e s m b below meth c Q H' locs' 1416 ls []) : lw_W p l e s m b below meth c Q H locs 1393 ls [] := by
  refine lw_a1 (pc := 1393) E hl dL_law_1393 ?_
  refine lw_ld (pc := 1394) E hl hJ.2.2.2.2.2.2.2 (j := 1) rfl (by omega) dL_law_1394 dL_law_1395 dL_law_1396 dL_law_1397 dL_law_1398 ?_
  refine lw_cC (pc := 1399) E hl (As := [.int (xs (i + 1))]) lk_L_180 (Nat.le_of_ble_eq_true rfl) (Nat.le_of_ble_eq_true rfl) (sd_X8_count 0 (eq_count hs (xs (i + 1)))) dL_law_1399 rfl (rest := []) rfl (Nat.le_of_ble_eq_true rfl) hJ fun v1 h1 H1 locs1 hq hJ1 => ?_
  refine lw_a2 (pc := 1402) E hl dL_law_1402 ?_
  refine lw_ld (pc := 1403) E hl hJ1.2.2.2.2.2.2.2 (j := 1) rfl (by omega) dL_law_1403 dL_law_1404 dL_law_1405 dL_law_1406 dL_law_1407 ?_
  refine lw_cR (pc := 1408) E hl (As := [.int (xs (i + 1))]) lk_L_183 (Nat.le_of_ble_eq_true rfl) (Nat.le_of_ble_eq_true rfl) (sd_X9_count 0 hq) dL_law_1408 rfl (rest := [.int v1]) rfl (Nat.le_of_ble_eq_true rfl) hJ1 fun v2 h3 H3 locs3 hq2 hJ3 => ?_
  obtain ⟨e1, hs3⟩ := hq2
  exact lv_icmp_eq (pc := 1411) (tgt := 1416) E.1.1 E.1.2.1 dL_law_1411 (by decide) (fun _ => kk h1 h3 H3 locs3 hJ3 hs3) (fun z => absurd e1 z)
end LC
