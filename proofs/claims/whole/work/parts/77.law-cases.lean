/-! the law's 45 cases, by program (wip/whole/gen_cases.py) -/
def LNext (G : xG) (b L : Nat) (xs : Nat → Int32) (kc kn i : Nat) : Prop := ∀ (z1 : xZ) (v1 : xS) (R1 : xR) (kc1 kn1 : Nat), ZZ z1 → InvR z1 v1 R1 → kc1 ≤ kc + 9 → kn1 ≤ kn + 874 → LW G b L xs kc1 kn1 1466 [some (.ref 300), some (.ref 0), some (.ref 200), some (.int (nI i))] [] z1 v1
theorem ZZ.n300 {z : xZ} (Z : ZZ z) : 300 ∉ z.1 := fun h => absurd (Z.2.2.1 300 h) (by decide)
section LAWC
variable {G : xG} {b L : Nat} {xs : Nat → Int32} {kc kn i : Nat} {z : xZ} {v : xS} {R : xR}
/-- row -/
theorem lc_0 (Z : ZZ z) (h : InvR z v R) (hi : i + 6 ≤ L) (hL : L ≤ 384) (hc : kc + 9 ≤ 600000) (hn : kn + 874 ≤ 7302250) (kk : LNext G b L xs kc kn i) : LW G b L xs kc kn 228 [some (.ref 300), some (.ref 0), some (.ref 200), some (.int (nI i))] [] z v := by
  refine LW_aload dL_law_228 rfl rfl ?_
  refine LW_arg (i := i) (k := 1) dL_law_229 dL_law_230 dL_law_231 dL_law_232 dL_law_233 Z.n300 (by decide) rfl rfl (by omega) hL ?_
  refine LW_arg (i := i) (k := 2) dL_law_234 dL_law_235 dL_law_236 dL_law_237 dL_law_238 Z.n300 (by decide) rfl rfl (by omega) hL ?_
  refine LW_vI (d' := 16) (c := 5) (as := [.int (xs (i + 1)), .int (xs (i + 2))]) (st := []) dL_law_239 (bI_0 Z.1) (by decide) rfl mv_X5_row mi_X5_row ml_L_13 (by decide) (by decide) rfl (by omega) (by omega) (pr_row (d := 0) Z.1 h) (fun r v1 H => ?_)
  refine LW_aload dL_law_242 rfl rfl ?_
  refine LW_arg (i := i) (k := 1) dL_law_243 dL_law_244 dL_law_245 dL_law_246 dL_law_247 Z.n300 (by decide) rfl rfl (by omega) hL ?_
  refine LW_arg (i := i) (k := 2) dL_law_248 dL_law_249 dL_law_250 dL_law_251 dL_law_252 Z.n300 (by decide) rfl rfl (by omega) hL ?_
  refine LW_vI (d' := 16) (c := 6) (as := [.int (xs (i + 1)), .int (xs (i + 2))]) (st := [.int r]) dL_law_253 (bI_200 Z.1) (by decide) rfl mv_X6_row mi_X6_row ml_L_17 (by decide) (Nat.le_of_ble_eq_true rfl) rfl (by omega) (by omega) H (fun r' v2 H2 => ?_)
  obtain ⟨e, R1, h1⟩ := H2
  refine LW_eq dL_law_256 (by decide) e ?_
  exact kk z v2 R1 _ _ Z h1 (by omega) (by omega)
/-- lay -/
theorem lc_1 (Z : ZZ z) (h : InvR z v R) (hi : i + 6 ≤ L) (hL : L ≤ 384) (hc : kc + 9 ≤ 600000) (hn : kn + 874 ≤ 7302250) (kk : LNext G b L xs kc kn i) : LW G b L xs kc kn 261 [some (.ref 300), some (.ref 0), some (.ref 200), some (.int (nI i))] [] z v := by
  refine LW_aload dL_law_261 rfl rfl ?_
  refine LW_arg (i := i) (k := 1) dL_law_262 dL_law_263 dL_law_264 dL_law_265 dL_law_266 Z.n300 (by decide) rfl rfl (by omega) hL ?_
  refine LW_arg (i := i) (k := 2) dL_law_267 dL_law_268 dL_law_269 dL_law_270 dL_law_271 Z.n300 (by decide) rfl rfl (by omega) hL ?_
  refine LW_arg (i := i) (k := 3) dL_law_272 dL_law_273 dL_law_274 dL_law_275 dL_law_276 Z.n300 (by decide) rfl rfl (by omega) hL ?_
  refine LW_vI (d' := 16) (c := 5) (as := [.int (xs (i + 1)), .int (xs (i + 2)), .int (xs (i + 3))]) (st := []) dL_law_277 (bI_0 Z.1) (by decide) rfl mv_X5_lay mi_X5_lay ml_L_18 (by decide) (by decide) rfl (by omega) (by omega) (pr_lay (d := 0) Z.1 h) (fun r v1 H => ?_)
  refine LW_aload dL_law_280 rfl rfl ?_
  refine LW_arg (i := i) (k := 1) dL_law_281 dL_law_282 dL_law_283 dL_law_284 dL_law_285 Z.n300 (by decide) rfl rfl (by omega) hL ?_
  refine LW_arg (i := i) (k := 2) dL_law_286 dL_law_287 dL_law_288 dL_law_289 dL_law_290 Z.n300 (by decide) rfl rfl (by omega) hL ?_
  refine LW_arg (i := i) (k := 3) dL_law_291 dL_law_292 dL_law_293 dL_law_294 dL_law_295 Z.n300 (by decide) rfl rfl (by omega) hL ?_
  refine LW_vI (d' := 16) (c := 6) (as := [.int (xs (i + 1)), .int (xs (i + 2)), .int (xs (i + 3))]) (st := [.int r]) dL_law_296 (bI_200 Z.1) (by decide) rfl mv_X6_lay mi_X6_lay ml_L_22 (by decide) (Nat.le_of_ble_eq_true rfl) rfl (by omega) (by omega) H (fun r' v2 H2 => ?_)
  obtain ⟨e, R1, h1⟩ := H2
  refine LW_eq dL_law_299 (by decide) e ?_
  exact kk z v2 R1 _ _ Z h1 (by omega) (by omega)
/-- at -/
theorem lc_2 (Z : ZZ z) (h : InvR z v R) (hi : i + 6 ≤ L) (hL : L ≤ 384) (hc : kc + 9 ≤ 600000) (hn : kn + 874 ≤ 7302250) (kk : LNext G b L xs kc kn i) : LW G b L xs kc kn 304 [some (.ref 300), some (.ref 0), some (.ref 200), some (.int (nI i))] [] z v := by
  refine LW_aload dL_law_304 rfl rfl ?_
  refine LW_arg (i := i) (k := 1) dL_law_305 dL_law_306 dL_law_307 dL_law_308 dL_law_309 Z.n300 (by decide) rfl rfl (by omega) hL ?_
  refine LW_arg (i := i) (k := 2) dL_law_310 dL_law_311 dL_law_312 dL_law_313 dL_law_314 Z.n300 (by decide) rfl rfl (by omega) hL ?_
  refine LW_vI (d' := 16) (c := 5) (as := [.int (xs (i + 1)), .int (xs (i + 2))]) (st := []) dL_law_315 (bI_0 Z.1) (by decide) rfl mv_X5_at mi_X5_at ml_L_23 (by decide) (by decide) rfl (by omega) (by omega) (pr_at (d := 0) Z.1 h) (fun r v1 H => ?_)
  refine LW_aload dL_law_318 rfl rfl ?_
  refine LW_arg (i := i) (k := 1) dL_law_319 dL_law_320 dL_law_321 dL_law_322 dL_law_323 Z.n300 (by decide) rfl rfl (by omega) hL ?_
  refine LW_arg (i := i) (k := 2) dL_law_324 dL_law_325 dL_law_326 dL_law_327 dL_law_328 Z.n300 (by decide) rfl rfl (by omega) hL ?_
  refine LW_vI (d' := 16) (c := 6) (as := [.int (xs (i + 1)), .int (xs (i + 2))]) (st := [.int r]) dL_law_329 (bI_200 Z.1) (by decide) rfl mv_X6_at mi_X6_at ml_L_26 (by decide) (Nat.le_of_ble_eq_true rfl) rfl (by omega) (by omega) H (fun r' v2 H2 => ?_)
  obtain ⟨e, R1, h1⟩ := H2
  refine LW_eq dL_law_332 (by decide) e ?_
  exact kk z v2 R1 _ _ Z h1 (by omega) (by omega)
/-- tear -/
theorem lc_3 (Z : ZZ z) (h : InvR z v R) (hi : i + 6 ≤ L) (hL : L ≤ 384) (hc : kc + 9 ≤ 600000) (hn : kn + 874 ≤ 7302250) (kk : LNext G b L xs kc kn i) : LW G b L xs kc kn 337 [some (.ref 300), some (.ref 0), some (.ref 200), some (.int (nI i))] [] z v := by
  refine LW_aload dL_law_337 rfl rfl ?_
  refine LW_arg (i := i) (k := 1) dL_law_338 dL_law_339 dL_law_340 dL_law_341 dL_law_342 Z.n300 (by decide) rfl rfl (by omega) hL ?_
  refine LW_vI (d' := 16) (c := 5) (as := [.int (xs (i + 1))]) (st := []) dL_law_343 (bI_0 Z.1) (by decide) rfl mv_X5_tear mi_X5_tear ml_L_27 (by decide) (by decide) rfl (by omega) (by omega) (pr_tear (d := 0) Z.1 h) (fun r v1 H => ?_)
  refine LW_aload dL_law_346 rfl rfl ?_
  refine LW_arg (i := i) (k := 1) dL_law_347 dL_law_348 dL_law_349 dL_law_350 dL_law_351 Z.n300 (by decide) rfl rfl (by omega) hL ?_
  refine LW_vI (d' := 16) (c := 6) (as := [.int (xs (i + 1))]) (st := [.int r]) dL_law_352 (bI_200 Z.1) (by decide) rfl mv_X6_tear mi_X6_tear ml_L_31 (by decide) (Nat.le_of_ble_eq_true rfl) rfl (by omega) (by omega) H (fun r' v2 H2 => ?_)
  obtain ⟨e, R1, h1⟩ := H2
  refine LW_eq dL_law_355 (by decide) e ?_
  exact kk z v2 R1 _ _ Z h1 (by omega) (by omega)
/-- copy -/
theorem lc_4 (Z : ZZ z) (h : InvR z v R) (hi : i + 6 ≤ L) (hL : L ≤ 384) (hc : kc + 9 ≤ 600000) (hn : kn + 874 ≤ 7302250) (kk : LNext G b L xs kc kn i) : LW G b L xs kc kn 360 [some (.ref 300), some (.ref 0), some (.ref 200), some (.int (nI i))] [] z v := by
  refine LW_aload dL_law_360 rfl rfl ?_
  refine LW_arg (i := i) (k := 1) dL_law_361 dL_law_362 dL_law_363 dL_law_364 dL_law_365 Z.n300 (by decide) rfl rfl (by omega) hL ?_
  refine LW_arg (i := i) (k := 2) dL_law_366 dL_law_367 dL_law_368 dL_law_369 dL_law_370 Z.n300 (by decide) rfl rfl (by omega) hL ?_
  refine LW_arg (i := i) (k := 3) dL_law_371 dL_law_372 dL_law_373 dL_law_374 dL_law_375 Z.n300 (by decide) rfl rfl (by omega) hL ?_
  refine LW_arg (i := i) (k := 4) dL_law_376 dL_law_377 dL_law_378 dL_law_379 dL_law_380 Z.n300 (by decide) rfl rfl (by omega) hL ?_
  refine LW_arg (i := i) (k := 5) dL_law_381 dL_law_382 dL_law_383 dL_law_384 dL_law_385 Z.n300 (by decide) rfl rfl (by omega) hL ?_
  refine LW_vI (d' := 16) (c := 5) (as := [.int (xs (i + 1)), .int (xs (i + 2)), .int (xs (i + 3)), .int (xs (i + 4)), .int (xs (i + 5))]) (st := []) dL_law_386 (bI_0 Z.1) (by decide) rfl mv_X5_copy mi_X5_copy ml_L_32 (by decide) (by decide) rfl (by omega) (by omega) (pr_copy (d := 0) Z.1 h) (fun r v1 H => ?_)
  refine LW_aload dL_law_389 rfl rfl ?_
  refine LW_arg (i := i) (k := 1) dL_law_390 dL_law_391 dL_law_392 dL_law_393 dL_law_394 Z.n300 (by decide) rfl rfl (by omega) hL ?_
  refine LW_arg (i := i) (k := 2) dL_law_395 dL_law_396 dL_law_397 dL_law_398 dL_law_399 Z.n300 (by decide) rfl rfl (by omega) hL ?_
  refine LW_arg (i := i) (k := 3) dL_law_400 dL_law_401 dL_law_402 dL_law_403 dL_law_404 Z.n300 (by decide) rfl rfl (by omega) hL ?_
  refine LW_arg (i := i) (k := 4) dL_law_405 dL_law_406 dL_law_407 dL_law_408 dL_law_409 Z.n300 (by decide) rfl rfl (by omega) hL ?_
  refine LW_arg (i := i) (k := 5) dL_law_410 dL_law_411 dL_law_412 dL_law_413 dL_law_414 Z.n300 (by decide) rfl rfl (by omega) hL ?_
  refine LW_vI (d' := 16) (c := 6) (as := [.int (xs (i + 1)), .int (xs (i + 2)), .int (xs (i + 3)), .int (xs (i + 4)), .int (xs (i + 5))]) (st := [.int r]) dL_law_415 (bI_200 Z.1) (by decide) rfl mv_X6_copy mi_X6_copy ml_L_36 (by decide) (Nat.le_of_ble_eq_true rfl) rfl (by omega) (by omega) H (fun r' v2 H2 => ?_)
  obtain ⟨e, R1, h1⟩ := H2
  refine LW_eq dL_law_418 (by decide) e ?_
  exact kk z v2 R1 _ _ Z h1 (by omega) (by omega)
/-- mean -/
theorem lc_5 (Z : ZZ z) (h : InvR z v R) (hi : i + 6 ≤ L) (hL : L ≤ 384) (hc : kc + 9 ≤ 600000) (hn : kn + 874 ≤ 7302250) (kk : LNext G b L xs kc kn i) : LW G b L xs kc kn 423 [some (.ref 300), some (.ref 0), some (.ref 200), some (.int (nI i))] [] z v := by
  refine LW_aload dL_law_423 rfl rfl ?_
  refine LW_arg (i := i) (k := 1) dL_law_424 dL_law_425 dL_law_426 dL_law_427 dL_law_428 Z.n300 (by decide) rfl rfl (by omega) hL ?_
  refine LW_vI (d' := 16) (c := 5) (as := [.int (xs (i + 1))]) (st := []) dL_law_429 (bI_0 Z.1) (by decide) rfl mv_X5_mean mi_X5_mean ml_L_37 (by decide) (by decide) rfl (by omega) (by omega) (pr_mean (d := 0) Z.1 h) (fun r v1 H => ?_)
  refine LW_aload dL_law_432 rfl rfl ?_
  refine LW_arg (i := i) (k := 1) dL_law_433 dL_law_434 dL_law_435 dL_law_436 dL_law_437 Z.n300 (by decide) rfl rfl (by omega) hL ?_
  refine LW_vI (d' := 16) (c := 6) (as := [.int (xs (i + 1))]) (st := [.int r]) dL_law_438 (bI_200 Z.1) (by decide) rfl mv_X6_mean mi_X6_mean ml_L_40 (by decide) (Nat.le_of_ble_eq_true rfl) rfl (by omega) (by omega) H (fun r' v2 H2 => ?_)
  obtain ⟨e, R1, h1⟩ := H2
  refine LW_eq dL_law_441 (by decide) e ?_
  exact kk z v2 R1 _ _ Z h1 (by omega) (by omega)
/-- text -/
theorem lc_6 (Z : ZZ z) (h : InvR z v R) (hi : i + 6 ≤ L) (hL : L ≤ 384) (hc : kc + 9 ≤ 600000) (hn : kn + 874 ≤ 7302250) (kk : LNext G b L xs kc kn i) : LW G b L xs kc kn 446 [some (.ref 300), some (.ref 0), some (.ref 200), some (.int (nI i))] [] z v := by
  refine LW_aload dL_law_446 rfl rfl ?_
  refine LW_arg (i := i) (k := 1) dL_law_447 dL_law_448 dL_law_449 dL_law_450 dL_law_451 Z.n300 (by decide) rfl rfl (by omega) hL ?_
  refine LW_arg (i := i) (k := 2) dL_law_452 dL_law_453 dL_law_454 dL_law_455 dL_law_456 Z.n300 (by decide) rfl rfl (by omega) hL ?_
  refine LW_vI (d' := 16) (c := 5) (as := [.int (xs (i + 1)), .int (xs (i + 2))]) (st := []) dL_law_457 (bI_0 Z.1) (by decide) rfl mv_X5_text mi_X5_text ml_L_41 (by decide) (by decide) rfl (by omega) (by omega) (pr_text (d := 0) Z.1 h) (fun r v1 H => ?_)
  refine LW_aload dL_law_460 rfl rfl ?_
  refine LW_arg (i := i) (k := 1) dL_law_461 dL_law_462 dL_law_463 dL_law_464 dL_law_465 Z.n300 (by decide) rfl rfl (by omega) hL ?_
  refine LW_arg (i := i) (k := 2) dL_law_466 dL_law_467 dL_law_468 dL_law_469 dL_law_470 Z.n300 (by decide) rfl rfl (by omega) hL ?_
  refine LW_vI (d' := 16) (c := 6) (as := [.int (xs (i + 1)), .int (xs (i + 2))]) (st := [.int r]) dL_law_471 (bI_200 Z.1) (by decide) rfl mv_X6_text mi_X6_text ml_L_44 (by decide) (Nat.le_of_ble_eq_true rfl) rfl (by omega) (by omega) H (fun r' v2 H2 => ?_)
  obtain ⟨e, R1, h1⟩ := H2
  refine LW_eq dL_law_474 (by decide) e ?_
  exact kk z v2 R1 _ _ Z h1 (by omega) (by omega)
/-- put -/
theorem lc_7 (Z : ZZ z) (h : InvR z v R) (hi : i + 6 ≤ L) (hL : L ≤ 384) (hc : kc + 9 ≤ 600000) (hn : kn + 874 ≤ 7302250) (kk : LNext G b L xs kc kn i) : LW G b L xs kc kn 479 [some (.ref 300), some (.ref 0), some (.ref 200), some (.int (nI i))] [] z v := by
  refine LW_aload dL_law_479 rfl rfl ?_
  refine LW_arg (i := i) (k := 1) dL_law_480 dL_law_481 dL_law_482 dL_law_483 dL_law_484 Z.n300 (by decide) rfl rfl (by omega) hL ?_
  refine LW_arg (i := i) (k := 2) dL_law_485 dL_law_486 dL_law_487 dL_law_488 dL_law_489 Z.n300 (by decide) rfl rfl (by omega) hL ?_
  refine LW_arg (i := i) (k := 3) dL_law_490 dL_law_491 dL_law_492 dL_law_493 dL_law_494 Z.n300 (by decide) rfl rfl (by omega) hL ?_
  refine LW_vI (d' := 16) (c := 5) (as := [.int (xs (i + 1)), .int (xs (i + 2)), .int (xs (i + 3))]) (st := []) dL_law_495 (bI_0 Z.1) (by decide) rfl mv_X5_put mi_X5_put ml_L_45 (by decide) (by decide) rfl (by omega) (by omega) (pr_put (d := 0) Z.1 h) (fun r v1 H => ?_)
  refine LW_aload dL_law_498 rfl rfl ?_
  refine LW_arg (i := i) (k := 1) dL_law_499 dL_law_500 dL_law_501 dL_law_502 dL_law_503 Z.n300 (by decide) rfl rfl (by omega) hL ?_
  refine LW_arg (i := i) (k := 2) dL_law_504 dL_law_505 dL_law_506 dL_law_507 dL_law_508 Z.n300 (by decide) rfl rfl (by omega) hL ?_
  refine LW_arg (i := i) (k := 3) dL_law_509 dL_law_510 dL_law_511 dL_law_512 dL_law_513 Z.n300 (by decide) rfl rfl (by omega) hL ?_
  refine LW_vI (d' := 16) (c := 6) (as := [.int (xs (i + 1)), .int (xs (i + 2)), .int (xs (i + 3))]) (st := [.int r]) dL_law_514 (bI_200 Z.1) (by decide) rfl mv_X6_put mi_X6_put ml_L_48 (by decide) (Nat.le_of_ble_eq_true rfl) rfl (by omega) (by omega) H (fun r' v2 H2 => ?_)
  obtain ⟨e, R1, h1⟩ := H2
  refine LW_eq dL_law_517 (by decide) e ?_
  exact kk z v2 R1 _ _ Z h1 (by omega) (by omega)
/-- fault -/
theorem lc_8 (Z : ZZ z) (h : InvR z v R) (hi : i + 6 ≤ L) (hL : L ≤ 384) (hc : kc + 9 ≤ 600000) (hn : kn + 874 ≤ 7302250) (kk : LNext G b L xs kc kn i) : LW G b L xs kc kn 522 [some (.ref 300), some (.ref 0), some (.ref 200), some (.int (nI i))] [] z v := by
  refine LW_aload dL_law_522 rfl rfl ?_
  refine LW_arg (i := i) (k := 1) dL_law_523 dL_law_524 dL_law_525 dL_law_526 dL_law_527 Z.n300 (by decide) rfl rfl (by omega) hL ?_
  refine LW_vI (d' := 16) (c := 5) (as := [.int (xs (i + 1))]) (st := []) dL_law_528 (bI_0 Z.1) (by decide) rfl mv_X5_fault mi_X5_fault ml_L_49 (by decide) (by decide) rfl (by omega) (by omega) (pr_fault (d := 0) Z.1 h) (fun r v1 H => ?_)
  refine LW_aload dL_law_531 rfl rfl ?_
  refine LW_arg (i := i) (k := 1) dL_law_532 dL_law_533 dL_law_534 dL_law_535 dL_law_536 Z.n300 (by decide) rfl rfl (by omega) hL ?_
  refine LW_vI (d' := 16) (c := 6) (as := [.int (xs (i + 1))]) (st := [.int r]) dL_law_537 (bI_200 Z.1) (by decide) rfl mv_X6_fault mi_X6_fault ml_L_52 (by decide) (Nat.le_of_ble_eq_true rfl) rfl (by omega) (by omega) H (fun r' v2 H2 => ?_)
  obtain ⟨e, R1, h1⟩ := H2
  refine LW_eq dL_law_540 (by decide) e ?_
  exact kk z v2 R1 _ _ Z h1 (by omega) (by omega)
/-- land -/
theorem lc_9 (Z : ZZ z) (h : InvR z v R) (hi : i + 6 ≤ L) (hL : L ≤ 384) (hc : kc + 9 ≤ 600000) (hn : kn + 874 ≤ 7302250) (kk : LNext G b L xs kc kn i) : LW G b L xs kc kn 545 [some (.ref 300), some (.ref 0), some (.ref 200), some (.int (nI i))] [] z v := by
  refine LW_aload dL_law_545 rfl rfl ?_
  refine LW_arg (i := i) (k := 1) dL_law_546 dL_law_547 dL_law_548 dL_law_549 dL_law_550 Z.n300 (by decide) rfl rfl (by omega) hL ?_
  refine LW_vI (d' := 16) (c := 5) (as := [.int (xs (i + 1))]) (st := []) dL_law_551 (bI_0 Z.1) (by decide) rfl mv_X5_land mi_X5_land ml_L_53 (by decide) (by decide) rfl (by omega) (by omega) (pr_land (d := 0) Z.1 h) (fun r v1 H => ?_)
  refine LW_aload dL_law_554 rfl rfl ?_
  refine LW_arg (i := i) (k := 1) dL_law_555 dL_law_556 dL_law_557 dL_law_558 dL_law_559 Z.n300 (by decide) rfl rfl (by omega) hL ?_
  refine LW_vI (d' := 16) (c := 6) (as := [.int (xs (i + 1))]) (st := [.int r]) dL_law_560 (bI_200 Z.1) (by decide) rfl mv_X6_land mi_X6_land ml_L_56 (by decide) (Nat.le_of_ble_eq_true rfl) rfl (by omega) (by omega) H (fun r' v2 H2 => ?_)
  obtain ⟨e, R1, h1⟩ := H2
  refine LW_eq dL_law_563 (by decide) e ?_
  exact kk z v2 R1 _ _ Z h1 (by omega) (by omega)
/-- spot -/
theorem lc_10 (Z : ZZ z) (h : InvR z v R) (hi : i + 6 ≤ L) (hL : L ≤ 384) (hc : kc + 9 ≤ 600000) (hn : kn + 874 ≤ 7302250) (kk : LNext G b L xs kc kn i) : LW G b L xs kc kn 568 [some (.ref 300), some (.ref 0), some (.ref 200), some (.int (nI i))] [] z v := by
  refine LW_aload dL_law_568 rfl rfl ?_
  refine LW_arg (i := i) (k := 1) dL_law_569 dL_law_570 dL_law_571 dL_law_572 dL_law_573 Z.n300 (by decide) rfl rfl (by omega) hL ?_
  refine LW_vI (d' := 16) (c := 5) (as := [.int (xs (i + 1))]) (st := []) dL_law_574 (bI_0 Z.1) (by decide) rfl mv_X5_spot mi_X5_spot ml_L_57 (by decide) (by decide) rfl (by omega) (by omega) (pr_spot (d := 0) Z.1 h) (fun r v1 H => ?_)
  refine LW_aload dL_law_577 rfl rfl ?_
  refine LW_arg (i := i) (k := 1) dL_law_578 dL_law_579 dL_law_580 dL_law_581 dL_law_582 Z.n300 (by decide) rfl rfl (by omega) hL ?_
  refine LW_vI (d' := 16) (c := 6) (as := [.int (xs (i + 1))]) (st := [.int r]) dL_law_583 (bI_200 Z.1) (by decide) rfl mv_X6_spot mi_X6_spot ml_L_60 (by decide) (Nat.le_of_ble_eq_true rfl) rfl (by omega) (by omega) H (fun r' v2 H2 => ?_)
  obtain ⟨e, R1, h1⟩ := H2
  refine LW_eq dL_law_586 (by decide) e ?_
  exact kk z v2 R1 _ _ Z h1 (by omega) (by omega)
/-- band -/
theorem lc_11 (Z : ZZ z) (h : InvR z v R) (hi : i + 6 ≤ L) (hL : L ≤ 384) (hc : kc + 9 ≤ 600000) (hn : kn + 874 ≤ 7302250) (kk : LNext G b L xs kc kn i) : LW G b L xs kc kn 591 [some (.ref 300), some (.ref 0), some (.ref 200), some (.int (nI i))] [] z v := by
  refine LW_aload dL_law_591 rfl rfl ?_
  refine LW_arg (i := i) (k := 1) dL_law_592 dL_law_593 dL_law_594 dL_law_595 dL_law_596 Z.n300 (by decide) rfl rfl (by omega) hL ?_
  refine LW_arg (i := i) (k := 2) dL_law_597 dL_law_598 dL_law_599 dL_law_600 dL_law_601 Z.n300 (by decide) rfl rfl (by omega) hL ?_
  refine LW_vI (d' := 16) (c := 5) (as := [.int (xs (i + 1)), .int (xs (i + 2))]) (st := []) dL_law_602 (bI_0 Z.1) (by decide) rfl mv_X5_band mi_X5_band ml_L_61 (by decide) (by decide) rfl (by omega) (by omega) (pr_band (d := 0) Z.1 h) (fun r v1 H => ?_)
  refine LW_aload dL_law_605 rfl rfl ?_
  refine LW_arg (i := i) (k := 1) dL_law_606 dL_law_607 dL_law_608 dL_law_609 dL_law_610 Z.n300 (by decide) rfl rfl (by omega) hL ?_
  refine LW_arg (i := i) (k := 2) dL_law_611 dL_law_612 dL_law_613 dL_law_614 dL_law_615 Z.n300 (by decide) rfl rfl (by omega) hL ?_
  refine LW_vI (d' := 16) (c := 6) (as := [.int (xs (i + 1)), .int (xs (i + 2))]) (st := [.int r]) dL_law_616 (bI_200 Z.1) (by decide) rfl mv_X6_band mi_X6_band ml_L_64 (by decide) (Nat.le_of_ble_eq_true rfl) rfl (by omega) (by omega) H (fun r' v2 H2 => ?_)
  obtain ⟨e, R1, h1⟩ := H2
  refine LW_eq dL_law_619 (by decide) e ?_
  exact kk z v2 R1 _ _ Z h1 (by omega) (by omega)
/-- mark -/
theorem lc_12 (Z : ZZ z) (h : InvR z v R) (hi : i + 6 ≤ L) (hL : L ≤ 384) (hc : kc + 9 ≤ 600000) (hn : kn + 874 ≤ 7302250) (kk : LNext G b L xs kc kn i) : LW G b L xs kc kn 624 [some (.ref 300), some (.ref 0), some (.ref 200), some (.int (nI i))] [] z v := by
  refine LW_aload dL_law_624 rfl rfl ?_
  refine LW_arg (i := i) (k := 1) dL_law_625 dL_law_626 dL_law_627 dL_law_628 dL_law_629 Z.n300 (by decide) rfl rfl (by omega) hL ?_
  refine LW_arg (i := i) (k := 2) dL_law_630 dL_law_631 dL_law_632 dL_law_633 dL_law_634 Z.n300 (by decide) rfl rfl (by omega) hL ?_
  refine LW_vI (d' := 16) (c := 5) (as := [.int (xs (i + 1)), .int (xs (i + 2))]) (st := []) dL_law_635 (bI_0 Z.1) (by decide) rfl mv_X5_mark mi_X5_mark ml_L_65 (by decide) (by decide) rfl (by omega) (by omega) (pr_mark (d := 0) Z.1 h) (fun r v1 H => ?_)
  refine LW_aload dL_law_638 rfl rfl ?_
  refine LW_arg (i := i) (k := 1) dL_law_639 dL_law_640 dL_law_641 dL_law_642 dL_law_643 Z.n300 (by decide) rfl rfl (by omega) hL ?_
  refine LW_arg (i := i) (k := 2) dL_law_644 dL_law_645 dL_law_646 dL_law_647 dL_law_648 Z.n300 (by decide) rfl rfl (by omega) hL ?_
  refine LW_vI (d' := 16) (c := 6) (as := [.int (xs (i + 1)), .int (xs (i + 2))]) (st := [.int r]) dL_law_649 (bI_200 Z.1) (by decide) rfl mv_X6_mark mi_X6_mark ml_L_68 (by decide) (Nat.le_of_ble_eq_true rfl) rfl (by omega) (by omega) H (fun r' v2 H2 => ?_)
  obtain ⟨e, R1, h1⟩ := H2
  refine LW_eq dL_law_652 (by decide) e ?_
  exact kk z v2 R1 _ _ Z h1 (by omega) (by omega)
/-- frost -/
theorem lc_13 (Z : ZZ z) (h : InvR z v R) (hi : i + 6 ≤ L) (hL : L ≤ 384) (hc : kc + 9 ≤ 600000) (hn : kn + 874 ≤ 7302250) (kk : LNext G b L xs kc kn i) : LW G b L xs kc kn 657 [some (.ref 300), some (.ref 0), some (.ref 200), some (.int (nI i))] [] z v := by
  refine LW_aload dL_law_657 rfl rfl ?_
  refine LW_arg (i := i) (k := 1) dL_law_658 dL_law_659 dL_law_660 dL_law_661 dL_law_662 Z.n300 (by decide) rfl rfl (by omega) hL ?_
  refine LW_vI (d' := 16) (c := 5) (as := [.int (xs (i + 1))]) (st := []) dL_law_663 (bI_0 Z.1) (by decide) rfl mv_X5_frost mi_X5_frost ml_L_69 (by decide) (by decide) rfl (by omega) (by omega) (pr_frost (d := 0) Z.1 h) (fun r v1 H => ?_)
  refine LW_aload dL_law_666 rfl rfl ?_
  refine LW_arg (i := i) (k := 1) dL_law_667 dL_law_668 dL_law_669 dL_law_670 dL_law_671 Z.n300 (by decide) rfl rfl (by omega) hL ?_
  refine LW_vI (d' := 16) (c := 6) (as := [.int (xs (i + 1))]) (st := [.int r]) dL_law_672 (bI_200 Z.1) (by decide) rfl mv_X6_frost mi_X6_frost ml_L_72 (by decide) (Nat.le_of_ble_eq_true rfl) rfl (by omega) (by omega) H (fun r' v2 H2 => ?_)
  obtain ⟨e, R1, h1⟩ := H2
  refine LW_eq dL_law_675 (by decide) e ?_
  exact kk z v2 R1 _ _ Z h1 (by omega) (by omega)
/-- move -/
theorem lc_14 (Z : ZZ z) (h : InvR z v R) (hi : i + 6 ≤ L) (hL : L ≤ 384) (hc : kc + 9 ≤ 600000) (hn : kn + 874 ≤ 7302250) (kk : LNext G b L xs kc kn i) : LW G b L xs kc kn 680 [some (.ref 300), some (.ref 0), some (.ref 200), some (.int (nI i))] [] z v := by
  refine LW_aload dL_law_680 rfl rfl ?_
  refine LW_arg (i := i) (k := 1) dL_law_681 dL_law_682 dL_law_683 dL_law_684 dL_law_685 Z.n300 (by decide) rfl rfl (by omega) hL ?_
  refine LW_arg (i := i) (k := 2) dL_law_686 dL_law_687 dL_law_688 dL_law_689 dL_law_690 Z.n300 (by decide) rfl rfl (by omega) hL ?_
  refine LW_vI (d' := 16) (c := 5) (as := [.int (xs (i + 1)), .int (xs (i + 2))]) (st := []) dL_law_691 (bI_0 Z.1) (by decide) rfl mv_X5_move mi_X5_move ml_L_73 (by decide) (by decide) rfl (by omega) (by omega) (pr_move (d := 0) Z.1 h) (fun r v1 H => ?_)
  refine LW_aload dL_law_694 rfl rfl ?_
  refine LW_arg (i := i) (k := 1) dL_law_695 dL_law_696 dL_law_697 dL_law_698 dL_law_699 Z.n300 (by decide) rfl rfl (by omega) hL ?_
  refine LW_arg (i := i) (k := 2) dL_law_700 dL_law_701 dL_law_702 dL_law_703 dL_law_704 Z.n300 (by decide) rfl rfl (by omega) hL ?_
  refine LW_vI (d' := 16) (c := 6) (as := [.int (xs (i + 1)), .int (xs (i + 2))]) (st := [.int r]) dL_law_705 (bI_200 Z.1) (by decide) rfl mv_X6_move mi_X6_move ml_L_76 (by decide) (Nat.le_of_ble_eq_true rfl) rfl (by omega) (by omega) H (fun r' v2 H2 => ?_)
  obtain ⟨e, R1, h1⟩ := H2
  refine LW_eq dL_law_708 (by decide) e ?_
  exact kk z v2 R1 _ _ Z h1 (by omega) (by omega)
/-- evening -/
theorem lc_15 (Z : ZZ z) (h : InvR z v R) (hi : i + 6 ≤ L) (hL : L ≤ 384) (hc : kc + 9 ≤ 600000) (hn : kn + 874 ≤ 7302250) (kk : LNext G b L xs kc kn i) : LW G b L xs kc kn 713 [some (.ref 300), some (.ref 0), some (.ref 200), some (.int (nI i))] [] z v := by
  refine LW_aload dL_law_713 rfl rfl ?_
  refine LW_arg (i := i) (k := 1) dL_law_714 dL_law_715 dL_law_716 dL_law_717 dL_law_718 Z.n300 (by decide) rfl rfl (by omega) hL ?_
  refine LW_vI (d' := 16) (c := 5) (as := [.int (xs (i + 1))]) (st := []) dL_law_719 (bI_0 Z.1) (by decide) rfl mv_X5_evening mi_X5_evening ml_L_77 (by decide) (by decide) rfl (by omega) (by omega) (pr_evening (d := 0) Z.1 h) (fun r v1 H => ?_)
  refine LW_aload dL_law_722 rfl rfl ?_
  refine LW_arg (i := i) (k := 1) dL_law_723 dL_law_724 dL_law_725 dL_law_726 dL_law_727 Z.n300 (by decide) rfl rfl (by omega) hL ?_
  refine LW_vI (d' := 16) (c := 6) (as := [.int (xs (i + 1))]) (st := [.int r]) dL_law_728 (bI_200 Z.1) (by decide) rfl mv_X6_evening mi_X6_evening ml_L_80 (by decide) (Nat.le_of_ble_eq_true rfl) rfl (by omega) (by omega) H (fun r' v2 H2 => ?_)
  obtain ⟨e, R1, h1⟩ := H2
  refine LW_eq dL_law_731 (by decide) e ?_
  exact kk z v2 R1 _ _ Z h1 (by omega) (by omega)
/-- undo -/
theorem lc_16 (Z : ZZ z) (h : InvR z v R) (hi : i + 6 ≤ L) (hL : L ≤ 384) (hc : kc + 9 ≤ 600000) (hn : kn + 874 ≤ 7302250) (kk : LNext G b L xs kc kn i) : LW G b L xs kc kn 736 [some (.ref 300), some (.ref 0), some (.ref 200), some (.int (nI i))] [] z v := by
  refine LW_aload dL_law_736 rfl rfl ?_
  refine LW_arg (i := i) (k := 1) dL_law_737 dL_law_738 dL_law_739 dL_law_740 dL_law_741 Z.n300 (by decide) rfl rfl (by omega) hL ?_
  refine LW_vI (d' := 16) (c := 5) (as := [.int (xs (i + 1))]) (st := []) dL_law_742 (bI_0 Z.1) (by decide) rfl mv_X5_undo mi_X5_undo ml_L_81 (by decide) (by decide) rfl (by omega) (by omega) (pr_undo (d := 0) Z.1 h) (fun r v1 H => ?_)
  refine LW_aload dL_law_745 rfl rfl ?_
  refine LW_arg (i := i) (k := 1) dL_law_746 dL_law_747 dL_law_748 dL_law_749 dL_law_750 Z.n300 (by decide) rfl rfl (by omega) hL ?_
  refine LW_vI (d' := 16) (c := 6) (as := [.int (xs (i + 1))]) (st := [.int r]) dL_law_751 (bI_200 Z.1) (by decide) rfl mv_X6_undo mi_X6_undo ml_L_84 (by decide) (Nat.le_of_ble_eq_true rfl) rfl (by omega) (by omega) H (fun r' v2 H2 => ?_)
  obtain ⟨e, R1, h1⟩ := H2
  refine LW_eq dL_law_754 (by decide) e ?_
  exact kk z v2 R1 _ _ Z h1 (by omega) (by omega)
/-- heights -/
theorem lc_17 (Z : ZZ z) (h : InvR z v R) (hi : i + 6 ≤ L) (hL : L ≤ 384) (hc : kc + 9 ≤ 600000) (hn : kn + 874 ≤ 7302250) (kk : LNext G b L xs kc kn i) : LW G b L xs kc kn 759 [some (.ref 300), some (.ref 0), some (.ref 200), some (.int (nI i))] [] z v := by
  refine LW_aload dL_law_759 rfl rfl ?_
  refine LW_arg (i := i) (k := 1) dL_law_760 dL_law_761 dL_law_762 dL_law_763 dL_law_764 Z.n300 (by decide) rfl rfl (by omega) hL ?_
  refine LW_vI (d' := 16) (c := 5) (as := [.int (xs (i + 1))]) (st := []) dL_law_765 (bI_0 Z.1) (by decide) rfl mv_X5_heights mi_X5_heights ml_L_85 (by decide) (by decide) rfl (by omega) (by omega) (pr_heights (d := 0) Z.1 h) (fun r v1 H => ?_)
  refine LW_aload dL_law_768 rfl rfl ?_
  refine LW_arg (i := i) (k := 1) dL_law_769 dL_law_770 dL_law_771 dL_law_772 dL_law_773 Z.n300 (by decide) rfl rfl (by omega) hL ?_
  refine LW_vI (d' := 16) (c := 6) (as := [.int (xs (i + 1))]) (st := [.int r]) dL_law_774 (bI_200 Z.1) (by decide) rfl mv_X6_heights mi_X6_heights ml_L_88 (by decide) (Nat.le_of_ble_eq_true rfl) rfl (by omega) (by omega) H (fun r' v2 H2 => ?_)
  obtain ⟨e, R1, h1⟩ := H2
  refine LW_eq dL_law_777 (by decide) e ?_
  exact kk z v2 R1 _ _ Z h1 (by omega) (by omega)
/-- keep -/
theorem lc_18 (Z : ZZ z) (h : InvR z v R) (hi : i + 6 ≤ L) (hL : L ≤ 384) (hc : kc + 9 ≤ 600000) (hn : kn + 874 ≤ 7302250) (kk : LNext G b L xs kc kn i) : LW G b L xs kc kn 782 [some (.ref 300), some (.ref 0), some (.ref 200), some (.int (nI i))] [] z v := by
  refine LW_aload dL_law_782 rfl rfl ?_
  refine LW_arg (i := i) (k := 1) dL_law_783 dL_law_784 dL_law_785 dL_law_786 dL_law_787 Z.n300 (by decide) rfl rfl (by omega) hL ?_
  refine LW_call (d' := 16) (mc' := 9) (ms' := 874) (c := 5) (as := [.int (xs (i + 1))]) (st := []) dL_law_788 (bI_0 Z.1) (by decide) rfl mv_X5_keep mi_X5_keep ml_L_89 (by decide) (by decide) rfl (by omega) (by omega) (pr_keep (d := 0) Z h) (fun r z1 v1 q => ?_) (fun r z1 v1 q => ?_)
  · obtain ⟨_, _, Z1, _⟩ := q
    refine ⟨fun w hw => absurd hw List.not_mem_nil, fun w hw x hx => ?_⟩
    subst hx
    simp at hw
    rcases hw with rfl | rfl | rfl
    · exact Or.inr Z1.n300
    · exact Or.inl (Z.1.1 0 (by decide +kernel))
    · exact Or.inl (Z.1.1 200 (by decide +kernel))
  obtain ⟨r0, e0, Z1, H⟩ := q
  subst e0
  show LW G b L xs (kc + 9) (kn + 874) 791 _ [.int r0] z1 v1
  refine LW_aload dL_law_791 rfl rfl ?_
  refine LW_arg (i := i) (k := 1) dL_law_792 dL_law_793 dL_law_794 dL_law_795 dL_law_796 Z1.n300 (by decide) rfl rfl (by omega) hL ?_
  refine LW_vI (d' := 16) (c := 6) (as := [.int (xs (i + 1))]) (st := [.int r0]) dL_law_797 (bI_200 Z1.1) (by decide) rfl mv_X6_keep mi_X6_keep ml_L_92 (by decide) (Nat.le_of_ble_eq_true rfl) rfl (by omega) (by omega) H (fun r' v2 H2 => ?_)
  obtain ⟨e, R1, h1⟩ := H2
  refine LW_eq dL_law_800 (by decide) e ?_
  exact kk z1 v2 R1 _ _ Z1 h1 (Nat.le_refl _) (Nat.le_refl _)
/-- on -/
theorem lc_19 (Z : ZZ z) (h : InvR z v R) (hi : i + 6 ≤ L) (hL : L ≤ 384) (hc : kc + 9 ≤ 600000) (hn : kn + 874 ≤ 7302250) (kk : LNext G b L xs kc kn i) : LW G b L xs kc kn 805 [some (.ref 300), some (.ref 0), some (.ref 200), some (.int (nI i))] [] z v := by
  refine LW_aload dL_law_805 rfl rfl ?_
  refine LW_arg (i := i) (k := 1) dL_law_806 dL_law_807 dL_law_808 dL_law_809 dL_law_810 Z.n300 (by decide) rfl rfl (by omega) hL ?_
  refine LW_vI (d' := 16) (c := 5) (as := [.int (xs (i + 1))]) (st := []) dL_law_811 (bI_0 Z.1) (by decide) rfl mv_X5_on mi_X5_on ml_L_93 (by decide) (by decide) rfl (by omega) (by omega) (pr_on (d := 0) Z.1 h) (fun r v1 H => ?_)
  refine LW_aload dL_law_814 rfl rfl ?_
  refine LW_arg (i := i) (k := 1) dL_law_815 dL_law_816 dL_law_817 dL_law_818 dL_law_819 Z.n300 (by decide) rfl rfl (by omega) hL ?_
  refine LW_vI (d' := 16) (c := 6) (as := [.int (xs (i + 1))]) (st := [.int r]) dL_law_820 (bI_200 Z.1) (by decide) rfl mv_X6_on mi_X6_on ml_L_96 (by decide) (Nat.le_of_ble_eq_true rfl) rfl (by omega) (by omega) H (fun r' v2 H2 => ?_)
  obtain ⟨e, R1, h1⟩ := H2
  refine LW_eq dL_law_823 (by decide) e ?_
  exact kk z v2 R1 _ _ Z h1 (by omega) (by omega)
/-- behind -/
theorem lc_20 (Z : ZZ z) (h : InvR z v R) (hi : i + 6 ≤ L) (hL : L ≤ 384) (hc : kc + 9 ≤ 600000) (hn : kn + 874 ≤ 7302250) (kk : LNext G b L xs kc kn i) : LW G b L xs kc kn 828 [some (.ref 300), some (.ref 0), some (.ref 200), some (.int (nI i))] [] z v := by
  refine LW_aload dL_law_828 rfl rfl ?_
  refine LW_arg (i := i) (k := 1) dL_law_829 dL_law_830 dL_law_831 dL_law_832 dL_law_833 Z.n300 (by decide) rfl rfl (by omega) hL ?_
  refine LW_arg (i := i) (k := 2) dL_law_834 dL_law_835 dL_law_836 dL_law_837 dL_law_838 Z.n300 (by decide) rfl rfl (by omega) hL ?_
  refine LW_arg (i := i) (k := 3) dL_law_839 dL_law_840 dL_law_841 dL_law_842 dL_law_843 Z.n300 (by decide) rfl rfl (by omega) hL ?_
  refine LW_vI (d' := 16) (c := 5) (as := [.int (xs (i + 1)), .int (xs (i + 2)), .int (xs (i + 3))]) (st := []) dL_law_844 (bI_0 Z.1) (by decide) rfl mv_X5_behind mi_X5_behind ml_L_97 (by decide) (by decide) rfl (by omega) (by omega) (pr_behind (d := 0) Z.1 h) (fun r v1 H => ?_)
  refine LW_aload dL_law_847 rfl rfl ?_
  refine LW_arg (i := i) (k := 1) dL_law_848 dL_law_849 dL_law_850 dL_law_851 dL_law_852 Z.n300 (by decide) rfl rfl (by omega) hL ?_
  refine LW_arg (i := i) (k := 2) dL_law_853 dL_law_854 dL_law_855 dL_law_856 dL_law_857 Z.n300 (by decide) rfl rfl (by omega) hL ?_
  refine LW_arg (i := i) (k := 3) dL_law_858 dL_law_859 dL_law_860 dL_law_861 dL_law_862 Z.n300 (by decide) rfl rfl (by omega) hL ?_
  refine LW_vI (d' := 16) (c := 6) (as := [.int (xs (i + 1)), .int (xs (i + 2)), .int (xs (i + 3))]) (st := [.int r]) dL_law_863 (bI_200 Z.1) (by decide) rfl mv_X6_behind mi_X6_behind ml_L_100 (by decide) (Nat.le_of_ble_eq_true rfl) rfl (by omega) (by omega) H (fun r' v2 H2 => ?_)
  obtain ⟨e, R1, h1⟩ := H2
  refine LW_eq dL_law_866 (by decide) e ?_
  exact kk z v2 R1 _ _ Z h1 (by omega) (by omega)
/-- rest -/
theorem lc_21 (Z : ZZ z) (h : InvR z v R) (hi : i + 6 ≤ L) (hL : L ≤ 384) (hc : kc + 9 ≤ 600000) (hn : kn + 874 ≤ 7302250) (kk : LNext G b L xs kc kn i) : LW G b L xs kc kn 871 [some (.ref 300), some (.ref 0), some (.ref 200), some (.int (nI i))] [] z v := by
  refine LW_aload dL_law_871 rfl rfl ?_
  refine LW_arg (i := i) (k := 1) dL_law_872 dL_law_873 dL_law_874 dL_law_875 dL_law_876 Z.n300 (by decide) rfl rfl (by omega) hL ?_
  refine LW_vI (d' := 16) (c := 5) (as := [.int (xs (i + 1))]) (st := []) dL_law_877 (bI_0 Z.1) (by decide) rfl mv_X5_rest mi_X5_rest ml_L_101 (by decide) (by decide) rfl (by omega) (by omega) (pr_rest (d := 0) Z.1 h) (fun r v1 H => ?_)
  refine LW_aload dL_law_880 rfl rfl ?_
  refine LW_arg (i := i) (k := 1) dL_law_881 dL_law_882 dL_law_883 dL_law_884 dL_law_885 Z.n300 (by decide) rfl rfl (by omega) hL ?_
  refine LW_vI (d' := 16) (c := 6) (as := [.int (xs (i + 1))]) (st := [.int r]) dL_law_886 (bI_200 Z.1) (by decide) rfl mv_X6_rest mi_X6_rest ml_L_104 (by decide) (Nat.le_of_ble_eq_true rfl) rfl (by omega) (by omega) H (fun r' v2 H2 => ?_)
  obtain ⟨e, R1, h1⟩ := H2
  refine LW_eq dL_law_889 (by decide) e ?_
  exact kk z v2 R1 _ _ Z h1 (by omega) (by omega)
/-- round -/
theorem lc_22 (Z : ZZ z) (h : InvR z v R) (hi : i + 6 ≤ L) (hL : L ≤ 384) (hc : kc + 9 ≤ 600000) (hn : kn + 874 ≤ 7302250) (kk : LNext G b L xs kc kn i) : LW G b L xs kc kn 894 [some (.ref 300), some (.ref 0), some (.ref 200), some (.int (nI i))] [] z v := by
  refine LW_aload dL_law_894 rfl rfl ?_
  refine LW_arg (i := i) (k := 1) dL_law_895 dL_law_896 dL_law_897 dL_law_898 dL_law_899 Z.n300 (by decide) rfl rfl (by omega) hL ?_
  refine LW_vI (d' := 16) (c := 5) (as := [.int (xs (i + 1))]) (st := []) dL_law_900 (bI_0 Z.1) (by decide) rfl mv_X5_round mi_X5_round ml_L_105 (by decide) (by decide) rfl (by omega) (by omega) (pr_round (d := 0) Z.1 h) (fun r v1 H => ?_)
  refine LW_aload dL_law_903 rfl rfl ?_
  refine LW_arg (i := i) (k := 1) dL_law_904 dL_law_905 dL_law_906 dL_law_907 dL_law_908 Z.n300 (by decide) rfl rfl (by omega) hL ?_
  refine LW_vI (d' := 16) (c := 6) (as := [.int (xs (i + 1))]) (st := [.int r]) dL_law_909 (bI_200 Z.1) (by decide) rfl mv_X6_round mi_X6_round ml_L_108 (by decide) (Nat.le_of_ble_eq_true rfl) rfl (by omega) (by omega) H (fun r' v2 H2 => ?_)
  obtain ⟨e, R1, h1⟩ := H2
  refine LW_eq dL_law_912 (by decide) e ?_
  exact kk z v2 R1 _ _ Z h1 (by omega) (by omega)
/-- highest -/
theorem lc_23 (Z : ZZ z) (h : InvR z v R) (hi : i + 6 ≤ L) (hL : L ≤ 384) (hc : kc + 9 ≤ 600000) (hn : kn + 874 ≤ 7302250) (kk : LNext G b L xs kc kn i) : LW G b L xs kc kn 917 [some (.ref 300), some (.ref 0), some (.ref 200), some (.int (nI i))] [] z v := by
  refine LW_aload dL_law_917 rfl rfl ?_
  refine LW_arg (i := i) (k := 1) dL_law_918 dL_law_919 dL_law_920 dL_law_921 dL_law_922 Z.n300 (by decide) rfl rfl (by omega) hL ?_
  refine LW_vI (d' := 16) (c := 5) (as := [.int (xs (i + 1))]) (st := []) dL_law_923 (bI_0 Z.1) (by decide) rfl mv_X5_highest mi_X5_highest ml_L_109 (by decide) (by decide) rfl (by omega) (by omega) (pr_highest (d := 0) Z.1 h) (fun r v1 H => ?_)
  refine LW_aload dL_law_926 rfl rfl ?_
  refine LW_arg (i := i) (k := 1) dL_law_927 dL_law_928 dL_law_929 dL_law_930 dL_law_931 Z.n300 (by decide) rfl rfl (by omega) hL ?_
  refine LW_vI (d' := 16) (c := 6) (as := [.int (xs (i + 1))]) (st := [.int r]) dL_law_932 (bI_200 Z.1) (by decide) rfl mv_X6_highest mi_X6_highest ml_L_112 (by decide) (Nat.le_of_ble_eq_true rfl) rfl (by omega) (by omega) H (fun r' v2 H2 => ?_)
  obtain ⟨e, R1, h1⟩ := H2
  refine LW_eq dL_law_935 (by decide) e ?_
  exact kk z v2 R1 _ _ Z h1 (by omega) (by omega)
/-- lowest -/
theorem lc_24 (Z : ZZ z) (h : InvR z v R) (hi : i + 6 ≤ L) (hL : L ≤ 384) (hc : kc + 9 ≤ 600000) (hn : kn + 874 ≤ 7302250) (kk : LNext G b L xs kc kn i) : LW G b L xs kc kn 940 [some (.ref 300), some (.ref 0), some (.ref 200), some (.int (nI i))] [] z v := by
  refine LW_aload dL_law_940 rfl rfl ?_
  refine LW_arg (i := i) (k := 1) dL_law_941 dL_law_942 dL_law_943 dL_law_944 dL_law_945 Z.n300 (by decide) rfl rfl (by omega) hL ?_
  refine LW_vI (d' := 16) (c := 5) (as := [.int (xs (i + 1))]) (st := []) dL_law_946 (bI_0 Z.1) (by decide) rfl mv_X5_lowest mi_X5_lowest ml_L_113 (by decide) (by decide) rfl (by omega) (by omega) (pr_lowest (d := 0) Z.1 h) (fun r v1 H => ?_)
  refine LW_aload dL_law_949 rfl rfl ?_
  refine LW_arg (i := i) (k := 1) dL_law_950 dL_law_951 dL_law_952 dL_law_953 dL_law_954 Z.n300 (by decide) rfl rfl (by omega) hL ?_
  refine LW_vI (d' := 16) (c := 6) (as := [.int (xs (i + 1))]) (st := [.int r]) dL_law_955 (bI_200 Z.1) (by decide) rfl mv_X6_lowest mi_X6_lowest ml_L_116 (by decide) (Nat.le_of_ble_eq_true rfl) rfl (by omega) (by omega) H (fun r' v2 H2 => ?_)
  obtain ⟨e, R1, h1⟩ := H2
  refine LW_eq dL_law_958 (by decide) e ?_
  exact kk z v2 R1 _ _ Z h1 (by omega) (by omega)
/-- flat -/
theorem lc_25 (Z : ZZ z) (h : InvR z v R) (hi : i + 6 ≤ L) (hL : L ≤ 384) (hc : kc + 9 ≤ 600000) (hn : kn + 874 ≤ 7302250) (kk : LNext G b L xs kc kn i) : LW G b L xs kc kn 963 [some (.ref 300), some (.ref 0), some (.ref 200), some (.int (nI i))] [] z v := by
  refine LW_aload dL_law_963 rfl rfl ?_
  refine LW_arg (i := i) (k := 1) dL_law_964 dL_law_965 dL_law_966 dL_law_967 dL_law_968 Z.n300 (by decide) rfl rfl (by omega) hL ?_
  refine LW_arg (i := i) (k := 2) dL_law_969 dL_law_970 dL_law_971 dL_law_972 dL_law_973 Z.n300 (by decide) rfl rfl (by omega) hL ?_
  refine LW_vI (d' := 16) (c := 5) (as := [.int (xs (i + 1)), .int (xs (i + 2))]) (st := []) dL_law_974 (bI_0 Z.1) (by decide) rfl mv_X5_flat mi_X5_flat ml_L_117 (by decide) (by decide) rfl (by omega) (by omega) (pr_flat (d := 0) Z.1 h) (fun r v1 H => ?_)
  refine LW_aload dL_law_977 rfl rfl ?_
  refine LW_arg (i := i) (k := 1) dL_law_978 dL_law_979 dL_law_980 dL_law_981 dL_law_982 Z.n300 (by decide) rfl rfl (by omega) hL ?_
  refine LW_arg (i := i) (k := 2) dL_law_983 dL_law_984 dL_law_985 dL_law_986 dL_law_987 Z.n300 (by decide) rfl rfl (by omega) hL ?_
  refine LW_vI (d' := 16) (c := 6) (as := [.int (xs (i + 1)), .int (xs (i + 2))]) (st := [.int r]) dL_law_988 (bI_200 Z.1) (by decide) rfl mv_X6_flat mi_X6_flat ml_L_120 (by decide) (Nat.le_of_ble_eq_true rfl) rfl (by omega) (by omega) H (fun r' v2 H2 => ?_)
  obtain ⟨e, R1, h1⟩ := H2
  refine LW_eq dL_law_991 (by decide) e ?_
  exact kk z v2 R1 _ _ Z h1 (by omega) (by omega)
/-- raise -/
theorem lc_26 (Z : ZZ z) (h : InvR z v R) (hi : i + 6 ≤ L) (hL : L ≤ 384) (hc : kc + 9 ≤ 600000) (hn : kn + 874 ≤ 7302250) (kk : LNext G b L xs kc kn i) : LW G b L xs kc kn 996 [some (.ref 300), some (.ref 0), some (.ref 200), some (.int (nI i))] [] z v := by
  refine LW_aload dL_law_996 rfl rfl ?_
  refine LW_arg (i := i) (k := 1) dL_law_997 dL_law_998 dL_law_999 dL_law_1000 dL_law_1001 Z.n300 (by decide) rfl rfl (by omega) hL ?_
  refine LW_arg (i := i) (k := 2) dL_law_1002 dL_law_1003 dL_law_1004 dL_law_1005 dL_law_1006 Z.n300 (by decide) rfl rfl (by omega) hL ?_
  refine LW_arg (i := i) (k := 3) dL_law_1007 dL_law_1008 dL_law_1009 dL_law_1010 dL_law_1011 Z.n300 (by decide) rfl rfl (by omega) hL ?_
  refine LW_arg (i := i) (k := 4) dL_law_1012 dL_law_1013 dL_law_1014 dL_law_1015 dL_law_1016 Z.n300 (by decide) rfl rfl (by omega) hL ?_
  refine LW_vI (d' := 16) (c := 5) (as := [.int (xs (i + 1)), .int (xs (i + 2)), .int (xs (i + 3)), .int (xs (i + 4))]) (st := []) dL_law_1017 (bI_0 Z.1) (by decide) rfl mv_X5_raise mi_X5_raise ml_L_121 (by decide) (by decide) rfl (by omega) (by omega) (pr_raise (d := 0) Z.1 h) (fun r v1 H => ?_)
  refine LW_aload dL_law_1020 rfl rfl ?_
  refine LW_arg (i := i) (k := 1) dL_law_1021 dL_law_1022 dL_law_1023 dL_law_1024 dL_law_1025 Z.n300 (by decide) rfl rfl (by omega) hL ?_
  refine LW_arg (i := i) (k := 2) dL_law_1026 dL_law_1027 dL_law_1028 dL_law_1029 dL_law_1030 Z.n300 (by decide) rfl rfl (by omega) hL ?_
  refine LW_arg (i := i) (k := 3) dL_law_1031 dL_law_1032 dL_law_1033 dL_law_1034 dL_law_1035 Z.n300 (by decide) rfl rfl (by omega) hL ?_
  refine LW_arg (i := i) (k := 4) dL_law_1036 dL_law_1037 dL_law_1038 dL_law_1039 dL_law_1040 Z.n300 (by decide) rfl rfl (by omega) hL ?_
  refine LW_vI (d' := 16) (c := 6) (as := [.int (xs (i + 1)), .int (xs (i + 2)), .int (xs (i + 3)), .int (xs (i + 4))]) (st := [.int r]) dL_law_1041 (bI_200 Z.1) (by decide) rfl mv_X6_raise mi_X6_raise ml_L_125 (by decide) (Nat.le_of_ble_eq_true rfl) rfl (by omega) (by omega) H (fun r' v2 H2 => ?_)
  obtain ⟨e, R1, h1⟩ := H2
  refine LW_eq dL_law_1044 (by decide) e ?_
  exact kk z v2 R1 _ _ Z h1 (by omega) (by omega)
/-- keeps -/
theorem lc_27 (Z : ZZ z) (h : InvR z v R) (hi : i + 6 ≤ L) (hL : L ≤ 384) (hc : kc + 9 ≤ 600000) (hn : kn + 874 ≤ 7302250) (kk : LNext G b L xs kc kn i) : LW G b L xs kc kn 1049 [some (.ref 300), some (.ref 0), some (.ref 200), some (.int (nI i))] [] z v := by
  refine LW_aload dL_law_1049 rfl rfl ?_
  refine LW_arg (i := i) (k := 1) dL_law_1050 dL_law_1051 dL_law_1052 dL_law_1053 dL_law_1054 Z.n300 (by decide) rfl rfl (by omega) hL ?_
  refine LW_vI (d' := 16) (c := 5) (as := [.int (xs (i + 1))]) (st := []) dL_law_1055 (bI_0 Z.1) (by decide) rfl mv_X5_keeps mi_X5_keeps ml_L_126 (by decide) (by decide) rfl (by omega) (by omega) (pr_keeps (d := 0) Z.1 h) (fun r v1 H => ?_)
  refine LW_aload dL_law_1058 rfl rfl ?_
  refine LW_arg (i := i) (k := 1) dL_law_1059 dL_law_1060 dL_law_1061 dL_law_1062 dL_law_1063 Z.n300 (by decide) rfl rfl (by omega) hL ?_
  refine LW_vI (d' := 16) (c := 6) (as := [.int (xs (i + 1))]) (st := [.int r]) dL_law_1064 (bI_200 Z.1) (by decide) rfl mv_X6_keeps mi_X6_keeps ml_L_129 (by decide) (Nat.le_of_ble_eq_true rfl) rfl (by omega) (by omega) H (fun r' v2 H2 => ?_)
  obtain ⟨e, R1, h1⟩ := H2
  refine LW_eq dL_law_1067 (by decide) e ?_
  exact kk z v2 R1 _ _ Z h1 (by omega) (by omega)
/-- rivals -/
theorem lc_28 (Z : ZZ z) (h : InvR z v R) (hi : i + 6 ≤ L) (hL : L ≤ 384) (hc : kc + 9 ≤ 600000) (hn : kn + 874 ≤ 7302250) (kk : LNext G b L xs kc kn i) : LW G b L xs kc kn 1072 [some (.ref 300), some (.ref 0), some (.ref 200), some (.int (nI i))] [] z v := by
  refine LW_aload dL_law_1072 rfl rfl ?_
  refine LW_arg (i := i) (k := 1) dL_law_1073 dL_law_1074 dL_law_1075 dL_law_1076 dL_law_1077 Z.n300 (by decide) rfl rfl (by omega) hL ?_
  refine LW_arg (i := i) (k := 2) dL_law_1078 dL_law_1079 dL_law_1080 dL_law_1081 dL_law_1082 Z.n300 (by decide) rfl rfl (by omega) hL ?_
  refine LW_arg (i := i) (k := 3) dL_law_1083 dL_law_1084 dL_law_1085 dL_law_1086 dL_law_1087 Z.n300 (by decide) rfl rfl (by omega) hL ?_
  refine LW_arg (i := i) (k := 4) dL_law_1088 dL_law_1089 dL_law_1090 dL_law_1091 dL_law_1092 Z.n300 (by decide) rfl rfl (by omega) hL ?_
  refine LW_vI (d' := 16) (c := 5) (as := [.int (xs (i + 1)), .int (xs (i + 2)), .int (xs (i + 3)), .int (xs (i + 4))]) (st := []) dL_law_1093 (bI_0 Z.1) (by decide) rfl mv_X5_rivals mi_X5_rivals ml_L_130 (by decide) (by decide) rfl (by omega) (by omega) (pr_rivals (d := 0) Z.1 h) (fun r v1 H => ?_)
  refine LW_aload dL_law_1096 rfl rfl ?_
  refine LW_arg (i := i) (k := 1) dL_law_1097 dL_law_1098 dL_law_1099 dL_law_1100 dL_law_1101 Z.n300 (by decide) rfl rfl (by omega) hL ?_
  refine LW_arg (i := i) (k := 2) dL_law_1102 dL_law_1103 dL_law_1104 dL_law_1105 dL_law_1106 Z.n300 (by decide) rfl rfl (by omega) hL ?_
  refine LW_arg (i := i) (k := 3) dL_law_1107 dL_law_1108 dL_law_1109 dL_law_1110 dL_law_1111 Z.n300 (by decide) rfl rfl (by omega) hL ?_
  refine LW_arg (i := i) (k := 4) dL_law_1112 dL_law_1113 dL_law_1114 dL_law_1115 dL_law_1116 Z.n300 (by decide) rfl rfl (by omega) hL ?_
  refine LW_vI (d' := 16) (c := 6) (as := [.int (xs (i + 1)), .int (xs (i + 2)), .int (xs (i + 3)), .int (xs (i + 4))]) (st := [.int r]) dL_law_1117 (bI_200 Z.1) (by decide) rfl mv_X6_rivals mi_X6_rivals ml_L_133 (by decide) (Nat.le_of_ble_eq_true rfl) rfl (by omega) (by omega) H (fun r' v2 H2 => ?_)
  obtain ⟨e, R1, h1⟩ := H2
  refine LW_eq dL_law_1120 (by decide) e ?_
  exact kk z v2 R1 _ _ Z h1 (by omega) (by omega)
/-- played -/
theorem lc_29 (Z : ZZ z) (h : InvR z v R) (hi : i + 6 ≤ L) (hL : L ≤ 384) (hc : kc + 9 ≤ 600000) (hn : kn + 874 ≤ 7302250) (kk : LNext G b L xs kc kn i) : LW G b L xs kc kn 1125 [some (.ref 300), some (.ref 0), some (.ref 200), some (.int (nI i))] [] z v := by
  refine LW_aload dL_law_1125 rfl rfl ?_
  refine LW_arg (i := i) (k := 1) dL_law_1126 dL_law_1127 dL_law_1128 dL_law_1129 dL_law_1130 Z.n300 (by decide) rfl rfl (by omega) hL ?_
  refine LW_vI (d' := 16) (c := 5) (as := [.int (xs (i + 1))]) (st := []) dL_law_1131 (bI_0 Z.1) (by decide) rfl mv_X5_played mi_X5_played ml_L_134 (by decide) (by decide) rfl (by omega) (by omega) (pr_played (d := 0) Z.1 h) (fun r v1 H => ?_)
  refine LW_aload dL_law_1134 rfl rfl ?_
  refine LW_arg (i := i) (k := 1) dL_law_1135 dL_law_1136 dL_law_1137 dL_law_1138 dL_law_1139 Z.n300 (by decide) rfl rfl (by omega) hL ?_
  refine LW_vI (d' := 16) (c := 6) (as := [.int (xs (i + 1))]) (st := [.int r]) dL_law_1140 (bI_200 Z.1) (by decide) rfl mv_X6_played mi_X6_played ml_L_137 (by decide) (Nat.le_of_ble_eq_true rfl) rfl (by omega) (by omega) H (fun r' v2 H2 => ?_)
  obtain ⟨e, R1, h1⟩ := H2
  refine LW_eq dL_law_1143 (by decide) e ?_
  exact kk z v2 R1 _ _ Z h1 (by omega) (by omega)
/-- could -/
theorem lc_30 (Z : ZZ z) (h : InvR z v R) (hi : i + 6 ≤ L) (hL : L ≤ 384) (hc : kc + 9 ≤ 600000) (hn : kn + 874 ≤ 7302250) (kk : LNext G b L xs kc kn i) : LW G b L xs kc kn 1148 [some (.ref 300), some (.ref 0), some (.ref 200), some (.int (nI i))] [] z v := by
  refine LW_aload dL_law_1148 rfl rfl ?_
  refine LW_arg (i := i) (k := 1) dL_law_1149 dL_law_1150 dL_law_1151 dL_law_1152 dL_law_1153 Z.n300 (by decide) rfl rfl (by omega) hL ?_
  refine LW_arg (i := i) (k := 2) dL_law_1154 dL_law_1155 dL_law_1156 dL_law_1157 dL_law_1158 Z.n300 (by decide) rfl rfl (by omega) hL ?_
  refine LW_vI (d' := 16) (c := 5) (as := [.int (xs (i + 1)), .int (xs (i + 2))]) (st := []) dL_law_1159 (bI_0 Z.1) (by decide) rfl mv_X5_could mi_X5_could ml_L_138 (by decide) (by decide) rfl (by omega) (by omega) (pr_could (d := 0) Z.1 h) (fun r v1 H => ?_)
  refine LW_aload dL_law_1162 rfl rfl ?_
  refine LW_arg (i := i) (k := 1) dL_law_1163 dL_law_1164 dL_law_1165 dL_law_1166 dL_law_1167 Z.n300 (by decide) rfl rfl (by omega) hL ?_
  refine LW_arg (i := i) (k := 2) dL_law_1168 dL_law_1169 dL_law_1170 dL_law_1171 dL_law_1172 Z.n300 (by decide) rfl rfl (by omega) hL ?_
  refine LW_vI (d' := 16) (c := 6) (as := [.int (xs (i + 1)), .int (xs (i + 2))]) (st := [.int r]) dL_law_1173 (bI_200 Z.1) (by decide) rfl mv_X6_could mi_X6_could ml_L_141 (by decide) (Nat.le_of_ble_eq_true rfl) rfl (by omega) (by omega) H (fun r' v2 H2 => ?_)
  obtain ⟨e, R1, h1⟩ := H2
  refine LW_eq dL_law_1176 (by decide) e ?_
  exact kk z v2 R1 _ _ Z h1 (by omega) (by omega)
/-- twice -/
theorem lc_31 (Z : ZZ z) (h : InvR z v R) (hi : i + 6 ≤ L) (hL : L ≤ 384) (hc : kc + 9 ≤ 600000) (hn : kn + 874 ≤ 7302250) (kk : LNext G b L xs kc kn i) : LW G b L xs kc kn 1181 [some (.ref 300), some (.ref 0), some (.ref 200), some (.int (nI i))] [] z v := by
  refine LW_aload dL_law_1181 rfl rfl ?_
  refine LW_arg (i := i) (k := 1) dL_law_1182 dL_law_1183 dL_law_1184 dL_law_1185 dL_law_1186 Z.n300 (by decide) rfl rfl (by omega) hL ?_
  refine LW_vI (d' := 16) (c := 5) (as := [.int (xs (i + 1))]) (st := []) dL_law_1187 (bI_0 Z.1) (by decide) rfl mv_X5_twice mi_X5_twice ml_L_142 (by decide) (by decide) rfl (by omega) (by omega) (pr_twice (d := 0) Z.1 h) (fun r v1 H => ?_)
  refine LW_aload dL_law_1190 rfl rfl ?_
  refine LW_arg (i := i) (k := 1) dL_law_1191 dL_law_1192 dL_law_1193 dL_law_1194 dL_law_1195 Z.n300 (by decide) rfl rfl (by omega) hL ?_
  refine LW_vI (d' := 16) (c := 6) (as := [.int (xs (i + 1))]) (st := [.int r]) dL_law_1196 (bI_200 Z.1) (by decide) rfl mv_X6_twice mi_X6_twice ml_L_145 (by decide) (Nat.le_of_ble_eq_true rfl) rfl (by omega) (by omega) H (fun r' v2 H2 => ?_)
  obtain ⟨e, R1, h1⟩ := H2
  refine LW_eq dL_law_1199 (by decide) e ?_
  exact kk z v2 R1 _ _ Z h1 (by omega) (by omega)
/-- valleys -/
theorem lc_32 (Z : ZZ z) (h : InvR z v R) (hi : i + 6 ≤ L) (hL : L ≤ 384) (hc : kc + 9 ≤ 600000) (hn : kn + 874 ≤ 7302250) (kk : LNext G b L xs kc kn i) : LW G b L xs kc kn 1204 [some (.ref 300), some (.ref 0), some (.ref 200), some (.int (nI i))] [] z v := by
  refine LW_aload dL_law_1204 rfl rfl ?_
  refine LW_vI (d' := 16) (c := 5) (as := []) (st := []) dL_law_1205 (bI_0 Z.1) (by decide) rfl mv_X5_valleys mi_X5_valleys ml_L_146 (by decide) (by decide) rfl (by omega) (by omega) (pr_valleys (d := 0) Z.1 h) (fun r v1 H => ?_)
  refine LW_aload dL_law_1208 rfl rfl ?_
  refine LW_vI (d' := 16) (c := 6) (as := []) (st := [.int r]) dL_law_1209 (bI_200 Z.1) (by decide) rfl mv_X6_valleys mi_X6_valleys ml_L_150 (by decide) (Nat.le_of_ble_eq_true rfl) rfl (by omega) (by omega) H (fun r' v2 H2 => ?_)
  obtain ⟨e, R1, h1⟩ := H2
  refine LW_eq dL_law_1212 (by decide) e ?_
  exact kk z v2 R1 _ _ Z h1 (by omega) (by omega)
/-- top -/
theorem lc_33 (Z : ZZ z) (h : InvR z v R) (hi : i + 6 ≤ L) (hL : L ≤ 384) (hc : kc + 9 ≤ 600000) (hn : kn + 874 ≤ 7302250) (kk : LNext G b L xs kc kn i) : LW G b L xs kc kn 1217 [some (.ref 300), some (.ref 0), some (.ref 200), some (.int (nI i))] [] z v := by
  refine LW_aload dL_law_1217 rfl rfl ?_
  refine LW_vI (d' := 16) (c := 5) (as := []) (st := []) dL_law_1218 (bI_0 Z.1) (by decide) rfl mv_X5_top mi_X5_top ml_L_151 (by decide) (by decide) rfl (by omega) (by omega) (pr_top (d := 0) Z.1 h) (fun r v1 H => ?_)
  refine LW_aload dL_law_1221 rfl rfl ?_
  refine LW_vI (d' := 16) (c := 6) (as := []) (st := [.int r]) dL_law_1222 (bI_200 Z.1) (by decide) rfl mv_X6_top mi_X6_top ml_L_154 (by decide) (Nat.le_of_ble_eq_true rfl) rfl (by omega) (by omega) H (fun r' v2 H2 => ?_)
  obtain ⟨e, R1, h1⟩ := H2
  refine LW_eq dL_law_1225 (by decide) e ?_
  exact kk z v2 R1 _ _ Z h1 (by omega) (by omega)
/-- border -/
theorem lc_34 (Z : ZZ z) (h : InvR z v R) (hi : i + 6 ≤ L) (hL : L ≤ 384) (hc : kc + 9 ≤ 600000) (hn : kn + 874 ≤ 7302250) (kk : LNext G b L xs kc kn i) : LW G b L xs kc kn 1230 [some (.ref 300), some (.ref 0), some (.ref 200), some (.int (nI i))] [] z v := by
  refine LW_aload dL_law_1230 rfl rfl ?_
  refine LW_arg (i := i) (k := 1) dL_law_1231 dL_law_1232 dL_law_1233 dL_law_1234 dL_law_1235 Z.n300 (by decide) rfl rfl (by omega) hL ?_
  refine LW_arg (i := i) (k := 2) dL_law_1236 dL_law_1237 dL_law_1238 dL_law_1239 dL_law_1240 Z.n300 (by decide) rfl rfl (by omega) hL ?_
  refine LW_vI (d' := 16) (c := 5) (as := [.int (xs (i + 1)), .int (xs (i + 2))]) (st := []) dL_law_1241 (bI_0 Z.1) (by decide) rfl mv_X5_border mi_X5_border ml_L_155 (by decide) (by decide) rfl (by omega) (by omega) (pr_border (d := 0) Z.1 h) (fun r v1 H => ?_)
  refine LW_aload dL_law_1244 rfl rfl ?_
  refine LW_arg (i := i) (k := 1) dL_law_1245 dL_law_1246 dL_law_1247 dL_law_1248 dL_law_1249 Z.n300 (by decide) rfl rfl (by omega) hL ?_
  refine LW_arg (i := i) (k := 2) dL_law_1250 dL_law_1251 dL_law_1252 dL_law_1253 dL_law_1254 Z.n300 (by decide) rfl rfl (by omega) hL ?_
  refine LW_vI (d' := 16) (c := 6) (as := [.int (xs (i + 1)), .int (xs (i + 2))]) (st := [.int r]) dL_law_1255 (bI_200 Z.1) (by decide) rfl mv_X6_border mi_X6_border ml_L_158 (by decide) (Nat.le_of_ble_eq_true rfl) rfl (by omega) (by omega) H (fun r' v2 H2 => ?_)
  obtain ⟨e, R1, h1⟩ := H2
  refine LW_eq dL_law_1258 (by decide) e ?_
  exact kk z v2 R1 _ _ Z h1 (by omega) (by omega)
/-- shifts -/
theorem lc_35 (Z : ZZ z) (h : InvR z v R) (hi : i + 6 ≤ L) (hL : L ≤ 384) (hc : kc + 9 ≤ 600000) (hn : kn + 874 ≤ 7302250) (kk : LNext G b L xs kc kn i) : LW G b L xs kc kn 1263 [some (.ref 300), some (.ref 0), some (.ref 200), some (.int (nI i))] [] z v := by
  refine LW_aload dL_law_1263 rfl rfl ?_
  refine LW_arg (i := i) (k := 1) dL_law_1264 dL_law_1265 dL_law_1266 dL_law_1267 dL_law_1268 Z.n300 (by decide) rfl rfl (by omega) hL ?_
  refine LW_arg (i := i) (k := 2) dL_law_1269 dL_law_1270 dL_law_1271 dL_law_1272 dL_law_1273 Z.n300 (by decide) rfl rfl (by omega) hL ?_
  refine LW_vI (d' := 16) (c := 5) (as := [.int (xs (i + 1)), .int (xs (i + 2))]) (st := []) dL_law_1274 (bI_0 Z.1) (by decide) rfl mv_X5_shifts mi_X5_shifts ml_L_159 (by decide) (by decide) rfl (by omega) (by omega) (pr_shifts (d := 0) Z.1 h) (fun r v1 H => ?_)
  refine LW_aload dL_law_1277 rfl rfl ?_
  refine LW_arg (i := i) (k := 1) dL_law_1278 dL_law_1279 dL_law_1280 dL_law_1281 dL_law_1282 Z.n300 (by decide) rfl rfl (by omega) hL ?_
  refine LW_arg (i := i) (k := 2) dL_law_1283 dL_law_1284 dL_law_1285 dL_law_1286 dL_law_1287 Z.n300 (by decide) rfl rfl (by omega) hL ?_
  refine LW_vI (d' := 16) (c := 6) (as := [.int (xs (i + 1)), .int (xs (i + 2))]) (st := [.int r]) dL_law_1288 (bI_200 Z.1) (by decide) rfl mv_X6_shifts mi_X6_shifts ml_L_162 (by decide) (Nat.le_of_ble_eq_true rfl) rfl (by omega) (by omega) H (fun r' v2 H2 => ?_)
  obtain ⟨e, R1, h1⟩ := H2
  refine LW_eq dL_law_1291 (by decide) e ?_
  exact kk z v2 R1 _ _ Z h1 (by omega) (by omega)
/-- far -/
theorem lc_36 (Z : ZZ z) (h : InvR z v R) (hi : i + 6 ≤ L) (hL : L ≤ 384) (hc : kc + 9 ≤ 600000) (hn : kn + 874 ≤ 7302250) (kk : LNext G b L xs kc kn i) : LW G b L xs kc kn 1296 [some (.ref 300), some (.ref 0), some (.ref 200), some (.int (nI i))] [] z v := by
  refine LW_aload dL_law_1296 rfl rfl ?_
  refine LW_arg (i := i) (k := 1) dL_law_1297 dL_law_1298 dL_law_1299 dL_law_1300 dL_law_1301 Z.n300 (by decide) rfl rfl (by omega) hL ?_
  refine LW_vI (d' := 16) (c := 5) (as := [.int (xs (i + 1))]) (st := []) dL_law_1302 (bI_0 Z.1) (by decide) rfl mv_X5_far mi_X5_far ml_L_163 (by decide) (by decide) rfl (by omega) (by omega) (pr_far (d := 0) Z.1 h) (fun r v1 H => ?_)
  refine LW_aload dL_law_1305 rfl rfl ?_
  refine LW_arg (i := i) (k := 1) dL_law_1306 dL_law_1307 dL_law_1308 dL_law_1309 dL_law_1310 Z.n300 (by decide) rfl rfl (by omega) hL ?_
  refine LW_vI (d' := 16) (c := 6) (as := [.int (xs (i + 1))]) (st := [.int r]) dL_law_1311 (bI_200 Z.1) (by decide) rfl mv_X6_far mi_X6_far ml_L_166 (by decide) (Nat.le_of_ble_eq_true rfl) rfl (by omega) (by omega) H (fun r' v2 H2 => ?_)
  obtain ⟨e, R1, h1⟩ := H2
  refine LW_eq dL_law_1314 (by decide) e ?_
  exact kk z v2 R1 _ _ Z h1 (by omega) (by omega)
/-- season -/
theorem lc_37 (Z : ZZ z) (h : InvR z v R) (hi : i + 6 ≤ L) (hL : L ≤ 384) (hc : kc + 9 ≤ 600000) (hn : kn + 874 ≤ 7302250) (kk : LNext G b L xs kc kn i) : LW G b L xs kc kn 1319 [some (.ref 300), some (.ref 0), some (.ref 200), some (.int (nI i))] [] z v := by
  refine LW_aload dL_law_1319 rfl rfl ?_
  refine LW_arg (i := i) (k := 1) dL_law_1320 dL_law_1321 dL_law_1322 dL_law_1323 dL_law_1324 Z.n300 (by decide) rfl rfl (by omega) hL ?_
  refine LW_arg (i := i) (k := 2) dL_law_1325 dL_law_1326 dL_law_1327 dL_law_1328 dL_law_1329 Z.n300 (by decide) rfl rfl (by omega) hL ?_
  refine LW_vI (d' := 16) (c := 5) (as := [.int (xs (i + 1)), .int (xs (i + 2))]) (st := []) dL_law_1330 (bI_0 Z.1) (by decide) rfl mv_X5_season mi_X5_season ml_L_167 (by decide) (by decide) rfl (by omega) (by omega) (pr_season (d := 0) Z.1 h) (fun r v1 H => ?_)
  refine LW_aload dL_law_1333 rfl rfl ?_
  refine LW_arg (i := i) (k := 1) dL_law_1334 dL_law_1335 dL_law_1336 dL_law_1337 dL_law_1338 Z.n300 (by decide) rfl rfl (by omega) hL ?_
  refine LW_arg (i := i) (k := 2) dL_law_1339 dL_law_1340 dL_law_1341 dL_law_1342 dL_law_1343 Z.n300 (by decide) rfl rfl (by omega) hL ?_
  refine LW_vI (d' := 16) (c := 6) (as := [.int (xs (i + 1)), .int (xs (i + 2))]) (st := [.int r]) dL_law_1344 (bI_200 Z.1) (by decide) rfl mv_X6_season mi_X6_season ml_L_170 (by decide) (Nat.le_of_ble_eq_true rfl) rfl (by omega) (by omega) H (fun r' v2 H2 => ?_)
  obtain ⟨e, R1, h1⟩ := H2
  refine LW_eq dL_law_1347 (by decide) e ?_
  exact kk z v2 R1 _ _ Z h1 (by omega) (by omega)
/-- asked -/
theorem lc_38 (Z : ZZ z) (h : InvR z v R) (hi : i + 6 ≤ L) (hL : L ≤ 384) (hc : kc + 9 ≤ 600000) (hn : kn + 874 ≤ 7302250) (kk : LNext G b L xs kc kn i) : LW G b L xs kc kn 1352 [some (.ref 300), some (.ref 0), some (.ref 200), some (.int (nI i))] [] z v := by
  refine LW_aload dL_law_1352 rfl rfl ?_
  refine LW_vI (d' := 16) (c := 5) (as := []) (st := []) dL_law_1353 (bI_0 Z.1) (by decide) rfl mv_X5_asked mi_X5_asked ml_L_171 (by decide) (by decide) rfl (by omega) (by omega) (pr_asked (d := 0) Z.1 h) (fun r v1 H => ?_)
  refine LW_aload dL_law_1356 rfl rfl ?_
  refine LW_vI (d' := 16) (c := 6) (as := []) (st := [.int r]) dL_law_1357 (bI_200 Z.1) (by decide) rfl mv_X6_asked mi_X6_asked ml_L_174 (by decide) (Nat.le_of_ble_eq_true rfl) rfl (by omega) (by omega) H (fun r' v2 H2 => ?_)
  obtain ⟨e, R1, h1⟩ := H2
  refine LW_eq dL_law_1360 (by decide) e ?_
  exact kk z v2 R1 _ _ Z h1 (by omega) (by omega)
/-- upper -/
theorem lc_39 (Z : ZZ z) (h : InvR z v R) (hi : i + 6 ≤ L) (hL : L ≤ 384) (hc : kc + 9 ≤ 600000) (hn : kn + 874 ≤ 7302250) (kk : LNext G b L xs kc kn i) : LW G b L xs kc kn 1365 [some (.ref 300), some (.ref 0), some (.ref 200), some (.int (nI i))] [] z v := by
  refine LW_aload dL_law_1365 rfl rfl ?_
  refine LW_vL (d' := 16) (c := 5) (as := []) (st := []) dL_law_1366 (bI_0 Z.1) (by decide) rfl mv_X5_upper mi_X5_upper ml_L_175 (by decide) (by decide) rfl (by omega) (by omega) (pr_upper (d := 0) Z.1 h) (fun r v1 H => ?_)
  refine LW_aload dL_law_1369 rfl rfl ?_
  refine LW_vL (d' := 16) (c := 6) (as := []) (st := [.long r]) dL_law_1370 (bI_200 Z.1) (by decide) rfl mv_X6_upper mi_X6_upper ml_L_179 (by decide) (Nat.le_of_ble_eq_true rfl) rfl (by omega) (by omega) H (fun r' v2 H2 => ?_)
  obtain ⟨e, R1, h1⟩ := H2
  refine LW_leq dL_law_1373 dL_law_1374 (by decide) e ?_
  exact kk z v2 R1 _ _ Z h1 (by omega) (by omega)
/-- lower -/
theorem lc_40 (Z : ZZ z) (h : InvR z v R) (hi : i + 6 ≤ L) (hL : L ≤ 384) (hc : kc + 9 ≤ 600000) (hn : kn + 874 ≤ 7302250) (kk : LNext G b L xs kc kn i) : LW G b L xs kc kn 1379 [some (.ref 300), some (.ref 0), some (.ref 200), some (.int (nI i))] [] z v := by
  refine LW_aload dL_law_1379 rfl rfl ?_
  refine LW_vL (d' := 16) (c := 5) (as := []) (st := []) dL_law_1380 (bI_0 Z.1) (by decide) rfl mv_X5_lower mi_X5_lower ml_L_180 (by decide) (by decide) rfl (by omega) (by omega) (pr_lower (d := 0) Z.1 h) (fun r v1 H => ?_)
  refine LW_aload dL_law_1383 rfl rfl ?_
  refine LW_vL (d' := 16) (c := 6) (as := []) (st := [.long r]) dL_law_1384 (bI_200 Z.1) (by decide) rfl mv_X6_lower mi_X6_lower ml_L_183 (by decide) (Nat.le_of_ble_eq_true rfl) rfl (by omega) (by omega) H (fun r' v2 H2 => ?_)
  obtain ⟨e, R1, h1⟩ := H2
  refine LW_leq dL_law_1387 dL_law_1388 (by decide) e ?_
  exact kk z v2 R1 _ _ Z h1 (by omega) (by omega)
/-- count -/
theorem lc_41 (Z : ZZ z) (h : InvR z v R) (hi : i + 6 ≤ L) (hL : L ≤ 384) (hc : kc + 9 ≤ 600000) (hn : kn + 874 ≤ 7302250) (kk : LNext G b L xs kc kn i) : LW G b L xs kc kn 1393 [some (.ref 300), some (.ref 0), some (.ref 200), some (.int (nI i))] [] z v := by
  refine LW_aload dL_law_1393 rfl rfl ?_
  refine LW_arg (i := i) (k := 1) dL_law_1394 dL_law_1395 dL_law_1396 dL_law_1397 dL_law_1398 Z.n300 (by decide) rfl rfl (by omega) hL ?_
  refine LW_vI (d' := 16) (c := 5) (as := [.int (xs (i + 1))]) (st := []) dL_law_1399 (bI_0 Z.1) (by decide) rfl mv_X5_count mi_X5_count ml_L_184 (by decide) (by decide) rfl (by omega) (by omega) (pr_count (d := 0) Z.1 h) (fun r v1 H => ?_)
  refine LW_aload dL_law_1402 rfl rfl ?_
  refine LW_arg (i := i) (k := 1) dL_law_1403 dL_law_1404 dL_law_1405 dL_law_1406 dL_law_1407 Z.n300 (by decide) rfl rfl (by omega) hL ?_
  refine LW_vI (d' := 16) (c := 6) (as := [.int (xs (i + 1))]) (st := [.int r]) dL_law_1408 (bI_200 Z.1) (by decide) rfl mv_X6_count mi_X6_count ml_L_187 (by decide) (Nat.le_of_ble_eq_true rfl) rfl (by omega) (by omega) H (fun r' v2 H2 => ?_)
  obtain ⟨e, R1, h1⟩ := H2
  refine LW_eq dL_law_1411 (by decide) e ?_
  exact kk z v2 R1 _ _ Z h1 (by omega) (by omega)
/-- finding -/
theorem lc_42 (Z : ZZ z) (h : InvR z v R) (hi : i + 6 ≤ L) (hL : L ≤ 384) (hc : kc + 9 ≤ 600000) (hn : kn + 874 ≤ 7302250) (kk : LNext G b L xs kc kn i) : LW G b L xs kc kn 1416 [some (.ref 300), some (.ref 0), some (.ref 200), some (.int (nI i))] [] z v := by
  refine LW_aload dL_law_1416 rfl rfl ?_
  refine LW_vI (d' := 16) (c := 5) (as := []) (st := []) dL_law_1417 (bI_0 Z.1) (by decide) rfl mv_X5_finding mi_X5_finding ml_L_188 (by decide) (by decide) rfl (by omega) (by omega) (pr_finding (d := 0) Z.1 h) (fun r v1 H => ?_)
  refine LW_aload dL_law_1420 rfl rfl ?_
  refine LW_vI (d' := 16) (c := 6) (as := []) (st := [.int r]) dL_law_1421 (bI_200 Z.1) (by decide) rfl mv_X6_finding mi_X6_finding ml_L_191 (by decide) (Nat.le_of_ble_eq_true rfl) rfl (by omega) (by omega) H (fun r' v2 H2 => ?_)
  obtain ⟨e, R1, h1⟩ := H2
  refine LW_eq dL_law_1424 (by decide) e ?_
  exact kk z v2 R1 _ _ Z h1 (by omega) (by omega)
/-- findings -/
theorem lc_43 (Z : ZZ z) (h : InvR z v R) (hi : i + 6 ≤ L) (hL : L ≤ 384) (hc : kc + 9 ≤ 600000) (hn : kn + 874 ≤ 7302250) (kk : LNext G b L xs kc kn i) : LW G b L xs kc kn 1429 [some (.ref 300), some (.ref 0), some (.ref 200), some (.int (nI i))] [] z v := by
  refine LW_aload dL_law_1429 rfl rfl ?_
  refine LW_arg (i := i) (k := 1) dL_law_1430 dL_law_1431 dL_law_1432 dL_law_1433 dL_law_1434 Z.n300 (by decide) rfl rfl (by omega) hL ?_
  refine LW_vI (d' := 16) (c := 5) (as := [.int (xs (i + 1))]) (st := []) dL_law_1435 (bI_0 Z.1) (by decide) rfl mv_X5_findings mi_X5_findings ml_L_192 (by decide) (by decide) rfl (by omega) (by omega) (pr_findings (d := 0) Z.1 h) (fun r v1 H => ?_)
  refine LW_aload dL_law_1438 rfl rfl ?_
  refine LW_arg (i := i) (k := 1) dL_law_1439 dL_law_1440 dL_law_1441 dL_law_1442 dL_law_1443 Z.n300 (by decide) rfl rfl (by omega) hL ?_
  refine LW_vI (d' := 16) (c := 6) (as := [.int (xs (i + 1))]) (st := [.int r]) dL_law_1444 (bI_200 Z.1) (by decide) rfl mv_X6_findings mi_X6_findings ml_L_195 (by decide) (Nat.le_of_ble_eq_true rfl) rfl (by omega) (by omega) H (fun r' v2 H2 => ?_)
  obtain ⟨e, R1, h1⟩ := H2
  refine LW_eq dL_law_1447 (by decide) e ?_
  exact kk z v2 R1 _ _ Z h1 (by omega) (by omega)
/-- digest -/
theorem lc_44 (Z : ZZ z) (h : InvR z v R) (hi : i + 6 ≤ L) (hL : L ≤ 384) (hc : kc + 9 ≤ 600000) (hn : kn + 874 ≤ 7302250) (kk : LNext G b L xs kc kn i) : LW G b L xs kc kn 1452 [some (.ref 300), some (.ref 0), some (.ref 200), some (.int (nI i))] [] z v := by
  refine LW_aload dL_law_1452 rfl rfl ?_
  refine LW_vL (d' := 16) (c := 5) (as := []) (st := []) dL_law_1453 (bI_0 Z.1) (by decide) rfl mv_X5_digest mi_X5_digest ml_L_196 (by decide) (by decide) rfl (by omega) (by omega) (pr_digest (d := 0) Z.1 h) (fun r v1 H => ?_)
  refine LW_aload dL_law_1456 rfl rfl ?_
  refine LW_vL (d' := 16) (c := 6) (as := []) (st := [.long r]) dL_law_1457 (bI_200 Z.1) (by decide) rfl mv_X6_digest mi_X6_digest ml_L_199 (by decide) (Nat.le_of_ble_eq_true rfl) rfl (by omega) (by omega) H (fun r' v2 H2 => ?_)
  obtain ⟨e, R1, h1⟩ := H2
  refine LW_leq dL_law_1460 dL_law_1461 (by decide) e ?_
  exact kk z v2 R1 _ _ Z h1 (by omega) (by omega)
theorem lc_all (Z : ZZ z) (h : InvR z v R) (hi : i + 6 ≤ L) (hL : L ≤ 384) (hc : kc + 9 ≤ 600000) (hn : kn + 874 ≤ 7302250) (kk : LNext G b L xs kc kn i) : ∀ k, k < 45 → LW G b L xs kc kn (lawT k) [some (.ref 300), some (.ref 0), some (.ref 200), some (.int (nI i))] [] z v := by
  intro k hk
  match k, hk with
  | 0, _ => exact lc_0 Z h hi hL hc hn kk
  | 1, _ => exact lc_1 Z h hi hL hc hn kk
  | 2, _ => exact lc_2 Z h hi hL hc hn kk
  | 3, _ => exact lc_3 Z h hi hL hc hn kk
  | 4, _ => exact lc_4 Z h hi hL hc hn kk
  | 5, _ => exact lc_5 Z h hi hL hc hn kk
  | 6, _ => exact lc_6 Z h hi hL hc hn kk
  | 7, _ => exact lc_7 Z h hi hL hc hn kk
  | 8, _ => exact lc_8 Z h hi hL hc hn kk
  | 9, _ => exact lc_9 Z h hi hL hc hn kk
  | 10, _ => exact lc_10 Z h hi hL hc hn kk
  | 11, _ => exact lc_11 Z h hi hL hc hn kk
  | 12, _ => exact lc_12 Z h hi hL hc hn kk
  | 13, _ => exact lc_13 Z h hi hL hc hn kk
  | 14, _ => exact lc_14 Z h hi hL hc hn kk
  | 15, _ => exact lc_15 Z h hi hL hc hn kk
  | 16, _ => exact lc_16 Z h hi hL hc hn kk
  | 17, _ => exact lc_17 Z h hi hL hc hn kk
  | 18, _ => exact lc_18 Z h hi hL hc hn kk
  | 19, _ => exact lc_19 Z h hi hL hc hn kk
  | 20, _ => exact lc_20 Z h hi hL hc hn kk
  | 21, _ => exact lc_21 Z h hi hL hc hn kk
  | 22, _ => exact lc_22 Z h hi hL hc hn kk
  | 23, _ => exact lc_23 Z h hi hL hc hn kk
  | 24, _ => exact lc_24 Z h hi hL hc hn kk
  | 25, _ => exact lc_25 Z h hi hL hc hn kk
  | 26, _ => exact lc_26 Z h hi hL hc hn kk
  | 27, _ => exact lc_27 Z h hi hL hc hn kk
  | 28, _ => exact lc_28 Z h hi hL hc hn kk
  | 29, _ => exact lc_29 Z h hi hL hc hn kk
  | 30, _ => exact lc_30 Z h hi hL hc hn kk
  | 31, _ => exact lc_31 Z h hi hL hc hn kk
  | 32, _ => exact lc_32 Z h hi hL hc hn kk
  | 33, _ => exact lc_33 Z h hi hL hc hn kk
  | 34, _ => exact lc_34 Z h hi hL hc hn kk
  | 35, _ => exact lc_35 Z h hi hL hc hn kk
  | 36, _ => exact lc_36 Z h hi hL hc hn kk
  | 37, _ => exact lc_37 Z h hi hL hc hn kk
  | 38, _ => exact lc_38 Z h hi hL hc hn kk
  | 39, _ => exact lc_39 Z h hi hL hc hn kk
  | 40, _ => exact lc_40 Z h hi hL hc hn kk
  | 41, _ => exact lc_41 Z h hi hL hc hn kk
  | 42, _ => exact lc_42 Z h hi hL hc hn kk
  | 43, _ => exact lc_43 Z h hi hL hc hn kk
  | 44, _ => exact lc_44 Z h hi hL hc hn kk
  | k + 45, hk => exact absurd hk (by omega)
end LAWC
