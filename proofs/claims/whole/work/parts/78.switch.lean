/-! ===== the law: all its cases ===== -/
section LSW
variable {p : Program} {l : Launch} {e : Env} {s : State} {m : MethodId} {below : List Frame} {meth : Method} {c : Code} {D : va_G} {E : ja_E} {Q : State → Prop} {b L i : Nat} {xs : Nat → Int32} {H : Heap} {locs : List Loc} {ls : Array Slot} {pc cells slots : Nat} {σ : jm_S} {S : jSt} {rest : List Value}
theorem lw_at0 (C : lw_Cx p s m c b D E) (X : lw_sc s b L xs i) (hJ : ja_J E D (jm_hp σ) H) (hS : va_S (ja_A E) s.heap H locs) (hl : lw_ls E b i ls) (hC : JC σ S) (hM : JM σ S) (hI : JI S) (kk : lw_kk p l e s m b below meth c D E Q i) : W p l e room_1 s m #[Value.ref b] below meth c H locs 321 lw_T Q (F0 m 32 ls [.int (nI 0)]) := by
  obtain ⟨c1, c2, -⟩ := id C
  exact lv_tableIn (off := 172) (tgt := 204) c1 c2 d_law_32 (by decide +kernel) (by decide +kernel) (by decide +kernel) (by decide) (lw_case2 C X hJ hS hl (o_hang hC hM hI _ _) lk_13 lk_17 (by decide +kernel) d_law_204 d_law_205 d_law_206 d_law_207 d_law_208 d_law_209 d_law_210 d_law_211 d_law_212 d_law_213 d_law_214 d_law_215 d_law_218 d_law_219 d_law_220 d_law_221 d_law_222 d_law_223 d_law_224 d_law_225 d_law_226 d_law_227 d_law_228 d_law_229 d_law_232 (by decide) kk)
theorem lw_at1 (C : lw_Cx p s m c b D E) (X : lw_sc s b L xs i) (hJ : ja_J E D (jm_hp σ) H) (hS : va_S (ja_A E) s.heap H locs) (hl : lw_ls E b i ls) (hC : JC σ S) (hM : JM σ S) (hI : JI S) (kk : lw_kk p l e s m b below meth c D E Q i) : W p l e room_1 s m #[Value.ref b] below meth c H locs 321 lw_T Q (F0 m 32 ls [.int (nI 1)]) := by
  obtain ⟨c1, c2, -⟩ := id C
  exact lv_tableIn (off := 205) (tgt := 237) c1 c2 d_law_32 (by decide +kernel) (by decide +kernel) (by decide +kernel) (by decide) (lw_case1 C X hJ hS hl (o_splice hC hM hI _) lk_18 lk_22 (by decide +kernel) d_law_237 d_law_238 d_law_239 d_law_240 d_law_241 d_law_242 d_law_243 d_law_246 d_law_247 d_law_248 d_law_249 d_law_250 d_law_251 d_law_252 d_law_255 (by decide) kk)
theorem lw_at2 (C : lw_Cx p s m c b D E) (X : lw_sc s b L xs i) (hJ : ja_J E D (jm_hp σ) H) (hS : va_S (ja_A E) s.heap H locs) (hl : lw_ls E b i ls) (hC : JC σ S) (hM : JM σ S) (hI : JI S) (kk : lw_kk p l e s m b below meth c D E Q i) : W p l e room_1 s m #[Value.ref b] below meth c H locs 321 lw_T Q (F0 m 32 ls [.int (nI 2)]) := by
  obtain ⟨c1, c2, -⟩ := id C
  exact lv_tableIn (off := 228) (tgt := 260) c1 c2 d_law_32 (by decide +kernel) (by decide +kernel) (by decide +kernel) (by decide) (lw_caseC C X hJ hS hl (o_lay hC hM hI (Nat.mod_lt _ (by decide))) lk_23 lk_27 (by decide +kernel) d_law_260 d_law_261 d_law_262 d_law_263 d_law_264 d_law_265 d_law_266 d_law_267 d_law_270 d_law_271 d_law_272 d_law_273 d_law_274 d_law_275 d_law_276 d_law_277 d_law_280 (by decide) kk)
theorem lw_at3 (C : lw_Cx p s m c b D E) (X : lw_sc s b L xs i) (hJ : ja_J E D (jm_hp σ) H) (hS : va_S (ja_A E) s.heap H locs) (hl : lw_ls E b i ls) (hC : JC σ S) (hM : JM σ S) (hI : JI S) (kk : lw_kk p l e s m b below meth c D E Q i) : W p l e room_1 s m #[Value.ref b] below meth c H locs 321 lw_T Q (F0 m 32 ls [.int (nI 3)]) := by
  obtain ⟨c1, c2, -⟩ := id C
  exact lv_tableIn (off := 253) (tgt := 285) c1 c2 d_law_32 (by decide +kernel) (by decide +kernel) (by decide +kernel) (by decide) (lw_case1 C X hJ hS hl (o_word hC hM hI _) lk_28 lk_31 (by decide +kernel) d_law_285 d_law_286 d_law_287 d_law_288 d_law_289 d_law_290 d_law_291 d_law_294 d_law_295 d_law_296 d_law_297 d_law_298 d_law_299 d_law_300 d_law_303 (by decide) kk)
theorem lw_at4 (C : lw_Cx p s m c b D E) (X : lw_sc s b L xs i) (hJ : ja_J E D (jm_hp σ) H) (hS : va_S (ja_A E) s.heap H locs) (hl : lw_ls E b i ls) (hC : JC σ S) (hM : JM σ S) (hI : JI S) (kk : lw_kk p l e s m b below meth c D E Q i) : W p l e room_1 s m #[Value.ref b] below meth c H locs 321 lw_T Q (F0 m 32 ls [.int (nI 4)]) := by
  obtain ⟨c1, c2, -⟩ := id C
  exact lv_tableIn (off := 276) (tgt := 308) c1 c2 d_law_32 (by decide +kernel) (by decide +kernel) (by decide +kernel) (by decide) (lw_case1 C X hJ hS hl (o_strike hC hM hI _) lk_32 lk_35 (by decide +kernel) d_law_308 d_law_309 d_law_310 d_law_311 d_law_312 d_law_313 d_law_314 d_law_317 d_law_318 d_law_319 d_law_320 d_law_321 d_law_322 d_law_323 d_law_326 (by decide) kk)
theorem lw_at5 (C : lw_Cx p s m c b D E) (X : lw_sc s b L xs i) (hJ : ja_J E D (jm_hp σ) H) (hS : va_S (ja_A E) s.heap H locs) (hl : lw_ls E b i ls) (hC : JC σ S) (hM : JM σ S) (hI : JI S) (kk : lw_kk p l e s m b below meth c D E Q i) : W p l e room_1 s m #[Value.ref b] below meth c H locs 321 lw_T Q (F0 m 32 ls [.int (nI 5)]) := by
  obtain ⟨c1, c2, -⟩ := id C
  exact lv_tableIn (off := 299) (tgt := 331) c1 c2 d_law_32 (by decide +kernel) (by decide +kernel) (by decide +kernel) (by decide) (lw_case2 C X hJ hS hl (o_swim hC hM hI _ _) lk_36 lk_39 (by decide +kernel) d_law_331 d_law_332 d_law_333 d_law_334 d_law_335 d_law_336 d_law_337 d_law_338 d_law_339 d_law_340 d_law_341 d_law_342 d_law_345 d_law_346 d_law_347 d_law_348 d_law_349 d_law_350 d_law_351 d_law_352 d_law_353 d_law_354 d_law_355 d_law_356 d_law_359 (by decide) kk)
theorem lw_at6 (C : lw_Cx p s m c b D E) (X : lw_sc s b L xs i) (hJ : ja_J E D (jm_hp σ) H) (hS : va_S (ja_A E) s.heap H locs) (hl : lw_ls E b i ls) (hC : JC σ S) (hM : JM σ S) (hI : JI S) (kk : lw_kk p l e s m b below meth c D E Q i) : W p l e room_1 s m #[Value.ref b] below meth c H locs 321 lw_T Q (F0 m 32 ls [.int (nI 6)]) := by
  obtain ⟨c1, c2, -⟩ := id C
  exact lv_tableIn (off := 332) (tgt := 364) c1 c2 d_law_32 (by decide +kernel) (by decide +kernel) (by decide +kernel) (by decide) (lw_case2 C X hJ hS hl (o_dive hC hM hI _ _) lk_40 lk_43 (by decide +kernel) d_law_364 d_law_365 d_law_366 d_law_367 d_law_368 d_law_369 d_law_370 d_law_371 d_law_372 d_law_373 d_law_374 d_law_375 d_law_378 d_law_379 d_law_380 d_law_381 d_law_382 d_law_383 d_law_384 d_law_385 d_law_386 d_law_387 d_law_388 d_law_389 d_law_392 (by decide) kk)
theorem lw_at7 (C : lw_Cx p s m c b D E) (X : lw_sc s b L xs i) (hJ : ja_J E D (jm_hp σ) H) (hS : va_S (ja_A E) s.heap H locs) (hl : lw_ls E b i ls) (hC : JC σ S) (hM : JM σ S) (hI : JI S) (kk : lw_kk p l e s m b below meth c D E Q i) : W p l e room_1 s m #[Value.ref b] below meth c H locs 321 lw_T Q (F0 m 32 ls [.int (nI 7)]) := by
  obtain ⟨c1, c2, -⟩ := id C
  exact lv_tableIn (off := 365) (tgt := 397) c1 c2 d_law_32 (by decide +kernel) (by decide +kernel) (by decide +kernel) (by decide) (lw_case1 C X hJ hS hl (o_go hC hM hI _) lk_44 lk_47 (by decide +kernel) d_law_397 d_law_398 d_law_399 d_law_400 d_law_401 d_law_402 d_law_403 d_law_406 d_law_407 d_law_408 d_law_409 d_law_410 d_law_411 d_law_412 d_law_415 (by decide) kk)
theorem lw_at8 (C : lw_Cx p s m c b D E) (X : lw_sc s b L xs i) (hJ : ja_J E D (jm_hp σ) H) (hS : va_S (ja_A E) s.heap H locs) (hl : lw_ls E b i ls) (hC : JC σ S) (hM : JM σ S) (hI : JI S) (kk : lw_kk p l e s m b below meth c D E Q i) : W p l e room_1 s m #[Value.ref b] below meth c H locs 321 lw_T Q (F0 m 32 ls [.int (nI 8)]) := by
  obtain ⟨c1, c2, -⟩ := id C
  exact lv_tableIn (off := 388) (tgt := 420) c1 c2 d_law_32 (by decide +kernel) (by decide +kernel) (by decide +kernel) (by decide) (lw_case0 C X hJ hS hl (o_ring hC hM hI) lk_48 lk_52 (by decide +kernel) d_law_420 d_law_421 d_law_424 d_law_425 d_law_428 (by decide) kk)
theorem lw_at9 (C : lw_Cx p s m c b D E) (X : lw_sc s b L xs i) (hJ : ja_J E D (jm_hp σ) H) (hS : va_S (ja_A E) s.heap H locs) (hl : lw_ls E b i ls) (hC : JC σ S) (hM : JM σ S) (hI : JI S) (kk : lw_kk p l e s m b below meth c D E Q i) : W p l e room_1 s m #[Value.ref b] below meth c H locs 321 lw_T Q (F0 m 32 ls [.int (nI 9)]) := by
  obtain ⟨c1, c2, -⟩ := id C
  exact lv_tableIn (off := 401) (tgt := 433) c1 c2 d_law_32 (by decide +kernel) (by decide +kernel) (by decide +kernel) (by decide) (lw_case2 C X hJ hS hl (o_bellOf hC hM hI _ _) lk_53 lk_56 (by decide +kernel) d_law_433 d_law_434 d_law_435 d_law_436 d_law_437 d_law_438 d_law_439 d_law_440 d_law_441 d_law_442 d_law_443 d_law_444 d_law_447 d_law_448 d_law_449 d_law_450 d_law_451 d_law_452 d_law_453 d_law_454 d_law_455 d_law_456 d_law_457 d_law_458 d_law_461 (by decide) kk)
theorem lw_at10 (C : lw_Cx p s m c b D E) (X : lw_sc s b L xs i) (hJ : ja_J E D (jm_hp σ) H) (hS : va_S (ja_A E) s.heap H locs) (hl : lw_ls E b i ls) (hC : JC σ S) (hM : JM σ S) (hI : JI S) (kk : lw_kk p l e s m b below meth c D E Q i) : W p l e room_1 s m #[Value.ref b] below meth c H locs 321 lw_T Q (F0 m 32 ls [.int (nI 10)]) := by
  obtain ⟨c1, c2, -⟩ := id C
  exact lv_tableIn (off := 434) (tgt := 466) c1 c2 d_law_32 (by decide +kernel) (by decide +kernel) (by decide +kernel) (by decide) (lw_case2 C X hJ hS hl (o_wordOf hC hM hI _ _) lk_57 lk_60 (by decide +kernel) d_law_466 d_law_467 d_law_468 d_law_469 d_law_470 d_law_471 d_law_472 d_law_473 d_law_474 d_law_475 d_law_476 d_law_477 d_law_480 d_law_481 d_law_482 d_law_483 d_law_484 d_law_485 d_law_486 d_law_487 d_law_488 d_law_489 d_law_490 d_law_491 d_law_494 (by decide) kk)
theorem lw_at11 (C : lw_Cx p s m c b D E) (X : lw_sc s b L xs i) (hJ : ja_J E D (jm_hp σ) H) (hS : va_S (ja_A E) s.heap H locs) (hl : lw_ls E b i ls) (hC : JC σ S) (hM : JM σ S) (hI : JI S) (kk : lw_kk p l e s m b below meth c D E Q i) : W p l e room_1 s m #[Value.ref b] below meth c H locs 321 lw_T Q (F0 m 32 ls [.int (nI 11)]) := by
  obtain ⟨c1, c2, -⟩ := id C
  exact lv_tableIn (off := 467) (tgt := 499) c1 c2 d_law_32 (by decide +kernel) (by decide +kernel) (by decide +kernel) (by decide) (lw_case2 C X hJ hS hl (o_swimmerOf hC hM hI _ _) lk_61 lk_64 (by decide +kernel) d_law_499 d_law_500 d_law_501 d_law_502 d_law_503 d_law_504 d_law_505 d_law_506 d_law_507 d_law_508 d_law_509 d_law_510 d_law_513 d_law_514 d_law_515 d_law_516 d_law_517 d_law_518 d_law_519 d_law_520 d_law_521 d_law_522 d_law_523 d_law_524 d_law_527 (by decide) kk)
theorem lw_at12 (C : lw_Cx p s m c b D E) (X : lw_sc s b L xs i) (hJ : ja_J E D (jm_hp σ) H) (hS : va_S (ja_A E) s.heap H locs) (hl : lw_ls E b i ls) (hC : JC σ S) (hM : JM σ S) (hI : JI S) (kk : lw_kk p l e s m b below meth c D E Q i) : W p l e room_1 s m #[Value.ref b] below meth c H locs 321 lw_T Q (F0 m 32 ls [.int (nI 12)]) := by
  obtain ⟨c1, c2, -⟩ := id C
  exact lv_tableIn (off := 500) (tgt := 532) c1 c2 d_law_32 (by decide +kernel) (by decide +kernel) (by decide +kernel) (by decide) (lw_case1 C X hJ hS hl (o_parses hC hM hI _) lk_65 lk_68 (by decide +kernel) d_law_532 d_law_533 d_law_534 d_law_535 d_law_536 d_law_537 d_law_538 d_law_541 d_law_542 d_law_543 d_law_544 d_law_545 d_law_546 d_law_547 d_law_550 (by decide) kk)
theorem lw_at13 (C : lw_Cx p s m c b D E) (X : lw_sc s b L xs i) (hJ : ja_J E D (jm_hp σ) H) (hS : va_S (ja_A E) s.heap H locs) (hl : lw_ls E b i ls) (hC : JC σ S) (hM : JM σ S) (hI : JI S) (kk : lw_kk p l e s m b below meth c D E Q i) : W p l e room_1 s m #[Value.ref b] below meth c H locs 321 lw_T Q (F0 m 32 ls [.int (nI 13)]) := by
  obtain ⟨c1, c2, -⟩ := id C
  exact lv_tableIn (off := 523) (tgt := 555) c1 c2 d_law_32 (by decide +kernel) (by decide +kernel) (by decide +kernel) (by decide) (lw_case1 C X hJ hS hl (o_parsesAgain hC hM hI _) lk_69 lk_72 (by decide +kernel) d_law_555 d_law_556 d_law_557 d_law_558 d_law_559 d_law_560 d_law_561 d_law_564 d_law_565 d_law_566 d_law_567 d_law_568 d_law_569 d_law_570 d_law_573 (by decide) kk)
theorem lw_at14 (C : lw_Cx p s m c b D E) (X : lw_sc s b L xs i) (hJ : ja_J E D (jm_hp σ) H) (hS : va_S (ja_A E) s.heap H locs) (hl : lw_ls E b i ls) (hC : JC σ S) (hM : JM σ S) (hI : JI S) (kk : lw_kk p l e s m b below meth c D E Q i) : W p l e room_1 s m #[Value.ref b] below meth c H locs 321 lw_T Q (F0 m 32 ls [.int (nI 14)]) := by
  obtain ⟨c1, c2, -⟩ := id C
  exact lv_tableIn (off := 546) (tgt := 578) c1 c2 d_law_32 (by decide +kernel) (by decide +kernel) (by decide +kernel) (by decide) (lw_case0 C X hJ hS hl (o_draftParses hC hM hI) lk_73 lk_76 (by decide +kernel) d_law_578 d_law_579 d_law_582 d_law_583 d_law_586 (by decide) kk)
theorem lw_at15 (C : lw_Cx p s m c b D E) (X : lw_sc s b L xs i) (hJ : ja_J E D (jm_hp σ) H) (hS : va_S (ja_A E) s.heap H locs) (hl : lw_ls E b i ls) (hC : JC σ S) (hM : JM σ S) (hI : JI S) (kk : lw_kk p l e s m b below meth c D E Q i) : W p l e room_1 s m #[Value.ref b] below meth c H locs 321 lw_T Q (F0 m 32 ls [.int (nI 15)]) := by
  obtain ⟨c1, c2, -⟩ := id C
  exact lv_tableIn (off := 559) (tgt := 591) c1 c2 d_law_32 (by decide +kernel) (by decide +kernel) (by decide +kernel) (by decide) (lw_case2 C X hJ hS hl (o_said hC hM hI _ _) lk_77 lk_80 (by decide +kernel) d_law_591 d_law_592 d_law_593 d_law_594 d_law_595 d_law_596 d_law_597 d_law_598 d_law_599 d_law_600 d_law_601 d_law_602 d_law_605 d_law_606 d_law_607 d_law_608 d_law_609 d_law_610 d_law_611 d_law_612 d_law_613 d_law_614 d_law_615 d_law_616 d_law_619 (by decide) kk)
theorem lw_at16 (C : lw_Cx p s m c b D E) (X : lw_sc s b L xs i) (hJ : ja_J E D (jm_hp σ) H) (hS : va_S (ja_A E) s.heap H locs) (hl : lw_ls E b i ls) (hC : JC σ S) (hM : JM σ S) (hI : JI S) (kk : lw_kk p l e s m b below meth c D E Q i) : W p l e room_1 s m #[Value.ref b] below meth c H locs 321 lw_T Q (F0 m 32 ls [.int (nI 16)]) := by
  obtain ⟨c1, c2, -⟩ := id C
  exact lv_tableIn (off := 592) (tgt := 624) c1 c2 d_law_32 (by decide +kernel) (by decide +kernel) (by decide +kernel) (by decide) (lw_case1 C X hJ hS hl (o_silences hC hM hI _) lk_81 lk_84 (by decide +kernel) d_law_624 d_law_625 d_law_626 d_law_627 d_law_628 d_law_629 d_law_630 d_law_633 d_law_634 d_law_635 d_law_636 d_law_637 d_law_638 d_law_639 d_law_642 (by decide) kk)
theorem lw_at17 (C : lw_Cx p s m c b D E) (X : lw_sc s b L xs i) (hJ : ja_J E D (jm_hp σ) H) (hS : va_S (ja_A E) s.heap H locs) (hl : lw_ls E b i ls) (hC : JC σ S) (hM : JM σ S) (hI : JI S) (kk : lw_kk p l e s m b below meth c D E Q i) : W p l e room_1 s m #[Value.ref b] below meth c H locs 321 lw_T Q (F0 m 32 ls [.int (nI 17)]) := by
  obtain ⟨c1, c2, -⟩ := id C
  exact lv_tableIn (off := 615) (tgt := 647) c1 c2 d_law_32 (by decide +kernel) (by decide +kernel) (by decide +kernel) (by decide) (lw_case2 C X hJ hS hl (o_signOf hC hM hI _ _) lk_85 lk_88 (by decide +kernel) d_law_647 d_law_648 d_law_649 d_law_650 d_law_651 d_law_652 d_law_653 d_law_654 d_law_655 d_law_656 d_law_657 d_law_658 d_law_661 d_law_662 d_law_663 d_law_664 d_law_665 d_law_666 d_law_667 d_law_668 d_law_669 d_law_670 d_law_671 d_law_672 d_law_675 (by decide) kk)
theorem lw_at18 (C : lw_Cx p s m c b D E) (X : lw_sc s b L xs i) (hJ : ja_J E D (jm_hp σ) H) (hS : va_S (ja_A E) s.heap H locs) (hl : lw_ls E b i ls) (hC : JC σ S) (hM : JM σ S) (hI : JI S) (kk : lw_kk p l e s m b below meth c D E Q i) : W p l e room_1 s m #[Value.ref b] below meth c H locs 321 lw_T Q (F0 m 32 ls [.int (nI 18)]) := by
  obtain ⟨c1, c2, -⟩ := id C
  exact lv_tableIn (off := 648) (tgt := 680) c1 c2 d_law_32 (by decide +kernel) (by decide +kernel) (by decide +kernel) (by decide) (lw_case3 C X hJ hS hl (o_hears hC hM hI _ _ _) lk_89 lk_93 (by decide +kernel) d_law_680 d_law_681 d_law_682 d_law_683 d_law_684 d_law_685 d_law_686 d_law_687 d_law_688 d_law_689 d_law_690 d_law_691 d_law_692 d_law_693 d_law_694 d_law_695 d_law_696 d_law_699 d_law_700 d_law_701 d_law_702 d_law_703 d_law_704 d_law_705 d_law_706 d_law_707 d_law_708 d_law_709 d_law_710 d_law_711 d_law_712 d_law_713 d_law_714 d_law_715 d_law_718 (by decide) kk)
theorem lw_at19 (C : lw_Cx p s m c b D E) (X : lw_sc s b L xs i) (hJ : ja_J E D (jm_hp σ) H) (hS : va_S (ja_A E) s.heap H locs) (hl : lw_ls E b i ls) (hC : JC σ S) (hM : JM σ S) (hI : JI S) (kk : lw_kk p l e s m b below meth c D E Q i) : W p l e room_1 s m #[Value.ref b] below meth c H locs 321 lw_T Q (F0 m 32 ls [.int (nI 19)]) := by
  obtain ⟨c1, c2, -⟩ := id C
  exact lv_tableIn (off := 691) (tgt := 723) c1 c2 d_law_32 (by decide +kernel) (by decide +kernel) (by decide +kernel) (by decide) (lw_case2 C X hJ hS hl (o_understands hC hM hI _ _) lk_94 lk_97 (by decide +kernel) d_law_723 d_law_724 d_law_725 d_law_726 d_law_727 d_law_728 d_law_729 d_law_730 d_law_731 d_law_732 d_law_733 d_law_734 d_law_737 d_law_738 d_law_739 d_law_740 d_law_741 d_law_742 d_law_743 d_law_744 d_law_745 d_law_746 d_law_747 d_law_748 d_law_751 (by decide) kk)
theorem lw_at20 (C : lw_Cx p s m c b D E) (X : lw_sc s b L xs i) (hJ : ja_J E D (jm_hp σ) H) (hS : va_S (ja_A E) s.heap H locs) (hl : lw_ls E b i ls) (hC : JC σ S) (hM : JM σ S) (hI : JI S) (kk : lw_kk p l e s m b below meth c D E Q i) : W p l e room_1 s m #[Value.ref b] below meth c H locs 321 lw_T Q (F0 m 32 ls [.int (nI 20)]) := by
  obtain ⟨c1, c2, -⟩ := id C
  exact lv_tableIn (off := 724) (tgt := 756) c1 c2 d_law_32 (by decide +kernel) (by decide +kernel) (by decide +kernel) (by decide) (lw_case2 C X hJ hS hl (o_needs hC hM hI _ _) lk_98 lk_101 (by decide +kernel) d_law_756 d_law_757 d_law_758 d_law_759 d_law_760 d_law_761 d_law_762 d_law_763 d_law_764 d_law_765 d_law_766 d_law_767 d_law_770 d_law_771 d_law_772 d_law_773 d_law_774 d_law_775 d_law_776 d_law_777 d_law_778 d_law_779 d_law_780 d_law_781 d_law_784 (by decide) kk)
theorem lw_at21 (C : lw_Cx p s m c b D E) (X : lw_sc s b L xs i) (hJ : ja_J E D (jm_hp σ) H) (hS : va_S (ja_A E) s.heap H locs) (hl : lw_ls E b i ls) (hC : JC σ S) (hM : JM σ S) (hI : JI S) (kk : lw_kk p l e s m b below meth c D E Q i) : W p l e room_1 s m #[Value.ref b] below meth c H locs 321 lw_T Q (F0 m 32 ls [.int (nI 21)]) := by
  obtain ⟨c1, c2, -⟩ := id C
  exact lv_tableIn (off := 757) (tgt := 789) c1 c2 d_law_32 (by decide +kernel) (by decide +kernel) (by decide +kernel) (by decide) (lw_case2 C X hJ hS hl (o_echoes hC hM hI _ _) lk_102 lk_105 (by decide +kernel) d_law_789 d_law_790 d_law_791 d_law_792 d_law_793 d_law_794 d_law_795 d_law_796 d_law_797 d_law_798 d_law_799 d_law_800 d_law_803 d_law_804 d_law_805 d_law_806 d_law_807 d_law_808 d_law_809 d_law_810 d_law_811 d_law_812 d_law_813 d_law_814 d_law_817 (by decide) kk)
theorem lw_at22 (C : lw_Cx p s m c b D E) (X : lw_sc s b L xs i) (hJ : ja_J E D (jm_hp σ) H) (hS : va_S (ja_A E) s.heap H locs) (hl : lw_ls E b i ls) (hC : JC σ S) (hM : JM σ S) (hI : JI S) (kk : lw_kk p l e s m b below meth c D E Q i) : W p l e room_1 s m #[Value.ref b] below meth c H locs 321 lw_T Q (F0 m 32 ls [.int (nI 22)]) := by
  obtain ⟨c1, c2, -⟩ := id C
  exact lv_tableIn (off := 790) (tgt := 822) c1 c2 d_law_32 (by decide +kernel) (by decide +kernel) (by decide +kernel) (by decide) (lw_case1 C X hJ hS hl (o_ranked hC hM hI _) lk_106 lk_109 (by decide +kernel) d_law_822 d_law_823 d_law_824 d_law_825 d_law_826 d_law_827 d_law_828 d_law_831 d_law_832 d_law_833 d_law_834 d_law_835 d_law_836 d_law_837 d_law_840 (by decide) kk)
theorem lw_at23 (C : lw_Cx p s m c b D E) (X : lw_sc s b L xs i) (hJ : ja_J E D (jm_hp σ) H) (hS : va_S (ja_A E) s.heap H locs) (hl : lw_ls E b i ls) (hC : JC σ S) (hM : JM σ S) (hI : JI S) (kk : lw_kk p l e s m b below meth c D E Q i) : W p l e room_1 s m #[Value.ref b] below meth c H locs 321 lw_T Q (F0 m 32 ls [.int (nI 23)]) := by
  obtain ⟨c1, c2, -⟩ := id C
  exact lv_tableIn (off := 813) (tgt := 845) c1 c2 d_law_32 (by decide +kernel) (by decide +kernel) (by decide +kernel) (by decide) (lw_case1 C X hJ hS hl (o_worn hC hM hI _) lk_110 lk_113 (by decide +kernel) d_law_845 d_law_846 d_law_847 d_law_848 d_law_849 d_law_850 d_law_851 d_law_854 d_law_855 d_law_856 d_law_857 d_law_858 d_law_859 d_law_860 d_law_863 (by decide) kk)
theorem lw_at24 (C : lw_Cx p s m c b D E) (X : lw_sc s b L xs i) (hJ : ja_J E D (jm_hp σ) H) (hS : va_S (ja_A E) s.heap H locs) (hl : lw_ls E b i ls) (hC : JC σ S) (hM : JM σ S) (hI : JI S) (kk : lw_kk p l e s m b below meth c D E Q i) : W p l e room_1 s m #[Value.ref b] below meth c H locs 321 lw_T Q (F0 m 32 ls [.int (nI 24)]) := by
  obtain ⟨c1, c2, -⟩ := id C
  exact lv_tableIn (off := 836) (tgt := 868) c1 c2 d_law_32 (by decide +kernel) (by decide +kernel) (by decide +kernel) (by decide) (lw_case1 C X hJ hS hl (o_listed hC hM hI _) lk_114 lk_117 (by decide +kernel) d_law_868 d_law_869 d_law_870 d_law_871 d_law_872 d_law_873 d_law_874 d_law_877 d_law_878 d_law_879 d_law_880 d_law_881 d_law_882 d_law_883 d_law_886 (by decide) kk)
theorem lw_at25 (C : lw_Cx p s m c b D E) (X : lw_sc s b L xs i) (hJ : ja_J E D (jm_hp σ) H) (hS : va_S (ja_A E) s.heap H locs) (hl : lw_ls E b i ls) (hC : JC σ S) (hM : JM σ S) (hI : JI S) (kk : lw_kk p l e s m b below meth c D E Q i) : W p l e room_1 s m #[Value.ref b] below meth c H locs 321 lw_T Q (F0 m 32 ls [.int (nI 25)]) := by
  obtain ⟨c1, c2, -⟩ := id C
  exact lv_tableIn (off := 859) (tgt := 891) c1 c2 d_law_32 (by decide +kernel) (by decide +kernel) (by decide +kernel) (by decide) (lw_case0 C X hJ hS hl (o_isCounted hC hM hI) lk_118 lk_122 (by decide +kernel) d_law_891 d_law_892 d_law_895 d_law_896 d_law_899 (by decide) kk)
theorem lw_at26 (C : lw_Cx p s m c b D E) (X : lw_sc s b L xs i) (hJ : ja_J E D (jm_hp σ) H) (hS : va_S (ja_A E) s.heap H locs) (hl : lw_ls E b i ls) (hC : JC σ S) (hM : JM σ S) (hI : JI S) (kk : lw_kk p l e s m b below meth c D E Q i) : W p l e room_1 s m #[Value.ref b] below meth c H locs 321 lw_T Q (F0 m 32 ls [.int (nI 26)]) := by
  obtain ⟨c1, c2, -⟩ := id C
  exact lv_tableIn (off := 872) (tgt := 904) c1 c2 d_law_32 (by decide +kernel) (by decide +kernel) (by decide +kernel) (by decide) (lw_caseD C hJ hS hl hC hM hI kk)
theorem lw_at27 (C : lw_Cx p s m c b D E) (X : lw_sc s b L xs i) (hJ : ja_J E D (jm_hp σ) H) (hS : va_S (ja_A E) s.heap H locs) (hl : lw_ls E b i ls) (hC : JC σ S) (hM : JM σ S) (hI : JI S) (kk : lw_kk p l e s m b below meth c D E Q i) : W p l e room_1 s m #[Value.ref b] below meth c H locs 321 lw_T Q (F0 m 32 ls [.int (nI 27)]) := by
  obtain ⟨c1, c2, -⟩ := id C
  exact lv_tableIn (off := 913) (tgt := 945) c1 c2 d_law_32 (by decide +kernel) (by decide +kernel) (by decide +kernel) (by decide) (lw_caseF C hJ hS hl hC hM hI kk)
theorem lw_at28 (C : lw_Cx p s m c b D E) (X : lw_sc s b L xs i) (hJ : ja_J E D (jm_hp σ) H) (hS : va_S (ja_A E) s.heap H locs) (hl : lw_ls E b i ls) (hC : JC σ S) (hM : JM σ S) (hI : JI S) (kk : lw_kk p l e s m b below meth c D E Q i) : W p l e room_1 s m #[Value.ref b] below meth c H locs 321 lw_T Q (F0 m 32 ls [.int (nI 28)]) := by
  obtain ⟨c1, c2, -⟩ := id C
  exact lv_tableIn (off := 956) (tgt := 988) c1 c2 d_law_32 (by decide +kernel) (by decide +kernel) (by decide +kernel) (by decide) (lw_case1 C X hJ hS hl (o_account hC hM hI _) lk_133 lk_136 (by decide +kernel) d_law_988 d_law_989 d_law_990 d_law_991 d_law_992 d_law_993 d_law_994 d_law_997 d_law_998 d_law_999 d_law_1000 d_law_1001 d_law_1002 d_law_1003 d_law_1006 (by decide) kk)
theorem lw_at29 (C : lw_Cx p s m c b D E) (X : lw_sc s b L xs i) (hJ : ja_J E D (jm_hp σ) H) (hS : va_S (ja_A E) s.heap H locs) (hl : lw_ls E b i ls) (hC : JC σ S) (hM : JM σ S) (hI : JI S) (kk : lw_kk p l e s m b below meth c D E Q i) : W p l e room_1 s m #[Value.ref b] below meth c H locs 321 lw_T Q (F0 m 32 ls [.int (nI 29)]) := by
  obtain ⟨c1, c2, -⟩ := id C
  exact lv_tableIn (off := 979) (tgt := 1011) c1 c2 d_law_32 (by decide +kernel) (by decide +kernel) (by decide +kernel) (by decide) (lw_case1 C X hJ hS hl (o_write hC hM hI _) lk_137 lk_140 (by decide +kernel) d_law_1011 d_law_1012 d_law_1013 d_law_1014 d_law_1015 d_law_1016 d_law_1017 d_law_1020 d_law_1021 d_law_1022 d_law_1023 d_law_1024 d_law_1025 d_law_1026 d_law_1029 (by decide) kk)
theorem lw_at30 (C : lw_Cx p s m c b D E) (X : lw_sc s b L xs i) (hJ : ja_J E D (jm_hp σ) H) (hS : va_S (ja_A E) s.heap H locs) (hl : lw_ls E b i ls) (hC : JC σ S) (hM : JM σ S) (hI : JI S) (kk : lw_kk p l e s m b below meth c D E Q i) : W p l e room_1 s m #[Value.ref b] below meth c H locs 321 lw_T Q (F0 m 32 ls [.int (nI 30)]) := by
  obtain ⟨c1, c2, -⟩ := id C
  exact lv_tableIn (off := 1002) (tgt := 1034) c1 c2 d_law_32 (by decide +kernel) (by decide +kernel) (by decide +kernel) (by decide) (lw_case0 C X hJ hS hl (o_writeBook hC hM hI) lk_141 lk_144 (by decide +kernel) d_law_1034 d_law_1035 d_law_1038 d_law_1039 d_law_1042 (by decide) kk)
theorem lw_at31 (C : lw_Cx p s m c b D E) (X : lw_sc s b L xs i) (hJ : ja_J E D (jm_hp σ) H) (hS : va_S (ja_A E) s.heap H locs) (hl : lw_ls E b i ls) (hC : JC σ S) (hM : JM σ S) (hI : JI S) (kk : lw_kk p l e s m b below meth c D E Q i) : W p l e room_1 s m #[Value.ref b] below meth c H locs 321 lw_T Q (F0 m 32 ls [.int (nI 31)]) := by
  obtain ⟨c1, c2, -⟩ := id C
  exact lv_tableIn (off := 1015) (tgt := 1047) c1 c2 d_law_32 (by decide +kernel) (by decide +kernel) (by decide +kernel) (by decide) (lw_case1 C X hJ hS hl (o_written hC hM hI _) lk_145 lk_148 (by decide +kernel) d_law_1047 d_law_1048 d_law_1049 d_law_1050 d_law_1051 d_law_1052 d_law_1053 d_law_1056 d_law_1057 d_law_1058 d_law_1059 d_law_1060 d_law_1061 d_law_1062 d_law_1065 (by decide) kk)
theorem lw_at32 (C : lw_Cx p s m c b D E) (X : lw_sc s b L xs i) (hJ : ja_J E D (jm_hp σ) H) (hS : va_S (ja_A E) s.heap H locs) (hl : lw_ls E b i ls) (hC : JC σ S) (hM : JM σ S) (hI : JI S) (kk : lw_kk p l e s m b below meth c D E Q i) : W p l e room_1 s m #[Value.ref b] below meth c H locs 321 lw_T Q (F0 m 32 ls [.int (nI 32)]) := by
  obtain ⟨c1, c2, -⟩ := id C
  exact lv_tableIn (off := 1038) (tgt := 1070) c1 c2 d_law_32 (by decide +kernel) (by decide +kernel) (by decide +kernel) (by decide) (lw_caseC C X hJ hS hl (o_append hC hM hI (Nat.mod_lt _ (by decide))) lk_149 lk_152 (by decide +kernel) d_law_1070 d_law_1071 d_law_1072 d_law_1073 d_law_1074 d_law_1075 d_law_1076 d_law_1077 d_law_1080 d_law_1081 d_law_1082 d_law_1083 d_law_1084 d_law_1085 d_law_1086 d_law_1087 d_law_1090 (by decide) kk)
theorem lw_at33 (C : lw_Cx p s m c b D E) (X : lw_sc s b L xs i) (hJ : ja_J E D (jm_hp σ) H) (hS : va_S (ja_A E) s.heap H locs) (hl : lw_ls E b i ls) (hC : JC σ S) (hM : JM σ S) (hI : JI S) (kk : lw_kk p l e s m b below meth c D E Q i) : W p l e room_1 s m #[Value.ref b] below meth c H locs 321 lw_T Q (F0 m 32 ls [.int (nI 33)]) := by
  obtain ⟨c1, c2, -⟩ := id C
  exact lv_tableIn (off := 1063) (tgt := 1095) c1 c2 d_law_32 (by decide +kernel) (by decide +kernel) (by decide +kernel) (by decide) (lw_case0 C X hJ hS hl (o_read hC hM hI) lk_153 lk_156 (by decide +kernel) d_law_1095 d_law_1096 d_law_1099 d_law_1100 d_law_1103 (by decide) kk)
theorem lw_at34 (C : lw_Cx p s m c b D E) (X : lw_sc s b L xs i) (hJ : ja_J E D (jm_hp σ) H) (hS : va_S (ja_A E) s.heap H locs) (hl : lw_ls E b i ls) (hC : JC σ S) (hM : JM σ S) (hI : JI S) (kk : lw_kk p l e s m b below meth c D E Q i) : W p l e room_1 s m #[Value.ref b] below meth c H locs 321 lw_T Q (F0 m 32 ls [.int (nI 34)]) := by
  obtain ⟨c1, c2, -⟩ := id C
  exact lv_tableIn (off := 1076) (tgt := 1108) c1 c2 d_law_32 (by decide +kernel) (by decide +kernel) (by decide +kernel) (by decide) (lw_case0 C X hJ hS hl (o_fault hC hM hI) lk_157 lk_160 (by decide +kernel) d_law_1108 d_law_1109 d_law_1112 d_law_1113 d_law_1116 (by decide) kk)
theorem lw_at35 (C : lw_Cx p s m c b D E) (X : lw_sc s b L xs i) (hJ : ja_J E D (jm_hp σ) H) (hS : va_S (ja_A E) s.heap H locs) (hl : lw_ls E b i ls) (hC : JC σ S) (hM : JM σ S) (hI : JI S) (kk : lw_kk p l e s m b below meth c D E Q i) : W p l e room_1 s m #[Value.ref b] below meth c H locs 321 lw_T Q (F0 m 32 ls [.int (nI 35)]) := by
  obtain ⟨c1, c2, -⟩ := id C
  exact lv_tableIn (off := 1089) (tgt := 1121) c1 c2 d_law_32 (by decide +kernel) (by decide +kernel) (by decide +kernel) (by decide) (lw_caseB C X hJ hS hl hC hM hI (by decide +kernel) kk)
theorem lw_at36 (C : lw_Cx p s m c b D E) (X : lw_sc s b L xs i) (hJ : ja_J E D (jm_hp σ) H) (hS : va_S (ja_A E) s.heap H locs) (hl : lw_ls E b i ls) (hC : JC σ S) (hM : JM σ S) (hI : JI S) (kk : lw_kk p l e s m b below meth c D E Q i) : W p l e room_1 s m #[Value.ref b] below meth c H locs 321 lw_T Q (F0 m 32 ls [.int (nI 36)]) := by
  obtain ⟨c1, c2, -⟩ := id C
  exact lv_tableIn (off := 1138) (tgt := 1170) c1 c2 d_law_32 (by decide +kernel) (by decide +kernel) (by decide +kernel) (by decide) (lw_case0 C X hJ hS hl (o_undo hC hM hI) lk_166 lk_169 (by decide +kernel) d_law_1170 d_law_1171 d_law_1174 d_law_1175 d_law_1178 (by decide) kk)
theorem lw_at37 (C : lw_Cx p s m c b D E) (X : lw_sc s b L xs i) (hJ : ja_J E D (jm_hp σ) H) (hS : va_S (ja_A E) s.heap H locs) (hl : lw_ls E b i ls) (hC : JC σ S) (hM : JM σ S) (hI : JI S) (kk : lw_kk p l e s m b below meth c D E Q i) : W p l e room_1 s m #[Value.ref b] below meth c H locs 321 lw_T Q (F0 m 32 ls [.int (nI 37)]) := by
  obtain ⟨c1, c2, -⟩ := id C
  exact lv_tableIn (off := 1151) (tgt := 1183) c1 c2 d_law_32 (by decide +kernel) (by decide +kernel) (by decide +kernel) (by decide) (lw_case0 C X hJ hS hl (o_save hC hM hI) lk_170 lk_173 (by decide +kernel) d_law_1183 d_law_1184 d_law_1187 d_law_1188 d_law_1191 (by decide) kk)
theorem lw_at38 (C : lw_Cx p s m c b D E) (X : lw_sc s b L xs i) (hJ : ja_J E D (jm_hp σ) H) (hS : va_S (ja_A E) s.heap H locs) (hl : lw_ls E b i ls) (hC : JC σ S) (hM : JM σ S) (hI : JI S) (kk : lw_kk p l e s m b below meth c D E Q i) : W p l e room_1 s m #[Value.ref b] below meth c H locs 321 lw_T Q (F0 m 32 ls [.int (nI 38)]) := by
  obtain ⟨c1, c2, -⟩ := id C
  exact lv_tableIn (off := 1164) (tgt := 1196) c1 c2 d_law_32 (by decide +kernel) (by decide +kernel) (by decide +kernel) (by decide) (lw_case0 C X hJ hS hl (o_restore hC hM hI) lk_174 lk_177 (by decide +kernel) d_law_1196 d_law_1197 d_law_1200 d_law_1201 d_law_1204 (by decide) kk)
theorem lw_switch (C : lw_Cx p s m c b D E) (X : lw_sc s b L xs i) (hJ : ja_J E D (jm_hp σ) H) (hS : va_S (ja_A E) s.heap H locs) (hl : lw_ls E b i ls) (hC : JC σ S) (hM : JM σ S) (hI : JI S) (kk : lw_kk p l e s m b below meth c D E Q i) : ∀ t, t < 64 → W p l e room_1 s m #[Value.ref b] below meth c H locs 321 lw_T Q (F0 m 32 ls [.int (nI t)])
  | 0, _ => lw_at0 C X hJ hS hl hC hM hI kk
  | 1, _ => lw_at1 C X hJ hS hl hC hM hI kk
  | 2, _ => lw_at2 C X hJ hS hl hC hM hI kk
  | 3, _ => lw_at3 C X hJ hS hl hC hM hI kk
  | 4, _ => lw_at4 C X hJ hS hl hC hM hI kk
  | 5, _ => lw_at5 C X hJ hS hl hC hM hI kk
  | 6, _ => lw_at6 C X hJ hS hl hC hM hI kk
  | 7, _ => lw_at7 C X hJ hS hl hC hM hI kk
  | 8, _ => lw_at8 C X hJ hS hl hC hM hI kk
  | 9, _ => lw_at9 C X hJ hS hl hC hM hI kk
  | 10, _ => lw_at10 C X hJ hS hl hC hM hI kk
  | 11, _ => lw_at11 C X hJ hS hl hC hM hI kk
  | 12, _ => lw_at12 C X hJ hS hl hC hM hI kk
  | 13, _ => lw_at13 C X hJ hS hl hC hM hI kk
  | 14, _ => lw_at14 C X hJ hS hl hC hM hI kk
  | 15, _ => lw_at15 C X hJ hS hl hC hM hI kk
  | 16, _ => lw_at16 C X hJ hS hl hC hM hI kk
  | 17, _ => lw_at17 C X hJ hS hl hC hM hI kk
  | 18, _ => lw_at18 C X hJ hS hl hC hM hI kk
  | 19, _ => lw_at19 C X hJ hS hl hC hM hI kk
  | 20, _ => lw_at20 C X hJ hS hl hC hM hI kk
  | 21, _ => lw_at21 C X hJ hS hl hC hM hI kk
  | 22, _ => lw_at22 C X hJ hS hl hC hM hI kk
  | 23, _ => lw_at23 C X hJ hS hl hC hM hI kk
  | 24, _ => lw_at24 C X hJ hS hl hC hM hI kk
  | 25, _ => lw_at25 C X hJ hS hl hC hM hI kk
  | 26, _ => lw_at26 C X hJ hS hl hC hM hI kk
  | 27, _ => lw_at27 C X hJ hS hl hC hM hI kk
  | 28, _ => lw_at28 C X hJ hS hl hC hM hI kk
  | 29, _ => lw_at29 C X hJ hS hl hC hM hI kk
  | 30, _ => lw_at30 C X hJ hS hl hC hM hI kk
  | 31, _ => lw_at31 C X hJ hS hl hC hM hI kk
  | 32, _ => lw_at32 C X hJ hS hl hC hM hI kk
  | 33, _ => lw_at33 C X hJ hS hl hC hM hI kk
  | 34, _ => lw_at34 C X hJ hS hl hC hM hI kk
  | 35, _ => lw_at35 C X hJ hS hl hC hM hI kk
  | 36, _ => lw_at36 C X hJ hS hl hC hM hI kk
  | 37, _ => lw_at37 C X hJ hS hl hC hM hI kk
  | 38, _ => lw_at38 C X hJ hS hl hC hM hI kk
  | t + 39, ht => by
    obtain ⟨c1, c2, -⟩ := id C
    exact lv_tableOut (tgt := 1209) c1 c2 d_law_32 (Or.inr (by rw [nI_toInt (by omega)]; omega)) (by decide) (kk H locs σ S ls hJ hS hC hM hI hl)
theorem lw_end {L i : Nat} (hL : L ≤ 2048) (hi : i ≤ 4000) : (Int32.ofNat L - 4 < nI i) ↔ L < i + 4 := by
  have h1 : (nI L - nI 4).toInt = (L : Int) - (4 : Nat) := pk_sub_toInt (by omega) (by omega)
  have h2 : (nI i).toInt = i := nI_toInt (by omega)
  rw [show (Int32.ofNat L - 4 : Int32) = nI L - nI 4 from rfl, Int32.lt_iff_toInt_lt, h1, h2]
  omega
theorem lw_loop (hr : meth.sig.returnType = ret) (hlocks : meth.locks = false) (C : lw_Cx p s m c b D E) (hX : va_X b L xs s s.heap) (hL : L ≤ 2048) : ∀ (n i : Nat), i ≤ L → L < i + n → ∀ (H : Heap) (locs : List Loc) (σ : jm_S) (S : jSt) (ls : Array Slot), ja_J E D (jm_hp σ) H → va_S (ja_A E) s.heap H locs → JC σ S → JM σ S → JI S → lw_ls E b i ls → W p l e room_1 s m #[Value.ref b] below meth c H locs 321 lw_T (lw_Z below #[Value.ref b] s) (F0 m 18 ls []) := by
  obtain ⟨c1, c2, c3, c4, c5, cK, cR, cE, cb⟩ := id C
  intro n
  induction n with
  | zero =>
    intro i hi hn H locs σ S ls hJ hS hC hM hI hl
    exact absurd hn (by omega)
  | succ n ih =>
    intro i hi hn H locs σ S ls hJ hS hC hM hI hl
    refine lv_iload_n c1 c2 d_law_18 rfl (lv_at hl 3 rfl) ?_
    refine lv_aload_n c1 c2 d_law_19 rfl (lv_at hl 0 rfl) ?_
    refine va_slen c1 c2 hX cb (lw_nb C) hS d_law_20 ?_
    refine lv_iconst (v := 4) c1 c2 d_law_21 (by decide) ?_
    refine lv_isub c1 c2 d_law_22 ?_
    refine lv_icmp_gt (tgt := 1215) c1 c2 d_law_23 (by decide) (fun h => ?_) (fun h => ?_)
    · refine lv_iconst (v := 1) c1 c2 d_law_1215 (by decide) ?_
      refine va_forget (fun q hq => ?_) ?_
      · have := hS.2.2 q hq
        unfold ja_A at this
        omega
      · refine W.widen (k := 600000) (n := 7302250) (Nat.le_of_ble_eq_true rfl) (Nat.le_trans lw_T_le (Nat.le_of_ble_eq_true rfl)) ?_
        exact W.base (lw_ret (Drawn.sameBut.refl s.drawn lw_cs) c1 c2 hr hlocks d_law_1216)
    · have h4 : i + 4 ≤ L := by
        rcases Nat.lt_or_ge L (i + 4) with z | z
        · exact absurd ((lw_end hL (by omega)).mpr z) h
        · exact z
      refine lv_aload_n c1 c2 d_law_26 rfl (lv_at hl 0 rfl) ?_
      refine lv_iload_n c1 c2 d_law_27 rfl (lv_at hl 3 rfl) ?_
      refine va_sld c1 c2 hX cb (lw_nb C) hS (vp_in_nI (by omega) (by omega)) d_law_28 ?_
      refine lv_bipush (v := 63) c1 c2 d_law_29 (by decide) ?_
      refine lv_iand c1 c2 d_law_31 ?_
      obtain ⟨t, ht, he⟩ := pk_andE (xs (nI i).toNatClampNeg) (m := 63) 6 (by decide)
      rw [he]
      refine lw_switch C ⟨hX, hL, h4⟩ hJ hS hl hC hM hI (fun H2 locs2 σ2 S2 ls2 hJ2 hS2 hC2 hM2 hI2 hl2 => ?_) t ht
      refine lv_iinc (v := nI (i + 4)) (lv' := [(3, .int (nI (i + 4))), (0, .ref b), (1, .ref (E.1 + 0)), (2, .ref (E.1 + 307))]) c1 c2 d_law_1209 hl2 (k := 3) rfl (by rw [show Int32.ofInt 4 = nI 4 from rfl, nI_add]) (by decide) rfl (fun ls3 hl3 => ?_)
      refine lv_goto (tgt := 18) c1 c2 d_law_1212 (by decide) ?_
      exact ih (i + 4) (by omega) (by omega) H2 locs2 σ2 S2 ls3 hJ2 hS2 hC2 hM2 hI2 (lv_sub hl3 [1, 2, 3, 0] rfl)
end LSW
