/-! the law: its calls -/
section Calls
variable {E0 : od_E} {res : od_Qz} {u : Nat × Nat} {E : od_E} {g : od_G} {N : Nat} {xs : Nat → Int32} {i : Int}
theorem zc_drum (hE : EW E 0 86) (hR : Rel2 E 0 86 g g) (hi : 0 ≤ i ∧ i + 6 ≤ (N : Int) ∧ N ≤ 3072) (hu : u.1 ≤ res.1.1 ∧ u.2 ≤ res.1.2) (kk : ∀ g2 : od_G, Rel2 E 0 86 g2 g2 → od_Rz 61 mL_law (od_Zs N xs) E0 res u 1253 (LcL i) [] E g2) : od_Rz 61 mL_law (od_Zs N xs) E0 res u 216 (LcL i) [] E g := by
  refine z_two hE (p_drum hE hR (xv xs i 1) (xv xs i 2) (xv xs i 3) (xv xs i 4)) cvL_13 cvL_17 dL_law_237 dL_law_261 dL_law_264 (by decide) rfl (by decide) (by decide) hu (fun k => ?_) (fun a g1 k => ?_) kk
  · refine z_aload_n dL_law_216 rfl ?_
    refine z_arg dL_law_217 dL_law_218 dL_law_219 dL_law_220 dL_law_221 li_1 (by omega) hi ?_
    refine z_arg dL_law_222 dL_law_223 dL_law_224 dL_law_225 dL_law_226 li_2 (by omega) hi ?_
    refine z_arg dL_law_227 dL_law_228 dL_law_229 dL_law_230 dL_law_231 li_3 (by omega) hi ?_
    refine z_arg dL_law_232 dL_law_233 dL_law_234 dL_law_235 dL_law_236 li_4 (by omega) hi ?_
    exact k
  · refine z_aload_n dL_law_240 rfl ?_
    refine z_arg dL_law_241 dL_law_242 dL_law_243 dL_law_244 dL_law_245 li_1 (by omega) hi ?_
    refine z_arg dL_law_246 dL_law_247 dL_law_248 dL_law_249 dL_law_250 li_2 (by omega) hi ?_
    refine z_arg dL_law_251 dL_law_252 dL_law_253 dL_law_254 dL_law_255 li_3 (by omega) hi ?_
    refine z_arg dL_law_256 dL_law_257 dL_law_258 dL_law_259 dL_law_260 li_4 (by omega) hi ?_
    exact k
theorem zc_of (hE : EW E 0 86) (hR : Rel2 E 0 86 g g) (hi : 0 ≤ i ∧ i + 6 ≤ (N : Int) ∧ N ≤ 3072) (hu : u.1 ≤ res.1.1 ∧ u.2 ≤ res.1.2) (kk : ∀ g2 : od_G, Rel2 E 0 86 g2 g2 → od_Rz 61 mL_law (od_Zs N xs) E0 res u 1253 (LcL i) [] E g2) : od_Rz 61 mL_law (od_Zs N xs) E0 res u 269 (LcL i) [] E g := by
  refine z_two hE (p_of hE hR (xv xs i 1) (xv xs i 2)) cvL_18 cvL_22 dL_law_280 dL_law_294 dL_law_297 (by decide) rfl (by decide) (by decide) hu (fun k => ?_) (fun a g1 k => ?_) kk
  · refine z_aload_n dL_law_269 rfl ?_
    refine z_arg dL_law_270 dL_law_271 dL_law_272 dL_law_273 dL_law_274 li_1 (by omega) hi ?_
    refine z_arg dL_law_275 dL_law_276 dL_law_277 dL_law_278 dL_law_279 li_2 (by omega) hi ?_
    exact k
  · refine z_aload_n dL_law_283 rfl ?_
    refine z_arg dL_law_284 dL_law_285 dL_law_286 dL_law_287 dL_law_288 li_1 (by omega) hi ?_
    refine z_arg dL_law_289 dL_law_290 dL_law_291 dL_law_292 dL_law_293 li_2 (by omega) hi ?_
    exact k
theorem zc_asks (hE : EW E 0 86) (hR : Rel2 E 0 86 g g) (hi : 0 ≤ i ∧ i + 6 ≤ (N : Int) ∧ N ≤ 3072) (hu : u.1 ≤ res.1.1 ∧ u.2 ≤ res.1.2) (kk : ∀ g2 : od_G, Rel2 E 0 86 g2 g2 → od_Rz 61 mL_law (od_Zs N xs) E0 res u 1253 (LcL i) [] E g2) : od_Rz 61 mL_law (od_Zs N xs) E0 res u 302 (LcL i) [] E g := by
  refine z_two hE (p_asks hE hR (xv xs i 1) (xv xs i 2) (xv xs i 3)) cvL_23 cvL_27 dL_law_318 dL_law_337 dL_law_340 (by decide) rfl (by decide) (by decide) hu (fun k => ?_) (fun a g1 k => ?_) kk
  · refine z_aload_n dL_law_302 rfl ?_
    refine z_arg dL_law_303 dL_law_304 dL_law_305 dL_law_306 dL_law_307 li_1 (by omega) hi ?_
    refine z_arg dL_law_308 dL_law_309 dL_law_310 dL_law_311 dL_law_312 li_2 (by omega) hi ?_
    refine z_arg dL_law_313 dL_law_314 dL_law_315 dL_law_316 dL_law_317 li_3 (by omega) hi ?_
    exact k
  · refine z_aload_n dL_law_321 rfl ?_
    refine z_arg dL_law_322 dL_law_323 dL_law_324 dL_law_325 dL_law_326 li_1 (by omega) hi ?_
    refine z_arg dL_law_327 dL_law_328 dL_law_329 dL_law_330 dL_law_331 li_2 (by omega) hi ?_
    refine z_arg dL_law_332 dL_law_333 dL_law_334 dL_law_335 dL_law_336 li_3 (by omega) hi ?_
    exact k
theorem zc_terms (hE : EW E 0 86) (hR : Rel2 E 0 86 g g) (hi : 0 ≤ i ∧ i + 6 ≤ (N : Int) ∧ N ≤ 3072) (hu : u.1 ≤ res.1.1 ∧ u.2 ≤ res.1.2) (kk : ∀ g2 : od_G, Rel2 E 0 86 g2 g2 → od_Rz 61 mL_law (od_Zs N xs) E0 res u 1253 (LcL i) [] E g2) : od_Rz 61 mL_law (od_Zs N xs) E0 res u 345 (LcL i) [] E g := by
  refine z_two hE (p_terms hE hR (xv xs i 1) (xv xs i 2)) cvL_28 cvL_31 dL_law_356 dL_law_370 dL_law_373 (by decide) rfl (by decide) (by decide) hu (fun k => ?_) (fun a g1 k => ?_) kk
  · refine z_aload_n dL_law_345 rfl ?_
    refine z_arg dL_law_346 dL_law_347 dL_law_348 dL_law_349 dL_law_350 li_1 (by omega) hi ?_
    refine z_arg dL_law_351 dL_law_352 dL_law_353 dL_law_354 dL_law_355 li_2 (by omega) hi ?_
    exact k
  · refine z_aload_n dL_law_359 rfl ?_
    refine z_arg dL_law_360 dL_law_361 dL_law_362 dL_law_363 dL_law_364 li_1 (by omega) hi ?_
    refine z_arg dL_law_365 dL_law_366 dL_law_367 dL_law_368 dL_law_369 li_2 (by omega) hi ?_
    exact k
theorem zc_feed (hE : EW E 0 86) (hR : Rel2 E 0 86 g g) (hi : 0 ≤ i ∧ i + 6 ≤ (N : Int) ∧ N ≤ 3072) (hu : u.1 ≤ res.1.1 ∧ u.2 ≤ res.1.2) (kk : ∀ g2 : od_G, Rel2 E 0 86 g2 g2 → od_Rz 61 mL_law (od_Zs N xs) E0 res u 1253 (LcL i) [] E g2) : od_Rz 61 mL_law (od_Zs N xs) E0 res u 378 (LcL i) [] E g := by
  refine z_two hE (p_feed hE hR (xv xs i 1) (xv xs i 2) (xv xs i 3) (xv xs i 4) (xv xs i 5)) cvL_32 cvL_36 dL_law_404 dL_law_433 dL_law_436 (by decide) rfl (by decide) (by decide) hu (fun k => ?_) (fun a g1 k => ?_) kk
  · refine z_aload_n dL_law_378 rfl ?_
    refine z_arg dL_law_379 dL_law_380 dL_law_381 dL_law_382 dL_law_383 li_1 (by omega) hi ?_
    refine z_arg dL_law_384 dL_law_385 dL_law_386 dL_law_387 dL_law_388 li_2 (by omega) hi ?_
    refine z_arg dL_law_389 dL_law_390 dL_law_391 dL_law_392 dL_law_393 li_3 (by omega) hi ?_
    refine z_arg dL_law_394 dL_law_395 dL_law_396 dL_law_397 dL_law_398 li_4 (by omega) hi ?_
    refine z_arg dL_law_399 dL_law_400 dL_law_401 dL_law_402 dL_law_403 li_5 (by omega) hi ?_
    exact k
  · refine z_aload_n dL_law_407 rfl ?_
    refine z_arg dL_law_408 dL_law_409 dL_law_410 dL_law_411 dL_law_412 li_1 (by omega) hi ?_
    refine z_arg dL_law_413 dL_law_414 dL_law_415 dL_law_416 dL_law_417 li_2 (by omega) hi ?_
    refine z_arg dL_law_418 dL_law_419 dL_law_420 dL_law_421 dL_law_422 li_3 (by omega) hi ?_
    refine z_arg dL_law_423 dL_law_424 dL_law_425 dL_law_426 dL_law_427 li_4 (by omega) hi ?_
    refine z_arg dL_law_428 dL_law_429 dL_law_430 dL_law_431 dL_law_432 li_5 (by omega) hi ?_
    exact k
theorem zc_end (hE : EW E 0 86) (hR : Rel2 E 0 86 g g) (hi : 0 ≤ i ∧ i + 6 ≤ (N : Int) ∧ N ≤ 3072) (hu : u.1 ≤ res.1.1 ∧ u.2 ≤ res.1.2) (kk : ∀ g2 : od_G, Rel2 E 0 86 g2 g2 → od_Rz 61 mL_law (od_Zs N xs) E0 res u 1253 (LcL i) [] E g2) : od_Rz 61 mL_law (od_Zs N xs) E0 res u 441 (LcL i) [] E g := by
  refine z_two hE (p_end hE hR (xv xs i 1)) cvL_37 cvL_41 dL_law_447 dL_law_456 dL_law_459 (by decide) rfl (by decide) (by decide) hu (fun k => ?_) (fun a g1 k => ?_) kk
  · refine z_aload_n dL_law_441 rfl ?_
    refine z_arg dL_law_442 dL_law_443 dL_law_444 dL_law_445 dL_law_446 li_1 (by omega) hi ?_
    exact k
  · refine z_aload_n dL_law_450 rfl ?_
    refine z_arg dL_law_451 dL_law_452 dL_law_453 dL_law_454 dL_law_455 li_1 (by omega) hi ?_
    exact k
theorem zc_row (hE : EW E 0 86) (hR : Rel2 E 0 86 g g) (hi : 0 ≤ i ∧ i + 6 ≤ (N : Int) ∧ N ≤ 3072) (hu : u.1 ≤ res.1.1 ∧ u.2 ≤ res.1.2) (kk : ∀ g2 : od_G, Rel2 E 0 86 g2 g2 → od_Rz 61 mL_law (od_Zs N xs) E0 res u 1253 (LcL i) [] E g2) : od_Rz 61 mL_law (od_Zs N xs) E0 res u 464 (LcL i) [] E g := by
  refine z_two hE (p_row hE hR ) cvL_42 cvL_46 dL_law_465 dL_law_469 dL_law_472 (by decide) rfl (by decide) (by decide) hu (fun k => ?_) (fun a g1 k => ?_) kk
  · refine z_aload_n dL_law_464 rfl ?_
    exact k
  · refine z_aload_n dL_law_468 rfl ?_
    exact k
theorem zc_sleeves (hE : EW E 0 86) (hR : Rel2 E 0 86 g g) (hi : 0 ≤ i ∧ i + 6 ≤ (N : Int) ∧ N ≤ 3072) (hu : u.1 ≤ res.1.1 ∧ u.2 ≤ res.1.2) (kk : ∀ g2 : od_G, Rel2 E 0 86 g2 g2 → od_Rz 61 mL_law (od_Zs N xs) E0 res u 1253 (LcL i) [] E g2) : od_Rz 61 mL_law (od_Zs N xs) E0 res u 477 (LcL i) [] E g := by
  refine z_two hE (p_sleeves hE hR ) cvL_47 cvL_50 dL_law_478 dL_law_482 dL_law_485 (by decide) rfl (by decide) (by decide) hu (fun k => ?_) (fun a g1 k => ?_) kk
  · refine z_aload_n dL_law_477 rfl ?_
    exact k
  · refine z_aload_n dL_law_481 rfl ?_
    exact k
theorem zc_law (hE : EW E 0 86) (hR : Rel2 E 0 86 g g) (hu : u.1 + 7 ≤ res.1.1 ∧ u.2 + 600 ≤ res.1.2) (kk : ∀ (E' : od_E) (g2 : od_G), EW E' 0 86 → Rel2 E' 0 86 g2 g2 → od_Rz 61 mL_law (od_Zs N xs) E0 res (u.1 + 7, u.2 + 600) 1253 (LcL i) [] E' g2) : od_Rz 61 mL_law (od_Zs N xs) E0 res u 490 (LcL i) [] E g :=
  z_twoL hE (p_law hE hR) cvL_51 cvL_54 dL_law_490 dL_law_491 dL_law_494 dL_law_495 dL_law_498 (by decide) hu kk
theorem zc_orders (hE : EW E 0 86) (hR : Rel2 E 0 86 g g) (hi : 0 ≤ i ∧ i + 6 ≤ (N : Int) ∧ N ≤ 3072) (hu : u.1 ≤ res.1.1 ∧ u.2 ≤ res.1.2) (kk : ∀ g2 : od_G, Rel2 E 0 86 g2 g2 → od_Rz 61 mL_law (od_Zs N xs) E0 res u 1253 (LcL i) [] E g2) : od_Rz 61 mL_law (od_Zs N xs) E0 res u 503 (LcL i) [] E g := by
  refine z_two hE (p_orders hE hR ) cvL_55 cvL_58 dL_law_504 dL_law_508 dL_law_511 (by decide) rfl (by decide) (by decide) hu (fun k => ?_) (fun a g1 k => ?_) kk
  · refine z_aload_n dL_law_503 rfl ?_
    exact k
  · refine z_aload_n dL_law_507 rfl ?_
    exact k
theorem zc_fault (hE : EW E 0 86) (hR : Rel2 E 0 86 g g) (hi : 0 ≤ i ∧ i + 6 ≤ (N : Int) ∧ N ≤ 3072) (hu : u.1 ≤ res.1.1 ∧ u.2 ≤ res.1.2) (kk : ∀ g2 : od_G, Rel2 E 0 86 g2 g2 → od_Rz 61 mL_law (od_Zs N xs) E0 res u 1253 (LcL i) [] E g2) : od_Rz 61 mL_law (od_Zs N xs) E0 res u 516 (LcL i) [] E g := by
  refine z_two hE (p_fault hE hR ) cvL_59 cvL_62 dL_law_517 dL_law_521 dL_law_524 (by decide) rfl (by decide) (by decide) hu (fun k => ?_) (fun a g1 k => ?_) kk
  · refine z_aload_n dL_law_516 rfl ?_
    exact k
  · refine z_aload_n dL_law_520 rfl ?_
    exact k
theorem zc_stopped (hE : EW E 0 86) (hR : Rel2 E 0 86 g g) (hi : 0 ≤ i ∧ i + 6 ≤ (N : Int) ∧ N ≤ 3072) (hu : u.1 ≤ res.1.1 ∧ u.2 ≤ res.1.2) (kk : ∀ g2 : od_G, Rel2 E 0 86 g2 g2 → od_Rz 61 mL_law (od_Zs N xs) E0 res u 1253 (LcL i) [] E g2) : od_Rz 61 mL_law (od_Zs N xs) E0 res u 529 (LcL i) [] E g := by
  refine z_two hE (p_stopped hE hR ) cvL_63 cvL_66 dL_law_530 dL_law_534 dL_law_537 (by decide) rfl (by decide) (by decide) hu (fun k => ?_) (fun a g1 k => ?_) kk
  · refine z_aload_n dL_law_529 rfl ?_
    exact k
  · refine z_aload_n dL_law_533 rfl ?_
    exact k
theorem zc_force (hE : EW E 0 86) (hR : Rel2 E 0 86 g g) (hi : 0 ≤ i ∧ i + 6 ≤ (N : Int) ∧ N ≤ 3072) (hu : u.1 ≤ res.1.1 ∧ u.2 ≤ res.1.2) (kk : ∀ g2 : od_G, Rel2 E 0 86 g2 g2 → od_Rz 61 mL_law (od_Zs N xs) E0 res u 1253 (LcL i) [] E g2) : od_Rz 61 mL_law (od_Zs N xs) E0 res u 542 (LcL i) [] E g := by
  refine z_two hE (p_force hE hR (xv xs i 1)) cvL_67 cvL_70 dL_law_548 dL_law_557 dL_law_560 (by decide) rfl (by decide) (by decide) hu (fun k => ?_) (fun a g1 k => ?_) kk
  · refine z_aload_n dL_law_542 rfl ?_
    refine z_arg dL_law_543 dL_law_544 dL_law_545 dL_law_546 dL_law_547 li_1 (by omega) hi ?_
    exact k
  · refine z_aload_n dL_law_551 rfl ?_
    refine z_arg dL_law_552 dL_law_553 dL_law_554 dL_law_555 dL_law_556 li_1 (by omega) hi ?_
    exact k
theorem zc_pin (hE : EW E 0 86) (hR : Rel2 E 0 86 g g) (hi : 0 ≤ i ∧ i + 6 ≤ (N : Int) ∧ N ≤ 3072) (hu : u.1 ≤ res.1.1 ∧ u.2 ≤ res.1.2) (kk : ∀ g2 : od_G, Rel2 E 0 86 g2 g2 → od_Rz 61 mL_law (od_Zs N xs) E0 res u 1253 (LcL i) [] E g2) : od_Rz 61 mL_law (od_Zs N xs) E0 res u 565 (LcL i) [] E g := by
  refine z_two hE (p_pin hE hR (xv xs i 1) (xv xs i 2)) cvL_71 cvL_74 dL_law_576 dL_law_590 dL_law_593 (by decide) rfl (by decide) (by decide) hu (fun k => ?_) (fun a g1 k => ?_) kk
  · refine z_aload_n dL_law_565 rfl ?_
    refine z_arg dL_law_566 dL_law_567 dL_law_568 dL_law_569 dL_law_570 li_1 (by omega) hi ?_
    refine z_arg dL_law_571 dL_law_572 dL_law_573 dL_law_574 dL_law_575 li_2 (by omega) hi ?_
    exact k
  · refine z_aload_n dL_law_579 rfl ?_
    refine z_arg dL_law_580 dL_law_581 dL_law_582 dL_law_583 dL_law_584 li_1 (by omega) hi ?_
    refine z_arg dL_law_585 dL_law_586 dL_law_587 dL_law_588 dL_law_589 li_2 (by omega) hi ?_
    exact k
theorem zc_shift (hE : EW E 0 86) (hR : Rel2 E 0 86 g g) (hi : 0 ≤ i ∧ i + 6 ≤ (N : Int) ∧ N ≤ 3072) (hu : u.1 ≤ res.1.1 ∧ u.2 ≤ res.1.2) (kk : ∀ g2 : od_G, Rel2 E 0 86 g2 g2 → od_Rz 61 mL_law (od_Zs N xs) E0 res u 1253 (LcL i) [] E g2) : od_Rz 61 mL_law (od_Zs N xs) E0 res u 598 (LcL i) [] E g := by
  refine z_two hE (p_shift hE hR (xv xs i 1) (xv xs i 2)) cvL_75 cvL_78 dL_law_609 dL_law_623 dL_law_626 (by decide) rfl (by decide) (by decide) hu (fun k => ?_) (fun a g1 k => ?_) kk
  · refine z_aload_n dL_law_598 rfl ?_
    refine z_arg dL_law_599 dL_law_600 dL_law_601 dL_law_602 dL_law_603 li_1 (by omega) hi ?_
    refine z_arg dL_law_604 dL_law_605 dL_law_606 dL_law_607 dL_law_608 li_2 (by omega) hi ?_
    exact k
  · refine z_aload_n dL_law_612 rfl ?_
    refine z_arg dL_law_613 dL_law_614 dL_law_615 dL_law_616 dL_law_617 li_1 (by omega) hi ?_
    refine z_arg dL_law_618 dL_law_619 dL_law_620 dL_law_621 dL_law_622 li_2 (by omega) hi ?_
    exact k
theorem zc_stop (hE : EW E 0 86) (hR : Rel2 E 0 86 g g) (hi : 0 ≤ i ∧ i + 6 ≤ (N : Int) ∧ N ≤ 3072) (hu : u.1 ≤ res.1.1 ∧ u.2 ≤ res.1.2) (kk : ∀ g2 : od_G, Rel2 E 0 86 g2 g2 → od_Rz 61 mL_law (od_Zs N xs) E0 res u 1253 (LcL i) [] E g2) : od_Rz 61 mL_law (od_Zs N xs) E0 res u 631 (LcL i) [] E g := by
  refine z_two hE (p_stop hE hR (xv xs i 1)) cvL_79 cvL_82 dL_law_637 dL_law_646 dL_law_649 (by decide) rfl (by decide) (by decide) hu (fun k => ?_) (fun a g1 k => ?_) kk
  · refine z_aload_n dL_law_631 rfl ?_
    refine z_arg dL_law_632 dL_law_633 dL_law_634 dL_law_635 dL_law_636 li_1 (by omega) hi ?_
    exact k
  · refine z_aload_n dL_law_640 rfl ?_
    refine z_arg dL_law_641 dL_law_642 dL_law_643 dL_law_644 dL_law_645 li_1 (by omega) hi ?_
    exact k
theorem zc_pass (hE : EW E 0 86) (hR : Rel2 E 0 86 g g) (hi : 0 ≤ i ∧ i + 6 ≤ (N : Int) ∧ N ≤ 3072) (hu : u.1 ≤ res.1.1 ∧ u.2 ≤ res.1.2) (kk : ∀ g2 : od_G, Rel2 E 0 86 g2 g2 → od_Rz 61 mL_law (od_Zs N xs) E0 res u 1253 (LcL i) [] E g2) : od_Rz 61 mL_law (od_Zs N xs) E0 res u 654 (LcL i) [] E g := by
  refine z_two hE (p_pass hE hR ) cvL_83 cvL_86 dL_law_655 dL_law_659 dL_law_662 (by decide) rfl (by decide) (by decide) hu (fun k => ?_) (fun a g1 k => ?_) kk
  · refine z_aload_n dL_law_654 rfl ?_
    exact k
  · refine z_aload_n dL_law_658 rfl ?_
    exact k
theorem zc_undo (hE : EW E 0 86) (hR : Rel2 E 0 86 g g) (hi : 0 ≤ i ∧ i + 6 ≤ (N : Int) ∧ N ≤ 3072) (hu : u.1 ≤ res.1.1 ∧ u.2 ≤ res.1.2) (kk : ∀ g2 : od_G, Rel2 E 0 86 g2 g2 → od_Rz 61 mL_law (od_Zs N xs) E0 res u 1253 (LcL i) [] E g2) : od_Rz 61 mL_law (od_Zs N xs) E0 res u 667 (LcL i) [] E g := by
  refine z_two hE (p_undo hE hR ) cvL_87 cvL_90 dL_law_668 dL_law_672 dL_law_675 (by decide) rfl (by decide) (by decide) hu (fun k => ?_) (fun a g1 k => ?_) kk
  · refine z_aload_n dL_law_667 rfl ?_
    exact k
  · refine z_aload_n dL_law_671 rfl ?_
    exact k
theorem zc_loud (hE : EW E 0 86) (hR : Rel2 E 0 86 g g) (hi : 0 ≤ i ∧ i + 6 ≤ (N : Int) ∧ N ≤ 3072) (hu : u.1 ≤ res.1.1 ∧ u.2 ≤ res.1.2) (kk : ∀ g2 : od_G, Rel2 E 0 86 g2 g2 → od_Rz 61 mL_law (od_Zs N xs) E0 res u 1253 (LcL i) [] E g2) : od_Rz 61 mL_law (od_Zs N xs) E0 res u 680 (LcL i) [] E g := by
  refine z_two hE (p_loud hE hR (xv xs i 1)) cvL_91 cvL_94 dL_law_686 dL_law_695 dL_law_698 (by decide) rfl (by decide) (by decide) hu (fun k => ?_) (fun a g1 k => ?_) kk
  · refine z_aload_n dL_law_680 rfl ?_
    refine z_arg dL_law_681 dL_law_682 dL_law_683 dL_law_684 dL_law_685 li_1 (by omega) hi ?_
    exact k
  · refine z_aload_n dL_law_689 rfl ?_
    refine z_arg dL_law_690 dL_law_691 dL_law_692 dL_law_693 dL_law_694 li_1 (by omega) hi ?_
    exact k
theorem zc_round (hE : EW E 0 86) (hR : Rel2 E 0 86 g g) (hi : 0 ≤ i ∧ i + 6 ≤ (N : Int) ∧ N ≤ 3072) (hu : u.1 ≤ res.1.1 ∧ u.2 ≤ res.1.2) (kk : ∀ g2 : od_G, Rel2 E 0 86 g2 g2 → od_Rz 61 mL_law (od_Zs N xs) E0 res u 1253 (LcL i) [] E g2) : od_Rz 61 mL_law (od_Zs N xs) E0 res u 703 (LcL i) [] E g := by
  refine z_two hE (p_round hE hR ) cvL_95 cvL_98 dL_law_704 dL_law_708 dL_law_711 (by decide) rfl (by decide) (by decide) hu (fun k => ?_) (fun a g1 k => ?_) kk
  · refine z_aload_n dL_law_703 rfl ?_
    exact k
  · refine z_aload_n dL_law_707 rfl ?_
    exact k
theorem zc_when (hE : EW E 0 86) (hR : Rel2 E 0 86 g g) (hi : 0 ≤ i ∧ i + 6 ≤ (N : Int) ∧ N ≤ 3072) (hu : u.1 ≤ res.1.1 ∧ u.2 ≤ res.1.2) (kk : ∀ g2 : od_G, Rel2 E 0 86 g2 g2 → od_Rz 61 mL_law (od_Zs N xs) E0 res u 1253 (LcL i) [] E g2) : od_Rz 61 mL_law (od_Zs N xs) E0 res u 716 (LcL i) [] E g := by
  refine z_two hE (p_when hE hR (xv xs i 1)) cvL_99 cvL_102 dL_law_722 dL_law_731 dL_law_734 (by decide) rfl (by decide) (by decide) hu (fun k => ?_) (fun a g1 k => ?_) kk
  · refine z_aload_n dL_law_716 rfl ?_
    refine z_arg dL_law_717 dL_law_718 dL_law_719 dL_law_720 dL_law_721 li_1 (by omega) hi ?_
    exact k
  · refine z_aload_n dL_law_725 rfl ?_
    refine z_arg dL_law_726 dL_law_727 dL_law_728 dL_law_729 dL_law_730 li_1 (by omega) hi ?_
    exact k
theorem zc_often (hE : EW E 0 86) (hR : Rel2 E 0 86 g g) (hi : 0 ≤ i ∧ i + 6 ≤ (N : Int) ∧ N ≤ 3072) (hu : u.1 ≤ res.1.1 ∧ u.2 ≤ res.1.2) (kk : ∀ g2 : od_G, Rel2 E 0 86 g2 g2 → od_Rz 61 mL_law (od_Zs N xs) E0 res u 1253 (LcL i) [] E g2) : od_Rz 61 mL_law (od_Zs N xs) E0 res u 739 (LcL i) [] E g := by
  refine z_two hE (p_often hE hR (xv xs i 1)) cvL_103 cvL_106 dL_law_745 dL_law_754 dL_law_757 (by decide) rfl (by decide) (by decide) hu (fun k => ?_) (fun a g1 k => ?_) kk
  · refine z_aload_n dL_law_739 rfl ?_
    refine z_arg dL_law_740 dL_law_741 dL_law_742 dL_law_743 dL_law_744 li_1 (by omega) hi ?_
    exact k
  · refine z_aload_n dL_law_748 rfl ?_
    refine z_arg dL_law_749 dL_law_750 dL_law_751 dL_law_752 dL_law_753 li_1 (by omega) hi ?_
    exact k
theorem zc_alone (hE : EW E 0 86) (hR : Rel2 E 0 86 g g) (hi : 0 ≤ i ∧ i + 6 ≤ (N : Int) ∧ N ≤ 3072) (hu : u.1 ≤ res.1.1 ∧ u.2 ≤ res.1.2) (kk : ∀ g2 : od_G, Rel2 E 0 86 g2 g2 → od_Rz 61 mL_law (od_Zs N xs) E0 res u 1253 (LcL i) [] E g2) : od_Rz 61 mL_law (od_Zs N xs) E0 res u 762 (LcL i) [] E g := by
  refine z_two hE (p_alone hE hR (xv xs i 1)) cvL_107 cvL_110 dL_law_768 dL_law_777 dL_law_780 (by decide) rfl (by decide) (by decide) hu (fun k => ?_) (fun a g1 k => ?_) kk
  · refine z_aload_n dL_law_762 rfl ?_
    refine z_arg dL_law_763 dL_law_764 dL_law_765 dL_law_766 dL_law_767 li_1 (by omega) hi ?_
    exact k
  · refine z_aload_n dL_law_771 rfl ?_
    refine z_arg dL_law_772 dL_law_773 dL_law_774 dL_law_775 dL_law_776 li_1 (by omega) hi ?_
    exact k
theorem zc_loudest (hE : EW E 0 86) (hR : Rel2 E 0 86 g g) (hi : 0 ≤ i ∧ i + 6 ≤ (N : Int) ∧ N ≤ 3072) (hu : u.1 ≤ res.1.1 ∧ u.2 ≤ res.1.2) (kk : ∀ g2 : od_G, Rel2 E 0 86 g2 g2 → od_Rz 61 mL_law (od_Zs N xs) E0 res u 1253 (LcL i) [] E g2) : od_Rz 61 mL_law (od_Zs N xs) E0 res u 785 (LcL i) [] E g := by
  refine z_two hE (p_loudest hE hR (xv xs i 1)) cvL_111 cvL_114 dL_law_791 dL_law_800 dL_law_803 (by decide) rfl (by decide) (by decide) hu (fun k => ?_) (fun a g1 k => ?_) kk
  · refine z_aload_n dL_law_785 rfl ?_
    refine z_arg dL_law_786 dL_law_787 dL_law_788 dL_law_789 dL_law_790 li_1 (by omega) hi ?_
    exact k
  · refine z_aload_n dL_law_794 rfl ?_
    refine z_arg dL_law_795 dL_law_796 dL_law_797 dL_law_798 dL_law_799 li_1 (by omega) hi ?_
    exact k
theorem zc_quiet (hE : EW E 0 86) (hR : Rel2 E 0 86 g g) (hi : 0 ≤ i ∧ i + 6 ≤ (N : Int) ∧ N ≤ 3072) (hu : u.1 ≤ res.1.1 ∧ u.2 ≤ res.1.2) (kk : ∀ g2 : od_G, Rel2 E 0 86 g2 g2 → od_Rz 61 mL_law (od_Zs N xs) E0 res u 1253 (LcL i) [] E g2) : od_Rz 61 mL_law (od_Zs N xs) E0 res u 808 (LcL i) [] E g := by
  refine z_two hE (p_quiet hE hR (xv xs i 1)) cvL_115 cvL_118 dL_law_814 dL_law_823 dL_law_826 (by decide) rfl (by decide) (by decide) hu (fun k => ?_) (fun a g1 k => ?_) kk
  · refine z_aload_n dL_law_808 rfl ?_
    refine z_arg dL_law_809 dL_law_810 dL_law_811 dL_law_812 dL_law_813 li_1 (by omega) hi ?_
    exact k
  · refine z_aload_n dL_law_817 rfl ?_
    refine z_arg dL_law_818 dL_law_819 dL_law_820 dL_law_821 dL_law_822 li_1 (by omega) hi ?_
    exact k
theorem zc_most (hE : EW E 0 86) (hR : Rel2 E 0 86 g g) (hi : 0 ≤ i ∧ i + 6 ≤ (N : Int) ∧ N ≤ 3072) (hu : u.1 ≤ res.1.1 ∧ u.2 ≤ res.1.2) (kk : ∀ g2 : od_G, Rel2 E 0 86 g2 g2 → od_Rz 61 mL_law (od_Zs N xs) E0 res u 1253 (LcL i) [] E g2) : od_Rz 61 mL_law (od_Zs N xs) E0 res u 831 (LcL i) [] E g := by
  refine z_two hE (p_most hE hR (xv xs i 1) (xv xs i 2)) cvL_119 cvL_122 dL_law_842 dL_law_856 dL_law_859 (by decide) rfl (by decide) (by decide) hu (fun k => ?_) (fun a g1 k => ?_) kk
  · refine z_aload_n dL_law_831 rfl ?_
    refine z_arg dL_law_832 dL_law_833 dL_law_834 dL_law_835 dL_law_836 li_1 (by omega) hi ?_
    refine z_arg dL_law_837 dL_law_838 dL_law_839 dL_law_840 dL_law_841 li_2 (by omega) hi ?_
    exact k
  · refine z_aload_n dL_law_845 rfl ?_
    refine z_arg dL_law_846 dL_law_847 dL_law_848 dL_law_849 dL_law_850 li_1 (by omega) hi ?_
    refine z_arg dL_law_851 dL_law_852 dL_law_853 dL_law_854 dL_law_855 li_2 (by omega) hi ?_
    exact k
theorem zc_least (hE : EW E 0 86) (hR : Rel2 E 0 86 g g) (hi : 0 ≤ i ∧ i + 6 ≤ (N : Int) ∧ N ≤ 3072) (hu : u.1 ≤ res.1.1 ∧ u.2 ≤ res.1.2) (kk : ∀ g2 : od_G, Rel2 E 0 86 g2 g2 → od_Rz 61 mL_law (od_Zs N xs) E0 res u 1253 (LcL i) [] E g2) : od_Rz 61 mL_law (od_Zs N xs) E0 res u 864 (LcL i) [] E g := by
  refine z_two hE (p_least hE hR (xv xs i 1) (xv xs i 2)) cvL_123 cvL_126 dL_law_875 dL_law_889 dL_law_892 (by decide) rfl (by decide) (by decide) hu (fun k => ?_) (fun a g1 k => ?_) kk
  · refine z_aload_n dL_law_864 rfl ?_
    refine z_arg dL_law_865 dL_law_866 dL_law_867 dL_law_868 dL_law_869 li_1 (by omega) hi ?_
    refine z_arg dL_law_870 dL_law_871 dL_law_872 dL_law_873 dL_law_874 li_2 (by omega) hi ?_
    exact k
  · refine z_aload_n dL_law_878 rfl ?_
    refine z_arg dL_law_879 dL_law_880 dL_law_881 dL_law_882 dL_law_883 li_1 (by omega) hi ?_
    refine z_arg dL_law_884 dL_law_885 dL_law_886 dL_law_887 dL_law_888 li_2 (by omega) hi ?_
    exact k
theorem zc_never (hE : EW E 0 86) (hR : Rel2 E 0 86 g g) (hi : 0 ≤ i ∧ i + 6 ≤ (N : Int) ∧ N ≤ 3072) (hu : u.1 ≤ res.1.1 ∧ u.2 ≤ res.1.2) (kk : ∀ g2 : od_G, Rel2 E 0 86 g2 g2 → od_Rz 61 mL_law (od_Zs N xs) E0 res u 1253 (LcL i) [] E g2) : od_Rz 61 mL_law (od_Zs N xs) E0 res u 897 (LcL i) [] E g := by
  refine z_two hE (p_never hE hR (xv xs i 1)) cvL_127 cvL_130 dL_law_903 dL_law_912 dL_law_915 (by decide) rfl (by decide) (by decide) hu (fun k => ?_) (fun a g1 k => ?_) kk
  · refine z_aload_n dL_law_897 rfl ?_
    refine z_arg dL_law_898 dL_law_899 dL_law_900 dL_law_901 dL_law_902 li_1 (by omega) hi ?_
    exact k
  · refine z_aload_n dL_law_906 rfl ?_
    refine z_arg dL_law_907 dL_law_908 dL_law_909 dL_law_910 dL_law_911 li_1 (by omega) hi ?_
    exact k
theorem zc_add (hE : EW E 0 86) (hR : Rel2 E 0 86 g g) (hi : 0 ≤ i ∧ i + 6 ≤ (N : Int) ∧ N ≤ 3072) (hu : u.1 ≤ res.1.1 ∧ u.2 ≤ res.1.2) (kk : ∀ g2 : od_G, Rel2 E 0 86 g2 g2 → od_Rz 61 mL_law (od_Zs N xs) E0 res u 1253 (LcL i) [] E g2) : od_Rz 61 mL_law (od_Zs N xs) E0 res u 920 (LcL i) [] E g := by
  refine z_two hE (p_add hE hR (xv xs i 1) (xv xs i 2)) cvL_131 cvL_134 dL_law_931 dL_law_945 dL_law_948 (by decide) rfl (by decide) (by decide) hu (fun k => ?_) (fun a g1 k => ?_) kk
  · refine z_aload_n dL_law_920 rfl ?_
    refine z_arg dL_law_921 dL_law_922 dL_law_923 dL_law_924 dL_law_925 li_1 (by omega) hi ?_
    refine z_arg dL_law_926 dL_law_927 dL_law_928 dL_law_929 dL_law_930 li_2 (by omega) hi ?_
    exact k
  · refine z_aload_n dL_law_934 rfl ?_
    refine z_arg dL_law_935 dL_law_936 dL_law_937 dL_law_938 dL_law_939 li_1 (by omega) hi ?_
    refine z_arg dL_law_940 dL_law_941 dL_law_942 dL_law_943 dL_law_944 li_2 (by omega) hi ?_
    exact k
theorem zc_tune (hE : EW E 0 86) (hR : Rel2 E 0 86 g g) (hi : 0 ≤ i ∧ i + 6 ≤ (N : Int) ∧ N ≤ 3072) (hu : u.1 ≤ res.1.1 ∧ u.2 ≤ res.1.2) (kk : ∀ g2 : od_G, Rel2 E 0 86 g2 g2 → od_Rz 61 mL_law (od_Zs N xs) E0 res u 1253 (LcL i) [] E g2) : od_Rz 61 mL_law (od_Zs N xs) E0 res u 953 (LcL i) [] E g := by
  refine z_two hE (p_tune hE hR ) cvL_135 cvL_138 dL_law_954 dL_law_958 dL_law_961 (by decide) rfl (by decide) (by decide) hu (fun k => ?_) (fun a g1 k => ?_) kk
  · refine z_aload_n dL_law_953 rfl ?_
    exact k
  · refine z_aload_n dL_law_957 rfl ?_
    exact k
theorem zc_heard (hE : EW E 0 86) (hR : Rel2 E 0 86 g g) (hi : 0 ≤ i ∧ i + 6 ≤ (N : Int) ∧ N ≤ 3072) (hu : u.1 ≤ res.1.1 ∧ u.2 ≤ res.1.2) (kk : ∀ g2 : od_G, Rel2 E 0 86 g2 g2 → od_Rz 61 mL_law (od_Zs N xs) E0 res u 1253 (LcL i) [] E g2) : od_Rz 61 mL_law (od_Zs N xs) E0 res u 966 (LcL i) [] E g := by
  refine z_two hE (p_heard hE hR (xv xs i 1) (xv xs i 2)) cvL_139 cvL_142 dL_law_977 dL_law_991 dL_law_994 (by decide) rfl (by decide) (by decide) hu (fun k => ?_) (fun a g1 k => ?_) kk
  · refine z_aload_n dL_law_966 rfl ?_
    refine z_arg dL_law_967 dL_law_968 dL_law_969 dL_law_970 dL_law_971 li_1 (by omega) hi ?_
    refine z_arg dL_law_972 dL_law_973 dL_law_974 dL_law_975 dL_law_976 li_2 (by omega) hi ?_
    exact k
  · refine z_aload_n dL_law_980 rfl ?_
    refine z_arg dL_law_981 dL_law_982 dL_law_983 dL_law_984 dL_law_985 li_1 (by omega) hi ?_
    refine z_arg dL_law_986 dL_law_987 dL_law_988 dL_law_989 dL_law_990 li_2 (by omega) hi ?_
    exact k
theorem zc_forget (hE : EW E 0 86) (hR : Rel2 E 0 86 g g) (hi : 0 ≤ i ∧ i + 6 ≤ (N : Int) ∧ N ≤ 3072) (hu : u.1 ≤ res.1.1 ∧ u.2 ≤ res.1.2) (kk : ∀ g2 : od_G, Rel2 E 0 86 g2 g2 → od_Rz 61 mL_law (od_Zs N xs) E0 res u 1253 (LcL i) [] E g2) : od_Rz 61 mL_law (od_Zs N xs) E0 res u 999 (LcL i) [] E g := by
  refine z_two hE (p_forget hE hR ) cvL_143 cvL_146 dL_law_1000 dL_law_1004 dL_law_1007 (by decide) rfl (by decide) (by decide) hu (fun k => ?_) (fun a g1 k => ?_) kk
  · refine z_aload_n dL_law_999 rfl ?_
    exact k
  · refine z_aload_n dL_law_1003 rfl ?_
    exact k
theorem zc_canBe (hE : EW E 0 86) (hR : Rel2 E 0 86 g g) (hi : 0 ≤ i ∧ i + 6 ≤ (N : Int) ∧ N ≤ 3072) (hu : u.1 ≤ res.1.1 ∧ u.2 ≤ res.1.2) (kk : ∀ g2 : od_G, Rel2 E 0 86 g2 g2 → od_Rz 61 mL_law (od_Zs N xs) E0 res u 1253 (LcL i) [] E g2) : od_Rz 61 mL_law (od_Zs N xs) E0 res u 1012 (LcL i) [] E g := by
  refine z_two hE (p_canBe hE hR ) cvL_147 cvL_150 dL_law_1013 dL_law_1017 dL_law_1020 (by decide) rfl (by decide) (by decide) hu (fun k => ?_) (fun a g1 k => ?_) kk
  · refine z_aload_n dL_law_1012 rfl ?_
    exact k
  · refine z_aload_n dL_law_1016 rfl ?_
    exact k
theorem zc_listen (hE : EW E 0 86) (hR : Rel2 E 0 86 g g) (hi : 0 ≤ i ∧ i + 6 ≤ (N : Int) ∧ N ≤ 3072) (hu : u.1 ≤ res.1.1 ∧ u.2 ≤ res.1.2) (kk : ∀ g2 : od_G, Rel2 E 0 86 g2 g2 → od_Rz 61 mL_law (od_Zs N xs) E0 res u 1253 (LcL i) [] E g2) : od_Rz 61 mL_law (od_Zs N xs) E0 res u 1025 (LcL i) [] E g := by
  refine z_two hE (p_listen hE hR (xv xs i 1)) cvL_151 cvL_154 dL_law_1031 dL_law_1040 dL_law_1043 (by decide) rfl (by decide) (by decide) hu (fun k => ?_) (fun a g1 k => ?_) kk
  · refine z_aload_n dL_law_1025 rfl ?_
    refine z_arg dL_law_1026 dL_law_1027 dL_law_1028 dL_law_1029 dL_law_1030 li_1 (by omega) hi ?_
    exact k
  · refine z_aload_n dL_law_1034 rfl ?_
    refine z_arg dL_law_1035 dL_law_1036 dL_law_1037 dL_law_1038 dL_law_1039 li_1 (by omega) hi ?_
    exact k
theorem zc_few (hE : EW E 0 86) (hR : Rel2 E 0 86 g g) (hi : 0 ≤ i ∧ i + 6 ≤ (N : Int) ∧ N ≤ 3072) (hu : u.1 ≤ res.1.1 ∧ u.2 ≤ res.1.2) (kk : ∀ g2 : od_G, Rel2 E 0 86 g2 g2 → od_Rz 61 mL_law (od_Zs N xs) E0 res u 1253 (LcL i) [] E g2) : od_Rz 61 mL_law (od_Zs N xs) E0 res u 1048 (LcL i) [] E g := by
  refine z_two1 hE (p_few hE hR (xv xs i 1) (xv xs i 2)) cvL_155 cvL_159 dL_law_1059 dL_law_1073 dL_law_1076 dL_law_1077 (by decide) rfl (by decide) (by decide) hu (fun k => ?_) (fun a g1 k => ?_) kk
  · refine z_aload_n dL_law_1048 rfl ?_
    refine z_arg dL_law_1049 dL_law_1050 dL_law_1051 dL_law_1052 dL_law_1053 li_1 (by omega) hi ?_
    refine z_arg dL_law_1054 dL_law_1055 dL_law_1056 dL_law_1057 dL_law_1058 li_2 (by omega) hi ?_
    exact k
  · refine z_aload_n dL_law_1062 rfl ?_
    refine z_arg dL_law_1063 dL_law_1064 dL_law_1065 dL_law_1066 dL_law_1067 li_1 (by omega) hi ?_
    refine z_arg dL_law_1068 dL_law_1069 dL_law_1070 dL_law_1071 dL_law_1072 li_2 (by omega) hi ?_
    exact k
theorem zc_compare (hE : EW E 0 86) (hR : Rel2 E 0 86 g g) (hi : 0 ≤ i ∧ i + 6 ≤ (N : Int) ∧ N ≤ 3072) (hu : u.1 ≤ res.1.1 ∧ u.2 ≤ res.1.2) (kk : ∀ g2 : od_G, Rel2 E 0 86 g2 g2 → od_Rz 61 mL_law (od_Zs N xs) E0 res u 1253 (LcL i) [] E g2) : od_Rz 61 mL_law (od_Zs N xs) E0 res u 1082 (LcL i) [] E g := by
  refine z_two hE (p_compare hE hR (xv xs i 1)) cvL_160 cvL_163 dL_law_1088 dL_law_1097 dL_law_1100 (by decide) rfl (by decide) (by decide) hu (fun k => ?_) (fun a g1 k => ?_) kk
  · refine z_aload_n dL_law_1082 rfl ?_
    refine z_arg dL_law_1083 dL_law_1084 dL_law_1085 dL_law_1086 dL_law_1087 li_1 (by omega) hi ?_
    exact k
  · refine z_aload_n dL_law_1091 rfl ?_
    refine z_arg dL_law_1092 dL_law_1093 dL_law_1094 dL_law_1095 dL_law_1096 li_1 (by omega) hi ?_
    exact k
theorem zc_days (hE : EW E 0 86) (hR : Rel2 E 0 86 g g) (hi : 0 ≤ i ∧ i + 6 ≤ (N : Int) ∧ N ≤ 3072) (hu : u.1 ≤ res.1.1 ∧ u.2 ≤ res.1.2) (kk : ∀ g2 : od_G, Rel2 E 0 86 g2 g2 → od_Rz 61 mL_law (od_Zs N xs) E0 res u 1253 (LcL i) [] E g2) : od_Rz 61 mL_law (od_Zs N xs) E0 res u 1105 (LcL i) [] E g := by
  refine z_two hE (p_days hE hR (xv xs i 1) (xv xs i 2)) cvL_164 cvL_167 dL_law_1116 dL_law_1130 dL_law_1133 (by decide) rfl (by decide) (by decide) hu (fun k => ?_) (fun a g1 k => ?_) kk
  · refine z_aload_n dL_law_1105 rfl ?_
    refine z_arg dL_law_1106 dL_law_1107 dL_law_1108 dL_law_1109 dL_law_1110 li_1 (by omega) hi ?_
    refine z_arg dL_law_1111 dL_law_1112 dL_law_1113 dL_law_1114 dL_law_1115 li_2 (by omega) hi ?_
    exact k
  · refine z_aload_n dL_law_1119 rfl ?_
    refine z_arg dL_law_1120 dL_law_1121 dL_law_1122 dL_law_1123 dL_law_1124 li_1 (by omega) hi ?_
    refine z_arg dL_law_1125 dL_law_1126 dL_law_1127 dL_law_1128 dL_law_1129 li_2 (by omega) hi ?_
    exact k
theorem zc_drawn (hE : EW E 0 86) (hR : Rel2 E 0 86 g g) (hi : 0 ≤ i ∧ i + 6 ≤ (N : Int) ∧ N ≤ 3072) (hu : u.1 ≤ res.1.1 ∧ u.2 ≤ res.1.2) (kk : ∀ g2 : od_G, Rel2 E 0 86 g2 g2 → od_Rz 61 mL_law (od_Zs N xs) E0 res u 1253 (LcL i) [] E g2) : od_Rz 61 mL_law (od_Zs N xs) E0 res u 1138 (LcL i) [] E g := by
  refine z_two hE (p_drawn hE hR (xv xs i 1) (xv xs i 2)) cvL_168 cvL_171 dL_law_1149 dL_law_1163 dL_law_1166 (by decide) rfl (by decide) (by decide) hu (fun k => ?_) (fun a g1 k => ?_) kk
  · refine z_aload_n dL_law_1138 rfl ?_
    refine z_arg dL_law_1139 dL_law_1140 dL_law_1141 dL_law_1142 dL_law_1143 li_1 (by omega) hi ?_
    refine z_arg dL_law_1144 dL_law_1145 dL_law_1146 dL_law_1147 dL_law_1148 li_2 (by omega) hi ?_
    exact k
  · refine z_aload_n dL_law_1152 rfl ?_
    refine z_arg dL_law_1153 dL_law_1154 dL_law_1155 dL_law_1156 dL_law_1157 li_1 (by omega) hi ?_
    refine z_arg dL_law_1158 dL_law_1159 dL_law_1160 dL_law_1161 dL_law_1162 li_2 (by omega) hi ?_
    exact k
theorem zc_image (hE : EW E 0 86) (hR : Rel2 E 0 86 g g) (hi : 0 ≤ i ∧ i + 6 ≤ (N : Int) ∧ N ≤ 3072) (hu : u.1 ≤ res.1.1 ∧ u.2 ≤ res.1.2) (kk : ∀ g2 : od_G, Rel2 E 0 86 g2 g2 → od_Rz 61 mL_law (od_Zs N xs) E0 res u 1253 (LcL i) [] E g2) : od_Rz 61 mL_law (od_Zs N xs) E0 res u 1171 (LcL i) [] E g := by
  refine z_two hE (p_image hE hR (xv xs i 1)) cvL_172 cvL_175 dL_law_1177 dL_law_1186 dL_law_1189 (by decide) rfl (by decide) (by decide) hu (fun k => ?_) (fun a g1 k => ?_) kk
  · refine z_aload_n dL_law_1171 rfl ?_
    refine z_arg dL_law_1172 dL_law_1173 dL_law_1174 dL_law_1175 dL_law_1176 li_1 (by omega) hi ?_
    exact k
  · refine z_aload_n dL_law_1180 rfl ?_
    refine z_arg dL_law_1181 dL_law_1182 dL_law_1183 dL_law_1184 dL_law_1185 li_1 (by omega) hi ?_
    exact k
theorem zc_back (hE : EW E 0 86) (hR : Rel2 E 0 86 g g) (hi : 0 ≤ i ∧ i + 6 ≤ (N : Int) ∧ N ≤ 3072) (hu : u.1 ≤ res.1.1 ∧ u.2 ≤ res.1.2) (kk : ∀ g2 : od_G, Rel2 E 0 86 g2 g2 → od_Rz 61 mL_law (od_Zs N xs) E0 res u 1253 (LcL i) [] E g2) : od_Rz 61 mL_law (od_Zs N xs) E0 res u 1194 (LcL i) [] E g := by
  refine z_two hE (p_back hE hR (xv xs i 1)) cvL_176 cvL_179 dL_law_1200 dL_law_1209 dL_law_1212 (by decide) rfl (by decide) (by decide) hu (fun k => ?_) (fun a g1 k => ?_) kk
  · refine z_aload_n dL_law_1194 rfl ?_
    refine z_arg dL_law_1195 dL_law_1196 dL_law_1197 dL_law_1198 dL_law_1199 li_1 (by omega) hi ?_
    exact k
  · refine z_aload_n dL_law_1203 rfl ?_
    refine z_arg dL_law_1204 dL_law_1205 dL_law_1206 dL_law_1207 dL_law_1208 li_1 (by omega) hi ?_
    exact k
theorem zc_count (hE : EW E 0 86) (hR : Rel2 E 0 86 g g) (hi : 0 ≤ i ∧ i + 6 ≤ (N : Int) ∧ N ≤ 3072) (hu : u.1 ≤ res.1.1 ∧ u.2 ≤ res.1.2) (kk : ∀ g2 : od_G, Rel2 E 0 86 g2 g2 → od_Rz 61 mL_law (od_Zs N xs) E0 res u 1253 (LcL i) [] E g2) : od_Rz 61 mL_law (od_Zs N xs) E0 res u 1217 (LcL i) [] E g := by
  refine z_two hE (p_count hE hR (xv xs i 1)) cvL_180 cvL_183 dL_law_1223 dL_law_1232 dL_law_1235 (by decide) rfl (by decide) (by decide) hu (fun k => ?_) (fun a g1 k => ?_) kk
  · refine z_aload_n dL_law_1217 rfl ?_
    refine z_arg dL_law_1218 dL_law_1219 dL_law_1220 dL_law_1221 dL_law_1222 li_1 (by omega) hi ?_
    exact k
  · refine z_aload_n dL_law_1226 rfl ?_
    refine z_arg dL_law_1227 dL_law_1228 dL_law_1229 dL_law_1230 dL_law_1231 li_1 (by omega) hi ?_
    exact k
theorem zc_status (hE : EW E 0 86) (hR : Rel2 E 0 86 g g) (hi : 0 ≤ i ∧ i + 6 ≤ (N : Int) ∧ N ≤ 3072) (hu : u.1 ≤ res.1.1 ∧ u.2 ≤ res.1.2) (kk : ∀ g2 : od_G, Rel2 E 0 86 g2 g2 → od_Rz 61 mL_law (od_Zs N xs) E0 res u 1253 (LcL i) [] E g2) : od_Rz 61 mL_law (od_Zs N xs) E0 res u 1240 (LcL i) [] E g := by
  refine z_two hE (p_status hE hR ) cvL_184 cvL_187 dL_law_1241 dL_law_1245 dL_law_1248 (by decide) rfl (by decide) (by decide) hu (fun k => ?_) (fun a g1 k => ?_) kk
  · refine z_aload_n dL_law_1240 rfl ?_
    exact k
  · refine z_aload_n dL_law_1244 rfl ?_
    exact k
end Calls
