/-! ===== the cases ===== -/
section LAWC
variable {X : Cx} {ce sl i b L : Nat} {xs : Nat → Int32} {ad Q md : Nat → Nat} {kv : Value} {S M : MS} {K RC : va_W} {RD : RDt}
theorem law_hear (hX : Ok X code 4 RL) (hL : Lw X b L xs) (hi : i + 6 ≤ L) (hc : ce + 20 ≤ 600000) (hs : sl + 2000 ≤ 7302250) (R : Rel RD S M) (hQ : ∀ q ∈ roL Q RD, q ∈ RC) (hK : KO X.E kv K RC M) (kk : Go X b ad md i ce sl) : G X 4 ce sl 208 (lvL b (ad 10) (md 0) i) [] (LW X.E ad Q kv S K RC md M) := by
  obtain ⟨v, S2, M2, h1, h2, R2, e1, e2⟩ := two_hear R (xs (i + 1)) (xs (i + 2))
  refine g_aloadn hX 2 rfl rfl dL_208 ?_
  refine gl_arg hX hL (j := 1) (by decide) (by omega) dL_209 dL_210 dL_211 dL_212 dL_213 ?_
  refine gl_arg hX hL (j := 2) (by decide) (by omega) dL_214 dL_215 dL_216 dL_217 dL_218 ?_
  refine gl_x (v := v) (S2 := S2) (RD := RD) [.int (xs (i + 1)), .int (xs (i + 2))] hX hL.1 kwl_X11_hear (c_X11_hear R.rk h1) hQ (by decide) (by omega) (by omega) rfl rfl (Nat.le_of_ble_eq_true rfl) dL_219 ?_
  refine g_aloadn hX 1 rfl rfl dL_222 ?_
  refine gl_arg hX hL (j := 1) (by decide) (by omega) dL_223 dL_224 dL_225 dL_226 dL_227 ?_
  refine gl_arg hX hL (j := 2) (by decide) (by omega) dL_228 dL_229 dL_230 dL_231 dL_232 ?_
  refine gl_m (M2 := M2) [.int (xs (i + 1)), .int (xs (i + 2))] hX hL.1 kwl_X12_hear (c_X12_hear h2) (by decide) (by omega) (by omega) rfl rfl (Nat.le_of_ble_eq_true rfl) dL_233 ?_
  exact g_icmp_eq hX 1398 (by decide) dL_236 (fun _ => g_widen (by omega) (by omega) (kk Q kv S2 M2 K RC RD R2 hQ (hK.go (fun _ h => h) e1 e2))) (fun c => absurd rfl c)
theorem law_heard (hX : Ok X code 4 RL) (hL : Lw X b L xs) (hi : i + 6 ≤ L) (hc : ce + 20 ≤ 600000) (hs : sl + 2000 ≤ 7302250) (R : Rel RD S M) (hQ : ∀ q ∈ roL Q RD, q ∈ RC) (hK : KO X.E kv K RC M) (kk : Go X b ad md i ce sl) : G X 4 ce sl 241 (lvL b (ad 10) (md 0) i) [] (LW X.E ad Q kv S K RC md M) := by
  obtain ⟨v, S2, M2, h1, h2, R2, e1, e2⟩ := two_heard R 
  refine g_aloadn hX 2 rfl rfl dL_241 ?_
  refine gl_x (v := v) (S2 := S2) (RD := RD) [] hX hL.1 kwl_X11_heard (c_X11_heard R.rk h1) hQ (by decide) (by omega) (by omega) rfl rfl (Nat.le_of_ble_eq_true rfl) dL_242 ?_
  refine g_aloadn hX 1 rfl rfl dL_245 ?_
  refine gl_m (M2 := M2) [] hX hL.1 kwl_X12_heard (c_X12_heard h2) (by decide) (by omega) (by omega) rfl rfl (Nat.le_of_ble_eq_true rfl) dL_246 ?_
  exact g_icmp_eq hX 1398 (by decide) dL_249 (fun _ => g_widen (by omega) (by omega) (kk Q kv S2 M2 K RC RD R2 hQ (hK.go (fun _ h => h) e1 e2))) (fun c => absurd rfl c)
theorem law_world (hX : Ok X code 4 RL) (hL : Lw X b L xs) (hi : i + 6 ≤ L) (hc : ce + 20 ≤ 600000) (hs : sl + 2000 ≤ 7302250) (R : Rel RD S M) (hQ : ∀ q ∈ roL Q RD, q ∈ RC) (hK : KO X.E kv K RC M) (kk : Go X b ad md i ce sl) : G X 4 ce sl 254 (lvL b (ad 10) (md 0) i) [] (LW X.E ad Q kv S K RC md M) := by
  obtain ⟨v, S2, M2, h1, h2, R2, e1, e2⟩ := two_world R (xs (i + 1))
  refine g_aloadn hX 2 rfl rfl dL_254 ?_
  refine gl_arg hX hL (j := 1) (by decide) (by omega) dL_255 dL_256 dL_257 dL_258 dL_259 ?_
  refine gl_x (v := v) (S2 := S2) (RD := RD) [.int (xs (i + 1))] hX hL.1 kwl_X11_world (c_X11_world R.rk h1) hQ (by decide) (by omega) (by omega) rfl rfl (Nat.le_of_ble_eq_true rfl) dL_260 ?_
  refine g_aloadn hX 1 rfl rfl dL_263 ?_
  refine gl_arg hX hL (j := 1) (by decide) (by omega) dL_264 dL_265 dL_266 dL_267 dL_268 ?_
  refine gl_m (M2 := M2) [.int (xs (i + 1))] hX hL.1 kwl_X12_world (c_X12_world h2) (by decide) (by omega) (by omega) rfl rfl (Nat.le_of_ble_eq_true rfl) dL_269 ?_
  exact g_icmp_eq hX 1398 (by decide) dL_272 (fun _ => g_widen (by omega) (by omega) (kk Q kv S2 M2 K RC RD R2 hQ (hK.go (fun _ h => h) e1 e2))) (fun c => absurd rfl c)
theorem law_trust (hX : Ok X code 4 RL) (hL : Lw X b L xs) (hi : i + 6 ≤ L) (hc : ce + 20 ≤ 600000) (hs : sl + 2000 ≤ 7302250) (R : Rel RD S M) (hQ : ∀ q ∈ roL Q RD, q ∈ RC) (hK : KO X.E kv K RC M) (kk : Go X b ad md i ce sl) : G X 4 ce sl 277 (lvL b (ad 10) (md 0) i) [] (LW X.E ad Q kv S K RC md M) := by
  obtain ⟨v, S2, M2, h1, h2, R2, e1, e2⟩ := two_trust R (xs (i + 1))
  refine g_aloadn hX 2 rfl rfl dL_277 ?_
  refine gl_arg hX hL (j := 1) (by decide) (by omega) dL_278 dL_279 dL_280 dL_281 dL_282 ?_
  refine gl_x (v := v) (S2 := S2) (RD := RD) [.int (xs (i + 1))] hX hL.1 kwl_X11_trust (c_X11_trust R.rk h1) hQ (by decide) (by omega) (by omega) rfl rfl (Nat.le_of_ble_eq_true rfl) dL_283 ?_
  refine g_aloadn hX 1 rfl rfl dL_286 ?_
  refine gl_arg hX hL (j := 1) (by decide) (by omega) dL_287 dL_288 dL_289 dL_290 dL_291 ?_
  refine gl_m (M2 := M2) [.int (xs (i + 1))] hX hL.1 kwl_X12_trust (c_X12_trust h2) (by decide) (by omega) (by omega) rfl rfl (Nat.le_of_ble_eq_true rfl) dL_292 ?_
  exact g_icmp_eq hX 1398 (by decide) dL_295 (fun _ => g_widen (by omega) (by omega) (kk Q kv S2 M2 K RC RD R2 hQ (hK.go (fun _ h => h) e1 e2))) (fun c => absurd rfl c)
theorem law_ofRider (hX : Ok X code 4 RL) (hL : Lw X b L xs) (hi : i + 6 ≤ L) (hc : ce + 20 ≤ 600000) (hs : sl + 2000 ≤ 7302250) (R : Rel RD S M) (hQ : ∀ q ∈ roL Q RD, q ∈ RC) (hK : KO X.E kv K RC M) (kk : Go X b ad md i ce sl) : G X 4 ce sl 323 (lvL b (ad 10) (md 0) i) [] (LW X.E ad Q kv S K RC md M) := by
  obtain ⟨v, S2, M2, h1, h2, R2, e1, e2⟩ := two_ofRider R (xs (i + 1)) (xs (i + 2))
  refine g_aloadn hX 2 rfl rfl dL_323 ?_
  refine gl_arg hX hL (j := 1) (by decide) (by omega) dL_324 dL_325 dL_326 dL_327 dL_328 ?_
  refine gl_arg hX hL (j := 2) (by decide) (by omega) dL_329 dL_330 dL_331 dL_332 dL_333 ?_
  refine gl_x (v := v) (S2 := S2) (RD := RD) [.int (xs (i + 1)), .int (xs (i + 2))] hX hL.1 kwl_X11_ofRider (c_X11_ofRider R.rk h1) hQ (by decide) (by omega) (by omega) rfl rfl (Nat.le_of_ble_eq_true rfl) dL_334 ?_
  refine g_aloadn hX 1 rfl rfl dL_337 ?_
  refine gl_arg hX hL (j := 1) (by decide) (by omega) dL_338 dL_339 dL_340 dL_341 dL_342 ?_
  refine gl_arg hX hL (j := 2) (by decide) (by omega) dL_343 dL_344 dL_345 dL_346 dL_347 ?_
  refine gl_m (M2 := M2) [.int (xs (i + 1)), .int (xs (i + 2))] hX hL.1 kwl_X12_ofRider (c_X12_ofRider h2) (by decide) (by omega) (by omega) rfl rfl (Nat.le_of_ble_eq_true rfl) dL_348 ?_
  exact g_icmp_eq hX 1398 (by decide) dL_351 (fun _ => g_widen (by omega) (by omega) (kk Q kv S2 M2 K RC RD R2 hQ (hK.go (fun _ h => h) e1 e2))) (fun c => absurd rfl c)
theorem law_story (hX : Ok X code 4 RL) (hL : Lw X b L xs) (hi : i + 6 ≤ L) (hc : ce + 20 ≤ 600000) (hs : sl + 2000 ≤ 7302250) (R : Rel RD S M) (hQ : ∀ q ∈ roL Q RD, q ∈ RC) (hK : KO X.E kv K RC M) (kk : Go X b ad md i ce sl) : G X 4 ce sl 356 (lvL b (ad 10) (md 0) i) [] (LW X.E ad Q kv S K RC md M) := by
  obtain ⟨v, S2, M2, h1, h2, R2, e1, e2⟩ := two_story R (xs (i + 1)) (xs (i + 2))
  refine g_aloadn hX 2 rfl rfl dL_356 ?_
  refine gl_arg hX hL (j := 1) (by decide) (by omega) dL_357 dL_358 dL_359 dL_360 dL_361 ?_
  refine gl_arg hX hL (j := 2) (by decide) (by omega) dL_362 dL_363 dL_364 dL_365 dL_366 ?_
  refine gl_x (v := v) (S2 := S2) (RD := RD) [.int (xs (i + 1)), .int (xs (i + 2))] hX hL.1 kwl_X11_story (c_X11_story R.rk h1) hQ (by decide) (by omega) (by omega) rfl rfl (Nat.le_of_ble_eq_true rfl) dL_367 ?_
  refine g_aloadn hX 1 rfl rfl dL_370 ?_
  refine gl_arg hX hL (j := 1) (by decide) (by omega) dL_371 dL_372 dL_373 dL_374 dL_375 ?_
  refine gl_arg hX hL (j := 2) (by decide) (by omega) dL_376 dL_377 dL_378 dL_379 dL_380 ?_
  refine gl_m (M2 := M2) [.int (xs (i + 1)), .int (xs (i + 2))] hX hL.1 kwl_X12_story (c_X12_story h2) (by decide) (by omega) (by omega) rfl rfl (Nat.le_of_ble_eq_true rfl) dL_381 ?_
  exact g_icmp_eq hX 1398 (by decide) dL_384 (fun _ => g_widen (by omega) (by omega) (kk Q kv S2 M2 K RC RD R2 hQ (hK.go (fun _ h => h) e1 e2))) (fun c => absurd rfl c)
theorem law_say (hX : Ok X code 4 RL) (hL : Lw X b L xs) (hi : i + 6 ≤ L) (hc : ce + 20 ≤ 600000) (hs : sl + 2000 ≤ 7302250) (R : Rel RD S M) (hQ : ∀ q ∈ roL Q RD, q ∈ RC) (hK : KO X.E kv K RC M) (kk : Go X b ad md i ce sl) : G X 4 ce sl 389 (lvL b (ad 10) (md 0) i) [] (LW X.E ad Q kv S K RC md M) := by
  obtain ⟨v, S2, M2, h1, h2, R2, e1, e2⟩ := two_say R (xs (i + 1)) (xs (i + 2)) (xs (i + 3))
  refine g_aloadn hX 2 rfl rfl dL_389 ?_
  refine gl_arg hX hL (j := 1) (by decide) (by omega) dL_390 dL_391 dL_392 dL_393 dL_394 ?_
  refine gl_arg hX hL (j := 2) (by decide) (by omega) dL_395 dL_396 dL_397 dL_398 dL_399 ?_
  refine gl_arg hX hL (j := 3) (by decide) (by omega) dL_400 dL_401 dL_402 dL_403 dL_404 ?_
  refine gl_x (v := v) (S2 := S2) (RD := RD) [.int (xs (i + 1)), .int (xs (i + 2)), .int (xs (i + 3))] hX hL.1 kwl_X11_say (c_X11_say R.rk h1) hQ (by decide) (by omega) (by omega) rfl rfl (Nat.le_of_ble_eq_true rfl) dL_405 ?_
  refine g_aloadn hX 1 rfl rfl dL_408 ?_
  refine gl_arg hX hL (j := 1) (by decide) (by omega) dL_409 dL_410 dL_411 dL_412 dL_413 ?_
  refine gl_arg hX hL (j := 2) (by decide) (by omega) dL_414 dL_415 dL_416 dL_417 dL_418 ?_
  refine gl_arg hX hL (j := 3) (by decide) (by omega) dL_419 dL_420 dL_421 dL_422 dL_423 ?_
  refine gl_m (M2 := M2) [.int (xs (i + 1)), .int (xs (i + 2)), .int (xs (i + 3))] hX hL.1 kwl_X12_say (c_X12_say h2) (by decide) (by omega) (by omega) rfl rfl (Nat.le_of_ble_eq_true rfl) dL_424 ?_
  exact g_icmp_eq hX 1398 (by decide) dL_427 (fun _ => g_widen (by omega) (by omega) (kk Q kv S2 M2 K RC RD R2 hQ (hK.go (fun _ h => h) e1 e2))) (fun c => absurd rfl c)
theorem law_as (hX : Ok X code 4 RL) (hL : Lw X b L xs) (hi : i + 6 ≤ L) (hc : ce + 20 ≤ 600000) (hs : sl + 2000 ≤ 7302250) (R : Rel RD S M) (hQ : ∀ q ∈ roL Q RD, q ∈ RC) (hK : KO X.E kv K RC M) (kk : Go X b ad md i ce sl) : G X 4 ce sl 465 (lvL b (ad 10) (md 0) i) [] (LW X.E ad Q kv S K RC md M) := by
  obtain ⟨v, S2, M2, h1, h2, R2, e1, e2⟩ := two_as R (xs (i + 1)) (xs (i + 2))
  refine g_aloadn hX 2 rfl rfl dL_465 ?_
  refine gl_arg hX hL (j := 1) (by decide) (by omega) dL_466 dL_467 dL_468 dL_469 dL_470 ?_
  refine gl_arg hX hL (j := 2) (by decide) (by omega) dL_471 dL_472 dL_473 dL_474 dL_475 ?_
  refine gl_x (v := v) (S2 := S2) (RD := RD) [.int (xs (i + 1)), .int (xs (i + 2))] hX hL.1 kwl_X11_as (c_X11_as R.rk h1) hQ (by decide) (by omega) (by omega) rfl rfl (Nat.le_of_ble_eq_true rfl) dL_476 ?_
  refine g_aloadn hX 1 rfl rfl dL_479 ?_
  refine gl_arg hX hL (j := 1) (by decide) (by omega) dL_480 dL_481 dL_482 dL_483 dL_484 ?_
  refine gl_arg hX hL (j := 2) (by decide) (by omega) dL_485 dL_486 dL_487 dL_488 dL_489 ?_
  refine gl_m (M2 := M2) [.int (xs (i + 1)), .int (xs (i + 2))] hX hL.1 kwl_X12_as (c_X12_as h2) (by decide) (by omega) (by omega) rfl rfl (Nat.le_of_ble_eq_true rfl) dL_490 ?_
  exact g_icmp_eq hX 1398 (by decide) dL_493 (fun _ => g_widen (by omega) (by omega) (kk Q kv S2 M2 K RC RD R2 hQ (hK.go (fun _ h => h) e1 e2))) (fun c => absurd rfl c)
theorem law_feed (hX : Ok X code 4 RL) (hL : Lw X b L xs) (hi : i + 6 ≤ L) (hc : ce + 20 ≤ 600000) (hs : sl + 2000 ≤ 7302250) (R : Rel RD S M) (hQ : ∀ q ∈ roL Q RD, q ∈ RC) (hK : KO X.E kv K RC M) (kk : Go X b ad md i ce sl) : G X 4 ce sl 498 (lvL b (ad 10) (md 0) i) [] (LW X.E ad Q kv S K RC md M) := by
  obtain ⟨v, S2, M2, h1, h2, R2, e1, e2⟩ := two_feed R ((xs (i + 1)).toInt64 <<< (Int32.toInt64 32 &&& 63) ||| ((xs (i + 2)).toInt64 &&& 4294967295)) (xs (i + 3))
  refine g_aloadn hX 2 rfl rfl dL_498 ?_
  refine gl_arg hX hL (j := 1) (by decide) (by omega) dL_499 dL_500 dL_501 dL_502 dL_503 ?_
  refine g_i2l hX dL_504 ?_
  refine g_bipush hX (v := 32) (by decide) dL_505 ?_
  refine g_lshl hX dL_507 ?_
  refine gl_arg hX hL (j := 2) (by decide) (by omega) dL_508 dL_509 dL_510 dL_511 dL_512 ?_
  refine g_i2l hX dL_513 ?_
  refine g_ldc2 hX wd_6_171 dL_514 ?_
  refine g_land hX dL_517 ?_
  refine g_lor hX dL_518 ?_
  refine gl_arg hX hL (j := 3) (by decide) (by omega) dL_519 dL_520 dL_521 dL_522 dL_523 ?_
  refine gl_x (v := v) (S2 := S2) (RD := RD) [.long ((xs (i + 1)).toInt64 <<< (Int32.toInt64 32 &&& 63) ||| ((xs (i + 2)).toInt64 &&& 4294967295)), .int (xs (i + 3))] hX hL.1 kwl_X11_feed (c_X11_feed R.rk h1) hQ (by decide) (by omega) (by omega) rfl rfl (Nat.le_of_ble_eq_true rfl) dL_524 ?_
  refine g_aloadn hX 1 rfl rfl dL_527 ?_
  refine gl_arg hX hL (j := 1) (by decide) (by omega) dL_528 dL_529 dL_530 dL_531 dL_532 ?_
  refine g_i2l hX dL_533 ?_
  refine g_bipush hX (v := 32) (by decide) dL_534 ?_
  refine g_lshl hX dL_536 ?_
  refine gl_arg hX hL (j := 2) (by decide) (by omega) dL_537 dL_538 dL_539 dL_540 dL_541 ?_
  refine g_i2l hX dL_542 ?_
  refine g_ldc2 hX wd_6_171 dL_543 ?_
  refine g_land hX dL_546 ?_
  refine g_lor hX dL_547 ?_
  refine gl_arg hX hL (j := 3) (by decide) (by omega) dL_548 dL_549 dL_550 dL_551 dL_552 ?_
  refine gl_m (M2 := M2) [.long ((xs (i + 1)).toInt64 <<< (Int32.toInt64 32 &&& 63) ||| ((xs (i + 2)).toInt64 &&& 4294967295)), .int (xs (i + 3))] hX hL.1 kwl_X12_feed (c_X12_feed h2) (by decide) (by omega) (by omega) rfl rfl (Nat.le_of_ble_eq_true rfl) dL_553 ?_
  exact g_icmp_eq hX 1398 (by decide) dL_556 (fun _ => g_widen (by omega) (by omega) (kk Q kv S2 M2 K RC RD R2 hQ (hK.go (fun _ h => h) e1 e2))) (fun c => absurd rfl c)
theorem law_text (hX : Ok X code 4 RL) (hL : Lw X b L xs) (hi : i + 6 ≤ L) (hc : ce + 20 ≤ 600000) (hs : sl + 2000 ≤ 7302250) (R : Rel RD S M) (hQ : ∀ q ∈ roL Q RD, q ∈ RC) (hK : KO X.E kv K RC M) (kk : Go X b ad md i ce sl) : G X 4 ce sl 561 (lvL b (ad 10) (md 0) i) [] (LW X.E ad Q kv S K RC md M) := by
  obtain ⟨v, S2, M2, h1, h2, R2, e1, e2⟩ := two_text R (xs (i + 1))
  refine g_aloadn hX 2 rfl rfl dL_561 ?_
  refine gl_arg hX hL (j := 1) (by decide) (by omega) dL_562 dL_563 dL_564 dL_565 dL_566 ?_
  refine gl_x (v := v) (S2 := S2) (RD := RD) [.int (xs (i + 1))] hX hL.1 kwl_X11_text (c_X11_text R.rk h1) hQ (by decide) (by omega) (by omega) rfl rfl (Nat.le_of_ble_eq_true rfl) dL_567 ?_
  refine g_aloadn hX 1 rfl rfl dL_570 ?_
  refine gl_arg hX hL (j := 1) (by decide) (by omega) dL_571 dL_572 dL_573 dL_574 dL_575 ?_
  refine gl_m (M2 := M2) [.int (xs (i + 1))] hX hL.1 kwl_X12_text (c_X12_text h2) (by decide) (by omega) (by omega) rfl rfl (Nat.le_of_ble_eq_true rfl) dL_576 ?_
  exact g_icmp_eq hX 1398 (by decide) dL_579 (fun _ => g_widen (by omega) (by omega) (kk Q kv S2 M2 K RC RD R2 hQ (hK.go (fun _ h => h) e1 e2))) (fun c => absurd rfl c)
theorem law_law (hX : Ok X code 4 RL) (hL : Lw X b L xs) (hi : i + 6 ≤ L) (hc : ce + 20 ≤ 600000) (hs : sl + 2000 ≤ 7302250) (R : Rel RD S M) (hQ : ∀ q ∈ roL Q RD, q ∈ RC) (hK : KO X.E kv K RC M) (kk : Go X b ad md i ce sl) : G X 4 ce sl 584 (lvL b (ad 10) (md 0) i) [] (LW X.E ad Q kv S K RC md M) := by
  obtain ⟨v, S2, M2, h1, h2, R2, e1, e2⟩ := two_law R (xs (i + 1)) (xs (i + 2)) (xs (i + 3)) (xs (i + 4))
  refine g_aloadn hX 2 rfl rfl dL_584 ?_
  refine gl_arg hX hL (j := 1) (by decide) (by omega) dL_585 dL_586 dL_587 dL_588 dL_589 ?_
  refine gl_arg hX hL (j := 2) (by decide) (by omega) dL_590 dL_591 dL_592 dL_593 dL_594 ?_
  refine gl_arg hX hL (j := 3) (by decide) (by omega) dL_595 dL_596 dL_597 dL_598 dL_599 ?_
  refine gl_arg hX hL (j := 4) (by decide) (by omega) dL_600 dL_601 dL_602 dL_603 dL_604 ?_
  refine gl_x (v := v) (S2 := S2) (RD := RD) [.int (xs (i + 1)), .int (xs (i + 2)), .int (xs (i + 3)), .int (xs (i + 4))] hX hL.1 kwl_X11_law (c_X11_law R.rk h1) hQ (by decide) (by omega) (by omega) rfl rfl (Nat.le_of_ble_eq_true rfl) dL_605 ?_
  refine g_aloadn hX 1 rfl rfl dL_608 ?_
  refine gl_arg hX hL (j := 1) (by decide) (by omega) dL_609 dL_610 dL_611 dL_612 dL_613 ?_
  refine gl_arg hX hL (j := 2) (by decide) (by omega) dL_614 dL_615 dL_616 dL_617 dL_618 ?_
  refine gl_arg hX hL (j := 3) (by decide) (by omega) dL_619 dL_620 dL_621 dL_622 dL_623 ?_
  refine gl_arg hX hL (j := 4) (by decide) (by omega) dL_624 dL_625 dL_626 dL_627 dL_628 ?_
  refine gl_m (M2 := M2) [.int (xs (i + 1)), .int (xs (i + 2)), .int (xs (i + 3)), .int (xs (i + 4))] hX hL.1 kwl_X12_law (c_X12_law h2) (by decide) (by omega) (by omega) rfl rfl (Nat.le_of_ble_eq_true rfl) dL_629 ?_
  exact g_icmp_eq hX 1398 (by decide) dL_632 (fun _ => g_widen (by omega) (by omega) (kk Q kv S2 M2 K RC RD R2 hQ (hK.go (fun _ h => h) e1 e2))) (fun c => absurd rfl c)
theorem law_ride (hX : Ok X code 4 RL) (hL : Lw X b L xs) (hi : i + 6 ≤ L) (hc : ce + 20 ≤ 600000) (hs : sl + 2000 ≤ 7302250) (R : Rel RD S M) (hQ : ∀ q ∈ roL Q RD, q ∈ RC) (hK : KO X.E kv K RC M) (kk : Go X b ad md i ce sl) : G X 4 ce sl 637 (lvL b (ad 10) (md 0) i) [] (LW X.E ad Q kv S K RC md M) := by
  obtain ⟨v, S2, M2, h1, h2, R2, e1, e2⟩ := two_ride R (xs (i + 1))
  refine g_aloadn hX 2 rfl rfl dL_637 ?_
  refine gl_arg hX hL (j := 1) (by decide) (by omega) dL_638 dL_639 dL_640 dL_641 dL_642 ?_
  refine gl_x (v := v) (S2 := S2) (RD := RD) [.int (xs (i + 1))] hX hL.1 kwl_X11_ride (c_X11_ride R.rk h1) hQ (by decide) (by omega) (by omega) rfl rfl (Nat.le_of_ble_eq_true rfl) dL_643 ?_
  refine g_aloadn hX 1 rfl rfl dL_646 ?_
  refine gl_arg hX hL (j := 1) (by decide) (by omega) dL_647 dL_648 dL_649 dL_650 dL_651 ?_
  refine gl_m (M2 := M2) [.int (xs (i + 1))] hX hL.1 kwl_X12_ride (c_X12_ride h2) (by decide) (by omega) (by omega) rfl rfl (Nat.le_of_ble_eq_true rfl) dL_652 ?_
  exact g_icmp_eq hX 1398 (by decide) dL_655 (fun _ => g_widen (by omega) (by omega) (kk Q kv S2 M2 K RC RD R2 hQ (hK.go (fun _ h => h) e1 e2))) (fun c => absurd rfl c)
theorem law_days (hX : Ok X code 4 RL) (hL : Lw X b L xs) (hi : i + 6 ≤ L) (hc : ce + 20 ≤ 600000) (hs : sl + 2000 ≤ 7302250) (R : Rel RD S M) (hQ : ∀ q ∈ roL Q RD, q ∈ RC) (hK : KO X.E kv K RC M) (kk : Go X b ad md i ce sl) : G X 4 ce sl 660 (lvL b (ad 10) (md 0) i) [] (LW X.E ad Q kv S K RC md M) := by
  obtain ⟨v, S2, M2, h1, h2, R2, e1, e2⟩ := two_days R (xs (i + 1))
  refine g_aloadn hX 2 rfl rfl dL_660 ?_
  refine gl_arg hX hL (j := 1) (by decide) (by omega) dL_661 dL_662 dL_663 dL_664 dL_665 ?_
  refine gl_x (v := v) (S2 := S2) (RD := RD) [.int (xs (i + 1))] hX hL.1 kwl_X11_days (c_X11_days R.rk h1) hQ (by decide) (by omega) (by omega) rfl rfl (Nat.le_of_ble_eq_true rfl) dL_666 ?_
  refine g_aloadn hX 1 rfl rfl dL_669 ?_
  refine gl_arg hX hL (j := 1) (by decide) (by omega) dL_670 dL_671 dL_672 dL_673 dL_674 ?_
  refine gl_m (M2 := M2) [.int (xs (i + 1))] hX hL.1 kwl_X12_days (c_X12_days h2) (by decide) (by omega) (by omega) rfl rfl (Nat.le_of_ble_eq_true rfl) dL_675 ?_
  exact g_icmp_eq hX 1398 (by decide) dL_678 (fun _ => g_widen (by omega) (by omega) (kk Q kv S2 M2 K RC RD R2 hQ (hK.go (fun _ h => h) e1 e2))) (fun c => absurd rfl c)
theorem law_rumours (hX : Ok X code 4 RL) (hL : Lw X b L xs) (hi : i + 6 ≤ L) (hc : ce + 20 ≤ 600000) (hs : sl + 2000 ≤ 7302250) (R : Rel RD S M) (hQ : ∀ q ∈ roL Q RD, q ∈ RC) (hK : KO X.E kv K RC M) (kk : Go X b ad md i ce sl) : G X 4 ce sl 683 (lvL b (ad 10) (md 0) i) [] (LW X.E ad Q kv S K RC md M) := by
  obtain ⟨v, S2, M2, h1, h2, R2, e1, e2⟩ := two_rumours R (xs (i + 1))
  refine g_aloadn hX 2 rfl rfl dL_683 ?_
  refine gl_arg hX hL (j := 1) (by decide) (by omega) dL_684 dL_685 dL_686 dL_687 dL_688 ?_
  refine gl_x (v := v) (S2 := S2) (RD := RD) [.int (xs (i + 1))] hX hL.1 kwl_X11_rumours (c_X11_rumours R.rk h1) hQ (by decide) (by omega) (by omega) rfl rfl (Nat.le_of_ble_eq_true rfl) dL_689 ?_
  refine g_aloadn hX 1 rfl rfl dL_692 ?_
  refine gl_arg hX hL (j := 1) (by decide) (by omega) dL_693 dL_694 dL_695 dL_696 dL_697 ?_
  refine gl_m (M2 := M2) [.int (xs (i + 1))] hX hL.1 kwl_X12_rumours (c_X12_rumours h2) (by decide) (by omega) (by omega) rfl rfl (Nat.le_of_ble_eq_true rfl) dL_698 ?_
  exact g_icmp_eq hX 1398 (by decide) dL_701 (fun _ => g_widen (by omega) (by omega) (kk Q kv S2 M2 K RC RD R2 hQ (hK.go (fun _ h => h) e1 e2))) (fun c => absurd rfl c)
theorem law_together (hX : Ok X code 4 RL) (hL : Lw X b L xs) (hi : i + 6 ≤ L) (hc : ce + 20 ≤ 600000) (hs : sl + 2000 ≤ 7302250) (R : Rel RD S M) (hQ : ∀ q ∈ roL Q RD, q ∈ RC) (hK : KO X.E kv K RC M) (kk : Go X b ad md i ce sl) : G X 4 ce sl 706 (lvL b (ad 10) (md 0) i) [] (LW X.E ad Q kv S K RC md M) := by
  obtain ⟨v, S2, M2, h1, h2, R2, e1, e2⟩ := two_together R (xs (i + 1))
  refine g_aloadn hX 2 rfl rfl dL_706 ?_
  refine gl_arg hX hL (j := 1) (by decide) (by omega) dL_707 dL_708 dL_709 dL_710 dL_711 ?_
  refine gl_x (v := v) (S2 := S2) (RD := RD) [.int (xs (i + 1))] hX hL.1 kwl_X11_together (c_X11_together R.rk h1) hQ (by decide) (by omega) (by omega) rfl rfl (Nat.le_of_ble_eq_true rfl) dL_712 ?_
  refine g_aloadn hX 1 rfl rfl dL_715 ?_
  refine gl_arg hX hL (j := 1) (by decide) (by omega) dL_716 dL_717 dL_718 dL_719 dL_720 ?_
  refine gl_m (M2 := M2) [.int (xs (i + 1))] hX hL.1 kwl_X12_together (c_X12_together h2) (by decide) (by omega) (by omega) rfl rfl (Nat.le_of_ble_eq_true rfl) dL_721 ?_
  exact g_icmp_eq hX 1398 (by decide) dL_724 (fun _ => g_widen (by omega) (by omega) (kk Q kv S2 M2 K RC RD R2 hQ (hK.go (fun _ h => h) e1 e2))) (fun c => absurd rfl c)
theorem law_bestWith (hX : Ok X code 4 RL) (hL : Lw X b L xs) (hi : i + 6 ≤ L) (hc : ce + 20 ≤ 600000) (hs : sl + 2000 ≤ 7302250) (R : Rel RD S M) (hQ : ∀ q ∈ roL Q RD, q ∈ RC) (hK : KO X.E kv K RC M) (kk : Go X b ad md i ce sl) : G X 4 ce sl 729 (lvL b (ad 10) (md 0) i) [] (LW X.E ad Q kv S K RC md M) := by
  obtain ⟨v, S2, M2, h1, h2, R2, e1, e2⟩ := two_bestWith R (xs (i + 1)) (xs (i + 2))
  refine g_aloadn hX 2 rfl rfl dL_729 ?_
  refine gl_arg hX hL (j := 1) (by decide) (by omega) dL_730 dL_731 dL_732 dL_733 dL_734 ?_
  refine gl_arg hX hL (j := 2) (by decide) (by omega) dL_735 dL_736 dL_737 dL_738 dL_739 ?_
  refine gl_x (v := v) (S2 := S2) (RD := RD) [.int (xs (i + 1)), .int (xs (i + 2))] hX hL.1 kwl_X11_bestWith (c_X11_bestWith R.rk h1) hQ (by decide) (by omega) (by omega) rfl rfl (Nat.le_of_ble_eq_true rfl) dL_740 ?_
  refine g_aloadn hX 1 rfl rfl dL_743 ?_
  refine gl_arg hX hL (j := 1) (by decide) (by omega) dL_744 dL_745 dL_746 dL_747 dL_748 ?_
  refine gl_arg hX hL (j := 2) (by decide) (by omega) dL_749 dL_750 dL_751 dL_752 dL_753 ?_
  refine gl_m (M2 := M2) [.int (xs (i + 1)), .int (xs (i + 2))] hX hL.1 kwl_X12_bestWith (c_X12_bestWith h2) (by decide) (by omega) (by omega) rfl rfl (Nat.le_of_ble_eq_true rfl) dL_754 ?_
  exact g_icmp_eq hX 1398 (by decide) dL_757 (fun _ => g_widen (by omega) (by omega) (kk Q kv S2 M2 K RC RD R2 hQ (hK.go (fun _ h => h) e1 e2))) (fun c => absurd rfl c)
theorem law_shortest (hX : Ok X code 4 RL) (hL : Lw X b L xs) (hi : i + 6 ≤ L) (hc : ce + 20 ≤ 600000) (hs : sl + 2000 ≤ 7302250) (R : Rel RD S M) (hQ : ∀ q ∈ roL Q RD, q ∈ RC) (hK : KO X.E kv K RC M) (kk : Go X b ad md i ce sl) : G X 4 ce sl 762 (lvL b (ad 10) (md 0) i) [] (LW X.E ad Q kv S K RC md M) := by
  obtain ⟨v, S2, M2, h1, h2, R2, e1, e2⟩ := two_shortest R (xs (i + 1)) (xs (i + 2))
  refine g_aloadn hX 2 rfl rfl dL_762 ?_
  refine gl_arg hX hL (j := 1) (by decide) (by omega) dL_763 dL_764 dL_765 dL_766 dL_767 ?_
  refine gl_arg hX hL (j := 2) (by decide) (by omega) dL_768 dL_769 dL_770 dL_771 dL_772 ?_
  refine gl_x (v := v) (S2 := S2) (RD := RD) [.int (xs (i + 1)), .int (xs (i + 2))] hX hL.1 kwl_X11_shortest (c_X11_shortest R.rk h1) hQ (by decide) (by omega) (by omega) rfl rfl (Nat.le_of_ble_eq_true rfl) dL_773 ?_
  refine g_aloadn hX 1 rfl rfl dL_776 ?_
  refine gl_arg hX hL (j := 1) (by decide) (by omega) dL_777 dL_778 dL_779 dL_780 dL_781 ?_
  refine gl_arg hX hL (j := 2) (by decide) (by omega) dL_782 dL_783 dL_784 dL_785 dL_786 ?_
  refine gl_m (M2 := M2) [.int (xs (i + 1)), .int (xs (i + 2))] hX hL.1 kwl_X12_shortest (c_X12_shortest h2) (by decide) (by omega) (by omega) rfl rfl (Nat.le_of_ble_eq_true rfl) dL_787 ?_
  exact g_icmp_eq hX 1398 (by decide) dL_790 (fun _ => g_widen (by omega) (by omega) (kk Q kv S2 M2 K RC RD R2 hQ (hK.go (fun _ h => h) e1 e2))) (fun c => absurd rfl c)
theorem law_truest (hX : Ok X code 4 RL) (hL : Lw X b L xs) (hi : i + 6 ≤ L) (hc : ce + 20 ≤ 600000) (hs : sl + 2000 ≤ 7302250) (R : Rel RD S M) (hQ : ∀ q ∈ roL Q RD, q ∈ RC) (hK : KO X.E kv K RC M) (kk : Go X b ad md i ce sl) : G X 4 ce sl 795 (lvL b (ad 10) (md 0) i) [] (LW X.E ad Q kv S K RC md M) := by
  obtain ⟨v, S2, M2, h1, h2, R2, e1, e2⟩ := two_truest R (xs (i + 1)) (xs (i + 2))
  refine g_aloadn hX 2 rfl rfl dL_795 ?_
  refine gl_arg hX hL (j := 1) (by decide) (by omega) dL_796 dL_797 dL_798 dL_799 dL_800 ?_
  refine gl_arg hX hL (j := 2) (by decide) (by omega) dL_801 dL_802 dL_803 dL_804 dL_805 ?_
  refine gl_x (v := v) (S2 := S2) (RD := RD) [.int (xs (i + 1)), .int (xs (i + 2))] hX hL.1 kwl_X11_truest (c_X11_truest R.rk h1) hQ (by decide) (by omega) (by omega) rfl rfl (Nat.le_of_ble_eq_true rfl) dL_806 ?_
  refine g_aloadn hX 1 rfl rfl dL_809 ?_
  refine gl_arg hX hL (j := 1) (by decide) (by omega) dL_810 dL_811 dL_812 dL_813 dL_814 ?_
  refine gl_arg hX hL (j := 2) (by decide) (by omega) dL_815 dL_816 dL_817 dL_818 dL_819 ?_
  refine gl_m (M2 := M2) [.int (xs (i + 1)), .int (xs (i + 2))] hX hL.1 kwl_X12_truest (c_X12_truest h2) (by decide) (by omega) (by omega) rfl rfl (Nat.le_of_ble_eq_true rfl) dL_820 ?_
  exact g_icmp_eq hX 1398 (by decide) dL_823 (fun _ => g_widen (by omega) (by omega) (kk Q kv S2 M2 K RC RD R2 hQ (hK.go (fun _ h => h) e1 e2))) (fun c => absurd rfl c)
end LAWC
