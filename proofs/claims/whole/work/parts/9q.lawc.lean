-- THE LAW: its plain cases
section LAWC
variable {G : gE} {w : aW} {n i bc bs : Nat} {post : Option Value → aW → Nat → Prop}
theorem law_row (hLI : LI w n) (hi : i + 6 ≤ gL G) (hL : gL G ≤ 384) (hk9 : ∀ w', LN w' n → Go G 100 299 1744 [some (.ref (gB + 201)), some (.ref 0), some (.ref 44), some (.int (nI i))] [] w' n bc bs post) : Go G 100 299 276 [some (.ref (gB + 201)), some (.ref 0), some (.ref 44), some (.int (nI i))] [] w n bc bs post := by
  obtain ⟨Q, M, K, hC, hX, hR, hQ⟩ := hLI
  obtain ⟨P, B, hCn⟩ := hR.cnt
  obtain ⟨hP7, hB7, hP, hB, hPM, hBM, -⟩ := id hCn
  have hq := hR.2.2.2.2.2.1
  have g0 := hC.ob
  have gn := hC.lt
  have gm := hX.lt44
  refine r_aload_n (i := 1) i_L_law_276 rfl rfl ?_
  refine r_aload_n (i := 0) i_L_law_277 rfl rfl ?_
  refine r_iload_n (i := 3) i_L_law_278 rfl rfl ?_
  refine r_iconst (v := (1 : Int32)) i_L_law_279 rfl ?_
  refine r_iadd i_L_law_280 ?_
  refine r_scriptAt i_L_law_281 (sc_in (k := 1) hi hL (by decide)) ?_
  refine r_aload_n (i := 0) i_L_law_282 rfl rfl ?_
  refine r_iload_n (i := 3) i_L_law_283 rfl rfl ?_
  refine r_iconst (v := (2 : Int32)) i_L_law_284 rfl ?_
  refine r_iadd i_L_law_285 ?_
  refine r_scriptAt i_L_law_286 (sc_in (k := 2) hi hL (by decide)) ?_
  refine r_aload_n (i := 0) i_L_law_287 rfl rfl ?_
  refine r_iload_n (i := 3) i_L_law_288 rfl rfl ?_
  refine r_iconst (v := (3 : Int32)) i_L_law_289 rfl ?_
  refine r_iadd i_L_law_290 ?_
  refine r_scriptAt i_L_law_291 (sc_in (k := 3) hi hL (by decide)) ?_
  refine m_virtual o_L_law k_N_row v_N_row x_L_13 i_L_law_292 o_N_row (c_N_row hC) rfl (rcv_ob g0 rfl (by omega)) rfl (by decide) (Nat.le_of_ble_eq_true rfl) (Nat.zero_le _) (Nat.zero_le _) (fun r1 w1 n1 hp1 => ?_)
  obtain ⟨rfl, ⟨hC1, hF1⟩, rfl⟩ := hp1
  have hm1 := (hX.cf hF1).1
  refine r_aload_n (i := 2) i_L_law_295 rfl rfl ?_
  refine r_aload_n (i := 0) i_L_law_296 rfl rfl ?_
  refine r_iload_n (i := 3) i_L_law_297 rfl rfl ?_
  refine r_iconst (v := (1 : Int32)) i_L_law_298 rfl ?_
  refine r_iadd i_L_law_299 ?_
  refine r_scriptAt i_L_law_300 (sc_in (k := 1) hi hL (by decide)) ?_
  refine r_aload_n (i := 0) i_L_law_301 rfl rfl ?_
  refine r_iload_n (i := 3) i_L_law_302 rfl rfl ?_
  refine r_iconst (v := (2 : Int32)) i_L_law_303 rfl ?_
  refine r_iadd i_L_law_304 ?_
  refine r_scriptAt i_L_law_305 (sc_in (k := 2) hi hL (by decide)) ?_
  refine r_aload_n (i := 0) i_L_law_306 rfl rfl ?_
  refine r_iload_n (i := 3) i_L_law_307 rfl rfl ?_
  refine r_iconst (v := (3 : Int32)) i_L_law_308 rfl ?_
  refine r_iadd i_L_law_309 ?_
  refine r_scriptAt i_L_law_310 (sc_in (k := 3) hi hL (by decide)) ?_
  refine m_virtual o_L_law k_M_row v_M_row x_L_17 i_L_law_311 o_M_row (c_M_row hm1) rfl (rcv_ob hm1.1 rfl (by omega)) rfl (by decide) (Nat.le_of_ble_eq_true rfl) (Nat.zero_le _) (Nat.zero_le _) (fun r2 w2 n2 hp2 => ?_)
  obtain ⟨rfl, ⟨hM2, hF2⟩, rfl⟩ := hp2
  have hE := eqv_row (s := gxs G (nI i + 1).toNatClampNeg) (c := gxs G (nI i + 2).toNatClampNeg) (m := gxs G (nI i + 3).toNatClampNeg) hR
  refine r_icmp_eq 1744 i_L_law_314 (by decide) (fun h314 => ?_) (fun h314 => (absurd hE.1 h314))
  exact hk9 _ (law_next hX hC1 hF1 hM2 hF2 hE)
theorem law_set (hLI : LI w n) (hi : i + 6 ≤ gL G) (hL : gL G ≤ 384) (hk9 : ∀ w', LN w' n → Go G 100 299 1744 [some (.ref (gB + 201)), some (.ref 0), some (.ref 44), some (.int (nI i))] [] w' n bc bs post) : Go G 100 299 319 [some (.ref (gB + 201)), some (.ref 0), some (.ref 44), some (.int (nI i))] [] w n bc bs post := by
  obtain ⟨Q, M, K, hC, hX, hR, hQ⟩ := hLI
  obtain ⟨P, B, hCn⟩ := hR.cnt
  obtain ⟨hP7, hB7, hP, hB, hPM, hBM, -⟩ := id hCn
  have hq := hR.2.2.2.2.2.1
  have g0 := hC.ob
  have gn := hC.lt
  have gm := hX.lt44
  refine r_aload_n (i := 1) i_L_law_319 rfl rfl ?_
  refine r_aload_n (i := 0) i_L_law_320 rfl rfl ?_
  refine r_iload_n (i := 3) i_L_law_321 rfl rfl ?_
  refine r_iconst (v := (1 : Int32)) i_L_law_322 rfl ?_
  refine r_iadd i_L_law_323 ?_
  refine r_scriptAt i_L_law_324 (sc_in (k := 1) hi hL (by decide)) ?_
  refine r_aload_n (i := 0) i_L_law_325 rfl rfl ?_
  refine r_iload_n (i := 3) i_L_law_326 rfl rfl ?_
  refine r_iconst (v := (2 : Int32)) i_L_law_327 rfl ?_
  refine r_iadd i_L_law_328 ?_
  refine r_scriptAt i_L_law_329 (sc_in (k := 2) hi hL (by decide)) ?_
  refine r_aload_n (i := 0) i_L_law_330 rfl rfl ?_
  refine r_iload_n (i := 3) i_L_law_331 rfl rfl ?_
  refine r_iconst (v := (3 : Int32)) i_L_law_332 rfl ?_
  refine r_iadd i_L_law_333 ?_
  refine r_scriptAt i_L_law_334 (sc_in (k := 3) hi hL (by decide)) ?_
  refine r_i2l i_L_law_335 ?_
  refine r_bipush (v := (32 : Int32)) i_L_law_336 (by decide) ?_
  refine r_lshl i_L_law_338 ?_
  refine r_aload_n (i := 0) i_L_law_339 rfl rfl ?_
  refine r_iload_n (i := 3) i_L_law_340 rfl rfl ?_
  refine r_iconst (v := (4 : Int32)) i_L_law_341 rfl ?_
  refine r_iadd i_L_law_342 ?_
  refine r_scriptAt i_L_law_343 (sc_in (k := 4) hi hL (by decide)) ?_
  refine r_i2l i_L_law_344 ?_
  refine r_ldc2 o_L_law i_L_law_345 x_L_18 ?_
  refine r_land i_L_law_348 ?_
  refine r_lor i_L_law_349 ?_
  refine m_virtual o_L_law k_N_set v_N_set x_L_20 i_L_law_350 o_N_set (c_N_set hC hq) rfl (rcv_ob g0 rfl (by omega)) rfl (by decide) (Nat.le_of_ble_eq_true rfl) (Nat.zero_le _) (Nat.zero_le _) (fun r1 w1 n1 hp1 => ?_)
  obtain ⟨rfl, ⟨hC1, hF1⟩, rfl⟩ := hp1
  have hm1 := (hX.cf hF1).1
  refine r_aload_n (i := 2) i_L_law_353 rfl rfl ?_
  refine r_aload_n (i := 0) i_L_law_354 rfl rfl ?_
  refine r_iload_n (i := 3) i_L_law_355 rfl rfl ?_
  refine r_iconst (v := (1 : Int32)) i_L_law_356 rfl ?_
  refine r_iadd i_L_law_357 ?_
  refine r_scriptAt i_L_law_358 (sc_in (k := 1) hi hL (by decide)) ?_
  refine r_aload_n (i := 0) i_L_law_359 rfl rfl ?_
  refine r_iload_n (i := 3) i_L_law_360 rfl rfl ?_
  refine r_iconst (v := (2 : Int32)) i_L_law_361 rfl ?_
  refine r_iadd i_L_law_362 ?_
  refine r_scriptAt i_L_law_363 (sc_in (k := 2) hi hL (by decide)) ?_
  refine r_aload_n (i := 0) i_L_law_364 rfl rfl ?_
  refine r_iload_n (i := 3) i_L_law_365 rfl rfl ?_
  refine r_iconst (v := (3 : Int32)) i_L_law_366 rfl ?_
  refine r_iadd i_L_law_367 ?_
  refine r_scriptAt i_L_law_368 (sc_in (k := 3) hi hL (by decide)) ?_
  refine r_i2l i_L_law_369 ?_
  refine r_bipush (v := (32 : Int32)) i_L_law_370 (by decide) ?_
  refine r_lshl i_L_law_372 ?_
  refine r_aload_n (i := 0) i_L_law_373 rfl rfl ?_
  refine r_iload_n (i := 3) i_L_law_374 rfl rfl ?_
  refine r_iconst (v := (4 : Int32)) i_L_law_375 rfl ?_
  refine r_iadd i_L_law_376 ?_
  refine r_scriptAt i_L_law_377 (sc_in (k := 4) hi hL (by decide)) ?_
  refine r_i2l i_L_law_378 ?_
  refine r_ldc2 o_L_law i_L_law_379 x_L_18 ?_
  refine r_land i_L_law_382 ?_
  refine r_lor i_L_law_383 ?_
  refine m_virtual o_L_law k_M_set v_M_set x_L_24 i_L_law_384 o_M_set (c_M_set hm1 hR.mh) rfl (rcv_ob hm1.1 rfl (by omega)) rfl (by decide) (Nat.le_of_ble_eq_true rfl) (Nat.zero_le _) (Nat.zero_le _) (fun r2 w2 n2 hp2 => ?_)
  obtain ⟨rfl, ⟨hM2, hF2⟩, rfl⟩ := hp2
  have hE := fun v => eqv_set (s := gxs G (nI i + 1).toNatClampNeg) (i := gxs G (nI i + 2).toNatClampNeg) (v := v) hR
  refine r_icmp_eq 1744 i_L_law_387 (by decide) (fun h387 => ?_) (fun h387 => (absurd (hE _).1 h387))
  exact hk9 _ (law_next hX hC1 hF1 hM2 hF2 (hE _))
theorem law_copy (hLI : LI w n) (hi : i + 6 ≤ gL G) (hL : gL G ≤ 384) (hk9 : ∀ w', LN w' n → Go G 100 299 1744 [some (.ref (gB + 201)), some (.ref 0), some (.ref 44), some (.int (nI i))] [] w' n bc bs post) : Go G 100 299 392 [some (.ref (gB + 201)), some (.ref 0), some (.ref 44), some (.int (nI i))] [] w n bc bs post := by
  obtain ⟨Q, M, K, hC, hX, hR, hQ⟩ := hLI
  obtain ⟨P, B, hCn⟩ := hR.cnt
  obtain ⟨hP7, hB7, hP, hB, hPM, hBM, -⟩ := id hCn
  have hq := hR.2.2.2.2.2.1
  have g0 := hC.ob
  have gn := hC.lt
  have gm := hX.lt44
  refine r_aload_n (i := 1) i_L_law_392 rfl rfl ?_
  refine r_aload_n (i := 0) i_L_law_393 rfl rfl ?_
  refine r_iload_n (i := 3) i_L_law_394 rfl rfl ?_
  refine r_iconst (v := (1 : Int32)) i_L_law_395 rfl ?_
  refine r_iadd i_L_law_396 ?_
  refine r_scriptAt i_L_law_397 (sc_in (k := 1) hi hL (by decide)) ?_
  refine r_aload_n (i := 0) i_L_law_398 rfl rfl ?_
  refine r_iload_n (i := 3) i_L_law_399 rfl rfl ?_
  refine r_iconst (v := (2 : Int32)) i_L_law_400 rfl ?_
  refine r_iadd i_L_law_401 ?_
  refine r_scriptAt i_L_law_402 (sc_in (k := 2) hi hL (by decide)) ?_
  refine r_aload_n (i := 0) i_L_law_403 rfl rfl ?_
  refine r_iload_n (i := 3) i_L_law_404 rfl rfl ?_
  refine r_iconst (v := (3 : Int32)) i_L_law_405 rfl ?_
  refine r_iadd i_L_law_406 ?_
  refine r_scriptAt i_L_law_407 (sc_in (k := 3) hi hL (by decide)) ?_
  refine r_aload_n (i := 0) i_L_law_408 rfl rfl ?_
  refine r_iload_n (i := 3) i_L_law_409 rfl rfl ?_
  refine r_iconst (v := (4 : Int32)) i_L_law_410 rfl ?_
  refine r_iadd i_L_law_411 ?_
  refine r_scriptAt i_L_law_412 (sc_in (k := 4) hi hL (by decide)) ?_
  refine r_aload_n (i := 0) i_L_law_413 rfl rfl ?_
  refine r_iload_n (i := 3) i_L_law_414 rfl rfl ?_
  refine r_iconst (v := (5 : Int32)) i_L_law_415 rfl ?_
  refine r_iadd i_L_law_416 ?_
  refine r_scriptAt i_L_law_417 (sc_in (k := 5) hi hL (by decide)) ?_
  refine m_virtual o_L_law k_N_copy v_N_copy x_L_25 i_L_law_418 o_N_copy (c_N_copy hC hq) rfl (rcv_ob g0 rfl (by omega)) rfl (by decide) (Nat.le_of_ble_eq_true rfl) (Nat.zero_le _) (Nat.zero_le _) (fun r1 w1 n1 hp1 => ?_)
  obtain ⟨rfl, ⟨hC1, hF1⟩, rfl⟩ := hp1
  have hm1 := (hX.cf hF1).1
  refine r_aload_n (i := 2) i_L_law_421 rfl rfl ?_
  refine r_aload_n (i := 0) i_L_law_422 rfl rfl ?_
  refine r_iload_n (i := 3) i_L_law_423 rfl rfl ?_
  refine r_iconst (v := (1 : Int32)) i_L_law_424 rfl ?_
  refine r_iadd i_L_law_425 ?_
  refine r_scriptAt i_L_law_426 (sc_in (k := 1) hi hL (by decide)) ?_
  refine r_aload_n (i := 0) i_L_law_427 rfl rfl ?_
  refine r_iload_n (i := 3) i_L_law_428 rfl rfl ?_
  refine r_iconst (v := (2 : Int32)) i_L_law_429 rfl ?_
  refine r_iadd i_L_law_430 ?_
  refine r_scriptAt i_L_law_431 (sc_in (k := 2) hi hL (by decide)) ?_
  refine r_aload_n (i := 0) i_L_law_432 rfl rfl ?_
  refine r_iload_n (i := 3) i_L_law_433 rfl rfl ?_
  refine r_iconst (v := (3 : Int32)) i_L_law_434 rfl ?_
  refine r_iadd i_L_law_435 ?_
  refine r_scriptAt i_L_law_436 (sc_in (k := 3) hi hL (by decide)) ?_
  refine r_aload_n (i := 0) i_L_law_437 rfl rfl ?_
  refine r_iload_n (i := 3) i_L_law_438 rfl rfl ?_
  refine r_iconst (v := (4 : Int32)) i_L_law_439 rfl ?_
  refine r_iadd i_L_law_440 ?_
  refine r_scriptAt i_L_law_441 (sc_in (k := 4) hi hL (by decide)) ?_
  refine r_aload_n (i := 0) i_L_law_442 rfl rfl ?_
  refine r_iload_n (i := 3) i_L_law_443 rfl rfl ?_
  refine r_iconst (v := (5 : Int32)) i_L_law_444 rfl ?_
  refine r_iadd i_L_law_445 ?_
  refine r_scriptAt i_L_law_446 (sc_in (k := 5) hi hL (by decide)) ?_
  refine m_virtual o_L_law k_M_copy v_M_copy x_L_29 i_L_law_447 o_M_copy (c_M_copy hm1 hR.mh) rfl (rcv_ob hm1.1 rfl (by omega)) rfl (by decide) (Nat.le_of_ble_eq_true rfl) (Nat.zero_le _) (Nat.zero_le _) (fun r2 w2 n2 hp2 => ?_)
  obtain ⟨rfl, ⟨hM2, hF2⟩, rfl⟩ := hp2
  have hE := eqv_copy (p := gxs G (nI i + 1).toNatClampNeg) (q := gxs G (nI i + 2).toNatClampNeg) (i := gxs G (nI i + 3).toNatClampNeg) (j := gxs G (nI i + 4).toNatClampNeg) (m := gxs G (nI i + 5).toNatClampNeg) hR
  refine r_icmp_eq 1744 i_L_law_450 (by decide) (fun h450 => ?_) (fun h450 => (absurd hE.1 h450))
  exact hk9 _ (law_next hX hC1 hF1 hM2 hF2 hE)
theorem law_holds (hLI : LI w n) (hi : i + 6 ≤ gL G) (hL : gL G ≤ 384) (hk9 : ∀ w', LN w' n → Go G 100 299 1744 [some (.ref (gB + 201)), some (.ref 0), some (.ref 44), some (.int (nI i))] [] w' n bc bs post) : Go G 100 299 489 [some (.ref (gB + 201)), some (.ref 0), some (.ref 44), some (.int (nI i))] [] w n bc bs post := by
  obtain ⟨Q, M, K, hC, hX, hR, hQ⟩ := hLI
  obtain ⟨P, B, hCn⟩ := hR.cnt
  obtain ⟨hP7, hB7, hP, hB, hPM, hBM, -⟩ := id hCn
  have hq := hR.2.2.2.2.2.1
  have g0 := hC.ob
  have gn := hC.lt
  have gm := hX.lt44
  refine r_aload_n (i := 1) i_L_law_489 rfl rfl ?_
  refine r_aload_n (i := 0) i_L_law_490 rfl rfl ?_
  refine r_iload_n (i := 3) i_L_law_491 rfl rfl ?_
  refine r_iconst (v := (1 : Int32)) i_L_law_492 rfl ?_
  refine r_iadd i_L_law_493 ?_
  refine r_scriptAt i_L_law_494 (sc_in (k := 1) hi hL (by decide)) ?_
  refine m_virtual o_L_law k_N_holds v_N_holds x_L_35 i_L_law_495 o_N_holds (c_N_holds hC) rfl (rcv_ob g0 rfl (by omega)) rfl (by decide) (Nat.le_of_ble_eq_true rfl) (Nat.zero_le _) (Nat.zero_le _) (fun r1 w1 n1 hp1 => ?_)
  obtain ⟨rfl, ⟨hC1, hF1⟩, rfl⟩ := hp1
  have hm1 := (hX.cf hF1).1
  refine r_aload_n (i := 2) i_L_law_498 rfl rfl ?_
  refine r_aload_n (i := 0) i_L_law_499 rfl rfl ?_
  refine r_iload_n (i := 3) i_L_law_500 rfl rfl ?_
  refine r_iconst (v := (1 : Int32)) i_L_law_501 rfl ?_
  refine r_iadd i_L_law_502 ?_
  refine r_scriptAt i_L_law_503 (sc_in (k := 1) hi hL (by decide)) ?_
  refine f_virtual o_L_law k_M_holds v_M_holds x_L_39 i_L_law_504 o_M_holds (c_M_holds hm1) rfl (rcv_ob hm1.1 rfl (by omega)) rfl (by decide) (Nat.le_of_ble_eq_true rfl) ?_
  have hE := eqv_holds (s := gxs G (nI i + 1).toNatClampNeg) hR
  refine r_icmp_eq 1744 i_L_law_507 (by decide) (fun h507 => ?_) (fun h507 => (absurd hE.1 h507))
  exact hk9 _ (law_next hX hC1 hF1 hm1 mFr.rf hE)
theorem law_rule (hLI : LI w n) (hi : i + 6 ≤ gL G) (hL : gL G ≤ 384) (hk9 : ∀ w', LN w' n → Go G 100 299 1744 [some (.ref (gB + 201)), some (.ref 0), some (.ref 44), some (.int (nI i))] [] w' n bc bs post) : Go G 100 299 512 [some (.ref (gB + 201)), some (.ref 0), some (.ref 44), some (.int (nI i))] [] w n bc bs post := by
  obtain ⟨Q, M, K, hC, hX, hR, hQ⟩ := hLI
  obtain ⟨P, B, hCn⟩ := hR.cnt
  obtain ⟨hP7, hB7, hP, hB, hPM, hBM, -⟩ := id hCn
  have hq := hR.2.2.2.2.2.1
  have g0 := hC.ob
  have gn := hC.lt
  have gm := hX.lt44
  refine r_aload_n (i := 1) i_L_law_512 rfl rfl ?_
  refine r_aload_n (i := 0) i_L_law_513 rfl rfl ?_
  refine r_iload_n (i := 3) i_L_law_514 rfl rfl ?_
  refine r_iconst (v := (1 : Int32)) i_L_law_515 rfl ?_
  refine r_iadd i_L_law_516 ?_
  refine r_scriptAt i_L_law_517 (sc_in (k := 1) hi hL (by decide)) ?_
  refine r_aload_n (i := 0) i_L_law_518 rfl rfl ?_
  refine r_iload_n (i := 3) i_L_law_519 rfl rfl ?_
  refine r_iconst (v := (2 : Int32)) i_L_law_520 rfl ?_
  refine r_iadd i_L_law_521 ?_
  refine r_scriptAt i_L_law_522 (sc_in (k := 2) hi hL (by decide)) ?_
  refine r_aload_n (i := 0) i_L_law_523 rfl rfl ?_
  refine r_iload_n (i := 3) i_L_law_524 rfl rfl ?_
  refine r_iconst (v := (3 : Int32)) i_L_law_525 rfl ?_
  refine r_iadd i_L_law_526 ?_
  refine r_scriptAt i_L_law_527 (sc_in (k := 3) hi hL (by decide)) ?_
  refine m_virtual o_L_law k_N_rule v_N_rule x_L_40 i_L_law_528 o_N_rule (c_N_rule hC) rfl (rcv_ob g0 rfl (by omega)) rfl (by decide) (Nat.le_of_ble_eq_true rfl) (Nat.zero_le _) (Nat.zero_le _) (fun r1 w1 n1 hp1 => ?_)
  obtain ⟨rfl, ⟨hC1, hF1⟩, rfl⟩ := hp1
  have hm1 := (hX.cf hF1).1
  refine r_aload_n (i := 2) i_L_law_531 rfl rfl ?_
  refine r_aload_n (i := 0) i_L_law_532 rfl rfl ?_
  refine r_iload_n (i := 3) i_L_law_533 rfl rfl ?_
  refine r_iconst (v := (1 : Int32)) i_L_law_534 rfl ?_
  refine r_iadd i_L_law_535 ?_
  refine r_scriptAt i_L_law_536 (sc_in (k := 1) hi hL (by decide)) ?_
  refine r_aload_n (i := 0) i_L_law_537 rfl rfl ?_
  refine r_iload_n (i := 3) i_L_law_538 rfl rfl ?_
  refine r_iconst (v := (2 : Int32)) i_L_law_539 rfl ?_
  refine r_iadd i_L_law_540 ?_
  refine r_scriptAt i_L_law_541 (sc_in (k := 2) hi hL (by decide)) ?_
  refine r_aload_n (i := 0) i_L_law_542 rfl rfl ?_
  refine r_iload_n (i := 3) i_L_law_543 rfl rfl ?_
  refine r_iconst (v := (3 : Int32)) i_L_law_544 rfl ?_
  refine r_iadd i_L_law_545 ?_
  refine r_scriptAt i_L_law_546 (sc_in (k := 3) hi hL (by decide)) ?_
  refine m_virtual o_L_law k_M_rule v_M_rule x_L_43 i_L_law_547 o_M_rule (c_M_rule hm1) rfl (rcv_ob hm1.1 rfl (by omega)) rfl (by decide) (Nat.le_of_ble_eq_true rfl) (Nat.zero_le _) (Nat.zero_le _) (fun r2 w2 n2 hp2 => ?_)
  obtain ⟨rfl, ⟨hM2, hF2⟩, rfl⟩ := hp2
  have hE := eqv_rule (s := gxs G (nI i + 1).toNatClampNeg) (k := gxs G (nI i + 2).toNatClampNeg) (a := gxs G (nI i + 3).toNatClampNeg) hR
  refine r_icmp_eq 1744 i_L_law_550 (by decide) (fun h550 => ?_) (fun h550 => (absurd hE.1 h550))
  exact hk9 _ (law_next hX hC1 hF1 hM2 hF2 hE)
theorem law_says (hLI : LI w n) (hi : i + 6 ≤ gL G) (hL : gL G ≤ 384) (hk9 : ∀ w', LN w' n → Go G 100 299 1744 [some (.ref (gB + 201)), some (.ref 0), some (.ref 44), some (.int (nI i))] [] w' n bc bs post) : Go G 100 299 555 [some (.ref (gB + 201)), some (.ref 0), some (.ref 44), some (.int (nI i))] [] w n bc bs post := by
  obtain ⟨Q, M, K, hC, hX, hR, hQ⟩ := hLI
  obtain ⟨P, B, hCn⟩ := hR.cnt
  obtain ⟨hP7, hB7, hP, hB, hPM, hBM, -⟩ := id hCn
  have hq := hR.2.2.2.2.2.1
  have g0 := hC.ob
  have gn := hC.lt
  have gm := hX.lt44
  refine r_aload_n (i := 1) i_L_law_555 rfl rfl ?_
  refine r_aload_n (i := 0) i_L_law_556 rfl rfl ?_
  refine r_iload_n (i := 3) i_L_law_557 rfl rfl ?_
  refine r_iconst (v := (1 : Int32)) i_L_law_558 rfl ?_
  refine r_iadd i_L_law_559 ?_
  refine r_scriptAt i_L_law_560 (sc_in (k := 1) hi hL (by decide)) ?_
  refine r_aload_n (i := 0) i_L_law_561 rfl rfl ?_
  refine r_iload_n (i := 3) i_L_law_562 rfl rfl ?_
  refine r_iconst (v := (2 : Int32)) i_L_law_563 rfl ?_
  refine r_iadd i_L_law_564 ?_
  refine r_scriptAt i_L_law_565 (sc_in (k := 2) hi hL (by decide)) ?_
  refine m_virtual o_L_law k_N_says v_N_says x_L_44 i_L_law_566 o_N_says (c_N_says hC hq) rfl (rcv_ob g0 rfl (by omega)) rfl (by decide) (Nat.le_of_ble_eq_true rfl) (Nat.zero_le _) (Nat.zero_le _) (fun r1 w1 n1 hp1 => ?_)
  obtain ⟨rfl, ⟨hC1, hF1⟩, rfl⟩ := hp1
  have hm1 := (hX.cf hF1).1
  refine r_aload_n (i := 2) i_L_law_569 rfl rfl ?_
  refine r_aload_n (i := 0) i_L_law_570 rfl rfl ?_
  refine r_iload_n (i := 3) i_L_law_571 rfl rfl ?_
  refine r_iconst (v := (1 : Int32)) i_L_law_572 rfl ?_
  refine r_iadd i_L_law_573 ?_
  refine r_scriptAt i_L_law_574 (sc_in (k := 1) hi hL (by decide)) ?_
  refine r_aload_n (i := 0) i_L_law_575 rfl rfl ?_
  refine r_iload_n (i := 3) i_L_law_576 rfl rfl ?_
  refine r_iconst (v := (2 : Int32)) i_L_law_577 rfl ?_
  refine r_iadd i_L_law_578 ?_
  refine r_scriptAt i_L_law_579 (sc_in (k := 2) hi hL (by decide)) ?_
  refine m_virtual o_L_law k_M_says v_M_says x_L_48 i_L_law_580 o_M_says (c_M_says hm1 hPM hP7 hR.ru) rfl (rcv_ob hm1.1 rfl (by omega)) rfl (by decide) (Nat.le_of_ble_eq_true rfl) (Nat.zero_le _) (Nat.zero_le _) (fun r2 w2 n2 hp2 => ?_)
  obtain ⟨rfl, ⟨hM2, hF2⟩, rfl⟩ := hp2
  have hE := eqv_says (s := gxs G (nI i + 1).toNatClampNeg) (k := gxs G (nI i + 2).toNatClampNeg) hR hQ hCn
  refine r_icmp_eq 1744 i_L_law_583 (by decide) (fun h583 => ?_) (fun h583 => (absurd hE.1 h583))
  exact hk9 _ (law_next hX hC1 hF1 hM2 hF2 hE)
theorem law_one (hLI : LI w n) (hi : i + 6 ≤ gL G) (hL : gL G ≤ 384) (hk9 : ∀ w', LN w' n → Go G 100 299 1744 [some (.ref (gB + 201)), some (.ref 0), some (.ref 44), some (.int (nI i))] [] w' n bc bs post) : Go G 100 299 588 [some (.ref (gB + 201)), some (.ref 0), some (.ref 44), some (.int (nI i))] [] w n bc bs post := by
  obtain ⟨Q, M, K, hC, hX, hR, hQ⟩ := hLI
  obtain ⟨P, B, hCn⟩ := hR.cnt
  obtain ⟨hP7, hB7, hP, hB, hPM, hBM, -⟩ := id hCn
  have hq := hR.2.2.2.2.2.1
  have g0 := hC.ob
  have gn := hC.lt
  have gm := hX.lt44
  refine r_aload_n (i := 1) i_L_law_588 rfl rfl ?_
  refine m_virtual o_L_law k_N_one v_N_one x_L_49 i_L_law_589 o_N_one (c_N_one hC) rfl (rcv_ob g0 rfl (by omega)) rfl (by decide) (Nat.le_of_ble_eq_true rfl) (Nat.zero_le _) (Nat.zero_le _) (fun r1 w1 n1 hp1 => ?_)
  obtain ⟨rfl, ⟨hC1, hF1⟩, rfl⟩ := hp1
  have hm1 := (hX.cf hF1).1
  refine r_aload_n (i := 2) i_L_law_592 rfl rfl ?_
  refine m_virtual o_L_law k_M_one v_M_one x_L_53 i_L_law_593 o_M_one (c_M_one hm1 hPM hP7) rfl (rcv_ob hm1.1 rfl (by omega)) rfl (by decide) (Nat.le_of_ble_eq_true rfl) (Nat.zero_le _) (Nat.zero_le _) (fun r2 w2 n2 hp2 => ?_)
  obtain ⟨rfl, ⟨hM2, hF2⟩, rfl⟩ := hp2
  have hE := eqv_one  hR hCn
  refine r_icmp_eq 1744 i_L_law_596 (by decide) (fun h596 => ?_) (fun h596 => (absurd hE.1 h596))
  exact hk9 _ (law_next hX hC1 hF1 hM2 hF2 hE)
theorem law_bargain (hLI : LI w n) (hi : i + 6 ≤ gL G) (hL : gL G ≤ 384) (hk9 : ∀ w', LN w' n → Go G 100 299 1744 [some (.ref (gB + 201)), some (.ref 0), some (.ref 44), some (.int (nI i))] [] w' n bc bs post) : Go G 100 299 601 [some (.ref (gB + 201)), some (.ref 0), some (.ref 44), some (.int (nI i))] [] w n bc bs post := by
  obtain ⟨Q, M, K, hC, hX, hR, hQ⟩ := hLI
  obtain ⟨P, B, hCn⟩ := hR.cnt
  obtain ⟨hP7, hB7, hP, hB, hPM, hBM, -⟩ := id hCn
  have hq := hR.2.2.2.2.2.1
  have g0 := hC.ob
  have gn := hC.lt
  have gm := hX.lt44
  refine r_aload_n (i := 1) i_L_law_601 rfl rfl ?_
  refine r_aload_n (i := 0) i_L_law_602 rfl rfl ?_
  refine r_iload_n (i := 3) i_L_law_603 rfl rfl ?_
  refine r_iconst (v := (1 : Int32)) i_L_law_604 rfl ?_
  refine r_iadd i_L_law_605 ?_
  refine r_scriptAt i_L_law_606 (sc_in (k := 1) hi hL (by decide)) ?_
  refine r_aload_n (i := 0) i_L_law_607 rfl rfl ?_
  refine r_iload_n (i := 3) i_L_law_608 rfl rfl ?_
  refine r_iconst (v := (2 : Int32)) i_L_law_609 rfl ?_
  refine r_iadd i_L_law_610 ?_
  refine r_scriptAt i_L_law_611 (sc_in (k := 2) hi hL (by decide)) ?_
  refine r_aload_n (i := 0) i_L_law_612 rfl rfl ?_
  refine r_iload_n (i := 3) i_L_law_613 rfl rfl ?_
  refine r_iconst (v := (3 : Int32)) i_L_law_614 rfl ?_
  refine r_iadd i_L_law_615 ?_
  refine r_scriptAt i_L_law_616 (sc_in (k := 3) hi hL (by decide)) ?_
  refine r_aload_n (i := 0) i_L_law_617 rfl rfl ?_
  refine r_iload_n (i := 3) i_L_law_618 rfl rfl ?_
  refine r_iconst (v := (4 : Int32)) i_L_law_619 rfl ?_
  refine r_iadd i_L_law_620 ?_
  refine r_scriptAt i_L_law_621 (sc_in (k := 4) hi hL (by decide)) ?_
  refine m_virtual o_L_law k_N_bargain v_N_bargain x_L_54 i_L_law_622 o_N_bargain (c_N_bargain hC hq) rfl (rcv_ob g0 rfl (by omega)) rfl (by decide) (Nat.le_of_ble_eq_true rfl) (Nat.zero_le _) (Nat.zero_le _) (fun r1 w1 n1 hp1 => ?_)
  obtain ⟨rfl, ⟨hC1, hF1⟩, rfl⟩ := hp1
  have hm1 := (hX.cf hF1).1
  refine r_aload_n (i := 2) i_L_law_625 rfl rfl ?_
  refine r_aload_n (i := 0) i_L_law_626 rfl rfl ?_
  refine r_iload_n (i := 3) i_L_law_627 rfl rfl ?_
  refine r_iconst (v := (1 : Int32)) i_L_law_628 rfl ?_
  refine r_iadd i_L_law_629 ?_
  refine r_scriptAt i_L_law_630 (sc_in (k := 1) hi hL (by decide)) ?_
  refine r_aload_n (i := 0) i_L_law_631 rfl rfl ?_
  refine r_iload_n (i := 3) i_L_law_632 rfl rfl ?_
  refine r_iconst (v := (2 : Int32)) i_L_law_633 rfl ?_
  refine r_iadd i_L_law_634 ?_
  refine r_scriptAt i_L_law_635 (sc_in (k := 2) hi hL (by decide)) ?_
  refine r_aload_n (i := 0) i_L_law_636 rfl rfl ?_
  refine r_iload_n (i := 3) i_L_law_637 rfl rfl ?_
  refine r_iconst (v := (3 : Int32)) i_L_law_638 rfl ?_
  refine r_iadd i_L_law_639 ?_
  refine r_scriptAt i_L_law_640 (sc_in (k := 3) hi hL (by decide)) ?_
  refine r_aload_n (i := 0) i_L_law_641 rfl rfl ?_
  refine r_iload_n (i := 3) i_L_law_642 rfl rfl ?_
  refine r_iconst (v := (4 : Int32)) i_L_law_643 rfl ?_
  refine r_iadd i_L_law_644 ?_
  refine r_scriptAt i_L_law_645 (sc_in (k := 4) hi hL (by decide)) ?_
  refine m_virtual o_L_law k_M_bargain v_M_bargain x_L_58 i_L_law_646 o_M_bargain (c_M_bargain hm1 hPM hP7 hBM hB7) rfl (rcv_ob hm1.1 rfl (by omega)) rfl (by decide) (Nat.le_of_ble_eq_true rfl) (Nat.zero_le _) (Nat.zero_le _) (fun r2 w2 n2 hp2 => ?_)
  obtain ⟨rfl, ⟨hM2, hF2⟩, rfl⟩ := hp2
  have hE := eqv_bargain (p := gxs G (nI i + 1).toNatClampNeg) (q := gxs G (nI i + 2).toNatClampNeg) (g := gxs G (nI i + 3).toNatClampNeg) (k := gxs G (nI i + 4).toNatClampNeg) hR hCn
  refine r_icmp_eq 1744 i_L_law_649 (by decide) (fun h649 => ?_) (fun h649 => (absurd hE.1 h649))
  exact hk9 _ (law_next hX hC1 hF1 hM2 hF2 hE)
theorem law_hurts (hLI : LI w n) (hi : i + 6 ≤ gL G) (hL : gL G ≤ 384) (hk9 : ∀ w', LN w' n → Go G 100 299 1744 [some (.ref (gB + 201)), some (.ref 0), some (.ref 44), some (.int (nI i))] [] w' n bc bs post) : Go G 100 299 654 [some (.ref (gB + 201)), some (.ref 0), some (.ref 44), some (.int (nI i))] [] w n bc bs post := by
  obtain ⟨Q, M, K, hC, hX, hR, hQ⟩ := hLI
  obtain ⟨P, B, hCn⟩ := hR.cnt
  obtain ⟨hP7, hB7, hP, hB, hPM, hBM, -⟩ := id hCn
  have hq := hR.2.2.2.2.2.1
  have g0 := hC.ob
  have gn := hC.lt
  have gm := hX.lt44
  refine r_aload_n (i := 1) i_L_law_654 rfl rfl ?_
  refine r_aload_n (i := 0) i_L_law_655 rfl rfl ?_
  refine r_iload_n (i := 3) i_L_law_656 rfl rfl ?_
  refine r_iconst (v := (1 : Int32)) i_L_law_657 rfl ?_
  refine r_iadd i_L_law_658 ?_
  refine r_scriptAt i_L_law_659 (sc_in (k := 1) hi hL (by decide)) ?_
  refine r_aload_n (i := 0) i_L_law_660 rfl rfl ?_
  refine r_iload_n (i := 3) i_L_law_661 rfl rfl ?_
  refine r_iconst (v := (2 : Int32)) i_L_law_662 rfl ?_
  refine r_iadd i_L_law_663 ?_
  refine r_scriptAt i_L_law_664 (sc_in (k := 2) hi hL (by decide)) ?_
  refine r_aload_n (i := 0) i_L_law_665 rfl rfl ?_
  refine r_iload_n (i := 3) i_L_law_666 rfl rfl ?_
  refine r_iconst (v := (3 : Int32)) i_L_law_667 rfl ?_
  refine r_iadd i_L_law_668 ?_
  refine r_scriptAt i_L_law_669 (sc_in (k := 3) hi hL (by decide)) ?_
  refine m_virtual o_L_law k_N_hurts v_N_hurts x_L_59 i_L_law_670 o_N_hurts (c_N_hurts hC hq) rfl (rcv_ob g0 rfl (by omega)) rfl (by decide) (Nat.le_of_ble_eq_true rfl) (Nat.zero_le _) (Nat.zero_le _) (fun r1 w1 n1 hp1 => ?_)
  obtain ⟨rfl, ⟨hC1, hF1⟩, rfl⟩ := hp1
  have hm1 := (hX.cf hF1).1
  refine r_aload_n (i := 2) i_L_law_673 rfl rfl ?_
  refine r_aload_n (i := 0) i_L_law_674 rfl rfl ?_
  refine r_iload_n (i := 3) i_L_law_675 rfl rfl ?_
  refine r_iconst (v := (1 : Int32)) i_L_law_676 rfl ?_
  refine r_iadd i_L_law_677 ?_
  refine r_scriptAt i_L_law_678 (sc_in (k := 1) hi hL (by decide)) ?_
  refine r_aload_n (i := 0) i_L_law_679 rfl rfl ?_
  refine r_iload_n (i := 3) i_L_law_680 rfl rfl ?_
  refine r_iconst (v := (2 : Int32)) i_L_law_681 rfl ?_
  refine r_iadd i_L_law_682 ?_
  refine r_scriptAt i_L_law_683 (sc_in (k := 2) hi hL (by decide)) ?_
  refine r_aload_n (i := 0) i_L_law_684 rfl rfl ?_
  refine r_iload_n (i := 3) i_L_law_685 rfl rfl ?_
  refine r_iconst (v := (3 : Int32)) i_L_law_686 rfl ?_
  refine r_iadd i_L_law_687 ?_
  refine r_scriptAt i_L_law_688 (sc_in (k := 3) hi hL (by decide)) ?_
  refine m_virtual o_L_law k_M_hurts v_M_hurts x_L_62 i_L_law_689 o_M_hurts (c_M_hurts hm1 hR.mo) rfl (rcv_ob hm1.1 rfl (by omega)) rfl (by decide) (Nat.le_of_ble_eq_true rfl) (Nat.zero_le _) (Nat.zero_le _) (fun r2 w2 n2 hp2 => ?_)
  obtain ⟨rfl, ⟨hM2, hF2⟩, rfl⟩ := hp2
  have hE := eqv_hurts (b := gxs G (nI i + 1).toNatClampNeg) (t := gxs G (nI i + 2).toNatClampNeg) (v := gxs G (nI i + 3).toNatClampNeg) hR hCn
  refine r_icmp_eq 1744 i_L_law_692 (by decide) (fun h692 => ?_) (fun h692 => (absurd hE.1 h692))
  exact hk9 _ (law_next hX hC1 hF1 hM2 hF2 hE)
theorem law_ask (hLI : LI w n) (hi : i + 6 ≤ gL G) (hL : gL G ≤ 384) (hk9 : ∀ w', LN w' n → Go G 100 299 1744 [some (.ref (gB + 201)), some (.ref 0), some (.ref 44), some (.int (nI i))] [] w' n bc bs post) : Go G 100 299 756 [some (.ref (gB + 201)), some (.ref 0), some (.ref 44), some (.int (nI i))] [] w n bc bs post := by
  obtain ⟨Q, M, K, hC, hX, hR, hQ⟩ := hLI
  obtain ⟨P, B, hCn⟩ := hR.cnt
  obtain ⟨hP7, hB7, hP, hB, hPM, hBM, -⟩ := id hCn
  have hq := hR.2.2.2.2.2.1
  have g0 := hC.ob
  have gn := hC.lt
  have gm := hX.lt44
  refine r_aload_n (i := 1) i_L_law_756 rfl rfl ?_
  refine r_aload_n (i := 0) i_L_law_757 rfl rfl ?_
  refine r_iload_n (i := 3) i_L_law_758 rfl rfl ?_
  refine r_iconst (v := (1 : Int32)) i_L_law_759 rfl ?_
  refine r_iadd i_L_law_760 ?_
  refine r_scriptAt i_L_law_761 (sc_in (k := 1) hi hL (by decide)) ?_
  refine r_aload_n (i := 0) i_L_law_762 rfl rfl ?_
  refine r_iload_n (i := 3) i_L_law_763 rfl rfl ?_
  refine r_iconst (v := (2 : Int32)) i_L_law_764 rfl ?_
  refine r_iadd i_L_law_765 ?_
  refine r_scriptAt i_L_law_766 (sc_in (k := 2) hi hL (by decide)) ?_
  refine m_virtual o_L_law k_N_ask v_N_ask x_L_68 i_L_law_767 o_N_ask (c_N_ask hC) rfl (rcv_ob g0 rfl (by omega)) rfl (by decide) (Nat.le_of_ble_eq_true rfl) (Nat.zero_le _) (Nat.zero_le _) (fun r1 w1 n1 hp1 => ?_)
  obtain ⟨rfl, ⟨hC1, hF1⟩, rfl⟩ := hp1
  have hm1 := (hX.cf hF1).1
  refine r_aload_n (i := 2) i_L_law_770 rfl rfl ?_
  refine r_aload_n (i := 0) i_L_law_771 rfl rfl ?_
  refine r_iload_n (i := 3) i_L_law_772 rfl rfl ?_
  refine r_iconst (v := (1 : Int32)) i_L_law_773 rfl ?_
  refine r_iadd i_L_law_774 ?_
  refine r_scriptAt i_L_law_775 (sc_in (k := 1) hi hL (by decide)) ?_
  refine r_aload_n (i := 0) i_L_law_776 rfl rfl ?_
  refine r_iload_n (i := 3) i_L_law_777 rfl rfl ?_
  refine r_iconst (v := (2 : Int32)) i_L_law_778 rfl ?_
  refine r_iadd i_L_law_779 ?_
  refine r_scriptAt i_L_law_780 (sc_in (k := 2) hi hL (by decide)) ?_
  refine m_virtual o_L_law k_M_ask v_M_ask x_L_71 i_L_law_781 o_M_ask (c_M_ask hm1) rfl (rcv_ob hm1.1 rfl (by omega)) rfl (by decide) (Nat.le_of_ble_eq_true rfl) (Nat.zero_le _) (Nat.zero_le _) (fun r2 w2 n2 hp2 => ?_)
  obtain ⟨rfl, ⟨hM2, hF2⟩, rfl⟩ := hp2
  have hE := eqv_ask (k := gxs G (nI i + 1).toNatClampNeg) (v := gxs G (nI i + 2).toNatClampNeg) hR
  refine r_icmp_eq 1744 i_L_law_784 (by decide) (fun h784 => ?_) (fun h784 => (absurd hE.1 h784))
  exact hk9 _ (law_next hX hC1 hF1 hM2 hF2 hE)
theorem law_feed (hLI : LI w n) (hi : i + 6 ≤ gL G) (hL : gL G ≤ 384) (hk9 : ∀ w', LN w' n → Go G 100 299 1744 [some (.ref (gB + 201)), some (.ref 0), some (.ref 44), some (.int (nI i))] [] w' n bc bs post) : Go G 100 299 789 [some (.ref (gB + 201)), some (.ref 0), some (.ref 44), some (.int (nI i))] [] w n bc bs post := by
  obtain ⟨Q, M, K, hC, hX, hR, hQ⟩ := hLI
  obtain ⟨P, B, hCn⟩ := hR.cnt
  obtain ⟨hP7, hB7, hP, hB, hPM, hBM, -⟩ := id hCn
  have hq := hR.2.2.2.2.2.1
  have g0 := hC.ob
  have gn := hC.lt
  have gm := hX.lt44
  refine r_aload_n (i := 1) i_L_law_789 rfl rfl ?_
  refine r_aload_n (i := 0) i_L_law_790 rfl rfl ?_
  refine r_iload_n (i := 3) i_L_law_791 rfl rfl ?_
  refine r_iconst (v := (1 : Int32)) i_L_law_792 rfl ?_
  refine r_iadd i_L_law_793 ?_
  refine r_scriptAt i_L_law_794 (sc_in (k := 1) hi hL (by decide)) ?_
  refine m_virtual o_L_law k_N_feed v_N_feed x_L_72 i_L_law_795 o_N_feed (c_N_feed hC hq) rfl (rcv_ob g0 rfl (by omega)) rfl (by decide) (Nat.le_of_ble_eq_true rfl) (Nat.zero_le _) (Nat.zero_le _) (fun r1 w1 n1 hp1 => ?_)
  obtain ⟨rfl, ⟨hC1, hF1⟩, rfl⟩ := hp1
  have hm1 := (hX.cf hF1).1
  refine r_aload_n (i := 2) i_L_law_798 rfl rfl ?_
  refine r_aload_n (i := 0) i_L_law_799 rfl rfl ?_
  refine r_iload_n (i := 3) i_L_law_800 rfl rfl ?_
  refine r_iconst (v := (1 : Int32)) i_L_law_801 rfl ?_
  refine r_iadd i_L_law_802 ?_
  refine r_scriptAt i_L_law_803 (sc_in (k := 1) hi hL (by decide)) ?_
  refine m_virtual o_L_law k_M_feed v_M_feed x_L_75 i_L_law_804 o_M_feed (c_M_feed hm1 hR.mo) rfl (rcv_ob hm1.1 rfl (by omega)) rfl (by decide) (Nat.le_of_ble_eq_true rfl) (Nat.zero_le _) (Nat.zero_le _) (fun r2 w2 n2 hp2 => ?_)
  obtain ⟨rfl, ⟨hM2, hF2⟩, rfl⟩ := hp2
  have hE := eqv_feed (v := gxs G (nI i + 1).toNatClampNeg) hR
  refine r_icmp_eq 1744 i_L_law_807 (by decide) (fun h807 => ?_) (fun h807 => (absurd hE.1 h807))
  exact hk9 _ (law_next hX hC1 hF1 hM2 hF2 hE)
theorem law_wipe (hLI : LI w n) (hi : i + 6 ≤ gL G) (hL : gL G ≤ 384) (hk9 : ∀ w', LN w' n → Go G 100 299 1744 [some (.ref (gB + 201)), some (.ref 0), some (.ref 44), some (.int (nI i))] [] w' n bc bs post) : Go G 100 299 812 [some (.ref (gB + 201)), some (.ref 0), some (.ref 44), some (.int (nI i))] [] w n bc bs post := by
  obtain ⟨Q, M, K, hC, hX, hR, hQ⟩ := hLI
  obtain ⟨P, B, hCn⟩ := hR.cnt
  obtain ⟨hP7, hB7, hP, hB, hPM, hBM, -⟩ := id hCn
  have hq := hR.2.2.2.2.2.1
  have g0 := hC.ob
  have gn := hC.lt
  have gm := hX.lt44
  refine r_aload_n (i := 1) i_L_law_812 rfl rfl ?_
  refine m_virtual o_L_law k_N_wipe v_N_wipe x_L_76 i_L_law_813 o_N_wipe (c_N_wipe hC) rfl (rcv_ob g0 rfl (by omega)) rfl (by decide) (Nat.le_of_ble_eq_true rfl) (Nat.zero_le _) (Nat.zero_le _) (fun r1 w1 n1 hp1 => ?_)
  obtain ⟨rfl, ⟨hC1, hF1⟩, rfl⟩ := hp1
  have hm1 := (hX.cf hF1).1
  refine r_aload_n (i := 2) i_L_law_816 rfl rfl ?_
  refine m_virtual o_L_law k_M_wipe v_M_wipe x_L_79 i_L_law_817 o_M_wipe (c_M_wipe hm1) rfl (rcv_ob hm1.1 rfl (by omega)) rfl (by decide) (Nat.le_of_ble_eq_true rfl) (Nat.zero_le _) (Nat.zero_le _) (fun r2 w2 n2 hp2 => ?_)
  obtain ⟨rfl, ⟨hM2, hF2⟩, rfl⟩ := hp2
  have hE := eqv_wipe  hR
  refine r_icmp_eq 1744 i_L_law_820 (by decide) (fun h820 => ?_) (fun h820 => (absurd hE.1 h820))
  exact hk9 _ (law_next hX hC1 hF1 hM2 hF2 hE)
theorem law_bargainOf (hLI : LI w n) (hi : i + 6 ≤ gL G) (hL : gL G ≤ 384) (hk9 : ∀ w', LN w' n → Go G 100 299 1744 [some (.ref (gB + 201)), some (.ref 0), some (.ref 44), some (.int (nI i))] [] w' n bc bs post) : Go G 100 299 838 [some (.ref (gB + 201)), some (.ref 0), some (.ref 44), some (.int (nI i))] [] w n bc bs post := by
  obtain ⟨Q, M, K, hC, hX, hR, hQ⟩ := hLI
  obtain ⟨P, B, hCn⟩ := hR.cnt
  obtain ⟨hP7, hB7, hP, hB, hPM, hBM, -⟩ := id hCn
  have hq := hR.2.2.2.2.2.1
  have g0 := hC.ob
  have gn := hC.lt
  have gm := hX.lt44
  refine r_aload_n (i := 1) i_L_law_838 rfl rfl ?_
  refine r_aload_n (i := 0) i_L_law_839 rfl rfl ?_
  refine r_iload_n (i := 3) i_L_law_840 rfl rfl ?_
  refine r_iconst (v := (1 : Int32)) i_L_law_841 rfl ?_
  refine r_iadd i_L_law_842 ?_
  refine r_scriptAt i_L_law_843 (sc_in (k := 1) hi hL (by decide)) ?_
  refine r_aload_n (i := 0) i_L_law_844 rfl rfl ?_
  refine r_iload_n (i := 3) i_L_law_845 rfl rfl ?_
  refine r_iconst (v := (2 : Int32)) i_L_law_846 rfl ?_
  refine r_iadd i_L_law_847 ?_
  refine r_scriptAt i_L_law_848 (sc_in (k := 2) hi hL (by decide)) ?_
  refine m_virtual o_L_law k_N_bargainOf v_N_bargainOf x_L_84 i_L_law_849 o_N_bargainOf (c_N_bargainOf hC hq) rfl (rcv_ob g0 rfl (by omega)) rfl (by decide) (Nat.le_of_ble_eq_true rfl) (Nat.zero_le _) (Nat.zero_le _) (fun r1 w1 n1 hp1 => ?_)
  obtain ⟨rfl, ⟨hC1, hF1⟩, rfl⟩ := hp1
  have hm1 := (hX.cf hF1).1
  refine r_aload_n (i := 2) i_L_law_852 rfl rfl ?_
  refine r_aload_n (i := 0) i_L_law_853 rfl rfl ?_
  refine r_iload_n (i := 3) i_L_law_854 rfl rfl ?_
  refine r_iconst (v := (1 : Int32)) i_L_law_855 rfl ?_
  refine r_iadd i_L_law_856 ?_
  refine r_scriptAt i_L_law_857 (sc_in (k := 1) hi hL (by decide)) ?_
  refine r_aload_n (i := 0) i_L_law_858 rfl rfl ?_
  refine r_iload_n (i := 3) i_L_law_859 rfl rfl ?_
  refine r_iconst (v := (2 : Int32)) i_L_law_860 rfl ?_
  refine r_iadd i_L_law_861 ?_
  refine r_scriptAt i_L_law_862 (sc_in (k := 2) hi hL (by decide)) ?_
  refine m_virtual o_L_law k_M_bargainOf v_M_bargainOf x_L_87 i_L_law_863 o_M_bargainOf (c_M_bargainOf hm1 hBM hB7) rfl (rcv_ob hm1.1 rfl (by omega)) rfl (by decide) (Nat.le_of_ble_eq_true rfl) (Nat.zero_le _) (Nat.zero_le _) (fun r2 w2 n2 hp2 => ?_)
  obtain ⟨rfl, ⟨hM2, hF2⟩, rfl⟩ := hp2
  have hE := eqv_bargainOf (b := gxs G (nI i + 1).toNatClampNeg) (k := gxs G (nI i + 2).toNatClampNeg) hR hCn
  refine r_icmp_eq 1744 i_L_law_866 (by decide) (fun h866 => ?_) (fun h866 => (absurd hE.1 h866))
  exact hk9 _ (law_next hX hC1 hF1 hM2 hF2 hE)
theorem law_lossOf (hLI : LI w n) (hi : i + 6 ≤ gL G) (hL : gL G ≤ 384) (hk9 : ∀ w', LN w' n → Go G 100 299 1744 [some (.ref (gB + 201)), some (.ref 0), some (.ref 44), some (.int (nI i))] [] w' n bc bs post) : Go G 100 299 871 [some (.ref (gB + 201)), some (.ref 0), some (.ref 44), some (.int (nI i))] [] w n bc bs post := by
  obtain ⟨Q, M, K, hC, hX, hR, hQ⟩ := hLI
  obtain ⟨P, B, hCn⟩ := hR.cnt
  obtain ⟨hP7, hB7, hP, hB, hPM, hBM, -⟩ := id hCn
  have hq := hR.2.2.2.2.2.1
  have g0 := hC.ob
  have gn := hC.lt
  have gm := hX.lt44
  refine r_aload_n (i := 1) i_L_law_871 rfl rfl ?_
  refine r_aload_n (i := 0) i_L_law_872 rfl rfl ?_
  refine r_iload_n (i := 3) i_L_law_873 rfl rfl ?_
  refine r_iconst (v := (1 : Int32)) i_L_law_874 rfl ?_
  refine r_iadd i_L_law_875 ?_
  refine r_scriptAt i_L_law_876 (sc_in (k := 1) hi hL (by decide)) ?_
  refine r_aload_n (i := 0) i_L_law_877 rfl rfl ?_
  refine r_iload_n (i := 3) i_L_law_878 rfl rfl ?_
  refine r_iconst (v := (2 : Int32)) i_L_law_879 rfl ?_
  refine r_iadd i_L_law_880 ?_
  refine r_scriptAt i_L_law_881 (sc_in (k := 2) hi hL (by decide)) ?_
  refine m_virtual o_L_law k_N_lossOf v_N_lossOf x_L_88 i_L_law_882 o_N_lossOf (c_N_lossOf hC hq) rfl (rcv_ob g0 rfl (by omega)) rfl (by decide) (Nat.le_of_ble_eq_true rfl) (Nat.zero_le _) (Nat.zero_le _) (fun r1 w1 n1 hp1 => ?_)
  obtain ⟨rfl, ⟨hC1, hF1⟩, rfl⟩ := hp1
  have hm1 := (hX.cf hF1).1
  refine r_aload_n (i := 2) i_L_law_885 rfl rfl ?_
  refine r_aload_n (i := 0) i_L_law_886 rfl rfl ?_
  refine r_iload_n (i := 3) i_L_law_887 rfl rfl ?_
  refine r_iconst (v := (1 : Int32)) i_L_law_888 rfl ?_
  refine r_iadd i_L_law_889 ?_
  refine r_scriptAt i_L_law_890 (sc_in (k := 1) hi hL (by decide)) ?_
  refine r_aload_n (i := 0) i_L_law_891 rfl rfl ?_
  refine r_iload_n (i := 3) i_L_law_892 rfl rfl ?_
  refine r_iconst (v := (2 : Int32)) i_L_law_893 rfl ?_
  refine r_iadd i_L_law_894 ?_
  refine r_scriptAt i_L_law_895 (sc_in (k := 2) hi hL (by decide)) ?_
  refine m_virtual o_L_law k_M_lossOf v_M_lossOf x_L_91 i_L_law_896 o_M_lossOf (c_M_lossOf hm1 hR.mo) rfl (rcv_ob hm1.1 rfl (by omega)) rfl (by decide) (Nat.le_of_ble_eq_true rfl) (Nat.zero_le _) (Nat.zero_le _) (fun r2 w2 n2 hp2 => ?_)
  obtain ⟨rfl, ⟨hM2, hF2⟩, rfl⟩ := hp2
  have hE := eqv_lossOf (b := gxs G (nI i + 1).toNatClampNeg) (t := gxs G (nI i + 2).toNatClampNeg) hR hCn
  refine r_icmp_eq 1744 i_L_law_899 (by decide) (fun h899 => ?_) (fun h899 => (absurd hE.1 h899))
  exact hk9 _ (law_next hX hC1 hF1 hM2 hF2 hE)
theorem law_standing (hLI : LI w n) (hi : i + 6 ≤ gL G) (hL : gL G ≤ 384) (hk9 : ∀ w', LN w' n → Go G 100 299 1744 [some (.ref (gB + 201)), some (.ref 0), some (.ref 44), some (.int (nI i))] [] w' n bc bs post) : Go G 100 299 904 [some (.ref (gB + 201)), some (.ref 0), some (.ref 44), some (.int (nI i))] [] w n bc bs post := by
  obtain ⟨Q, M, K, hC, hX, hR, hQ⟩ := hLI
  obtain ⟨P, B, hCn⟩ := hR.cnt
  obtain ⟨hP7, hB7, hP, hB, hPM, hBM, -⟩ := id hCn
  have hq := hR.2.2.2.2.2.1
  have g0 := hC.ob
  have gn := hC.lt
  have gm := hX.lt44
  refine r_aload_n (i := 1) i_L_law_904 rfl rfl ?_
  refine r_aload_n (i := 0) i_L_law_905 rfl rfl ?_
  refine r_iload_n (i := 3) i_L_law_906 rfl rfl ?_
  refine r_iconst (v := (1 : Int32)) i_L_law_907 rfl ?_
  refine r_iadd i_L_law_908 ?_
  refine r_scriptAt i_L_law_909 (sc_in (k := 1) hi hL (by decide)) ?_
  refine m_virtual o_L_law k_N_standing v_N_standing x_L_92 i_L_law_910 o_N_standing (c_N_standing hC hq) rfl (rcv_ob g0 rfl (by omega)) rfl (by decide) (Nat.le_of_ble_eq_true rfl) (Nat.zero_le _) (Nat.zero_le _) (fun r1 w1 n1 hp1 => ?_)
  obtain ⟨rfl, ⟨hC1, hF1⟩, rfl⟩ := hp1
  have hm1 := (hX.cf hF1).1
  refine r_aload_n (i := 2) i_L_law_913 rfl rfl ?_
  refine r_aload_n (i := 0) i_L_law_914 rfl rfl ?_
  refine r_iload_n (i := 3) i_L_law_915 rfl rfl ?_
  refine r_iconst (v := (1 : Int32)) i_L_law_916 rfl ?_
  refine r_iadd i_L_law_917 ?_
  refine r_scriptAt i_L_law_918 (sc_in (k := 1) hi hL (by decide)) ?_
  refine m_virtual o_L_law k_M_standing v_M_standing x_L_95 i_L_law_919 o_M_standing (c_M_standing hm1 hR.mo) rfl (rcv_ob hm1.1 rfl (by omega)) rfl (by decide) (Nat.le_of_ble_eq_true rfl) (Nat.zero_le _) (Nat.zero_le _) (fun r2 w2 n2 hp2 => ?_)
  obtain ⟨rfl, ⟨hM2, hF2⟩, rfl⟩ := hp2
  have hE := eqv_standing (t := gxs G (nI i + 1).toNatClampNeg) hR hCn
  refine r_icmp_eq 1744 i_L_law_922 (by decide) (fun h922 => ?_) (fun h922 => (absurd hE.1 h922))
  exact hk9 _ (law_next hX hC1 hF1 hM2 hF2 hE)
theorem law_good (hLI : LI w n) (hi : i + 6 ≤ gL G) (hL : gL G ≤ 384) (hk9 : ∀ w', LN w' n → Go G 100 299 1744 [some (.ref (gB + 201)), some (.ref 0), some (.ref 44), some (.int (nI i))] [] w' n bc bs post) : Go G 100 299 927 [some (.ref (gB + 201)), some (.ref 0), some (.ref 44), some (.int (nI i))] [] w n bc bs post := by
  obtain ⟨Q, M, K, hC, hX, hR, hQ⟩ := hLI
  obtain ⟨P, B, hCn⟩ := hR.cnt
  obtain ⟨hP7, hB7, hP, hB, hPM, hBM, -⟩ := id hCn
  have hq := hR.2.2.2.2.2.1
  have g0 := hC.ob
  have gn := hC.lt
  have gm := hX.lt44
  refine r_aload_n (i := 1) i_L_law_927 rfl rfl ?_
  refine r_aload_n (i := 0) i_L_law_928 rfl rfl ?_
  refine r_iload_n (i := 3) i_L_law_929 rfl rfl ?_
  refine r_iconst (v := (1 : Int32)) i_L_law_930 rfl ?_
  refine r_iadd i_L_law_931 ?_
  refine r_scriptAt i_L_law_932 (sc_in (k := 1) hi hL (by decide)) ?_
  refine m_virtual o_L_law k_N_good v_N_good x_L_96 i_L_law_933 o_N_good (c_N_good hC hq) rfl (rcv_ob g0 rfl (by omega)) rfl (by decide) (Nat.le_of_ble_eq_true rfl) (Nat.zero_le _) (Nat.zero_le _) (fun r1 w1 n1 hp1 => ?_)
  obtain ⟨rfl, ⟨hC1, hF1⟩, rfl⟩ := hp1
  have hm1 := (hX.cf hF1).1
  refine r_aload_n (i := 2) i_L_law_936 rfl rfl ?_
  refine r_aload_n (i := 0) i_L_law_937 rfl rfl ?_
  refine r_iload_n (i := 3) i_L_law_938 rfl rfl ?_
  refine r_iconst (v := (1 : Int32)) i_L_law_939 rfl ?_
  refine r_iadd i_L_law_940 ?_
  refine r_scriptAt i_L_law_941 (sc_in (k := 1) hi hL (by decide)) ?_
  refine m_virtual o_L_law k_M_good v_M_good x_L_99 i_L_law_942 o_M_good (c_M_good hm1 hR.mo) rfl (rcv_ob hm1.1 rfl (by omega)) rfl (by decide) (Nat.le_of_ble_eq_true rfl) (Nat.zero_le _) (Nat.zero_le _) (fun r2 w2 n2 hp2 => ?_)
  obtain ⟨rfl, ⟨hM2, hF2⟩, rfl⟩ := hp2
  have hE := eqv_good (b := gxs G (nI i + 1).toNatClampNeg) hR hQ hCn
  refine r_icmp_eq 1744 i_L_law_945 (by decide) (fun h945 => ?_) (fun h945 => (absurd hE.1 h945))
  exact hk9 _ (law_next hX hC1 hF1 hM2 hF2 hE)
theorem law_value (hLI : LI w n) (hi : i + 6 ≤ gL G) (hL : gL G ≤ 384) (hk9 : ∀ w', LN w' n → Go G 100 299 1744 [some (.ref (gB + 201)), some (.ref 0), some (.ref 44), some (.int (nI i))] [] w' n bc bs post) : Go G 100 299 950 [some (.ref (gB + 201)), some (.ref 0), some (.ref 44), some (.int (nI i))] [] w n bc bs post := by
  obtain ⟨Q, M, K, hC, hX, hR, hQ⟩ := hLI
  obtain ⟨P, B, hCn⟩ := hR.cnt
  obtain ⟨hP7, hB7, hP, hB, hPM, hBM, -⟩ := id hCn
  have hq := hR.2.2.2.2.2.1
  have g0 := hC.ob
  have gn := hC.lt
  have gm := hX.lt44
  refine r_aload_n (i := 1) i_L_law_950 rfl rfl ?_
  refine r_aload_n (i := 0) i_L_law_951 rfl rfl ?_
  refine r_iload_n (i := 3) i_L_law_952 rfl rfl ?_
  refine r_iconst (v := (1 : Int32)) i_L_law_953 rfl ?_
  refine r_iadd i_L_law_954 ?_
  refine r_scriptAt i_L_law_955 (sc_in (k := 1) hi hL (by decide)) ?_
  refine r_aload_n (i := 0) i_L_law_956 rfl rfl ?_
  refine r_iload_n (i := 3) i_L_law_957 rfl rfl ?_
  refine r_iconst (v := (2 : Int32)) i_L_law_958 rfl ?_
  refine r_iadd i_L_law_959 ?_
  refine r_scriptAt i_L_law_960 (sc_in (k := 2) hi hL (by decide)) ?_
  refine m_virtual o_L_law k_N_value v_N_value x_L_100 i_L_law_961 o_N_value (c_N_value hC hq) rfl (rcv_ob g0 rfl (by omega)) rfl (by decide) (Nat.le_of_ble_eq_true rfl) (Nat.zero_le _) (Nat.zero_le _) (fun r1 w1 n1 hp1 => ?_)
  obtain ⟨rfl, ⟨hC1, hF1⟩, rfl⟩ := hp1
  have hm1 := (hX.cf hF1).1
  refine r_aload_n (i := 2) i_L_law_964 rfl rfl ?_
  refine r_aload_n (i := 0) i_L_law_965 rfl rfl ?_
  refine r_iload_n (i := 3) i_L_law_966 rfl rfl ?_
  refine r_iconst (v := (1 : Int32)) i_L_law_967 rfl ?_
  refine r_iadd i_L_law_968 ?_
  refine r_scriptAt i_L_law_969 (sc_in (k := 1) hi hL (by decide)) ?_
  refine r_aload_n (i := 0) i_L_law_970 rfl rfl ?_
  refine r_iload_n (i := 3) i_L_law_971 rfl rfl ?_
  refine r_iconst (v := (2 : Int32)) i_L_law_972 rfl ?_
  refine r_iadd i_L_law_973 ?_
  refine r_scriptAt i_L_law_974 (sc_in (k := 2) hi hL (by decide)) ?_
  refine m_virtual o_L_law k_M_value v_M_value x_L_103 i_L_law_975 o_M_value (c_M_value hm1 hR.mo) rfl (rcv_ob hm1.1 rfl (by omega)) rfl (by decide) (Nat.le_of_ble_eq_true rfl) (Nat.zero_le _) (Nat.zero_le _) (fun r2 w2 n2 hp2 => ?_)
  obtain ⟨rfl, ⟨hM2, hF2⟩, rfl⟩ := hp2
  have hE := eqv_value (b := gxs G (nI i + 1).toNatClampNeg) (t := gxs G (nI i + 2).toNatClampNeg) hR hQ hCn
  refine r_icmp_eq 1744 i_L_law_978 (by decide) (fun h978 => ?_) (fun h978 => (absurd hE.1 h978))
  exact hk9 _ (law_next hX hC1 hF1 hM2 hF2 hE)
theorem law_name (hLI : LI w n) (hi : i + 6 ≤ gL G) (hL : gL G ≤ 384) (hk9 : ∀ w', LN w' n → Go G 100 299 1744 [some (.ref (gB + 201)), some (.ref 0), some (.ref 44), some (.int (nI i))] [] w' n bc bs post) : Go G 100 299 983 [some (.ref (gB + 201)), some (.ref 0), some (.ref 44), some (.int (nI i))] [] w n bc bs post := by
  obtain ⟨Q, M, K, hC, hX, hR, hQ⟩ := hLI
  obtain ⟨P, B, hCn⟩ := hR.cnt
  obtain ⟨hP7, hB7, hP, hB, hPM, hBM, -⟩ := id hCn
  have hq := hR.2.2.2.2.2.1
  have g0 := hC.ob
  have gn := hC.lt
  have gm := hX.lt44
  refine r_aload_n (i := 1) i_L_law_983 rfl rfl ?_
  refine r_aload_n (i := 0) i_L_law_984 rfl rfl ?_
  refine r_iload_n (i := 3) i_L_law_985 rfl rfl ?_
  refine r_iconst (v := (1 : Int32)) i_L_law_986 rfl ?_
  refine r_iadd i_L_law_987 ?_
  refine r_scriptAt i_L_law_988 (sc_in (k := 1) hi hL (by decide)) ?_
  refine r_aload_n (i := 0) i_L_law_989 rfl rfl ?_
  refine r_iload_n (i := 3) i_L_law_990 rfl rfl ?_
  refine r_iconst (v := (2 : Int32)) i_L_law_991 rfl ?_
  refine r_iadd i_L_law_992 ?_
  refine r_scriptAt i_L_law_993 (sc_in (k := 2) hi hL (by decide)) ?_
  refine r_aload_n (i := 0) i_L_law_994 rfl rfl ?_
  refine r_iload_n (i := 3) i_L_law_995 rfl rfl ?_
  refine r_iconst (v := (3 : Int32)) i_L_law_996 rfl ?_
  refine r_iadd i_L_law_997 ?_
  refine r_scriptAt i_L_law_998 (sc_in (k := 3) hi hL (by decide)) ?_
  refine m_virtual o_L_law k_N_name v_N_name x_L_104 i_L_law_999 o_N_name (c_N_name hC hq) rfl (rcv_ob g0 rfl (by omega)) rfl (by decide) (Nat.le_of_ble_eq_true rfl) (Nat.zero_le _) (Nat.zero_le _) (fun r1 w1 n1 hp1 => ?_)
  obtain ⟨rfl, ⟨hC1, hF1⟩, rfl⟩ := hp1
  have hm1 := (hX.cf hF1).1
  refine r_aload_n (i := 2) i_L_law_1002 rfl rfl ?_
  refine r_aload_n (i := 0) i_L_law_1003 rfl rfl ?_
  refine r_iload_n (i := 3) i_L_law_1004 rfl rfl ?_
  refine r_iconst (v := (1 : Int32)) i_L_law_1005 rfl ?_
  refine r_iadd i_L_law_1006 ?_
  refine r_scriptAt i_L_law_1007 (sc_in (k := 1) hi hL (by decide)) ?_
  refine r_aload_n (i := 0) i_L_law_1008 rfl rfl ?_
  refine r_iload_n (i := 3) i_L_law_1009 rfl rfl ?_
  refine r_iconst (v := (2 : Int32)) i_L_law_1010 rfl ?_
  refine r_iadd i_L_law_1011 ?_
  refine r_scriptAt i_L_law_1012 (sc_in (k := 2) hi hL (by decide)) ?_
  refine r_aload_n (i := 0) i_L_law_1013 rfl rfl ?_
  refine r_iload_n (i := 3) i_L_law_1014 rfl rfl ?_
  refine r_iconst (v := (3 : Int32)) i_L_law_1015 rfl ?_
  refine r_iadd i_L_law_1016 ?_
  refine r_scriptAt i_L_law_1017 (sc_in (k := 3) hi hL (by decide)) ?_
  refine m_virtual o_L_law k_M_name v_M_name x_L_107 i_L_law_1018 o_M_name (c_M_name hm1 hPM hP7 hBM hB7 hR.ru) rfl (rcv_ob hm1.1 rfl (by omega)) rfl (by decide) (Nat.le_of_ble_eq_true rfl) (Nat.zero_le _) (Nat.zero_le _) (fun r2 w2 n2 hp2 => ?_)
  obtain ⟨rfl, ⟨hM2, hF2⟩, rfl⟩ := hp2
  have hE := eqv_name (s := gxs G (nI i + 1).toNatClampNeg) (b := gxs G (nI i + 2).toNatClampNeg) (x := gxs G (nI i + 3).toNatClampNeg) hR hQ hCn
  refine r_icmp_eq 1744 i_L_law_1021 (by decide) (fun h1021 => ?_) (fun h1021 => (absurd hE.1 h1021))
  exact hk9 _ (law_next hX hC1 hF1 hM2 hF2 hE)
theorem law_judge (hLI : LI w n) (hi : i + 6 ≤ gL G) (hL : gL G ≤ 384) (hk9 : ∀ w', LN w' n → Go G 100 299 1744 [some (.ref (gB + 201)), some (.ref 0), some (.ref 44), some (.int (nI i))] [] w' n bc bs post) : Go G 100 299 1026 [some (.ref (gB + 201)), some (.ref 0), some (.ref 44), some (.int (nI i))] [] w n bc bs post := by
  obtain ⟨Q, M, K, hC, hX, hR, hQ⟩ := hLI
  obtain ⟨P, B, hCn⟩ := hR.cnt
  obtain ⟨hP7, hB7, hP, hB, hPM, hBM, -⟩ := id hCn
  have hq := hR.2.2.2.2.2.1
  have g0 := hC.ob
  have gn := hC.lt
  have gm := hX.lt44
  refine r_aload_n (i := 1) i_L_law_1026 rfl rfl ?_
  refine r_aload_n (i := 0) i_L_law_1027 rfl rfl ?_
  refine r_iload_n (i := 3) i_L_law_1028 rfl rfl ?_
  refine r_iconst (v := (1 : Int32)) i_L_law_1029 rfl ?_
  refine r_iadd i_L_law_1030 ?_
  refine r_scriptAt i_L_law_1031 (sc_in (k := 1) hi hL (by decide)) ?_
  refine m_virtual o_L_law k_N_judge v_N_judge x_L_108 i_L_law_1032 o_N_judge (c_N_judge hC hq) rfl (rcv_ob g0 rfl (by omega)) rfl (by decide) (Nat.le_of_ble_eq_true rfl) (Nat.zero_le _) (Nat.zero_le _) (fun r1 w1 n1 hp1 => ?_)
  obtain ⟨rfl, ⟨hC1, hF1⟩, rfl⟩ := hp1
  have hm1 := (hX.cf hF1).1
  refine r_aload_n (i := 2) i_L_law_1035 rfl rfl ?_
  refine r_aload_n (i := 0) i_L_law_1036 rfl rfl ?_
  refine r_iload_n (i := 3) i_L_law_1037 rfl rfl ?_
  refine r_iconst (v := (1 : Int32)) i_L_law_1038 rfl ?_
  refine r_iadd i_L_law_1039 ?_
  refine r_scriptAt i_L_law_1040 (sc_in (k := 1) hi hL (by decide)) ?_
  refine m_virtual o_L_law k_M_judge v_M_judge x_L_111 i_L_law_1041 o_M_judge (c_M_judge hm1 hPM hP7 hBM hB7) rfl (rcv_ob hm1.1 rfl (by omega)) rfl (by decide) (Nat.le_of_ble_eq_true rfl) (Nat.zero_le _) (Nat.zero_le _) (fun r2 w2 n2 hp2 => ?_)
  obtain ⟨rfl, ⟨hM2, hF2⟩, rfl⟩ := hp2
  have hE := eqv_judge (s := gxs G (nI i + 1).toNatClampNeg) hR hQ hCn
  refine r_icmp_eq 1744 i_L_law_1044 (by decide) (fun h1044 => ?_) (fun h1044 => (absurd hE.1 h1044))
  exact hk9 _ (law_next hX hC1 hF1 hM2 hF2 hE)
theorem law_told (hLI : LI w n) (hi : i + 6 ≤ gL G) (hL : gL G ≤ 384) (hk9 : ∀ w', LN w' n → Go G 100 299 1744 [some (.ref (gB + 201)), some (.ref 0), some (.ref 44), some (.int (nI i))] [] w' n bc bs post) : Go G 100 299 1049 [some (.ref (gB + 201)), some (.ref 0), some (.ref 44), some (.int (nI i))] [] w n bc bs post := by
  obtain ⟨Q, M, K, hC, hX, hR, hQ⟩ := hLI
  obtain ⟨P, B, hCn⟩ := hR.cnt
  obtain ⟨hP7, hB7, hP, hB, hPM, hBM, -⟩ := id hCn
  have hq := hR.2.2.2.2.2.1
  have g0 := hC.ob
  have gn := hC.lt
  have gm := hX.lt44
  refine r_aload_n (i := 1) i_L_law_1049 rfl rfl ?_
  refine r_aload_n (i := 0) i_L_law_1050 rfl rfl ?_
  refine r_iload_n (i := 3) i_L_law_1051 rfl rfl ?_
  refine r_iconst (v := (1 : Int32)) i_L_law_1052 rfl ?_
  refine r_iadd i_L_law_1053 ?_
  refine r_scriptAt i_L_law_1054 (sc_in (k := 1) hi hL (by decide)) ?_
  refine r_aload_n (i := 0) i_L_law_1055 rfl rfl ?_
  refine r_iload_n (i := 3) i_L_law_1056 rfl rfl ?_
  refine r_iconst (v := (2 : Int32)) i_L_law_1057 rfl ?_
  refine r_iadd i_L_law_1058 ?_
  refine r_scriptAt i_L_law_1059 (sc_in (k := 2) hi hL (by decide)) ?_
  refine m_virtual o_L_law k_N_told v_N_told x_L_112 i_L_law_1060 o_N_told (c_N_told hC hq) rfl (rcv_ob g0 rfl (by omega)) rfl (by decide) (Nat.le_of_ble_eq_true rfl) (Nat.zero_le _) (Nat.zero_le _) (fun r1 w1 n1 hp1 => ?_)
  obtain ⟨rfl, ⟨hC1, hF1⟩, rfl⟩ := hp1
  have hm1 := (hX.cf hF1).1
  refine r_aload_n (i := 2) i_L_law_1063 rfl rfl ?_
  refine r_aload_n (i := 0) i_L_law_1064 rfl rfl ?_
  refine r_iload_n (i := 3) i_L_law_1065 rfl rfl ?_
  refine r_iconst (v := (1 : Int32)) i_L_law_1066 rfl ?_
  refine r_iadd i_L_law_1067 ?_
  refine r_scriptAt i_L_law_1068 (sc_in (k := 1) hi hL (by decide)) ?_
  refine r_aload_n (i := 0) i_L_law_1069 rfl rfl ?_
  refine r_iload_n (i := 3) i_L_law_1070 rfl rfl ?_
  refine r_iconst (v := (2 : Int32)) i_L_law_1071 rfl ?_
  refine r_iadd i_L_law_1072 ?_
  refine r_scriptAt i_L_law_1073 (sc_in (k := 2) hi hL (by decide)) ?_
  refine m_virtual o_L_law k_M_told v_M_told x_L_115 i_L_law_1074 o_M_told (c_M_told hm1 hPM hP7 hBM hB7) rfl (rcv_ob hm1.1 rfl (by omega)) rfl (by decide) (Nat.le_of_ble_eq_true rfl) (Nat.zero_le _) (Nat.zero_le _) (fun r2 w2 n2 hp2 => ?_)
  obtain ⟨rfl, ⟨hM2, hF2⟩, rfl⟩ := hp2
  have hE := eqv_told (s := gxs G (nI i + 1).toNatClampNeg) (q := gxs G (nI i + 2).toNatClampNeg) hR hQ hCn
  refine r_icmp_eq 1744 i_L_law_1077 (by decide) (fun h1077 => ?_) (fun h1077 => (absurd hE.1 h1077))
  exact hk9 _ (law_next hX hC1 hF1 hM2 hF2 hE)
theorem law_by (hLI : LI w n) (hi : i + 6 ≤ gL G) (hL : gL G ≤ 384) (hk9 : ∀ w', LN w' n → Go G 100 299 1744 [some (.ref (gB + 201)), some (.ref 0), some (.ref 44), some (.int (nI i))] [] w' n bc bs post) : Go G 100 299 1082 [some (.ref (gB + 201)), some (.ref 0), some (.ref 44), some (.int (nI i))] [] w n bc bs post := by
  obtain ⟨Q, M, K, hC, hX, hR, hQ⟩ := hLI
  obtain ⟨P, B, hCn⟩ := hR.cnt
  obtain ⟨hP7, hB7, hP, hB, hPM, hBM, -⟩ := id hCn
  have hq := hR.2.2.2.2.2.1
  have g0 := hC.ob
  have gn := hC.lt
  have gm := hX.lt44
  refine r_aload_n (i := 1) i_L_law_1082 rfl rfl ?_
  refine r_aload_n (i := 0) i_L_law_1083 rfl rfl ?_
  refine r_iload_n (i := 3) i_L_law_1084 rfl rfl ?_
  refine r_iconst (v := (1 : Int32)) i_L_law_1085 rfl ?_
  refine r_iadd i_L_law_1086 ?_
  refine r_scriptAt i_L_law_1087 (sc_in (k := 1) hi hL (by decide)) ?_
  refine r_aload_n (i := 0) i_L_law_1088 rfl rfl ?_
  refine r_iload_n (i := 3) i_L_law_1089 rfl rfl ?_
  refine r_iconst (v := (2 : Int32)) i_L_law_1090 rfl ?_
  refine r_iadd i_L_law_1091 ?_
  refine r_scriptAt i_L_law_1092 (sc_in (k := 2) hi hL (by decide)) ?_
  refine m_virtual o_L_law k_N_by v_N_by x_L_116 i_L_law_1093 o_N_by (c_N_by hC hq) rfl (rcv_ob g0 rfl (by omega)) rfl (by decide) (Nat.le_of_ble_eq_true rfl) (Nat.zero_le _) (Nat.zero_le _) (fun r1 w1 n1 hp1 => ?_)
  obtain ⟨rfl, ⟨hC1, hF1⟩, rfl⟩ := hp1
  have hm1 := (hX.cf hF1).1
  refine r_aload_n (i := 2) i_L_law_1096 rfl rfl ?_
  refine r_aload_n (i := 0) i_L_law_1097 rfl rfl ?_
  refine r_iload_n (i := 3) i_L_law_1098 rfl rfl ?_
  refine r_iconst (v := (1 : Int32)) i_L_law_1099 rfl ?_
  refine r_iadd i_L_law_1100 ?_
  refine r_scriptAt i_L_law_1101 (sc_in (k := 1) hi hL (by decide)) ?_
  refine r_aload_n (i := 0) i_L_law_1102 rfl rfl ?_
  refine r_iload_n (i := 3) i_L_law_1103 rfl rfl ?_
  refine r_iconst (v := (2 : Int32)) i_L_law_1104 rfl ?_
  refine r_iadd i_L_law_1105 ?_
  refine r_scriptAt i_L_law_1106 (sc_in (k := 2) hi hL (by decide)) ?_
  refine m_virtual o_L_law k_M_by v_M_by x_L_119 i_L_law_1107 o_M_by (c_M_by hm1 hPM hP7 hBM hB7 hR.ru) rfl (rcv_ob hm1.1 rfl (by omega)) rfl (by decide) (Nat.le_of_ble_eq_true rfl) (Nat.zero_le _) (Nat.zero_le _) (fun r2 w2 n2 hp2 => ?_)
  obtain ⟨rfl, ⟨hM2, hF2⟩, rfl⟩ := hp2
  have hE := eqv_by (s := gxs G (nI i + 1).toNatClampNeg) (q := gxs G (nI i + 2).toNatClampNeg) hR hQ hCn
  refine r_icmp_eq 1744 i_L_law_1110 (by decide) (fun h1110 => ?_) (fun h1110 => (absurd hE.1 h1110))
  exact hk9 _ (law_next hX hC1 hF1 hM2 hF2 hE)
theorem law_head (hLI : LI w n) (hi : i + 6 ≤ gL G) (hL : gL G ≤ 384) (hk9 : ∀ w', LN w' n → Go G 100 299 1744 [some (.ref (gB + 201)), some (.ref 0), some (.ref 44), some (.int (nI i))] [] w' n bc bs post) : Go G 100 299 1115 [some (.ref (gB + 201)), some (.ref 0), some (.ref 44), some (.int (nI i))] [] w n bc bs post := by
  obtain ⟨Q, M, K, hC, hX, hR, hQ⟩ := hLI
  obtain ⟨P, B, hCn⟩ := hR.cnt
  obtain ⟨hP7, hB7, hP, hB, hPM, hBM, -⟩ := id hCn
  have hq := hR.2.2.2.2.2.1
  have g0 := hC.ob
  have gn := hC.lt
  have gm := hX.lt44
  refine r_aload_n (i := 1) i_L_law_1115 rfl rfl ?_
  refine m_virtual o_L_law k_N_head v_N_head x_L_120 i_L_law_1116 o_N_head (c_N_head hC hq) rfl (rcv_ob g0 rfl (by omega)) rfl (by decide) (Nat.le_of_ble_eq_true rfl) (Nat.zero_le _) (Nat.zero_le _) (fun r1 w1 n1 hp1 => ?_)
  obtain ⟨rfl, ⟨hC1, hF1⟩, rfl⟩ := hp1
  have hm1 := (hX.cf hF1).1
  refine r_aload_n (i := 2) i_L_law_1119 rfl rfl ?_
  refine m_virtual o_L_law k_M_head v_M_head x_L_123 i_L_law_1120 o_M_head (c_M_head hm1 hPM hP7 hBM hB7 hR.ru) rfl (rcv_ob hm1.1 rfl (by omega)) rfl (by decide) (Nat.le_of_ble_eq_true rfl) (Nat.zero_le _) (Nat.zero_le _) (fun r2 w2 n2 hp2 => ?_)
  obtain ⟨rfl, ⟨hM2, hF2⟩, rfl⟩ := hp2
  have hE := eqv_head  hR hQ hCn
  refine r_icmp_eq 1744 i_L_law_1123 (by decide) (fun h1123 => ?_) (fun h1123 => (absurd hE.1 h1123))
  exact hk9 _ (law_next hX hC1 hF1 hM2 hF2 hE)
theorem law_lives (hLI : LI w n) (hi : i + 6 ≤ gL G) (hL : gL G ≤ 384) (hk9 : ∀ w', LN w' n → Go G 100 299 1744 [some (.ref (gB + 201)), some (.ref 0), some (.ref 44), some (.int (nI i))] [] w' n bc bs post) : Go G 100 299 1128 [some (.ref (gB + 201)), some (.ref 0), some (.ref 44), some (.int (nI i))] [] w n bc bs post := by
  obtain ⟨Q, M, K, hC, hX, hR, hQ⟩ := hLI
  obtain ⟨P, B, hCn⟩ := hR.cnt
  obtain ⟨hP7, hB7, hP, hB, hPM, hBM, -⟩ := id hCn
  have hq := hR.2.2.2.2.2.1
  have g0 := hC.ob
  have gn := hC.lt
  have gm := hX.lt44
  refine r_aload_n (i := 1) i_L_law_1128 rfl rfl ?_
  refine r_aload_n (i := 0) i_L_law_1129 rfl rfl ?_
  refine r_iload_n (i := 3) i_L_law_1130 rfl rfl ?_
  refine r_iconst (v := (1 : Int32)) i_L_law_1131 rfl ?_
  refine r_iadd i_L_law_1132 ?_
  refine r_scriptAt i_L_law_1133 (sc_in (k := 1) hi hL (by decide)) ?_
  refine m_virtual o_L_law k_N_lives v_N_lives x_L_124 i_L_law_1134 o_N_lives (c_N_lives hC hq) rfl (rcv_ob g0 rfl (by omega)) rfl (by decide) (Nat.le_of_ble_eq_true rfl) (Nat.zero_le _) (Nat.zero_le _) (fun r1 w1 n1 hp1 => ?_)
  obtain ⟨rfl, ⟨hC1, hF1⟩, rfl⟩ := hp1
  have hm1 := (hX.cf hF1).1
  refine r_aload_n (i := 2) i_L_law_1137 rfl rfl ?_
  refine r_aload_n (i := 0) i_L_law_1138 rfl rfl ?_
  refine r_iload_n (i := 3) i_L_law_1139 rfl rfl ?_
  refine r_iconst (v := (1 : Int32)) i_L_law_1140 rfl ?_
  refine r_iadd i_L_law_1141 ?_
  refine r_scriptAt i_L_law_1142 (sc_in (k := 1) hi hL (by decide)) ?_
  refine m_virtual o_L_law k_M_lives v_M_lives x_L_127 i_L_law_1143 o_M_lives (c_M_lives hm1 hPM hP7 hBM hB7 hR.ru hCn.pm) rfl (rcv_ob hm1.1 rfl (by omega)) rfl (by decide) (Nat.le_of_ble_eq_true rfl) (Nat.zero_le _) (Nat.zero_le _) (fun r2 w2 n2 hp2 => ?_)
  obtain ⟨rfl, ⟨hM2, hF2⟩, rfl⟩ := hp2
  have hE := eqv_lives (s := gxs G (nI i + 1).toNatClampNeg) hR hQ hCn
  refine r_icmp_eq 1744 i_L_law_1146 (by decide) (fun h1146 => ?_) (fun h1146 => (absurd hE.1 h1146))
  exact hk9 _ (law_next hX hC1 hF1 hM2 hF2 hE)
theorem law_makes (hLI : LI w n) (hi : i + 6 ≤ gL G) (hL : gL G ≤ 384) (hk9 : ∀ w', LN w' n → Go G 100 299 1744 [some (.ref (gB + 201)), some (.ref 0), some (.ref 44), some (.int (nI i))] [] w' n bc bs post) : Go G 100 299 1151 [some (.ref (gB + 201)), some (.ref 0), some (.ref 44), some (.int (nI i))] [] w n bc bs post := by
  obtain ⟨Q, M, K, hC, hX, hR, hQ⟩ := hLI
  obtain ⟨P, B, hCn⟩ := hR.cnt
  obtain ⟨hP7, hB7, hP, hB, hPM, hBM, -⟩ := id hCn
  have hq := hR.2.2.2.2.2.1
  have g0 := hC.ob
  have gn := hC.lt
  have gm := hX.lt44
  refine r_aload_n (i := 1) i_L_law_1151 rfl rfl ?_
  refine r_aload_n (i := 0) i_L_law_1152 rfl rfl ?_
  refine r_iload_n (i := 3) i_L_law_1153 rfl rfl ?_
  refine r_iconst (v := (1 : Int32)) i_L_law_1154 rfl ?_
  refine r_iadd i_L_law_1155 ?_
  refine r_scriptAt i_L_law_1156 (sc_in (k := 1) hi hL (by decide)) ?_
  refine m_virtual o_L_law k_N_makes v_N_makes x_L_128 i_L_law_1157 o_N_makes (c_N_makes hC hq) rfl (rcv_ob g0 rfl (by omega)) rfl (by decide) (Nat.le_of_ble_eq_true rfl) (Nat.zero_le _) (Nat.zero_le _) (fun r1 w1 n1 hp1 => ?_)
  obtain ⟨rfl, ⟨hC1, hF1⟩, rfl⟩ := hp1
  have hm1 := (hX.cf hF1).1
  refine r_aload_n (i := 2) i_L_law_1160 rfl rfl ?_
  refine r_aload_n (i := 0) i_L_law_1161 rfl rfl ?_
  refine r_iload_n (i := 3) i_L_law_1162 rfl rfl ?_
  refine r_iconst (v := (1 : Int32)) i_L_law_1163 rfl ?_
  refine r_iadd i_L_law_1164 ?_
  refine r_scriptAt i_L_law_1165 (sc_in (k := 1) hi hL (by decide)) ?_
  refine m_virtual o_L_law k_M_makes v_M_makes x_L_131 i_L_law_1166 o_M_makes (c_M_makes hm1 hPM hP7 hBM hB7 hCn.pm) rfl (rcv_ob hm1.1 rfl (by omega)) rfl (by decide) (Nat.le_of_ble_eq_true rfl) (Nat.zero_le _) (Nat.zero_le _) (fun r2 w2 n2 hp2 => ?_)
  obtain ⟨rfl, ⟨hM2, hF2⟩, rfl⟩ := hp2
  have hE := eqv_makes (s := gxs G (nI i + 1).toNatClampNeg) hR hQ hCn
  refine r_icmp_eq 1744 i_L_law_1169 (by decide) (fun h1169 => ?_) (fun h1169 => (absurd hE.1 h1169))
  exact hk9 _ (law_next hX hC1 hF1 hM2 hF2 hE)
theorem law_best (hLI : LI w n) (hi : i + 6 ≤ gL G) (hL : gL G ≤ 384) (hk9 : ∀ w', LN w' n → Go G 100 299 1744 [some (.ref (gB + 201)), some (.ref 0), some (.ref 44), some (.int (nI i))] [] w' n bc bs post) : Go G 100 299 1174 [some (.ref (gB + 201)), some (.ref 0), some (.ref 44), some (.int (nI i))] [] w n bc bs post := by
  obtain ⟨Q, M, K, hC, hX, hR, hQ⟩ := hLI
  obtain ⟨P, B, hCn⟩ := hR.cnt
  obtain ⟨hP7, hB7, hP, hB, hPM, hBM, -⟩ := id hCn
  have hq := hR.2.2.2.2.2.1
  have g0 := hC.ob
  have gn := hC.lt
  have gm := hX.lt44
  refine r_aload_n (i := 1) i_L_law_1174 rfl rfl ?_
  refine m_virtual o_L_law k_N_best v_N_best x_L_132 i_L_law_1175 o_N_best (c_N_best hC hq) rfl (rcv_ob g0 rfl (by omega)) rfl (by decide) (Nat.le_of_ble_eq_true rfl) (Nat.zero_le _) (Nat.zero_le _) (fun r1 w1 n1 hp1 => ?_)
  obtain ⟨rfl, ⟨hC1, hF1⟩, rfl⟩ := hp1
  have hm1 := (hX.cf hF1).1
  refine r_aload_n (i := 2) i_L_law_1178 rfl rfl ?_
  refine m_virtual o_L_law k_M_best v_M_best x_L_135 i_L_law_1179 o_M_best (c_M_best hm1 hBM hB7 hPM hP7) rfl (rcv_ob hm1.1 rfl (by omega)) rfl (by decide) (Nat.le_of_ble_eq_true rfl) (Nat.zero_le _) (Nat.zero_le _) (fun r2 w2 n2 hp2 => ?_)
  obtain ⟨rfl, ⟨hM2, hF2⟩, rfl⟩ := hp2
  have hE := eqv_best  hR hCn
  refine r_icmp_eq 1744 i_L_law_1182 (by decide) (fun h1182 => ?_) (fun h1182 => (absurd hE.1 h1182))
  exact hk9 _ (law_next hX hC1 hF1 hM2 hF2 hE)
theorem law_bestOf (hLI : LI w n) (hi : i + 6 ≤ gL G) (hL : gL G ≤ 384) (hk9 : ∀ w', LN w' n → Go G 100 299 1744 [some (.ref (gB + 201)), some (.ref 0), some (.ref 44), some (.int (nI i))] [] w' n bc bs post) : Go G 100 299 1187 [some (.ref (gB + 201)), some (.ref 0), some (.ref 44), some (.int (nI i))] [] w n bc bs post := by
  obtain ⟨Q, M, K, hC, hX, hR, hQ⟩ := hLI
  obtain ⟨P, B, hCn⟩ := hR.cnt
  obtain ⟨hP7, hB7, hP, hB, hPM, hBM, -⟩ := id hCn
  have hq := hR.2.2.2.2.2.1
  have g0 := hC.ob
  have gn := hC.lt
  have gm := hX.lt44
  refine r_aload_n (i := 1) i_L_law_1187 rfl rfl ?_
  refine r_aload_n (i := 0) i_L_law_1188 rfl rfl ?_
  refine r_iload_n (i := 3) i_L_law_1189 rfl rfl ?_
  refine r_iconst (v := (1 : Int32)) i_L_law_1190 rfl ?_
  refine r_iadd i_L_law_1191 ?_
  refine r_scriptAt i_L_law_1192 (sc_in (k := 1) hi hL (by decide)) ?_
  refine m_virtual o_L_law k_N_bestOf v_N_bestOf x_L_136 i_L_law_1193 o_N_bestOf (c_N_bestOf hC hq) rfl (rcv_ob g0 rfl (by omega)) rfl (by decide) (Nat.le_of_ble_eq_true rfl) (Nat.zero_le _) (Nat.zero_le _) (fun r1 w1 n1 hp1 => ?_)
  obtain ⟨rfl, ⟨hC1, hF1⟩, rfl⟩ := hp1
  have hm1 := (hX.cf hF1).1
  refine r_aload_n (i := 2) i_L_law_1196 rfl rfl ?_
  refine r_aload_n (i := 0) i_L_law_1197 rfl rfl ?_
  refine r_iload_n (i := 3) i_L_law_1198 rfl rfl ?_
  refine r_iconst (v := (1 : Int32)) i_L_law_1199 rfl ?_
  refine r_iadd i_L_law_1200 ?_
  refine r_scriptAt i_L_law_1201 (sc_in (k := 1) hi hL (by decide)) ?_
  refine m_virtual o_L_law k_M_bestOf v_M_bestOf x_L_139 i_L_law_1202 o_M_bestOf (c_M_bestOf hm1 hBM hB7 hPM hP7) rfl (rcv_ob hm1.1 rfl (by omega)) rfl (by decide) (Nat.le_of_ble_eq_true rfl) (Nat.zero_le _) (Nat.zero_le _) (fun r2 w2 n2 hp2 => ?_)
  obtain ⟨rfl, ⟨hM2, hF2⟩, rfl⟩ := hp2
  have hE := eqv_bestOf (b := gxs G (nI i + 1).toNatClampNeg) hR hCn
  refine r_icmp_eq 1744 i_L_law_1205 (by decide) (fun h1205 => ?_) (fun h1205 => (absurd hE.1 h1205))
  exact hk9 _ (law_next hX hC1 hF1 hM2 hF2 hE)
theorem law_worth (hLI : LI w n) (hi : i + 6 ≤ gL G) (hL : gL G ≤ 384) (hk9 : ∀ w', LN w' n → Go G 100 299 1744 [some (.ref (gB + 201)), some (.ref 0), some (.ref 44), some (.int (nI i))] [] w' n bc bs post) : Go G 100 299 1210 [some (.ref (gB + 201)), some (.ref 0), some (.ref 44), some (.int (nI i))] [] w n bc bs post := by
  obtain ⟨Q, M, K, hC, hX, hR, hQ⟩ := hLI
  obtain ⟨P, B, hCn⟩ := hR.cnt
  obtain ⟨hP7, hB7, hP, hB, hPM, hBM, -⟩ := id hCn
  have hq := hR.2.2.2.2.2.1
  have g0 := hC.ob
  have gn := hC.lt
  have gm := hX.lt44
  refine r_aload_n (i := 1) i_L_law_1210 rfl rfl ?_
  refine r_aload_n (i := 0) i_L_law_1211 rfl rfl ?_
  refine r_iload_n (i := 3) i_L_law_1212 rfl rfl ?_
  refine r_iconst (v := (1 : Int32)) i_L_law_1213 rfl ?_
  refine r_iadd i_L_law_1214 ?_
  refine r_scriptAt i_L_law_1215 (sc_in (k := 1) hi hL (by decide)) ?_
  refine m_virtual o_L_law k_N_worth v_N_worth x_L_140 i_L_law_1216 o_N_worth (c_N_worth hC hq) rfl (rcv_ob g0 rfl (by omega)) rfl (by decide) (Nat.le_of_ble_eq_true rfl) (Nat.zero_le _) (Nat.zero_le _) (fun r1 w1 n1 hp1 => ?_)
  obtain ⟨rfl, ⟨hC1, hF1⟩, rfl⟩ := hp1
  have hm1 := (hX.cf hF1).1
  refine r_aload_n (i := 2) i_L_law_1219 rfl rfl ?_
  refine r_aload_n (i := 0) i_L_law_1220 rfl rfl ?_
  refine r_iload_n (i := 3) i_L_law_1221 rfl rfl ?_
  refine r_iconst (v := (1 : Int32)) i_L_law_1222 rfl ?_
  refine r_iadd i_L_law_1223 ?_
  refine r_scriptAt i_L_law_1224 (sc_in (k := 1) hi hL (by decide)) ?_
  refine m_virtual o_L_law k_M_worth v_M_worth x_L_143 i_L_law_1225 o_M_worth (c_M_worth hm1 hBM hB7 hPM hP7) rfl (rcv_ob hm1.1 rfl (by omega)) rfl (by decide) (Nat.le_of_ble_eq_true rfl) (Nat.zero_le _) (Nat.zero_le _) (fun r2 w2 n2 hp2 => ?_)
  obtain ⟨rfl, ⟨hM2, hF2⟩, rfl⟩ := hp2
  have hE := eqv_worth (i := gxs G (nI i + 1).toNatClampNeg) hR hCn
  refine r_icmp_eq 1744 i_L_law_1228 (by decide) (fun h1228 => ?_) (fun h1228 => (absurd hE.1 h1228))
  exact hk9 _ (law_next hX hC1 hF1 hM2 hF2 hE)
theorem law_dearest (hLI : LI w n) (hi : i + 6 ≤ gL G) (hL : gL G ≤ 384) (hk9 : ∀ w', LN w' n → Go G 100 299 1744 [some (.ref (gB + 201)), some (.ref 0), some (.ref 44), some (.int (nI i))] [] w' n bc bs post) : Go G 100 299 1233 [some (.ref (gB + 201)), some (.ref 0), some (.ref 44), some (.int (nI i))] [] w n bc bs post := by
  obtain ⟨Q, M, K, hC, hX, hR, hQ⟩ := hLI
  obtain ⟨P, B, hCn⟩ := hR.cnt
  obtain ⟨hP7, hB7, hP, hB, hPM, hBM, -⟩ := id hCn
  have hq := hR.2.2.2.2.2.1
  have g0 := hC.ob
  have gn := hC.lt
  have gm := hX.lt44
  refine r_aload_n (i := 1) i_L_law_1233 rfl rfl ?_
  refine m_virtual o_L_law k_N_dearest v_N_dearest x_L_144 i_L_law_1234 o_N_dearest (c_N_dearest hC hq) rfl (rcv_ob g0 rfl (by omega)) rfl (by decide) (Nat.le_of_ble_eq_true rfl) (Nat.zero_le _) (Nat.zero_le _) (fun r1 w1 n1 hp1 => ?_)
  obtain ⟨rfl, ⟨hC1, hF1⟩, rfl⟩ := hp1
  have hm1 := (hX.cf hF1).1
  refine r_aload_n (i := 2) i_L_law_1237 rfl rfl ?_
  refine m_virtual o_L_law k_M_dearest v_M_dearest x_L_147 i_L_law_1238 o_M_dearest (c_M_dearest hm1 hBM hB7 hPM hP7) rfl (rcv_ob hm1.1 rfl (by omega)) rfl (by decide) (Nat.le_of_ble_eq_true rfl) (Nat.zero_le _) (Nat.zero_le _) (fun r2 w2 n2 hp2 => ?_)
  obtain ⟨rfl, ⟨hM2, hF2⟩, rfl⟩ := hp2
  have hE := eqv_dearest  hR hCn
  refine r_icmp_eq 1744 i_L_law_1241 (by decide) (fun h1241 => ?_) (fun h1241 => (absurd hE.1 h1241))
  exact hk9 _ (law_next hX hC1 hF1 hM2 hF2 hE)
theorem law_gap (hLI : LI w n) (hi : i + 6 ≤ gL G) (hL : gL G ≤ 384) (hk9 : ∀ w', LN w' n → Go G 100 299 1744 [some (.ref (gB + 201)), some (.ref 0), some (.ref 44), some (.int (nI i))] [] w' n bc bs post) : Go G 100 299 1246 [some (.ref (gB + 201)), some (.ref 0), some (.ref 44), some (.int (nI i))] [] w n bc bs post := by
  obtain ⟨Q, M, K, hC, hX, hR, hQ⟩ := hLI
  obtain ⟨P, B, hCn⟩ := hR.cnt
  obtain ⟨hP7, hB7, hP, hB, hPM, hBM, -⟩ := id hCn
  have hq := hR.2.2.2.2.2.1
  have g0 := hC.ob
  have gn := hC.lt
  have gm := hX.lt44
  refine r_aload_n (i := 1) i_L_law_1246 rfl rfl ?_
  refine r_aload_n (i := 0) i_L_law_1247 rfl rfl ?_
  refine r_iload_n (i := 3) i_L_law_1248 rfl rfl ?_
  refine r_iconst (v := (1 : Int32)) i_L_law_1249 rfl ?_
  refine r_iadd i_L_law_1250 ?_
  refine r_scriptAt i_L_law_1251 (sc_in (k := 1) hi hL (by decide)) ?_
  refine m_virtual o_L_law k_N_gap v_N_gap x_L_148 i_L_law_1252 o_N_gap (c_N_gap hC hq) rfl (rcv_ob g0 rfl (by omega)) rfl (by decide) (Nat.le_of_ble_eq_true rfl) (Nat.zero_le _) (Nat.zero_le _) (fun r1 w1 n1 hp1 => ?_)
  obtain ⟨rfl, ⟨hC1, hF1⟩, rfl⟩ := hp1
  have hm1 := (hX.cf hF1).1
  refine r_aload_n (i := 2) i_L_law_1255 rfl rfl ?_
  refine r_aload_n (i := 0) i_L_law_1256 rfl rfl ?_
  refine r_iload_n (i := 3) i_L_law_1257 rfl rfl ?_
  refine r_iconst (v := (1 : Int32)) i_L_law_1258 rfl ?_
  refine r_iadd i_L_law_1259 ?_
  refine r_scriptAt i_L_law_1260 (sc_in (k := 1) hi hL (by decide)) ?_
  refine m_virtual o_L_law k_M_gap v_M_gap x_L_151 i_L_law_1261 o_M_gap (c_M_gap hm1 hPM hP7 hBM hB7 hR.ru) rfl (rcv_ob hm1.1 rfl (by omega)) rfl (by decide) (Nat.le_of_ble_eq_true rfl) (Nat.zero_le _) (Nat.zero_le _) (fun r2 w2 n2 hp2 => ?_)
  obtain ⟨rfl, ⟨hM2, hF2⟩, rfl⟩ := hp2
  have hE := eqv_gap (s := gxs G (nI i + 1).toNatClampNeg) hR hQ hCn
  refine r_icmp_eq 1744 i_L_law_1264 (by decide) (fun h1264 => ?_) (fun h1264 => (absurd hE.1 h1264))
  exact hk9 _ (law_next hX hC1 hF1 hM2 hF2 hE)
theorem law_fewest (hLI : LI w n) (hi : i + 6 ≤ gL G) (hL : gL G ≤ 384) (hk9 : ∀ w', LN w' n → Go G 100 299 1744 [some (.ref (gB + 201)), some (.ref 0), some (.ref 44), some (.int (nI i))] [] w' n bc bs post) : Go G 100 299 1269 [some (.ref (gB + 201)), some (.ref 0), some (.ref 44), some (.int (nI i))] [] w n bc bs post := by
  obtain ⟨Q, M, K, hC, hX, hR, hQ⟩ := hLI
  obtain ⟨P, B, hCn⟩ := hR.cnt
  obtain ⟨hP7, hB7, hP, hB, hPM, hBM, -⟩ := id hCn
  have hq := hR.2.2.2.2.2.1
  have g0 := hC.ob
  have gn := hC.lt
  have gm := hX.lt44
  refine r_aload_n (i := 1) i_L_law_1269 rfl rfl ?_
  refine m_virtual o_L_law k_N_fewest v_N_fewest x_L_152 i_L_law_1270 o_N_fewest (c_N_fewest hC hq) rfl (rcv_ob g0 rfl (by omega)) rfl (by decide) (Nat.le_of_ble_eq_true rfl) (Nat.zero_le _) (Nat.zero_le _) (fun r1 w1 n1 hp1 => ?_)
  obtain ⟨rfl, ⟨hC1, hF1⟩, rfl⟩ := hp1
  have hm1 := (hX.cf hF1).1
  refine r_aload_n (i := 2) i_L_law_1273 rfl rfl ?_
  refine m_virtual o_L_law k_M_fewest v_M_fewest x_L_155 i_L_law_1274 o_M_fewest (c_M_fewest hm1 hBM hB7 hPM hP7) rfl (rcv_ob hm1.1 rfl (by omega)) rfl (by decide) (Nat.le_of_ble_eq_true rfl) (Nat.zero_le _) (Nat.zero_le _) (fun r2 w2 n2 hp2 => ?_)
  obtain ⟨rfl, ⟨hM2, hF2⟩, rfl⟩ := hp2
  have hE := eqv_fewest  hR hCn
  refine r_icmp_eq 1744 i_L_law_1277 (by decide) (fun h1277 => ?_) (fun h1277 => (absurd hE.1 h1277))
  exact hk9 _ (law_next hX hC1 hF1 hM2 hF2 hE)
theorem law_richest (hLI : LI w n) (hi : i + 6 ≤ gL G) (hL : gL G ≤ 384) (hk9 : ∀ w', LN w' n → Go G 100 299 1744 [some (.ref (gB + 201)), some (.ref 0), some (.ref 44), some (.int (nI i))] [] w' n bc bs post) : Go G 100 299 1282 [some (.ref (gB + 201)), some (.ref 0), some (.ref 44), some (.int (nI i))] [] w n bc bs post := by
  obtain ⟨Q, M, K, hC, hX, hR, hQ⟩ := hLI
  obtain ⟨P, B, hCn⟩ := hR.cnt
  obtain ⟨hP7, hB7, hP, hB, hPM, hBM, -⟩ := id hCn
  have hq := hR.2.2.2.2.2.1
  have g0 := hC.ob
  have gn := hC.lt
  have gm := hX.lt44
  refine r_aload_n (i := 1) i_L_law_1282 rfl rfl ?_
  refine m_virtual o_L_law k_N_richest v_N_richest x_L_156 i_L_law_1283 o_N_richest (c_N_richest hC hq) rfl (rcv_ob g0 rfl (by omega)) rfl (by decide) (Nat.le_of_ble_eq_true rfl) (Nat.zero_le _) (Nat.zero_le _) (fun r1 w1 n1 hp1 => ?_)
  obtain ⟨rfl, ⟨hC1, hF1⟩, rfl⟩ := hp1
  have hm1 := (hX.cf hF1).1
  refine r_aload_n (i := 2) i_L_law_1286 rfl rfl ?_
  refine m_virtual o_L_law k_M_richest v_M_richest x_L_159 i_L_law_1287 o_M_richest (c_M_richest hm1 hPM hP7) rfl (rcv_ob hm1.1 rfl (by omega)) rfl (by decide) (Nat.le_of_ble_eq_true rfl) (Nat.zero_le _) (Nat.zero_le _) (fun r2 w2 n2 hp2 => ?_)
  obtain ⟨rfl, ⟨hM2, hF2⟩, rfl⟩ := hp2
  have hE := eqv_richest  hR hQ hCn
  refine r_icmp_eq 1744 i_L_law_1290 (by decide) (fun h1290 => ?_) (fun h1290 => (absurd hE.1 h1290))
  exact hk9 _ (law_next hX hC1 hF1 hM2 hF2 hE)
theorem law_alone (hLI : LI w n) (hi : i + 6 ≤ gL G) (hL : gL G ≤ 384) (hk9 : ∀ w', LN w' n → Go G 100 299 1744 [some (.ref (gB + 201)), some (.ref 0), some (.ref 44), some (.int (nI i))] [] w' n bc bs post) : Go G 100 299 1295 [some (.ref (gB + 201)), some (.ref 0), some (.ref 44), some (.int (nI i))] [] w n bc bs post := by
  obtain ⟨Q, M, K, hC, hX, hR, hQ⟩ := hLI
  obtain ⟨P, B, hCn⟩ := hR.cnt
  obtain ⟨hP7, hB7, hP, hB, hPM, hBM, -⟩ := id hCn
  have hq := hR.2.2.2.2.2.1
  have g0 := hC.ob
  have gn := hC.lt
  have gm := hX.lt44
  refine r_aload_n (i := 1) i_L_law_1295 rfl rfl ?_
  refine r_aload_n (i := 0) i_L_law_1296 rfl rfl ?_
  refine r_iload_n (i := 3) i_L_law_1297 rfl rfl ?_
  refine r_iconst (v := (1 : Int32)) i_L_law_1298 rfl ?_
  refine r_iadd i_L_law_1299 ?_
  refine r_scriptAt i_L_law_1300 (sc_in (k := 1) hi hL (by decide)) ?_
  refine m_virtual o_L_law k_N_alone v_N_alone x_L_160 i_L_law_1301 o_N_alone (c_N_alone hC hq) rfl (rcv_ob g0 rfl (by omega)) rfl (by decide) (Nat.le_of_ble_eq_true rfl) (Nat.zero_le _) (Nat.zero_le _) (fun r1 w1 n1 hp1 => ?_)
  obtain ⟨rfl, ⟨hC1, hF1⟩, rfl⟩ := hp1
  have hm1 := (hX.cf hF1).1
  refine r_aload_n (i := 2) i_L_law_1304 rfl rfl ?_
  refine r_aload_n (i := 0) i_L_law_1305 rfl rfl ?_
  refine r_iload_n (i := 3) i_L_law_1306 rfl rfl ?_
  refine r_iconst (v := (1 : Int32)) i_L_law_1307 rfl ?_
  refine r_iadd i_L_law_1308 ?_
  refine r_scriptAt i_L_law_1309 (sc_in (k := 1) hi hL (by decide)) ?_
  refine m_virtual o_L_law k_M_alone v_M_alone x_L_163 i_L_law_1310 o_M_alone (c_M_alone hm1 hPM hP7 hBM hB7) rfl (rcv_ob hm1.1 rfl (by omega)) rfl (by decide) (Nat.le_of_ble_eq_true rfl) (Nat.zero_le _) (Nat.zero_le _) (fun r2 w2 n2 hp2 => ?_)
  obtain ⟨rfl, ⟨hM2, hF2⟩, rfl⟩ := hp2
  have hE := eqv_alone (i := gxs G (nI i + 1).toNatClampNeg) hR hQ hCn
  refine r_icmp_eq 1744 i_L_law_1313 (by decide) (fun h1313 => ?_) (fun h1313 => (absurd hE.1 h1313))
  exact hk9 _ (law_next hX hC1 hF1 hM2 hF2 hE)
theorem law_party (hLI : LI w n) (hi : i + 6 ≤ gL G) (hL : gL G ≤ 384) (hk9 : ∀ w', LN w' n → Go G 100 299 1744 [some (.ref (gB + 201)), some (.ref 0), some (.ref 44), some (.int (nI i))] [] w' n bc bs post) : Go G 100 299 1318 [some (.ref (gB + 201)), some (.ref 0), some (.ref 44), some (.int (nI i))] [] w n bc bs post := by
  obtain ⟨Q, M, K, hC, hX, hR, hQ⟩ := hLI
  obtain ⟨P, B, hCn⟩ := hR.cnt
  obtain ⟨hP7, hB7, hP, hB, hPM, hBM, -⟩ := id hCn
  have hq := hR.2.2.2.2.2.1
  have g0 := hC.ob
  have gn := hC.lt
  have gm := hX.lt44
  refine r_aload_n (i := 1) i_L_law_1318 rfl rfl ?_
  refine r_aload_n (i := 0) i_L_law_1319 rfl rfl ?_
  refine r_iload_n (i := 3) i_L_law_1320 rfl rfl ?_
  refine r_iconst (v := (1 : Int32)) i_L_law_1321 rfl ?_
  refine r_iadd i_L_law_1322 ?_
  refine r_scriptAt i_L_law_1323 (sc_in (k := 1) hi hL (by decide)) ?_
  refine m_virtual o_L_law k_N_party v_N_party x_L_164 i_L_law_1324 o_N_party (c_N_party hC hq) rfl (rcv_ob g0 rfl (by omega)) rfl (by decide) (Nat.le_of_ble_eq_true rfl) (Nat.zero_le _) (Nat.zero_le _) (fun r1 w1 n1 hp1 => ?_)
  obtain ⟨rfl, ⟨hC1, hF1⟩, rfl⟩ := hp1
  have hm1 := (hX.cf hF1).1
  refine r_aload_n (i := 2) i_L_law_1327 rfl rfl ?_
  refine r_aload_n (i := 0) i_L_law_1328 rfl rfl ?_
  refine r_iload_n (i := 3) i_L_law_1329 rfl rfl ?_
  refine r_iconst (v := (1 : Int32)) i_L_law_1330 rfl ?_
  refine r_iadd i_L_law_1331 ?_
  refine r_scriptAt i_L_law_1332 (sc_in (k := 1) hi hL (by decide)) ?_
  refine m_virtual o_L_law k_M_party v_M_party x_L_167 i_L_law_1333 o_M_party (c_M_party hm1 hPM hP7 hBM hB7) rfl (rcv_ob hm1.1 rfl (by omega)) rfl (by decide) (Nat.le_of_ble_eq_true rfl) (Nat.zero_le _) (Nat.zero_le _) (fun r2 w2 n2 hp2 => ?_)
  obtain ⟨rfl, ⟨hM2, hF2⟩, rfl⟩ := hp2
  have hE := eqv_party (i := gxs G (nI i + 1).toNatClampNeg) hR hQ hCn
  refine r_icmp_eq 1744 i_L_law_1336 (by decide) (fun h1336 => ?_) (fun h1336 => (absurd hE.1 h1336))
  exact hk9 _ (law_next hX hC1 hF1 hM2 hF2 hE)
theorem law_fair (hLI : LI w n) (hi : i + 6 ≤ gL G) (hL : gL G ≤ 384) (hk9 : ∀ w', LN w' n → Go G 100 299 1744 [some (.ref (gB + 201)), some (.ref 0), some (.ref 44), some (.int (nI i))] [] w' n bc bs post) : Go G 100 299 1341 [some (.ref (gB + 201)), some (.ref 0), some (.ref 44), some (.int (nI i))] [] w n bc bs post := by
  obtain ⟨Q, M, K, hC, hX, hR, hQ⟩ := hLI
  obtain ⟨P, B, hCn⟩ := hR.cnt
  obtain ⟨hP7, hB7, hP, hB, hPM, hBM, -⟩ := id hCn
  have hq := hR.2.2.2.2.2.1
  have g0 := hC.ob
  have gn := hC.lt
  have gm := hX.lt44
  refine r_aload_n (i := 1) i_L_law_1341 rfl rfl ?_
  refine m_virtual o_L_law k_N_fair v_N_fair x_L_168 i_L_law_1342 o_N_fair (c_N_fair hC hq) rfl (rcv_ob g0 rfl (by omega)) rfl (by decide) (Nat.le_of_ble_eq_true rfl) (Nat.zero_le _) (Nat.zero_le _) (fun r1 w1 n1 hp1 => ?_)
  obtain ⟨rfl, ⟨hC1, hF1⟩, rfl⟩ := hp1
  have hm1 := (hX.cf hF1).1
  refine r_aload_n (i := 2) i_L_law_1345 rfl rfl ?_
  refine m_virtual o_L_law k_M_fair v_M_fair x_L_171 i_L_law_1346 o_M_fair (c_M_fair hm1 hPM hP7) rfl (rcv_ob hm1.1 rfl (by omega)) rfl (by decide) (Nat.le_of_ble_eq_true rfl) (Nat.zero_le _) (Nat.zero_le _) (fun r2 w2 n2 hp2 => ?_)
  obtain ⟨rfl, ⟨hM2, hF2⟩, rfl⟩ := hp2
  have hE := eqv_fair  hR hQ hCn
  refine r_icmp_eq 1744 i_L_law_1349 (by decide) (fun h1349 => ?_) (fun h1349 => (absurd hE.1 h1349))
  exact hk9 _ (law_next hX hC1 hF1 hM2 hF2 hE)
theorem law_never (hLI : LI w n) (hi : i + 6 ≤ gL G) (hL : gL G ≤ 384) (hk9 : ∀ w', LN w' n → Go G 100 299 1744 [some (.ref (gB + 201)), some (.ref 0), some (.ref 44), some (.int (nI i))] [] w' n bc bs post) : Go G 100 299 1354 [some (.ref (gB + 201)), some (.ref 0), some (.ref 44), some (.int (nI i))] [] w n bc bs post := by
  obtain ⟨Q, M, K, hC, hX, hR, hQ⟩ := hLI
  obtain ⟨P, B, hCn⟩ := hR.cnt
  obtain ⟨hP7, hB7, hP, hB, hPM, hBM, -⟩ := id hCn
  have hq := hR.2.2.2.2.2.1
  have g0 := hC.ob
  have gn := hC.lt
  have gm := hX.lt44
  refine r_aload_n (i := 1) i_L_law_1354 rfl rfl ?_
  refine m_virtual o_L_law k_N_never v_N_never x_L_172 i_L_law_1355 o_N_never (c_N_never hC hq) rfl (rcv_ob g0 rfl (by omega)) rfl (by decide) (Nat.le_of_ble_eq_true rfl) (Nat.zero_le _) (Nat.zero_le _) (fun r1 w1 n1 hp1 => ?_)
  obtain ⟨rfl, ⟨hC1, hF1⟩, rfl⟩ := hp1
  have hm1 := (hX.cf hF1).1
  refine r_aload_n (i := 2) i_L_law_1358 rfl rfl ?_
  refine m_virtual o_L_law k_M_never v_M_never x_L_175 i_L_law_1359 o_M_never (c_M_never hm1 hPM hP7 hBM hB7) rfl (rcv_ob hm1.1 rfl (by omega)) rfl (by decide) (Nat.le_of_ble_eq_true rfl) (Nat.zero_le _) (Nat.zero_le _) (fun r2 w2 n2 hp2 => ?_)
  obtain ⟨rfl, ⟨hM2, hF2⟩, rfl⟩ := hp2
  have hE := eqv_never  hR hQ hCn
  refine r_icmp_eq 1744 i_L_law_1362 (by decide) (fun h1362 => ?_) (fun h1362 => (absurd hE.1 h1362))
  exact hk9 _ (law_next hX hC1 hF1 hM2 hF2 hE)
theorem law_free (hLI : LI w n) (hi : i + 6 ≤ gL G) (hL : gL G ≤ 384) (hk9 : ∀ w', LN w' n → Go G 100 299 1744 [some (.ref (gB + 201)), some (.ref 0), some (.ref 44), some (.int (nI i))] [] w' n bc bs post) : Go G 100 299 1367 [some (.ref (gB + 201)), some (.ref 0), some (.ref 44), some (.int (nI i))] [] w n bc bs post := by
  obtain ⟨Q, M, K, hC, hX, hR, hQ⟩ := hLI
  obtain ⟨P, B, hCn⟩ := hR.cnt
  obtain ⟨hP7, hB7, hP, hB, hPM, hBM, -⟩ := id hCn
  have hq := hR.2.2.2.2.2.1
  have g0 := hC.ob
  have gn := hC.lt
  have gm := hX.lt44
  refine r_aload_n (i := 1) i_L_law_1367 rfl rfl ?_
  refine m_virtual o_L_law k_N_free v_N_free x_L_176 i_L_law_1368 o_N_free (c_N_free hC hq) rfl (rcv_ob g0 rfl (by omega)) rfl (by decide) (Nat.le_of_ble_eq_true rfl) (Nat.zero_le _) (Nat.zero_le _) (fun r1 w1 n1 hp1 => ?_)
  obtain ⟨rfl, ⟨hC1, hF1⟩, rfl⟩ := hp1
  have hm1 := (hX.cf hF1).1
  refine r_aload_n (i := 2) i_L_law_1371 rfl rfl ?_
  refine f_virtual o_L_law k_M_free v_M_free x_L_179 i_L_law_1372 o_M_free (c_M_free hm1 hBM hB7) rfl (rcv_ob hm1.1 rfl (by omega)) rfl (by decide) (Nat.le_of_ble_eq_true rfl) ?_
  have hE := eqv_free  hR hQ hCn
  refine r_icmp_eq 1744 i_L_law_1375 (by decide) (fun h1375 => ?_) (fun h1375 => (absurd hE.1 h1375))
  exact hk9 _ (law_next hX hC1 hF1 hm1 mFr.rf hE)
theorem law_cross (hLI : LI w n) (hi : i + 6 ≤ gL G) (hL : gL G ≤ 384) (hk9 : ∀ w', LN w' n → Go G 100 299 1744 [some (.ref (gB + 201)), some (.ref 0), some (.ref 44), some (.int (nI i))] [] w' n bc bs post) : Go G 100 299 1380 [some (.ref (gB + 201)), some (.ref 0), some (.ref 44), some (.int (nI i))] [] w n bc bs post := by
  obtain ⟨Q, M, K, hC, hX, hR, hQ⟩ := hLI
  obtain ⟨P, B, hCn⟩ := hR.cnt
  obtain ⟨hP7, hB7, hP, hB, hPM, hBM, -⟩ := id hCn
  have hq := hR.2.2.2.2.2.1
  have g0 := hC.ob
  have gn := hC.lt
  have gm := hX.lt44
  refine r_aload_n (i := 1) i_L_law_1380 rfl rfl ?_
  refine r_aload_n (i := 0) i_L_law_1381 rfl rfl ?_
  refine r_iload_n (i := 3) i_L_law_1382 rfl rfl ?_
  refine r_iconst (v := (1 : Int32)) i_L_law_1383 rfl ?_
  refine r_iadd i_L_law_1384 ?_
  refine r_scriptAt i_L_law_1385 (sc_in (k := 1) hi hL (by decide)) ?_
  refine r_aload_n (i := 0) i_L_law_1386 rfl rfl ?_
  refine r_iload_n (i := 3) i_L_law_1387 rfl rfl ?_
  refine r_iconst (v := (2 : Int32)) i_L_law_1388 rfl ?_
  refine r_iadd i_L_law_1389 ?_
  refine r_scriptAt i_L_law_1390 (sc_in (k := 2) hi hL (by decide)) ?_
  refine r_aload_n (i := 0) i_L_law_1391 rfl rfl ?_
  refine r_iload_n (i := 3) i_L_law_1392 rfl rfl ?_
  refine r_iconst (v := (3 : Int32)) i_L_law_1393 rfl ?_
  refine r_iadd i_L_law_1394 ?_
  refine r_scriptAt i_L_law_1395 (sc_in (k := 3) hi hL (by decide)) ?_
  refine m_virtual o_L_law k_N_cross v_N_cross x_L_180 i_L_law_1396 o_N_cross (c_N_cross hC hq) rfl (rcv_ob g0 rfl (by omega)) rfl (by decide) (Nat.le_of_ble_eq_true rfl) (Nat.zero_le _) (Nat.zero_le _) (fun r1 w1 n1 hp1 => ?_)
  obtain ⟨rfl, ⟨hC1, hF1⟩, rfl⟩ := hp1
  have hm1 := (hX.cf hF1).1
  refine r_aload_n (i := 2) i_L_law_1399 rfl rfl ?_
  refine r_aload_n (i := 0) i_L_law_1400 rfl rfl ?_
  refine r_iload_n (i := 3) i_L_law_1401 rfl rfl ?_
  refine r_iconst (v := (1 : Int32)) i_L_law_1402 rfl ?_
  refine r_iadd i_L_law_1403 ?_
  refine r_scriptAt i_L_law_1404 (sc_in (k := 1) hi hL (by decide)) ?_
  refine r_aload_n (i := 0) i_L_law_1405 rfl rfl ?_
  refine r_iload_n (i := 3) i_L_law_1406 rfl rfl ?_
  refine r_iconst (v := (2 : Int32)) i_L_law_1407 rfl ?_
  refine r_iadd i_L_law_1408 ?_
  refine r_scriptAt i_L_law_1409 (sc_in (k := 2) hi hL (by decide)) ?_
  refine r_aload_n (i := 0) i_L_law_1410 rfl rfl ?_
  refine r_iload_n (i := 3) i_L_law_1411 rfl rfl ?_
  refine r_iconst (v := (3 : Int32)) i_L_law_1412 rfl ?_
  refine r_iadd i_L_law_1413 ?_
  refine r_scriptAt i_L_law_1414 (sc_in (k := 3) hi hL (by decide)) ?_
  refine m_virtual o_L_law k_M_cross v_M_cross x_L_183 i_L_law_1415 o_M_cross (c_M_cross hm1 hBM hB7 hCn.pm) rfl (rcv_ob hm1.1 rfl (by omega)) rfl (by decide) (Nat.le_of_ble_eq_true rfl) (Nat.zero_le _) (Nat.zero_le _) (fun r2 w2 n2 hp2 => ?_)
  obtain ⟨rfl, ⟨hM2, hF2⟩, rfl⟩ := hp2
  have hE := eqv_cross (b := gxs G (nI i + 1).toNatClampNeg) (c := gxs G (nI i + 2).toNatClampNeg) (k := gxs G (nI i + 3).toNatClampNeg) hR hQ hCn
  refine r_icmp_eq 1744 i_L_law_1418 (by decide) (fun h1418 => ?_) (fun h1418 => (absurd hE.1 h1418))
  exact hk9 _ (law_next hX hC1 hF1 hM2 hF2 hE)
theorem law_rings (hLI : LI w n) (hi : i + 6 ≤ gL G) (hL : gL G ≤ 384) (hk9 : ∀ w', LN w' n → Go G 100 299 1744 [some (.ref (gB + 201)), some (.ref 0), some (.ref 44), some (.int (nI i))] [] w' n bc bs post) : Go G 100 299 1423 [some (.ref (gB + 201)), some (.ref 0), some (.ref 44), some (.int (nI i))] [] w n bc bs post := by
  obtain ⟨Q, M, K, hC, hX, hR, hQ⟩ := hLI
  obtain ⟨P, B, hCn⟩ := hR.cnt
  obtain ⟨hP7, hB7, hP, hB, hPM, hBM, -⟩ := id hCn
  have hq := hR.2.2.2.2.2.1
  have g0 := hC.ob
  have gn := hC.lt
  have gm := hX.lt44
  refine r_aload_n (i := 1) i_L_law_1423 rfl rfl ?_
  refine m_virtual o_L_law k_N_rings v_N_rings x_L_184 i_L_law_1424 o_N_rings (c_N_rings hC hq) rfl (rcv_ob g0 rfl (by omega)) rfl (by decide) (Nat.le_of_ble_eq_true rfl) (Nat.zero_le _) (Nat.zero_le _) (fun r1 w1 n1 hp1 => ?_)
  obtain ⟨rfl, ⟨hC1, hF1⟩, rfl⟩ := hp1
  have hm1 := (hX.cf hF1).1
  refine r_aload_n (i := 2) i_L_law_1427 rfl rfl ?_
  refine f_virtual o_L_law k_M_rings v_M_rings x_L_187 i_L_law_1428 o_M_rings (c_M_rings hm1 hCn.pm hBM hB7) rfl (rcv_ob hm1.1 rfl (by omega)) rfl (by decide) (Nat.le_of_ble_eq_true rfl) ?_
  have hE := eqv_rings  hR hQ hCn
  refine r_icmp_eq 1744 i_L_law_1431 (by decide) (fun h1431 => ?_) (fun h1431 => (absurd hE.1 h1431))
  exact hk9 _ (law_next hX hC1 hF1 hm1 mFr.rf hE)
theorem law_harm (hLI : LI w n) (hi : i + 6 ≤ gL G) (hL : gL G ≤ 384) (hk9 : ∀ w', LN w' n → Go G 100 299 1744 [some (.ref (gB + 201)), some (.ref 0), some (.ref 44), some (.int (nI i))] [] w' n bc bs post) : Go G 100 299 1436 [some (.ref (gB + 201)), some (.ref 0), some (.ref 44), some (.int (nI i))] [] w n bc bs post := by
  obtain ⟨Q, M, K, hC, hX, hR, hQ⟩ := hLI
  obtain ⟨P, B, hCn⟩ := hR.cnt
  obtain ⟨hP7, hB7, hP, hB, hPM, hBM, -⟩ := id hCn
  have hq := hR.2.2.2.2.2.1
  have g0 := hC.ob
  have gn := hC.lt
  have gm := hX.lt44
  refine r_aload_n (i := 1) i_L_law_1436 rfl rfl ?_
  refine r_aload_n (i := 0) i_L_law_1437 rfl rfl ?_
  refine r_iload_n (i := 3) i_L_law_1438 rfl rfl ?_
  refine r_iconst (v := (1 : Int32)) i_L_law_1439 rfl ?_
  refine r_iadd i_L_law_1440 ?_
  refine r_scriptAt i_L_law_1441 (sc_in (k := 1) hi hL (by decide)) ?_
  refine m_virtual o_L_law k_N_harm v_N_harm x_L_188 i_L_law_1442 o_N_harm (c_N_harm hC hq) rfl (rcv_ob g0 rfl (by omega)) rfl (by decide) (Nat.le_of_ble_eq_true rfl) (Nat.zero_le _) (Nat.zero_le _) (fun r1 w1 n1 hp1 => ?_)
  obtain ⟨rfl, ⟨hC1, hF1⟩, rfl⟩ := hp1
  have hm1 := (hX.cf hF1).1
  refine r_aload_n (i := 2) i_L_law_1445 rfl rfl ?_
  refine r_aload_n (i := 0) i_L_law_1446 rfl rfl ?_
  refine r_iload_n (i := 3) i_L_law_1447 rfl rfl ?_
  refine r_iconst (v := (1 : Int32)) i_L_law_1448 rfl ?_
  refine r_iadd i_L_law_1449 ?_
  refine r_scriptAt i_L_law_1450 (sc_in (k := 1) hi hL (by decide)) ?_
  refine m_virtual o_L_law k_M_harm v_M_harm x_L_191 i_L_law_1451 o_M_harm (c_M_harm hm1 hPM hP7 hBM hB7) rfl (rcv_ob hm1.1 rfl (by omega)) rfl (by decide) (Nat.le_of_ble_eq_true rfl) (Nat.zero_le _) (Nat.zero_le _) (fun r2 w2 n2 hp2 => ?_)
  obtain ⟨rfl, ⟨hM2, hF2⟩, rfl⟩ := hp2
  have hE := eqv_harm (t := gxs G (nI i + 1).toNatClampNeg) hR hQ hCn
  refine r_icmp_eq 1744 i_L_law_1454 (by decide) (fun h1454 => ?_) (fun h1454 => (absurd hE.1 h1454))
  exact hk9 _ (law_next hX hC1 hF1 hM2 hF2 hE)
theorem law_worst (hLI : LI w n) (hi : i + 6 ≤ gL G) (hL : gL G ≤ 384) (hk9 : ∀ w', LN w' n → Go G 100 299 1744 [some (.ref (gB + 201)), some (.ref 0), some (.ref 44), some (.int (nI i))] [] w' n bc bs post) : Go G 100 299 1459 [some (.ref (gB + 201)), some (.ref 0), some (.ref 44), some (.int (nI i))] [] w n bc bs post := by
  obtain ⟨Q, M, K, hC, hX, hR, hQ⟩ := hLI
  obtain ⟨P, B, hCn⟩ := hR.cnt
  obtain ⟨hP7, hB7, hP, hB, hPM, hBM, -⟩ := id hCn
  have hq := hR.2.2.2.2.2.1
  have g0 := hC.ob
  have gn := hC.lt
  have gm := hX.lt44
  refine r_aload_n (i := 1) i_L_law_1459 rfl rfl ?_
  refine m_virtual o_L_law k_N_worst v_N_worst x_L_192 i_L_law_1460 o_N_worst (c_N_worst hC hq) rfl (rcv_ob g0 rfl (by omega)) rfl (by decide) (Nat.le_of_ble_eq_true rfl) (Nat.zero_le _) (Nat.zero_le _) (fun r1 w1 n1 hp1 => ?_)
  obtain ⟨rfl, ⟨hC1, hF1⟩, rfl⟩ := hp1
  have hm1 := (hX.cf hF1).1
  refine r_aload_n (i := 2) i_L_law_1463 rfl rfl ?_
  refine m_virtual o_L_law k_M_worst v_M_worst x_L_195 i_L_law_1464 o_M_worst (c_M_worst hm1 hPM hP7 hBM hB7) rfl (rcv_ob hm1.1 rfl (by omega)) rfl (by decide) (Nat.le_of_ble_eq_true rfl) (Nat.zero_le _) (Nat.zero_le _) (fun r2 w2 n2 hp2 => ?_)
  obtain ⟨rfl, ⟨hM2, hF2⟩, rfl⟩ := hp2
  have hE := eqv_worst  hR hQ hCn
  refine r_icmp_eq 1744 i_L_law_1467 (by decide) (fun h1467 => ?_) (fun h1467 => (absurd hE.1 h1467))
  exact hk9 _ (law_next hX hC1 hF1 hM2 hF2 hE)
theorem law_hated (hLI : LI w n) (hi : i + 6 ≤ gL G) (hL : gL G ≤ 384) (hk9 : ∀ w', LN w' n → Go G 100 299 1744 [some (.ref (gB + 201)), some (.ref 0), some (.ref 44), some (.int (nI i))] [] w' n bc bs post) : Go G 100 299 1472 [some (.ref (gB + 201)), some (.ref 0), some (.ref 44), some (.int (nI i))] [] w n bc bs post := by
  obtain ⟨Q, M, K, hC, hX, hR, hQ⟩ := hLI
  obtain ⟨P, B, hCn⟩ := hR.cnt
  obtain ⟨hP7, hB7, hP, hB, hPM, hBM, -⟩ := id hCn
  have hq := hR.2.2.2.2.2.1
  have g0 := hC.ob
  have gn := hC.lt
  have gm := hX.lt44
  refine r_aload_n (i := 1) i_L_law_1472 rfl rfl ?_
  refine m_virtual o_L_law k_N_hated v_N_hated x_L_196 i_L_law_1473 o_N_hated (c_N_hated hC hq) rfl (rcv_ob g0 rfl (by omega)) rfl (by decide) (Nat.le_of_ble_eq_true rfl) (Nat.zero_le _) (Nat.zero_le _) (fun r1 w1 n1 hp1 => ?_)
  obtain ⟨rfl, ⟨hC1, hF1⟩, rfl⟩ := hp1
  have hm1 := (hX.cf hF1).1
  refine r_aload_n (i := 2) i_L_law_1476 rfl rfl ?_
  refine m_virtual o_L_law k_M_hated v_M_hated x_L_199 i_L_law_1477 o_M_hated (c_M_hated hm1 hPM hP7 hBM hB7) rfl (rcv_ob hm1.1 rfl (by omega)) rfl (by decide) (Nat.le_of_ble_eq_true rfl) (Nat.zero_le _) (Nat.zero_le _) (fun r2 w2 n2 hp2 => ?_)
  obtain ⟨rfl, ⟨hM2, hF2⟩, rfl⟩ := hp2
  have hE := eqv_hated  hR hQ hCn
  refine r_icmp_eq 1744 i_L_law_1480 (by decide) (fun h1480 => ?_) (fun h1480 => (absurd hE.1 h1480))
  exact hk9 _ (law_next hX hC1 hF1 hM2 hF2 hE)
theorem law_said (hLI : LI w n) (hi : i + 6 ≤ gL G) (hL : gL G ≤ 384) (hk9 : ∀ w', LN w' n → Go G 100 299 1744 [some (.ref (gB + 201)), some (.ref 0), some (.ref 44), some (.int (nI i))] [] w' n bc bs post) : Go G 100 299 1485 [some (.ref (gB + 201)), some (.ref 0), some (.ref 44), some (.int (nI i))] [] w n bc bs post := by
  obtain ⟨Q, M, K, hC, hX, hR, hQ⟩ := hLI
  obtain ⟨P, B, hCn⟩ := hR.cnt
  obtain ⟨hP7, hB7, hP, hB, hPM, hBM, -⟩ := id hCn
  have hq := hR.2.2.2.2.2.1
  have g0 := hC.ob
  have gn := hC.lt
  have gm := hX.lt44
  refine r_aload_n (i := 1) i_L_law_1485 rfl rfl ?_
  refine r_aload_n (i := 0) i_L_law_1486 rfl rfl ?_
  refine r_iload_n (i := 3) i_L_law_1487 rfl rfl ?_
  refine r_iconst (v := (1 : Int32)) i_L_law_1488 rfl ?_
  refine r_iadd i_L_law_1489 ?_
  refine r_scriptAt i_L_law_1490 (sc_in (k := 1) hi hL (by decide)) ?_
  refine r_aload_n (i := 0) i_L_law_1491 rfl rfl ?_
  refine r_iload_n (i := 3) i_L_law_1492 rfl rfl ?_
  refine r_iconst (v := (2 : Int32)) i_L_law_1493 rfl ?_
  refine r_iadd i_L_law_1494 ?_
  refine r_scriptAt i_L_law_1495 (sc_in (k := 2) hi hL (by decide)) ?_
  refine m_virtual o_L_law k_N_said v_N_said x_L_200 i_L_law_1496 o_N_said (c_N_said hC hq) rfl (rcv_ob g0 rfl (by omega)) rfl (by decide) (Nat.le_of_ble_eq_true rfl) (Nat.zero_le _) (Nat.zero_le _) (fun r1 w1 n1 hp1 => ?_)
  obtain ⟨rfl, ⟨hC1, hF1⟩, rfl⟩ := hp1
  have hm1 := (hX.cf hF1).1
  refine r_aload_n (i := 2) i_L_law_1499 rfl rfl ?_
  refine r_aload_n (i := 0) i_L_law_1500 rfl rfl ?_
  refine r_iload_n (i := 3) i_L_law_1501 rfl rfl ?_
  refine r_iconst (v := (1 : Int32)) i_L_law_1502 rfl ?_
  refine r_iadd i_L_law_1503 ?_
  refine r_scriptAt i_L_law_1504 (sc_in (k := 1) hi hL (by decide)) ?_
  refine r_aload_n (i := 0) i_L_law_1505 rfl rfl ?_
  refine r_iload_n (i := 3) i_L_law_1506 rfl rfl ?_
  refine r_iconst (v := (2 : Int32)) i_L_law_1507 rfl ?_
  refine r_iadd i_L_law_1508 ?_
  refine r_scriptAt i_L_law_1509 (sc_in (k := 2) hi hL (by decide)) ?_
  refine m_virtual o_L_law k_M_said v_M_said x_L_203 i_L_law_1510 o_M_said (c_M_said hm1 hR.mo) rfl (rcv_ob hm1.1 rfl (by omega)) rfl (by decide) (Nat.le_of_ble_eq_true rfl) (Nat.zero_le _) (Nat.zero_le _) (fun r2 w2 n2 hp2 => ?_)
  obtain ⟨rfl, ⟨hM2, hF2⟩, rfl⟩ := hp2
  have hE := eqv_said (b := gxs G (nI i + 1).toNatClampNeg) (t := gxs G (nI i + 2).toNatClampNeg) hR hQ hCn
  refine r_icmp_eq 1744 i_L_law_1513 (by decide) (fun h1513 => ?_) (fun h1513 => (absurd hE.1 h1513))
  exact hk9 _ (law_next hX hC1 hF1 hM2 hF2 hE)
theorem law_dares (hLI : LI w n) (hi : i + 6 ≤ gL G) (hL : gL G ≤ 384) (hk9 : ∀ w', LN w' n → Go G 100 299 1744 [some (.ref (gB + 201)), some (.ref 0), some (.ref 44), some (.int (nI i))] [] w' n bc bs post) : Go G 100 299 1518 [some (.ref (gB + 201)), some (.ref 0), some (.ref 44), some (.int (nI i))] [] w n bc bs post := by
  obtain ⟨Q, M, K, hC, hX, hR, hQ⟩ := hLI
  obtain ⟨P, B, hCn⟩ := hR.cnt
  obtain ⟨hP7, hB7, hP, hB, hPM, hBM, -⟩ := id hCn
  have hq := hR.2.2.2.2.2.1
  have g0 := hC.ob
  have gn := hC.lt
  have gm := hX.lt44
  refine r_aload_n (i := 1) i_L_law_1518 rfl rfl ?_
  refine m_virtual o_L_law k_N_dares v_N_dares x_L_204 i_L_law_1519 o_N_dares (c_N_dares hC hq) rfl (rcv_ob g0 rfl (by omega)) rfl (by decide) (Nat.le_of_ble_eq_true rfl) (Nat.zero_le _) (Nat.zero_le _) (fun r1 w1 n1 hp1 => ?_)
  obtain ⟨rfl, ⟨hC1, hF1⟩, rfl⟩ := hp1
  have hm1 := (hX.cf hF1).1
  refine r_aload_n (i := 2) i_L_law_1522 rfl rfl ?_
  refine f_virtual o_L_law k_M_dares v_M_dares x_L_207 i_L_law_1523 o_M_dares (c_M_dares hm1 hPM hP7 hBM hB7) rfl (rcv_ob hm1.1 rfl (by omega)) rfl (by decide) (Nat.le_of_ble_eq_true rfl) ?_
  have hE := eqv_dares  hR hQ hCn
  refine r_icmp_eq 1744 i_L_law_1526 (by decide) (fun h1526 => ?_) (fun h1526 => (absurd hE.1 h1526))
  exact hk9 _ (law_next hX hC1 hF1 hm1 mFr.rf hE)
theorem law_deters (hLI : LI w n) (hi : i + 6 ≤ gL G) (hL : gL G ≤ 384) (hk9 : ∀ w', LN w' n → Go G 100 299 1744 [some (.ref (gB + 201)), some (.ref 0), some (.ref 44), some (.int (nI i))] [] w' n bc bs post) : Go G 100 299 1531 [some (.ref (gB + 201)), some (.ref 0), some (.ref 44), some (.int (nI i))] [] w n bc bs post := by
  obtain ⟨Q, M, K, hC, hX, hR, hQ⟩ := hLI
  obtain ⟨P, B, hCn⟩ := hR.cnt
  obtain ⟨hP7, hB7, hP, hB, hPM, hBM, -⟩ := id hCn
  have hq := hR.2.2.2.2.2.1
  have g0 := hC.ob
  have gn := hC.lt
  have gm := hX.lt44
  refine r_aload_n (i := 1) i_L_law_1531 rfl rfl ?_
  refine m_virtual o_L_law k_N_deters v_N_deters x_L_208 i_L_law_1532 o_N_deters (c_N_deters hC hq) rfl (rcv_ob g0 rfl (by omega)) rfl (by decide) (Nat.le_of_ble_eq_true rfl) (Nat.zero_le _) (Nat.zero_le _) (fun r1 w1 n1 hp1 => ?_)
  obtain ⟨rfl, ⟨hC1, hF1⟩, rfl⟩ := hp1
  have hm1 := (hX.cf hF1).1
  refine r_aload_n (i := 2) i_L_law_1535 rfl rfl ?_
  refine f_virtual o_L_law k_M_deters v_M_deters x_L_211 i_L_law_1536 o_M_deters (c_M_deters hm1 hPM hP7 hBM hB7) rfl (rcv_ob hm1.1 rfl (by omega)) rfl (by decide) (Nat.le_of_ble_eq_true rfl) ?_
  have hE := eqv_deters  hR hQ hCn
  refine r_icmp_eq 1744 i_L_law_1539 (by decide) (fun h1539 => ?_) (fun h1539 => (absurd hE.1 h1539))
  exact hk9 _ (law_next hX hC1 hF1 hm1 mFr.rf hE)
theorem law_under (hLI : LI w n) (hi : i + 6 ≤ gL G) (hL : gL G ≤ 384) (hk9 : ∀ w', LN w' n → Go G 100 299 1744 [some (.ref (gB + 201)), some (.ref 0), some (.ref 44), some (.int (nI i))] [] w' n bc bs post) : Go G 100 299 1544 [some (.ref (gB + 201)), some (.ref 0), some (.ref 44), some (.int (nI i))] [] w n bc bs post := by
  obtain ⟨Q, M, K, hC, hX, hR, hQ⟩ := hLI
  obtain ⟨P, B, hCn⟩ := hR.cnt
  obtain ⟨hP7, hB7, hP, hB, hPM, hBM, -⟩ := id hCn
  have hq := hR.2.2.2.2.2.1
  have g0 := hC.ob
  have gn := hC.lt
  have gm := hX.lt44
  refine r_aload_n (i := 1) i_L_law_1544 rfl rfl ?_
  refine r_aload_n (i := 0) i_L_law_1545 rfl rfl ?_
  refine r_iload_n (i := 3) i_L_law_1546 rfl rfl ?_
  refine r_iconst (v := (1 : Int32)) i_L_law_1547 rfl ?_
  refine r_iadd i_L_law_1548 ?_
  refine r_scriptAt i_L_law_1549 (sc_in (k := 1) hi hL (by decide)) ?_
  refine m_virtual o_L_law k_N_under v_N_under x_L_212 i_L_law_1550 o_N_under (c_N_under hC hq) rfl (rcv_ob g0 rfl (by omega)) rfl (by decide) (Nat.le_of_ble_eq_true rfl) (Nat.zero_le _) (Nat.zero_le _) (fun r1 w1 n1 hp1 => ?_)
  obtain ⟨rfl, ⟨hC1, hF1⟩, rfl⟩ := hp1
  have hm1 := (hX.cf hF1).1
  refine r_aload_n (i := 2) i_L_law_1553 rfl rfl ?_
  refine r_aload_n (i := 0) i_L_law_1554 rfl rfl ?_
  refine r_iload_n (i := 3) i_L_law_1555 rfl rfl ?_
  refine r_iconst (v := (1 : Int32)) i_L_law_1556 rfl ?_
  refine r_iadd i_L_law_1557 ?_
  refine r_scriptAt i_L_law_1558 (sc_in (k := 1) hi hL (by decide)) ?_
  refine m_virtual o_L_law k_M_under v_M_under x_L_215 i_L_law_1559 o_M_under (c_M_under hm1 hBM hB7 hPM hP7) rfl (rcv_ob hm1.1 rfl (by omega)) rfl (by decide) (Nat.le_of_ble_eq_true rfl) (Nat.zero_le _) (Nat.zero_le _) (fun r2 w2 n2 hp2 => ?_)
  obtain ⟨rfl, ⟨hM2, hF2⟩, rfl⟩ := hp2
  have hE := eqv_under (l := gxs G (nI i + 1).toNatClampNeg) hR hCn
  refine r_icmp_eq 1744 i_L_law_1562 (by decide) (fun h1562 => ?_) (fun h1562 => (absurd hE.1 h1562))
  exact hk9 _ (law_next hX hC1 hF1 hM2 hF2 hE)
theorem law_bestLaw (hLI : LI w n) (hi : i + 6 ≤ gL G) (hL : gL G ≤ 384) (hk9 : ∀ w', LN w' n → Go G 100 299 1744 [some (.ref (gB + 201)), some (.ref 0), some (.ref 44), some (.int (nI i))] [] w' n bc bs post) : Go G 100 299 1567 [some (.ref (gB + 201)), some (.ref 0), some (.ref 44), some (.int (nI i))] [] w n bc bs post := by
  obtain ⟨Q, M, K, hC, hX, hR, hQ⟩ := hLI
  obtain ⟨P, B, hCn⟩ := hR.cnt
  obtain ⟨hP7, hB7, hP, hB, hPM, hBM, -⟩ := id hCn
  have hq := hR.2.2.2.2.2.1
  have g0 := hC.ob
  have gn := hC.lt
  have gm := hX.lt44
  refine r_aload_n (i := 1) i_L_law_1567 rfl rfl ?_
  refine m_virtual o_L_law k_N_bestLaw v_N_bestLaw x_L_216 i_L_law_1568 o_N_bestLaw (c_N_bestLaw hC) rfl (rcv_ob g0 rfl (by omega)) rfl (by decide) (Nat.le_of_ble_eq_true rfl) (Nat.zero_le _) (Nat.zero_le _) (fun r1 w1 n1 hp1 => ?_)
  obtain ⟨rfl, ⟨hC1, hF1⟩, rfl⟩ := hp1
  have hm1 := (hX.cf hF1).1
  refine r_aload_n (i := 2) i_L_law_1571 rfl rfl ?_
  refine m_virtual o_L_law k_M_bestLaw v_M_bestLaw x_L_219 i_L_law_1572 o_M_bestLaw (c_M_bestLaw hm1 hBM hB7 hPM hP7) rfl (rcv_ob hm1.1 rfl (by omega)) rfl (by decide) (Nat.le_of_ble_eq_true rfl) (Nat.zero_le _) (Nat.zero_le _) (fun r2 w2 n2 hp2 => ?_)
  obtain ⟨rfl, ⟨hM2, hF2⟩, rfl⟩ := hp2
  have hE := eqv_bestLaw  hR hCn
  refine r_icmp_eq 1744 i_L_law_1575 (by decide) (fun h1575 => ?_) (fun h1575 => (absurd hE.1 h1575))
  exact hk9 _ (law_next hX hC1 hF1 hM2 hF2 hE)
theorem law_hiding (hLI : LI w n) (hi : i + 6 ≤ gL G) (hL : gL G ≤ 384) (hk9 : ∀ w', LN w' n → Go G 100 299 1744 [some (.ref (gB + 201)), some (.ref 0), some (.ref 44), some (.int (nI i))] [] w' n bc bs post) : Go G 100 299 1580 [some (.ref (gB + 201)), some (.ref 0), some (.ref 44), some (.int (nI i))] [] w n bc bs post := by
  obtain ⟨Q, M, K, hC, hX, hR, hQ⟩ := hLI
  obtain ⟨P, B, hCn⟩ := hR.cnt
  obtain ⟨hP7, hB7, hP, hB, hPM, hBM, -⟩ := id hCn
  have hq := hR.2.2.2.2.2.1
  have g0 := hC.ob
  have gn := hC.lt
  have gm := hX.lt44
  refine r_aload_n (i := 1) i_L_law_1580 rfl rfl ?_
  refine r_aload_n (i := 0) i_L_law_1581 rfl rfl ?_
  refine r_iload_n (i := 3) i_L_law_1582 rfl rfl ?_
  refine r_iconst (v := (1 : Int32)) i_L_law_1583 rfl ?_
  refine r_iadd i_L_law_1584 ?_
  refine r_scriptAt i_L_law_1585 (sc_in (k := 1) hi hL (by decide)) ?_
  refine r_aload_n (i := 0) i_L_law_1586 rfl rfl ?_
  refine r_iload_n (i := 3) i_L_law_1587 rfl rfl ?_
  refine r_iconst (v := (2 : Int32)) i_L_law_1588 rfl ?_
  refine r_iadd i_L_law_1589 ?_
  refine r_scriptAt i_L_law_1590 (sc_in (k := 2) hi hL (by decide)) ?_
  refine m_virtual o_L_law k_N_hiding v_N_hiding x_L_220 i_L_law_1591 o_N_hiding (c_N_hiding hC hq) rfl (rcv_ob g0 rfl (by omega)) rfl (by decide) (Nat.le_of_ble_eq_true rfl) (Nat.zero_le _) (Nat.zero_le _) (fun r1 w1 n1 hp1 => ?_)
  obtain ⟨rfl, ⟨hC1, hF1⟩, rfl⟩ := hp1
  have hm1 := (hX.cf hF1).1
  refine r_aload_n (i := 2) i_L_law_1594 rfl rfl ?_
  refine r_aload_n (i := 0) i_L_law_1595 rfl rfl ?_
  refine r_iload_n (i := 3) i_L_law_1596 rfl rfl ?_
  refine r_iconst (v := (1 : Int32)) i_L_law_1597 rfl ?_
  refine r_iadd i_L_law_1598 ?_
  refine r_scriptAt i_L_law_1599 (sc_in (k := 1) hi hL (by decide)) ?_
  refine r_aload_n (i := 0) i_L_law_1600 rfl rfl ?_
  refine r_iload_n (i := 3) i_L_law_1601 rfl rfl ?_
  refine r_iconst (v := (2 : Int32)) i_L_law_1602 rfl ?_
  refine r_iadd i_L_law_1603 ?_
  refine r_scriptAt i_L_law_1604 (sc_in (k := 2) hi hL (by decide)) ?_
  refine m_virtual o_L_law k_M_hiding v_M_hiding x_L_223 i_L_law_1605 o_M_hiding (c_M_hiding hm1 hBM hB7 hPM hP7) rfl (rcv_ob hm1.1 rfl (by omega)) rfl (by decide) (Nat.le_of_ble_eq_true rfl) (Nat.zero_le _) (Nat.zero_le _) (fun r2 w2 n2 hp2 => ?_)
  obtain ⟨rfl, ⟨hM2, hF2⟩, rfl⟩ := hp2
  have hE := eqv_hiding (b := gxs G (nI i + 1).toNatClampNeg) (t := gxs G (nI i + 2).toNatClampNeg) hR hQ hCn
  refine r_icmp_eq 1744 i_L_law_1608 (by decide) (fun h1608 => ?_) (fun h1608 => (absurd hE.1 h1608))
  exact hk9 _ (law_next hX hC1 hF1 hM2 hF2 hE)
theorem law_week (hLI : LI w n) (hi : i + 6 ≤ gL G) (hL : gL G ≤ 384) (hk9 : ∀ w', LN w' n → Go G 100 299 1744 [some (.ref (gB + 201)), some (.ref 0), some (.ref 44), some (.int (nI i))] [] w' n bc bs post) : Go G 100 299 1613 [some (.ref (gB + 201)), some (.ref 0), some (.ref 44), some (.int (nI i))] [] w n bc bs post := by
  obtain ⟨Q, M, K, hC, hX, hR, hQ⟩ := hLI
  obtain ⟨P, B, hCn⟩ := hR.cnt
  obtain ⟨hP7, hB7, hP, hB, hPM, hBM, -⟩ := id hCn
  have hq := hR.2.2.2.2.2.1
  have g0 := hC.ob
  have gn := hC.lt
  have gm := hX.lt44
  refine r_aload_n (i := 1) i_L_law_1613 rfl rfl ?_
  refine m_virtual o_L_law k_N_week v_N_week x_L_224 i_L_law_1614 o_N_week (c_N_week hC hq) rfl (rcv_ob g0 rfl (by omega)) rfl (by decide) (Nat.le_of_ble_eq_true rfl) (Nat.zero_le _) (Nat.zero_le _) (fun r1 w1 n1 hp1 => ?_)
  obtain ⟨rfl, ⟨hC1, hF1⟩, rfl⟩ := hp1
  have hm1 := (hX.cf hF1).1
  refine r_aload_n (i := 2) i_L_law_1617 rfl rfl ?_
  refine m_virtual o_L_law k_M_week v_M_week x_L_227 i_L_law_1618 o_M_week (c_M_week hm1 hPM hP7 hBM hB7 hCn.pm) rfl (rcv_ob hm1.1 rfl (by omega)) rfl (by decide) (Nat.le_of_ble_eq_true rfl) (Nat.zero_le _) (Nat.zero_le _) (fun r2 w2 n2 hp2 => ?_)
  obtain ⟨rfl, ⟨hM2, hF2⟩, rfl⟩ := hp2
  have hE := eqv_week  hR hCn
  refine r_icmp_eq 1744 i_L_law_1621 (by decide) (fun h1621 => ?_) (fun h1621 => (absurd hE.1 h1621))
  exact hk9 _ (law_next hX hC1 hF1 hM2 hF2 hE)
theorem law_weeks (hLI : LI w n) (hi : i + 6 ≤ gL G) (hL : gL G ≤ 384) (hk9 : ∀ w', LN w' n → Go G 100 299 1744 [some (.ref (gB + 201)), some (.ref 0), some (.ref 44), some (.int (nI i))] [] w' n bc bs post) : Go G 100 299 1626 [some (.ref (gB + 201)), some (.ref 0), some (.ref 44), some (.int (nI i))] [] w n bc bs post := by
  obtain ⟨Q, M, K, hC, hX, hR, hQ⟩ := hLI
  obtain ⟨P, B, hCn⟩ := hR.cnt
  obtain ⟨hP7, hB7, hP, hB, hPM, hBM, -⟩ := id hCn
  have hq := hR.2.2.2.2.2.1
  have g0 := hC.ob
  have gn := hC.lt
  have gm := hX.lt44
  refine r_aload_n (i := 1) i_L_law_1626 rfl rfl ?_
  refine r_aload_n (i := 0) i_L_law_1627 rfl rfl ?_
  refine r_iload_n (i := 3) i_L_law_1628 rfl rfl ?_
  refine r_iconst (v := (1 : Int32)) i_L_law_1629 rfl ?_
  refine r_iadd i_L_law_1630 ?_
  refine r_scriptAt i_L_law_1631 (sc_in (k := 1) hi hL (by decide)) ?_
  refine m_virtual o_L_law k_N_weeks v_N_weeks x_L_228 i_L_law_1632 o_N_weeks (c_N_weeks hC hq) rfl (rcv_ob g0 rfl (by omega)) rfl (by decide) (Nat.le_of_ble_eq_true rfl) (Nat.zero_le _) (Nat.zero_le _) (fun r1 w1 n1 hp1 => ?_)
  obtain ⟨rfl, ⟨hC1, hF1⟩, rfl⟩ := hp1
  have hm1 := (hX.cf hF1).1
  refine r_aload_n (i := 2) i_L_law_1635 rfl rfl ?_
  refine r_aload_n (i := 0) i_L_law_1636 rfl rfl ?_
  refine r_iload_n (i := 3) i_L_law_1637 rfl rfl ?_
  refine r_iconst (v := (1 : Int32)) i_L_law_1638 rfl ?_
  refine r_iadd i_L_law_1639 ?_
  refine r_scriptAt i_L_law_1640 (sc_in (k := 1) hi hL (by decide)) ?_
  refine m_virtual o_L_law k_M_weeks v_M_weeks x_L_231 i_L_law_1641 o_M_weeks (c_M_weeks hm1 hPM hP7 hBM hB7 hCn.pm) rfl (rcv_ob hm1.1 rfl (by omega)) rfl (by decide) (Nat.le_of_ble_eq_true rfl) (Nat.zero_le _) (Nat.zero_le _) (fun r2 w2 n2 hp2 => ?_)
  obtain ⟨rfl, ⟨hM2, hF2⟩, rfl⟩ := hp2
  have hE := eqv_weeks (v := gxs G (nI i + 1).toNatClampNeg) hR hCn
  refine r_icmp_eq 1744 i_L_law_1644 (by decide) (fun h1644 => ?_) (fun h1644 => (absurd hE.1 h1644))
  exact hk9 _ (law_next hX hC1 hF1 hM2 hF2 hE)
theorem law_named (hLI : LI w n) (hi : i + 6 ≤ gL G) (hL : gL G ≤ 384) (hk9 : ∀ w', LN w' n → Go G 100 299 1744 [some (.ref (gB + 201)), some (.ref 0), some (.ref 44), some (.int (nI i))] [] w' n bc bs post) : Go G 100 299 1649 [some (.ref (gB + 201)), some (.ref 0), some (.ref 44), some (.int (nI i))] [] w n bc bs post := by
  obtain ⟨Q, M, K, hC, hX, hR, hQ⟩ := hLI
  obtain ⟨P, B, hCn⟩ := hR.cnt
  obtain ⟨hP7, hB7, hP, hB, hPM, hBM, -⟩ := id hCn
  have hq := hR.2.2.2.2.2.1
  have g0 := hC.ob
  have gn := hC.lt
  have gm := hX.lt44
  refine r_aload_n (i := 1) i_L_law_1649 rfl rfl ?_
  refine r_aload_n (i := 0) i_L_law_1650 rfl rfl ?_
  refine r_iload_n (i := 3) i_L_law_1651 rfl rfl ?_
  refine r_iconst (v := (1 : Int32)) i_L_law_1652 rfl ?_
  refine r_iadd i_L_law_1653 ?_
  refine r_scriptAt i_L_law_1654 (sc_in (k := 1) hi hL (by decide)) ?_
  refine m_virtual o_L_law k_N_named v_N_named x_L_232 i_L_law_1655 o_N_named (c_N_named hC hq) rfl (rcv_ob g0 rfl (by omega)) rfl (by decide) (Nat.le_of_ble_eq_true rfl) (Nat.zero_le _) (Nat.zero_le _) (fun r1 w1 n1 hp1 => ?_)
  obtain ⟨rfl, ⟨hC1, hF1⟩, rfl⟩ := hp1
  have hm1 := (hX.cf hF1).1
  refine r_aload_n (i := 2) i_L_law_1658 rfl rfl ?_
  refine r_aload_n (i := 0) i_L_law_1659 rfl rfl ?_
  refine r_iload_n (i := 3) i_L_law_1660 rfl rfl ?_
  refine r_iconst (v := (1 : Int32)) i_L_law_1661 rfl ?_
  refine r_iadd i_L_law_1662 ?_
  refine r_scriptAt i_L_law_1663 (sc_in (k := 1) hi hL (by decide)) ?_
  refine m_virtual o_L_law k_M_named v_M_named x_L_235 i_L_law_1664 o_M_named (c_M_named hm1 hR.mo) rfl (rcv_ob hm1.1 rfl (by omega)) rfl (by decide) (Nat.le_of_ble_eq_true rfl) (Nat.zero_le _) (Nat.zero_le _) (fun r2 w2 n2 hp2 => ?_)
  obtain ⟨rfl, ⟨hM2, hF2⟩, rfl⟩ := hp2
  have hE := eqv_named (t := gxs G (nI i + 1).toNatClampNeg) hR hCn
  refine r_icmp_eq 1744 i_L_law_1667 (by decide) (fun h1667 => ?_) (fun h1667 => (absurd hE.1 h1667))
  exact hk9 _ (law_next hX hC1 hF1 hM2 hF2 hE)
theorem law_seed (hLI : LI w n) (hi : i + 6 ≤ gL G) (hL : gL G ≤ 384) (hk9 : ∀ w', LN w' n → Go G 100 299 1744 [some (.ref (gB + 201)), some (.ref 0), some (.ref 44), some (.int (nI i))] [] w' n bc bs post) : Go G 100 299 1672 [some (.ref (gB + 201)), some (.ref 0), some (.ref 44), some (.int (nI i))] [] w n bc bs post := by
  obtain ⟨Q, M, K, hC, hX, hR, hQ⟩ := hLI
  obtain ⟨P, B, hCn⟩ := hR.cnt
  obtain ⟨hP7, hB7, hP, hB, hPM, hBM, -⟩ := id hCn
  have hq := hR.2.2.2.2.2.1
  have g0 := hC.ob
  have gn := hC.lt
  have gm := hX.lt44
  refine r_aload_n (i := 1) i_L_law_1672 rfl rfl ?_
  refine r_aload_n (i := 0) i_L_law_1673 rfl rfl ?_
  refine r_iload_n (i := 3) i_L_law_1674 rfl rfl ?_
  refine r_iconst (v := (1 : Int32)) i_L_law_1675 rfl ?_
  refine r_iadd i_L_law_1676 ?_
  refine r_scriptAt i_L_law_1677 (sc_in (k := 1) hi hL (by decide)) ?_
  refine m_virtual o_L_law k_N_seed v_N_seed x_L_236 i_L_law_1678 o_N_seed (c_N_seed hC) rfl (rcv_ob g0 rfl (by omega)) rfl (by decide) (Nat.le_of_ble_eq_true rfl) (Nat.zero_le _) (Nat.zero_le _) (fun r1 w1 n1 hp1 => ?_)
  obtain ⟨rfl, ⟨hC1, hF1⟩, rfl⟩ := hp1
  have hm1 := (hX.cf hF1).1
  refine r_aload_n (i := 2) i_L_law_1681 rfl rfl ?_
  refine r_aload_n (i := 0) i_L_law_1682 rfl rfl ?_
  refine r_iload_n (i := 3) i_L_law_1683 rfl rfl ?_
  refine r_iconst (v := (1 : Int32)) i_L_law_1684 rfl ?_
  refine r_iadd i_L_law_1685 ?_
  refine r_scriptAt i_L_law_1686 (sc_in (k := 1) hi hL (by decide)) ?_
  refine m_virtual o_L_law k_M_seed v_M_seed x_L_239 i_L_law_1687 o_M_seed (c_M_seed hm1) rfl (rcv_ob hm1.1 rfl (by omega)) rfl (by decide) (Nat.le_of_ble_eq_true rfl) (Nat.zero_le _) (Nat.zero_le _) (fun r2 w2 n2 hp2 => ?_)
  obtain ⟨rfl, ⟨hM2, hF2⟩, rfl⟩ := hp2
  have hE := eqv_seed (v := gxs G (nI i + 1).toNatClampNeg) hR
  refine r_icmp_eq 1744 i_L_law_1690 (by decide) (fun h1690 => ?_) (fun h1690 => (absurd hE.1 h1690))
  exact hk9 _ (law_next hX hC1 hF1 hM2 hF2 hE)
theorem law_status (hLI : LI w n) (hi : i + 6 ≤ gL G) (hL : gL G ≤ 384) (hk9 : ∀ w', LN w' n → Go G 100 299 1744 [some (.ref (gB + 201)), some (.ref 0), some (.ref 44), some (.int (nI i))] [] w' n bc bs post) : Go G 100 299 1721 [some (.ref (gB + 201)), some (.ref 0), some (.ref 44), some (.int (nI i))] [] w n bc bs post := by
  obtain ⟨Q, M, K, hC, hX, hR, hQ⟩ := hLI
  obtain ⟨P, B, hCn⟩ := hR.cnt
  obtain ⟨hP7, hB7, hP, hB, hPM, hBM, -⟩ := id hCn
  have hq := hR.2.2.2.2.2.1
  have g0 := hC.ob
  have gn := hC.lt
  have gm := hX.lt44
  refine r_aload_n (i := 1) i_L_law_1721 rfl rfl ?_
  refine r_aload_n (i := 0) i_L_law_1722 rfl rfl ?_
  refine r_iload_n (i := 3) i_L_law_1723 rfl rfl ?_
  refine r_iconst (v := (1 : Int32)) i_L_law_1724 rfl ?_
  refine r_iadd i_L_law_1725 ?_
  refine r_scriptAt i_L_law_1726 (sc_in (k := 1) hi hL (by decide)) ?_
  refine m_virtual o_L_law k_N_status v_N_status x_L_248 i_L_law_1727 o_N_status (c_N_status hC) rfl (rcv_ob g0 rfl (by omega)) rfl (by decide) (Nat.le_of_ble_eq_true rfl) (Nat.zero_le _) (Nat.zero_le _) (fun r1 w1 n1 hp1 => ?_)
  obtain ⟨rfl, ⟨hC1, hF1⟩, rfl⟩ := hp1
  have hm1 := (hX.cf hF1).1
  refine r_aload_n (i := 2) i_L_law_1730 rfl rfl ?_
  refine r_aload_n (i := 0) i_L_law_1731 rfl rfl ?_
  refine r_iload_n (i := 3) i_L_law_1732 rfl rfl ?_
  refine r_iconst (v := (1 : Int32)) i_L_law_1733 rfl ?_
  refine r_iadd i_L_law_1734 ?_
  refine r_scriptAt i_L_law_1735 (sc_in (k := 1) hi hL (by decide)) ?_
  refine m_virtual o_L_law k_M_status v_M_status x_L_251 i_L_law_1736 o_M_status (c_M_status hm1) rfl (rcv_ob hm1.1 rfl (by omega)) rfl (by decide) (Nat.le_of_ble_eq_true rfl) (Nat.zero_le _) (Nat.zero_le _) (fun r2 w2 n2 hp2 => ?_)
  obtain ⟨rfl, ⟨hM2, hF2⟩, rfl⟩ := hp2
  have hE := eqv_status (k := gxs G (nI i + 1).toNatClampNeg) hR
  refine r_icmp_eq 1744 i_L_law_1739 (by decide) (fun h1739 => ?_) (fun h1739 => (absurd hE.1 h1739))
  exact hk9 _ (law_next hX hC1 hF1 hM2 hF2 hE)
end LAWC
