/-! THE LAW: the cases of its switch (written by mk68.py) -/
theorem d_law_339 : decode code 339 = .ok (.aload_n 1, 1) := by decide +kernel
theorem d_law_340 : decode code 340 = .ok (.aload_n 0, 1) := by decide +kernel
theorem d_law_341 : decode code 341 = .ok (.iload_n 3, 1) := by decide +kernel
theorem d_law_342 : decode code 342 = .ok (.iconst 1, 1) := by decide +kernel
theorem d_law_343 : decode code 343 = .ok (.iadd, 1) := by decide +kernel
theorem d_law_344 : decode code 344 = .ok (.iaload, 1) := by decide +kernel
theorem d_law_345 : decode code 345 = .ok (.invokevirtual 37, 3) := by decide +kernel
theorem d_law_348 : decode code 348 = .ok (.aload_n 2, 1) := by decide +kernel
theorem d_law_349 : decode code 349 = .ok (.aload_n 0, 1) := by decide +kernel
theorem d_law_350 : decode code 350 = .ok (.iload_n 3, 1) := by decide +kernel
theorem d_law_351 : decode code 351 = .ok (.iconst 1, 1) := by decide +kernel
theorem d_law_352 : decode code 352 = .ok (.iadd, 1) := by decide +kernel
theorem d_law_353 : decode code 353 = .ok (.iaload, 1) := by decide +kernel
theorem d_law_354 : decode code 354 = .ok (.invokevirtual 40, 3) := by decide +kernel
theorem d_law_357 : decode code 357 = .ok (.if_icmp .eq 768, 3) := by decide +kernel
theorem d_law_362 : decode code 362 = .ok (.aload_n 1, 1) := by decide +kernel
theorem d_law_363 : decode code 363 = .ok (.aload_n 0, 1) := by decide +kernel
theorem d_law_364 : decode code 364 = .ok (.iload_n 3, 1) := by decide +kernel
theorem d_law_365 : decode code 365 = .ok (.iconst 1, 1) := by decide +kernel
theorem d_law_366 : decode code 366 = .ok (.iadd, 1) := by decide +kernel
theorem d_law_367 : decode code 367 = .ok (.iaload, 1) := by decide +kernel
theorem d_law_368 : decode code 368 = .ok (.invokevirtual 41, 3) := by decide +kernel
theorem d_law_371 : decode code 371 = .ok (.aload_n 2, 1) := by decide +kernel
theorem d_law_372 : decode code 372 = .ok (.aload_n 0, 1) := by decide +kernel
theorem d_law_373 : decode code 373 = .ok (.iload_n 3, 1) := by decide +kernel
theorem d_law_374 : decode code 374 = .ok (.iconst 1, 1) := by decide +kernel
theorem d_law_375 : decode code 375 = .ok (.iadd, 1) := by decide +kernel
theorem d_law_376 : decode code 376 = .ok (.iaload, 1) := by decide +kernel
theorem d_law_377 : decode code 377 = .ok (.invokevirtual 44, 3) := by decide +kernel
theorem d_law_380 : decode code 380 = .ok (.if_icmp .eq 745, 3) := by decide +kernel
theorem d_law_385 : decode code 385 = .ok (.aload_n 1, 1) := by decide +kernel
theorem d_law_386 : decode code 386 = .ok (.aload_n 0, 1) := by decide +kernel
theorem d_law_387 : decode code 387 = .ok (.iload_n 3, 1) := by decide +kernel
theorem d_law_388 : decode code 388 = .ok (.iconst 1, 1) := by decide +kernel
theorem d_law_389 : decode code 389 = .ok (.iadd, 1) := by decide +kernel
theorem d_law_390 : decode code 390 = .ok (.iaload, 1) := by decide +kernel
theorem d_law_391 : decode code 391 = .ok (.i2l, 1) := by decide +kernel
theorem d_law_392 : decode code 392 = .ok (.bipush 32, 2) := by decide +kernel
theorem d_law_394 : decode code 394 = .ok (.lshl, 1) := by decide +kernel
theorem d_law_395 : decode code 395 = .ok (.aload_n 0, 1) := by decide +kernel
theorem d_law_396 : decode code 396 = .ok (.iload_n 3, 1) := by decide +kernel
theorem d_law_397 : decode code 397 = .ok (.iconst 2, 1) := by decide +kernel
theorem d_law_398 : decode code 398 = .ok (.iadd, 1) := by decide +kernel
theorem d_law_399 : decode code 399 = .ok (.iaload, 1) := by decide +kernel
theorem d_law_400 : decode code 400 = .ok (.i2l, 1) := by decide +kernel
theorem d_law_401 : decode code 401 = .ok (.ldc2_w 45, 3) := by decide +kernel
theorem d_law_404 : decode code 404 = .ok (.land, 1) := by decide +kernel
theorem d_law_405 : decode code 405 = .ok (.lor, 1) := by decide +kernel
theorem d_law_406 : decode code 406 = .ok (.aload_n 0, 1) := by decide +kernel
theorem d_law_407 : decode code 407 = .ok (.iload_n 3, 1) := by decide +kernel
theorem d_law_408 : decode code 408 = .ok (.iconst 3, 1) := by decide +kernel
theorem d_law_409 : decode code 409 = .ok (.iadd, 1) := by decide +kernel
theorem d_law_410 : decode code 410 = .ok (.iaload, 1) := by decide +kernel
theorem d_law_411 : decode code 411 = .ok (.invokevirtual 47, 3) := by decide +kernel
theorem d_law_414 : decode code 414 = .ok (.aload_n 2, 1) := by decide +kernel
theorem d_law_415 : decode code 415 = .ok (.aload_n 0, 1) := by decide +kernel
theorem d_law_416 : decode code 416 = .ok (.iload_n 3, 1) := by decide +kernel
theorem d_law_417 : decode code 417 = .ok (.iconst 1, 1) := by decide +kernel
theorem d_law_418 : decode code 418 = .ok (.iadd, 1) := by decide +kernel
theorem d_law_419 : decode code 419 = .ok (.iaload, 1) := by decide +kernel
theorem d_law_420 : decode code 420 = .ok (.i2l, 1) := by decide +kernel
theorem d_law_421 : decode code 421 = .ok (.bipush 32, 2) := by decide +kernel
theorem d_law_423 : decode code 423 = .ok (.lshl, 1) := by decide +kernel
theorem d_law_424 : decode code 424 = .ok (.aload_n 0, 1) := by decide +kernel
theorem d_law_425 : decode code 425 = .ok (.iload_n 3, 1) := by decide +kernel
theorem d_law_426 : decode code 426 = .ok (.iconst 2, 1) := by decide +kernel
theorem d_law_427 : decode code 427 = .ok (.iadd, 1) := by decide +kernel
theorem d_law_428 : decode code 428 = .ok (.iaload, 1) := by decide +kernel
theorem d_law_429 : decode code 429 = .ok (.i2l, 1) := by decide +kernel
theorem d_law_430 : decode code 430 = .ok (.ldc2_w 45, 3) := by decide +kernel
theorem d_law_433 : decode code 433 = .ok (.land, 1) := by decide +kernel
theorem d_law_434 : decode code 434 = .ok (.lor, 1) := by decide +kernel
theorem d_law_435 : decode code 435 = .ok (.aload_n 0, 1) := by decide +kernel
theorem d_law_436 : decode code 436 = .ok (.iload_n 3, 1) := by decide +kernel
theorem d_law_437 : decode code 437 = .ok (.iconst 3, 1) := by decide +kernel
theorem d_law_438 : decode code 438 = .ok (.iadd, 1) := by decide +kernel
theorem d_law_439 : decode code 439 = .ok (.iaload, 1) := by decide +kernel
theorem d_law_440 : decode code 440 = .ok (.invokevirtual 51, 3) := by decide +kernel
theorem d_law_443 : decode code 443 = .ok (.if_icmp .eq 682, 3) := by decide +kernel
theorem d_law_448 : decode code 448 = .ok (.aload_n 1, 1) := by decide +kernel
theorem d_law_449 : decode code 449 = .ok (.invokevirtual 52, 3) := by decide +kernel
theorem d_law_452 : decode code 452 = .ok (.aload_n 2, 1) := by decide +kernel
theorem d_law_453 : decode code 453 = .ok (.invokevirtual 56, 3) := by decide +kernel
theorem d_law_456 : decode code 456 = .ok (.if_icmp .eq 669, 3) := by decide +kernel
theorem d_law_461 : decode code 461 = .ok (.aload_n 1, 1) := by decide +kernel
theorem d_law_462 : decode code 462 = .ok (.aload_n 0, 1) := by decide +kernel
theorem d_law_463 : decode code 463 = .ok (.iload_n 3, 1) := by decide +kernel
theorem d_law_464 : decode code 464 = .ok (.iconst 1, 1) := by decide +kernel
theorem d_law_465 : decode code 465 = .ok (.iadd, 1) := by decide +kernel
theorem d_law_466 : decode code 466 = .ok (.iaload, 1) := by decide +kernel
theorem d_law_467 : decode code 467 = .ok (.invokevirtual 57, 3) := by decide +kernel
theorem d_law_470 : decode code 470 = .ok (.aload_n 2, 1) := by decide +kernel
theorem d_law_471 : decode code 471 = .ok (.aload_n 0, 1) := by decide +kernel
theorem d_law_472 : decode code 472 = .ok (.iload_n 3, 1) := by decide +kernel
theorem d_law_473 : decode code 473 = .ok (.iconst 1, 1) := by decide +kernel
theorem d_law_474 : decode code 474 = .ok (.iadd, 1) := by decide +kernel
theorem d_law_475 : decode code 475 = .ok (.iaload, 1) := by decide +kernel
theorem d_law_476 : decode code 476 = .ok (.invokevirtual 60, 3) := by decide +kernel
theorem d_law_479 : decode code 479 = .ok (.if_icmp .eq 646, 3) := by decide +kernel
set_option maxRecDepth 100000 in
set_option maxHeartbeats 4000000 in
theorem law_5 {p : Program} {l : Launch} {e : Env} {s : State} {m : MethodId} {below : List Frame} {meth : Method} {c : Code} {b L : Nat} {xs : Nat → Int32} {D : va_G} {ca : Nat → ClassId} {adX adM : Nat → Nat} (E : lw_E p s m c b D ca adX adM) (hX : va_X b L xs s s.heap) (hbl : b < s.heap.size) {i : Int32} (hi : ∀ k : Nat, k < 8 → vp_in (i + nI k) L) {A : am_A} {cn : Nat} (hcn : cn + 4096 ≤ 1073741824) {H : Heap} {locs : List Loc} {ls : Array Slot} (hl : lv_has ls 4 [(0, .ref b), (1, .ref (adX 0)), (2, .ref (adM 0)), (3, .int i)]) (hSt : lw_St s D ca adX adM (fun I L => CR I L A) (fun I L => MR I L A cn) H locs)
    (kk : ∀ (A2 : am_A) (c2 : Nat) (H2 : Heap) (locs2 : List Loc), c2 ≤ cn + 4096 → lw_St s D ca adX adM (fun I L => CR I L A2) (fun I L => MR I L A2 c2) H2 locs2 → W p l e room_1 s m #[Value.ref b] below meth c H2 locs2 600000 7302250 (lw_Z below #[Value.ref b] s) (F0 m 1125 ls [])) : W p l e room_1 s m #[Value.ref b] below meth c H locs 600000 7302250 (lw_Z below #[Value.ref b] s) (F0 m 339 ls []) := by
  obtain ⟨hx, hb, hml, hown, hU, hN, hK, hD⟩ := id E
  have hbA : ¬ (fun q : Nat => s.heap.size ≤ q) b := Nat.not_le.mpr hbl
  have hS := hSt.S
  have hi1 : vp_in (i + 1) L := hi 1 (by omega)
  refine lv_aload_n hx hb d_law_339 rfl (lv_at hl 1 rfl) ?_
  refine lv_aload_n hx hb d_law_340 rfl (lv_at hl 0 rfl) ?_
  refine lv_iload_n hx hb d_law_341 rfl (lv_at hl 3 rfl) ?_
  refine lv_iconst (v := 1) hx hb d_law_342 (by decide) ?_
  refine lv_iadd hx hb d_law_343 ?_
  refine va_sld hx hb hX hbl hbA hS hi1 d_law_344 ?_
  refine lw_cX E (n := 1) met_RP_home (am_pos 317 (by decide +kernel) rfl) (am_pos 318 (by decide +kernel) rfl) (am_pos 319 (by decide +kernel) rfl) (am_pos 35 (by decide +kernel) rfl) (am_pos 320 (by decide +kernel) rfl) ⟨by decide +kernel, by decide +kernel, by decide +kernel⟩ rfl rfl ⟨Nat.le_of_ble_eq_true rfl, Nat.le_of_ble_eq_true rfl⟩ rfl (t := [.int (xs (i + 1).toNatClampNeg)]) (r := []) (PX' := fun I L => CR I L (o_home A ((xs (i + 1).toNatClampNeg))).2) (rv := (o_home A ((xs (i + 1).toNatClampNeg))).1) d_law_345 rfl rfl (Nat.le_of_ble_eq_true rfl) hl.1 (fun I L hC => ⟨rfl, A, hC, fun I2 L2 h => ⟨rfl, h⟩⟩) hSt ⟨Nat.le_refl _, Nat.le_refl _⟩ (fun H locs hSt => ?_)
  have hS := hSt.S
  refine lv_aload_n hx hb d_law_348 rfl (lv_at hl 2 rfl) ?_
  refine lv_aload_n hx hb d_law_349 rfl (lv_at hl 0 rfl) ?_
  refine lv_iload_n hx hb d_law_350 rfl (lv_at hl 3 rfl) ?_
  refine lv_iconst (v := 1) hx hb d_law_351 (by decide) ?_
  refine lv_iadd hx hb d_law_352 ?_
  refine va_sld hx hb hX hbl hbA hS hi1 d_law_353 ?_
  refine lw_cM E (n := 1) met_MD_home (am_pos 710 (by decide +kernel) rfl) (am_pos 711 (by decide +kernel) rfl) (am_pos 712 (by decide +kernel) rfl) (am_pos 41 (by decide +kernel) rfl) (am_pos 713 (by decide +kernel) rfl) ⟨by decide +kernel, by decide +kernel, by decide +kernel⟩ rfl rfl ⟨Nat.le_of_ble_eq_true rfl, Nat.le_of_ble_eq_true rfl⟩ rfl (t := [.int (xs (i + 1).toNatClampNeg)]) (r := [.int ((o_home A ((xs (i + 1).toNatClampNeg))).1)]) (PM' := fun I L => ∃ c2, c2 ≤ cn + 4096 ∧ MR I L (o_home A ((xs (i + 1).toNatClampNeg))).2 c2) (rv := (o_home A ((xs (i + 1).toNatClampNeg))).1) d_law_354 rfl rfl (Nat.le_of_ble_eq_true rfl) hl.1 (fun I L hC => ⟨rfl, A, cn, hC, hcn, fun I2 L2 c2 h1 h2 => ⟨rfl, c2, h1, h2⟩⟩) hSt ⟨Nat.le_refl _, Nat.le_refl _⟩ (fun H locs hSt => ?_)
  have hS := hSt.S
  refine lv_icmp_eq (tgt := 1125) hx hb d_law_357 (by decide) (fun _ => ?_) (fun q => absurd rfl q)
  obtain ⟨IX, LX, IM, LM, a1, ⟨c2, b1, b2⟩, a3, a4, a5⟩ := hSt
  exact kk _ c2 _ _ b1 ⟨IX, LX, IM, LM, a1, b2, a3, a4, a5⟩
set_option maxRecDepth 100000 in
set_option maxHeartbeats 4000000 in
theorem law_6 {p : Program} {l : Launch} {e : Env} {s : State} {m : MethodId} {below : List Frame} {meth : Method} {c : Code} {b L : Nat} {xs : Nat → Int32} {D : va_G} {ca : Nat → ClassId} {adX adM : Nat → Nat} (E : lw_E p s m c b D ca adX adM) (hX : va_X b L xs s s.heap) (hbl : b < s.heap.size) {i : Int32} (hi : ∀ k : Nat, k < 8 → vp_in (i + nI k) L) {A : am_A} {cn : Nat} (hcn : cn + 4096 ≤ 1073741824) {H : Heap} {locs : List Loc} {ls : Array Slot} (hl : lv_has ls 4 [(0, .ref b), (1, .ref (adX 0)), (2, .ref (adM 0)), (3, .int i)]) (hSt : lw_St s D ca adX adM (fun I L => CR I L A) (fun I L => MR I L A cn) H locs)
    (kk : ∀ (A2 : am_A) (c2 : Nat) (H2 : Heap) (locs2 : List Loc), c2 ≤ cn + 4096 → lw_St s D ca adX adM (fun I L => CR I L A2) (fun I L => MR I L A2 c2) H2 locs2 → W p l e room_1 s m #[Value.ref b] below meth c H2 locs2 600000 7302250 (lw_Z below #[Value.ref b] s) (F0 m 1125 ls [])) : W p l e room_1 s m #[Value.ref b] below meth c H locs 600000 7302250 (lw_Z below #[Value.ref b] s) (F0 m 362 ls []) := by
  obtain ⟨hx, hb, hml, hown, hU, hN, hK, hD⟩ := id E
  have hbA : ¬ (fun q : Nat => s.heap.size ≤ q) b := Nat.not_le.mpr hbl
  have hS := hSt.S
  have hi1 : vp_in (i + 1) L := hi 1 (by omega)
  refine lv_aload_n hx hb d_law_362 rfl (lv_at hl 1 rfl) ?_
  refine lv_aload_n hx hb d_law_363 rfl (lv_at hl 0 rfl) ?_
  refine lv_iload_n hx hb d_law_364 rfl (lv_at hl 3 rfl) ?_
  refine lv_iconst (v := 1) hx hb d_law_365 (by decide) ?_
  refine lv_iadd hx hb d_law_366 ?_
  refine va_sld hx hb hX hbl hbA hS hi1 d_law_367 ?_
  refine lw_cX E (n := 1) met_RP_snow (am_pos 321 (by decide +kernel) rfl) (am_pos 322 (by decide +kernel) rfl) (am_pos 323 (by decide +kernel) rfl) (am_pos 35 (by decide +kernel) rfl) (am_pos 324 (by decide +kernel) rfl) ⟨by decide +kernel, by decide +kernel, by decide +kernel⟩ rfl rfl ⟨Nat.le_of_ble_eq_true rfl, Nat.le_of_ble_eq_true rfl⟩ rfl (t := [.int (xs (i + 1).toNatClampNeg)]) (r := []) (PX' := fun I L => CR I L (o_snow A ((xs (i + 1).toNatClampNeg))).2) (rv := (o_snow A ((xs (i + 1).toNatClampNeg))).1) d_law_368 rfl rfl (Nat.le_of_ble_eq_true rfl) hl.1 (fun I L hC => ⟨rfl, A, hC, fun I2 L2 h => ⟨rfl, h⟩⟩) hSt ⟨Nat.le_refl _, Nat.le_refl _⟩ (fun H locs hSt => ?_)
  have hS := hSt.S
  refine lv_aload_n hx hb d_law_371 rfl (lv_at hl 2 rfl) ?_
  refine lv_aload_n hx hb d_law_372 rfl (lv_at hl 0 rfl) ?_
  refine lv_iload_n hx hb d_law_373 rfl (lv_at hl 3 rfl) ?_
  refine lv_iconst (v := 1) hx hb d_law_374 (by decide) ?_
  refine lv_iadd hx hb d_law_375 ?_
  refine va_sld hx hb hX hbl hbA hS hi1 d_law_376 ?_
  refine lw_cM E (n := 1) met_MD_snow (am_pos 714 (by decide +kernel) rfl) (am_pos 715 (by decide +kernel) rfl) (am_pos 716 (by decide +kernel) rfl) (am_pos 41 (by decide +kernel) rfl) (am_pos 717 (by decide +kernel) rfl) ⟨by decide +kernel, by decide +kernel, by decide +kernel⟩ rfl rfl ⟨Nat.le_of_ble_eq_true rfl, Nat.le_of_ble_eq_true rfl⟩ rfl (t := [.int (xs (i + 1).toNatClampNeg)]) (r := [.int ((o_snow A ((xs (i + 1).toNatClampNeg))).1)]) (PM' := fun I L => ∃ c2, c2 ≤ cn + 4096 ∧ MR I L (o_snow A ((xs (i + 1).toNatClampNeg))).2 c2) (rv := (o_snow A ((xs (i + 1).toNatClampNeg))).1) d_law_377 rfl rfl (Nat.le_of_ble_eq_true rfl) hl.1 (fun I L hC => ⟨rfl, A, cn, hC, hcn, fun I2 L2 c2 h1 h2 => ⟨rfl, c2, h1, h2⟩⟩) hSt ⟨Nat.le_refl _, Nat.le_refl _⟩ (fun H locs hSt => ?_)
  have hS := hSt.S
  refine lv_icmp_eq (tgt := 1125) hx hb d_law_380 (by decide) (fun _ => ?_) (fun q => absurd rfl q)
  obtain ⟨IX, LX, IM, LM, a1, ⟨c2, b1, b2⟩, a3, a4, a5⟩ := hSt
  exact kk _ c2 _ _ b1 ⟨IX, LX, IM, LM, a1, b2, a3, a4, a5⟩
set_option maxRecDepth 100000 in
set_option maxHeartbeats 4000000 in
theorem law_7 {p : Program} {l : Launch} {e : Env} {s : State} {m : MethodId} {below : List Frame} {meth : Method} {c : Code} {b L : Nat} {xs : Nat → Int32} {D : va_G} {ca : Nat → ClassId} {adX adM : Nat → Nat} (E : lw_E p s m c b D ca adX adM) (hX : va_X b L xs s s.heap) (hbl : b < s.heap.size) {i : Int32} (hi : ∀ k : Nat, k < 8 → vp_in (i + nI k) L) {A : am_A} {cn : Nat} (hcn : cn + 4096 ≤ 1073741824) {H : Heap} {locs : List Loc} {ls : Array Slot} (hl : lv_has ls 4 [(0, .ref b), (1, .ref (adX 0)), (2, .ref (adM 0)), (3, .int i)]) (hSt : lw_St s D ca adX adM (fun I L => CR I L A) (fun I L => MR I L A cn) H locs)
    (kk : ∀ (A2 : am_A) (c2 : Nat) (H2 : Heap) (locs2 : List Loc), c2 ≤ cn + 4096 → lw_St s D ca adX adM (fun I L => CR I L A2) (fun I L => MR I L A2 c2) H2 locs2 → W p l e room_1 s m #[Value.ref b] below meth c H2 locs2 600000 7302250 (lw_Z below #[Value.ref b] s) (F0 m 1125 ls [])) : W p l e room_1 s m #[Value.ref b] below meth c H locs 600000 7302250 (lw_Z below #[Value.ref b] s) (F0 m 385 ls []) := by
  obtain ⟨hx, hb, hml, hown, hU, hN, hK, hD⟩ := id E
  have hbA : ¬ (fun q : Nat => s.heap.size ≤ q) b := Nat.not_le.mpr hbl
  have hS := hSt.S
  have hi1 : vp_in (i + 1) L := hi 1 (by omega)
  have hi2 : vp_in (i + 2) L := hi 2 (by omega)
  have hi3 : vp_in (i + 3) L := hi 3 (by omega)
  refine lv_aload_n hx hb d_law_385 rfl (lv_at hl 1 rfl) ?_
  refine lv_aload_n hx hb d_law_386 rfl (lv_at hl 0 rfl) ?_
  refine lv_iload_n hx hb d_law_387 rfl (lv_at hl 3 rfl) ?_
  refine lv_iconst (v := 1) hx hb d_law_388 (by decide) ?_
  refine lv_iadd hx hb d_law_389 ?_
  refine va_sld hx hb hX hbl hbA hS hi1 d_law_390 ?_
  refine lv_i2l hx hb d_law_391 rfl ?_
  refine lv_bipush (v := 32) hx hb d_law_392 (by decide) ?_
  refine lv_lshl hx hb d_law_394 rfl ?_
  refine lv_aload_n hx hb d_law_395 rfl (lv_at hl 0 rfl) ?_
  refine lv_iload_n hx hb d_law_396 rfl (lv_at hl 3 rfl) ?_
  refine lv_iconst (v := 2) hx hb d_law_397 (by decide) ?_
  refine lv_iadd hx hb d_law_398 ?_
  refine va_sld hx hb hX hbl hbA hS hi2 d_law_399 ?_
  refine lv_i2l hx hb d_law_400 rfl ?_
  refine lv_ldc2 (v := 4294967295) hx hb hown (hU _ (am_pos 881 (by decide +kernel) rfl)) d_law_401 ?_
  refine lv_land hx hb d_law_404 ?_
  refine lv_lor hx hb d_law_405 ?_
  refine lv_aload_n hx hb d_law_406 rfl (lv_at hl 0 rfl) ?_
  refine lv_iload_n hx hb d_law_407 rfl (lv_at hl 3 rfl) ?_
  refine lv_iconst (v := 3) hx hb d_law_408 (by decide) ?_
  refine lv_iadd hx hb d_law_409 ?_
  refine va_sld hx hb hX hbl hbA hS hi3 d_law_410 ?_
  refine lw_cX E (n := 2) met_RP_type (am_pos 325 (by decide +kernel) rfl) (am_pos 326 (by decide +kernel) rfl) (am_pos 327 (by decide +kernel) rfl) (am_pos 35 (by decide +kernel) rfl) (am_pos 328 (by decide +kernel) rfl) ⟨by decide +kernel, by decide +kernel, by decide +kernel⟩ rfl rfl ⟨Nat.le_of_ble_eq_true rfl, Nat.le_of_ble_eq_true rfl⟩ rfl (t := [.long ((((xs (i + 1).toNatClampNeg)).toInt64 <<< ((32 : Int32).toInt64 &&& 63)) ||| (((xs (i + 2).toNatClampNeg)).toInt64 &&& 4294967295)), .int (xs (i + 3).toNatClampNeg)]) (r := []) (PX' := fun I L => CR I L (o_type A (((((xs (i + 1).toNatClampNeg)).toInt64 <<< ((32 : Int32).toInt64 &&& 63)) ||| (((xs (i + 2).toNatClampNeg)).toInt64 &&& 4294967295))) ((xs (i + 3).toNatClampNeg))).2) (rv := (o_type A (((((xs (i + 1).toNatClampNeg)).toInt64 <<< ((32 : Int32).toInt64 &&& 63)) ||| (((xs (i + 2).toNatClampNeg)).toInt64 &&& 4294967295))) ((xs (i + 3).toNatClampNeg))).1) d_law_411 rfl rfl (Nat.le_of_ble_eq_true rfl) hl.1 (fun I L hC => ⟨rfl, A, hC, fun I2 L2 h => ⟨rfl, h⟩⟩) hSt ⟨Nat.le_refl _, Nat.le_refl _⟩ (fun H locs hSt => ?_)
  have hS := hSt.S
  refine lv_aload_n hx hb d_law_414 rfl (lv_at hl 2 rfl) ?_
  refine lv_aload_n hx hb d_law_415 rfl (lv_at hl 0 rfl) ?_
  refine lv_iload_n hx hb d_law_416 rfl (lv_at hl 3 rfl) ?_
  refine lv_iconst (v := 1) hx hb d_law_417 (by decide) ?_
  refine lv_iadd hx hb d_law_418 ?_
  refine va_sld hx hb hX hbl hbA hS hi1 d_law_419 ?_
  refine lv_i2l hx hb d_law_420 rfl ?_
  refine lv_bipush (v := 32) hx hb d_law_421 (by decide) ?_
  refine lv_lshl hx hb d_law_423 rfl ?_
  refine lv_aload_n hx hb d_law_424 rfl (lv_at hl 0 rfl) ?_
  refine lv_iload_n hx hb d_law_425 rfl (lv_at hl 3 rfl) ?_
  refine lv_iconst (v := 2) hx hb d_law_426 (by decide) ?_
  refine lv_iadd hx hb d_law_427 ?_
  refine va_sld hx hb hX hbl hbA hS hi2 d_law_428 ?_
  refine lv_i2l hx hb d_law_429 rfl ?_
  refine lv_ldc2 (v := 4294967295) hx hb hown (hU _ (am_pos 881 (by decide +kernel) rfl)) d_law_430 ?_
  refine lv_land hx hb d_law_433 ?_
  refine lv_lor hx hb d_law_434 ?_
  refine lv_aload_n hx hb d_law_435 rfl (lv_at hl 0 rfl) ?_
  refine lv_iload_n hx hb d_law_436 rfl (lv_at hl 3 rfl) ?_
  refine lv_iconst (v := 3) hx hb d_law_437 (by decide) ?_
  refine lv_iadd hx hb d_law_438 ?_
  refine va_sld hx hb hX hbl hbA hS hi3 d_law_439 ?_
  refine lw_cM E (n := 2) met_MD_type (am_pos 718 (by decide +kernel) rfl) (am_pos 719 (by decide +kernel) rfl) (am_pos 720 (by decide +kernel) rfl) (am_pos 41 (by decide +kernel) rfl) (am_pos 721 (by decide +kernel) rfl) ⟨by decide +kernel, by decide +kernel, by decide +kernel⟩ rfl rfl ⟨Nat.le_of_ble_eq_true rfl, Nat.le_of_ble_eq_true rfl⟩ rfl (t := [.long ((((xs (i + 1).toNatClampNeg)).toInt64 <<< ((32 : Int32).toInt64 &&& 63)) ||| (((xs (i + 2).toNatClampNeg)).toInt64 &&& 4294967295)), .int (xs (i + 3).toNatClampNeg)]) (r := [.int ((o_type A (((((xs (i + 1).toNatClampNeg)).toInt64 <<< ((32 : Int32).toInt64 &&& 63)) ||| (((xs (i + 2).toNatClampNeg)).toInt64 &&& 4294967295))) ((xs (i + 3).toNatClampNeg))).1)]) (PM' := fun I L => ∃ c2, c2 ≤ cn + 4096 ∧ MR I L (o_type A (((((xs (i + 1).toNatClampNeg)).toInt64 <<< ((32 : Int32).toInt64 &&& 63)) ||| (((xs (i + 2).toNatClampNeg)).toInt64 &&& 4294967295))) ((xs (i + 3).toNatClampNeg))).2 c2) (rv := (o_type A (((((xs (i + 1).toNatClampNeg)).toInt64 <<< ((32 : Int32).toInt64 &&& 63)) ||| (((xs (i + 2).toNatClampNeg)).toInt64 &&& 4294967295))) ((xs (i + 3).toNatClampNeg))).1) d_law_440 rfl rfl (Nat.le_of_ble_eq_true rfl) hl.1 (fun I L hC => ⟨rfl, A, cn, hC, hcn, fun I2 L2 c2 h1 h2 => ⟨rfl, c2, h1, h2⟩⟩) hSt ⟨Nat.le_refl _, Nat.le_refl _⟩ (fun H locs hSt => ?_)
  have hS := hSt.S
  refine lv_icmp_eq (tgt := 1125) hx hb d_law_443 (by decide) (fun _ => ?_) (fun q => absurd rfl q)
  obtain ⟨IX, LX, IM, LM, a1, ⟨c2, b1, b2⟩, a3, a4, a5⟩ := hSt
  exact kk _ c2 _ _ b1 ⟨IX, LX, IM, LM, a1, b2, a3, a4, a5⟩
set_option maxRecDepth 100000 in
set_option maxHeartbeats 4000000 in
theorem law_8 {p : Program} {l : Launch} {e : Env} {s : State} {m : MethodId} {below : List Frame} {meth : Method} {c : Code} {b L : Nat} {xs : Nat → Int32} {D : va_G} {ca : Nat → ClassId} {adX adM : Nat → Nat} (E : lw_E p s m c b D ca adX adM) (hX : va_X b L xs s s.heap) (hbl : b < s.heap.size) {i : Int32} (hi : ∀ k : Nat, k < 8 → vp_in (i + nI k) L) {A : am_A} {cn : Nat} (hcn : cn + 4096 ≤ 1073741824) {H : Heap} {locs : List Loc} {ls : Array Slot} (hl : lv_has ls 4 [(0, .ref b), (1, .ref (adX 0)), (2, .ref (adM 0)), (3, .int i)]) (hSt : lw_St s D ca adX adM (fun I L => CR I L A) (fun I L => MR I L A cn) H locs)
    (kk : ∀ (A2 : am_A) (c2 : Nat) (H2 : Heap) (locs2 : List Loc), c2 ≤ cn + 4096 → lw_St s D ca adX adM (fun I L => CR I L A2) (fun I L => MR I L A2 c2) H2 locs2 → W p l e room_1 s m #[Value.ref b] below meth c H2 locs2 600000 7302250 (lw_Z below #[Value.ref b] s) (F0 m 1125 ls [])) : W p l e room_1 s m #[Value.ref b] below meth c H locs 600000 7302250 (lw_Z below #[Value.ref b] s) (F0 m 448 ls []) := by
  obtain ⟨hx, hb, hml, hown, hU, hN, hK, hD⟩ := id E
  have hbA : ¬ (fun q : Nat => s.heap.size ≤ q) b := Nat.not_le.mpr hbl
  have hS := hSt.S
  refine lv_aload_n hx hb d_law_448 rfl (lv_at hl 1 rfl) ?_
  refine lw_cX E (n := 0) met_RP_pass (am_pos 340 (by decide +kernel) rfl) (am_pos 341 (by decide +kernel) rfl) (am_pos 342 (by decide +kernel) rfl) (am_pos 35 (by decide +kernel) rfl) (am_pos 343 (by decide +kernel) rfl) ⟨by decide +kernel, by decide +kernel, by decide +kernel⟩ rfl rfl ⟨Nat.le_of_ble_eq_true rfl, Nat.le_of_ble_eq_true rfl⟩ rfl (t := []) (r := []) (PX' := fun I L => ∀ u, CR I L (o_pass A u).2) (rv := (o_pass A (fun _ => 0)).1) d_law_449 rfl rfl (Nat.le_of_ble_eq_true rfl) hl.1 (fun I L hC => ⟨rfl, A, hC, fun I2 L2 h => ⟨rfl, h⟩⟩) hSt ⟨Nat.le_refl _, Nat.le_refl _⟩ (fun H locs hSt => ?_)
  have hS := hSt.S
  refine lv_aload_n hx hb d_law_452 rfl (lv_at hl 2 rfl) ?_
  refine lw_cM E (n := 0) met_MD_pass (am_pos 726 (by decide +kernel) rfl) (am_pos 727 (by decide +kernel) rfl) (am_pos 728 (by decide +kernel) rfl) (am_pos 41 (by decide +kernel) rfl) (am_pos 729 (by decide +kernel) rfl) ⟨by decide +kernel, by decide +kernel, by decide +kernel⟩ rfl rfl ⟨Nat.le_of_ble_eq_true rfl, Nat.le_of_ble_eq_true rfl⟩ rfl (t := []) (r := [.int ((o_pass A (fun _ => 0)).1)]) (PM' := fun I L => ∃ u c2, c2 ≤ cn + 4096 ∧ MR I L (o_pass A u).2 c2) (rv := (o_pass A (fun _ => 0)).1) d_law_453 rfl rfl (Nat.le_of_ble_eq_true rfl) hl.1 (fun I L hC => ⟨rfl, A, cn, hC, hcn, fun I2 L2 c2 u h1 h2 => ⟨rfl, u, c2, h1, h2⟩⟩) hSt ⟨Nat.le_refl _, Nat.le_refl _⟩ (fun H locs hSt => ?_)
  have hS := hSt.S
  refine lv_icmp_eq (tgt := 1125) hx hb d_law_456 (by decide) (fun _ => ?_) (fun q => absurd rfl q)
  obtain ⟨IX, LX, IM, LM, a1, ⟨u, c2, b1, b2⟩, a3, a4, a5⟩ := hSt
  exact kk _ c2 _ _ b1 ⟨IX, LX, IM, LM, a1 u, b2, a3, a4, a5⟩
set_option maxRecDepth 100000 in
set_option maxHeartbeats 4000000 in
theorem law_9 {p : Program} {l : Launch} {e : Env} {s : State} {m : MethodId} {below : List Frame} {meth : Method} {c : Code} {b L : Nat} {xs : Nat → Int32} {D : va_G} {ca : Nat → ClassId} {adX adM : Nat → Nat} (E : lw_E p s m c b D ca adX adM) (hX : va_X b L xs s s.heap) (hbl : b < s.heap.size) {i : Int32} (hi : ∀ k : Nat, k < 8 → vp_in (i + nI k) L) {A : am_A} {cn : Nat} (hcn : cn + 4096 ≤ 1073741824) {H : Heap} {locs : List Loc} {ls : Array Slot} (hl : lv_has ls 4 [(0, .ref b), (1, .ref (adX 0)), (2, .ref (adM 0)), (3, .int i)]) (hSt : lw_St s D ca adX adM (fun I L => CR I L A) (fun I L => MR I L A cn) H locs)
    (kk : ∀ (A2 : am_A) (c2 : Nat) (H2 : Heap) (locs2 : List Loc), c2 ≤ cn + 4096 → lw_St s D ca adX adM (fun I L => CR I L A2) (fun I L => MR I L A2 c2) H2 locs2 → W p l e room_1 s m #[Value.ref b] below meth c H2 locs2 600000 7302250 (lw_Z below #[Value.ref b] s) (F0 m 1125 ls [])) : W p l e room_1 s m #[Value.ref b] below meth c H locs 600000 7302250 (lw_Z below #[Value.ref b] s) (F0 m 461 ls []) := by
  obtain ⟨hx, hb, hml, hown, hU, hN, hK, hD⟩ := id E
  have hbA : ¬ (fun q : Nat => s.heap.size ≤ q) b := Nat.not_le.mpr hbl
  have hS := hSt.S
  have hi1 : vp_in (i + 1) L := hi 1 (by omega)
  refine lv_aload_n hx hb d_law_461 rfl (lv_at hl 1 rfl) ?_
  refine lv_aload_n hx hb d_law_462 rfl (lv_at hl 0 rfl) ?_
  refine lv_iload_n hx hb d_law_463 rfl (lv_at hl 3 rfl) ?_
  refine lv_iconst (v := 1) hx hb d_law_464 (by decide) ?_
  refine lv_iadd hx hb d_law_465 ?_
  refine va_sld hx hb hX hbl hbA hS hi1 d_law_466 ?_
  refine lw_cX E (n := 1) met_RP_count (am_pos 394 (by decide +kernel) rfl) (am_pos 395 (by decide +kernel) rfl) (am_pos 396 (by decide +kernel) rfl) (am_pos 35 (by decide +kernel) rfl) (am_pos 397 (by decide +kernel) rfl) ⟨by decide +kernel, by decide +kernel, by decide +kernel⟩ rfl rfl ⟨Nat.le_of_ble_eq_true rfl, Nat.le_of_ble_eq_true rfl⟩ rfl (t := [.int (xs (i + 1).toNatClampNeg)]) (r := []) (PX' := fun I L => CR I L (o_count A ((xs (i + 1).toNatClampNeg))).2) (rv := (o_count A ((xs (i + 1).toNatClampNeg))).1) d_law_467 rfl rfl (Nat.le_of_ble_eq_true rfl) hl.1 (fun I L hC => ⟨rfl, A, hC, fun I2 L2 h => ⟨rfl, h⟩⟩) hSt ⟨Nat.le_refl _, Nat.le_refl _⟩ (fun H locs hSt => ?_)
  have hS := hSt.S
  refine lv_aload_n hx hb d_law_470 rfl (lv_at hl 2 rfl) ?_
  refine lv_aload_n hx hb d_law_471 rfl (lv_at hl 0 rfl) ?_
  refine lv_iload_n hx hb d_law_472 rfl (lv_at hl 3 rfl) ?_
  refine lv_iconst (v := 1) hx hb d_law_473 (by decide) ?_
  refine lv_iadd hx hb d_law_474 ?_
  refine va_sld hx hb hX hbl hbA hS hi1 d_law_475 ?_
  refine lw_cM E (n := 1) met_MD_count (am_pos 750 (by decide +kernel) rfl) (am_pos 751 (by decide +kernel) rfl) (am_pos 752 (by decide +kernel) rfl) (am_pos 41 (by decide +kernel) rfl) (am_pos 753 (by decide +kernel) rfl) ⟨by decide +kernel, by decide +kernel, by decide +kernel⟩ rfl rfl ⟨Nat.le_of_ble_eq_true rfl, Nat.le_of_ble_eq_true rfl⟩ rfl (t := [.int (xs (i + 1).toNatClampNeg)]) (r := [.int ((o_count A ((xs (i + 1).toNatClampNeg))).1)]) (PM' := fun I L => ∃ c2, c2 ≤ cn + 4096 ∧ MR I L (o_count A ((xs (i + 1).toNatClampNeg))).2 c2) (rv := (o_count A ((xs (i + 1).toNatClampNeg))).1) d_law_476 rfl rfl (Nat.le_of_ble_eq_true rfl) hl.1 (fun I L hC => ⟨rfl, A, cn, hC, hcn, fun I2 L2 c2 h1 h2 => ⟨rfl, c2, h1, h2⟩⟩) hSt ⟨Nat.le_refl _, Nat.le_refl _⟩ (fun H locs hSt => ?_)
  have hS := hSt.S
  refine lv_icmp_eq (tgt := 1125) hx hb d_law_479 (by decide) (fun _ => ?_) (fun q => absurd rfl q)
  obtain ⟨IX, LX, IM, LM, a1, ⟨c2, b1, b2⟩, a3, a4, a5⟩ := hSt
  exact kk _ c2 _ _ b1 ⟨IX, LX, IM, LM, a1, b2, a3, a4, a5⟩
