/-! THE LAW: the cases of its switch (written by mk68.py) -/
theorem d_law_484 : decode code 484 = .ok (.aload_n 1, 1) := by decide +kernel
theorem d_law_485 : decode code 485 = .ok (.aload_n 0, 1) := by decide +kernel
theorem d_law_486 : decode code 486 = .ok (.iload_n 3, 1) := by decide +kernel
theorem d_law_487 : decode code 487 = .ok (.iconst 1, 1) := by decide +kernel
theorem d_law_488 : decode code 488 = .ok (.iadd, 1) := by decide +kernel
theorem d_law_489 : decode code 489 = .ok (.iaload, 1) := by decide +kernel
theorem d_law_490 : decode code 490 = .ok (.aload_n 0, 1) := by decide +kernel
theorem d_law_491 : decode code 491 = .ok (.iload_n 3, 1) := by decide +kernel
theorem d_law_492 : decode code 492 = .ok (.iconst 2, 1) := by decide +kernel
theorem d_law_493 : decode code 493 = .ok (.iadd, 1) := by decide +kernel
theorem d_law_494 : decode code 494 = .ok (.iaload, 1) := by decide +kernel
theorem d_law_495 : decode code 495 = .ok (.invokevirtual 61, 3) := by decide +kernel
theorem d_law_498 : decode code 498 = .ok (.aload_n 2, 1) := by decide +kernel
theorem d_law_499 : decode code 499 = .ok (.aload_n 0, 1) := by decide +kernel
theorem d_law_500 : decode code 500 = .ok (.iload_n 3, 1) := by decide +kernel
theorem d_law_501 : decode code 501 = .ok (.iconst 1, 1) := by decide +kernel
theorem d_law_502 : decode code 502 = .ok (.iadd, 1) := by decide +kernel
theorem d_law_503 : decode code 503 = .ok (.iaload, 1) := by decide +kernel
theorem d_law_504 : decode code 504 = .ok (.aload_n 0, 1) := by decide +kernel
theorem d_law_505 : decode code 505 = .ok (.iload_n 3, 1) := by decide +kernel
theorem d_law_506 : decode code 506 = .ok (.iconst 2, 1) := by decide +kernel
theorem d_law_507 : decode code 507 = .ok (.iadd, 1) := by decide +kernel
theorem d_law_508 : decode code 508 = .ok (.iaload, 1) := by decide +kernel
theorem d_law_509 : decode code 509 = .ok (.invokevirtual 64, 3) := by decide +kernel
theorem d_law_512 : decode code 512 = .ok (.if_icmp .eq 613, 3) := by decide +kernel
theorem d_law_517 : decode code 517 = .ok (.aload_n 1, 1) := by decide +kernel
theorem d_law_518 : decode code 518 = .ok (.aload_n 0, 1) := by decide +kernel
theorem d_law_519 : decode code 519 = .ok (.iload_n 3, 1) := by decide +kernel
theorem d_law_520 : decode code 520 = .ok (.iconst 1, 1) := by decide +kernel
theorem d_law_521 : decode code 521 = .ok (.iadd, 1) := by decide +kernel
theorem d_law_522 : decode code 522 = .ok (.iaload, 1) := by decide +kernel
theorem d_law_523 : decode code 523 = .ok (.aload_n 0, 1) := by decide +kernel
theorem d_law_524 : decode code 524 = .ok (.iload_n 3, 1) := by decide +kernel
theorem d_law_525 : decode code 525 = .ok (.iconst 2, 1) := by decide +kernel
theorem d_law_526 : decode code 526 = .ok (.iadd, 1) := by decide +kernel
theorem d_law_527 : decode code 527 = .ok (.iaload, 1) := by decide +kernel
theorem d_law_528 : decode code 528 = .ok (.aload_n 0, 1) := by decide +kernel
theorem d_law_529 : decode code 529 = .ok (.iload_n 3, 1) := by decide +kernel
theorem d_law_530 : decode code 530 = .ok (.iconst 3, 1) := by decide +kernel
theorem d_law_531 : decode code 531 = .ok (.iadd, 1) := by decide +kernel
theorem d_law_532 : decode code 532 = .ok (.iaload, 1) := by decide +kernel
theorem d_law_533 : decode code 533 = .ok (.invokevirtual 65, 3) := by decide +kernel
theorem d_law_536 : decode code 536 = .ok (.aload_n 2, 1) := by decide +kernel
theorem d_law_537 : decode code 537 = .ok (.aload_n 0, 1) := by decide +kernel
theorem d_law_538 : decode code 538 = .ok (.iload_n 3, 1) := by decide +kernel
theorem d_law_539 : decode code 539 = .ok (.iconst 1, 1) := by decide +kernel
theorem d_law_540 : decode code 540 = .ok (.iadd, 1) := by decide +kernel
theorem d_law_541 : decode code 541 = .ok (.iaload, 1) := by decide +kernel
theorem d_law_542 : decode code 542 = .ok (.aload_n 0, 1) := by decide +kernel
theorem d_law_543 : decode code 543 = .ok (.iload_n 3, 1) := by decide +kernel
theorem d_law_544 : decode code 544 = .ok (.iconst 2, 1) := by decide +kernel
theorem d_law_545 : decode code 545 = .ok (.iadd, 1) := by decide +kernel
theorem d_law_546 : decode code 546 = .ok (.iaload, 1) := by decide +kernel
theorem d_law_547 : decode code 547 = .ok (.aload_n 0, 1) := by decide +kernel
theorem d_law_548 : decode code 548 = .ok (.iload_n 3, 1) := by decide +kernel
theorem d_law_549 : decode code 549 = .ok (.iconst 3, 1) := by decide +kernel
theorem d_law_550 : decode code 550 = .ok (.iadd, 1) := by decide +kernel
theorem d_law_551 : decode code 551 = .ok (.iaload, 1) := by decide +kernel
theorem d_law_552 : decode code 552 = .ok (.invokevirtual 68, 3) := by decide +kernel
theorem d_law_555 : decode code 555 = .ok (.if_icmp .eq 570, 3) := by decide +kernel
theorem d_law_560 : decode code 560 = .ok (.aload_n 1, 1) := by decide +kernel
theorem d_law_561 : decode code 561 = .ok (.aload_n 0, 1) := by decide +kernel
theorem d_law_562 : decode code 562 = .ok (.iload_n 3, 1) := by decide +kernel
theorem d_law_563 : decode code 563 = .ok (.iconst 1, 1) := by decide +kernel
theorem d_law_564 : decode code 564 = .ok (.iadd, 1) := by decide +kernel
theorem d_law_565 : decode code 565 = .ok (.iaload, 1) := by decide +kernel
theorem d_law_566 : decode code 566 = .ok (.aload_n 0, 1) := by decide +kernel
theorem d_law_567 : decode code 567 = .ok (.iload_n 3, 1) := by decide +kernel
theorem d_law_568 : decode code 568 = .ok (.iconst 2, 1) := by decide +kernel
theorem d_law_569 : decode code 569 = .ok (.iadd, 1) := by decide +kernel
theorem d_law_570 : decode code 570 = .ok (.iaload, 1) := by decide +kernel
theorem d_law_571 : decode code 571 = .ok (.aload_n 0, 1) := by decide +kernel
theorem d_law_572 : decode code 572 = .ok (.iload_n 3, 1) := by decide +kernel
theorem d_law_573 : decode code 573 = .ok (.iconst 3, 1) := by decide +kernel
theorem d_law_574 : decode code 574 = .ok (.iadd, 1) := by decide +kernel
theorem d_law_575 : decode code 575 = .ok (.iaload, 1) := by decide +kernel
theorem d_law_576 : decode code 576 = .ok (.invokevirtual 69, 3) := by decide +kernel
theorem d_law_579 : decode code 579 = .ok (.aload_n 2, 1) := by decide +kernel
theorem d_law_580 : decode code 580 = .ok (.aload_n 0, 1) := by decide +kernel
theorem d_law_581 : decode code 581 = .ok (.iload_n 3, 1) := by decide +kernel
theorem d_law_582 : decode code 582 = .ok (.iconst 1, 1) := by decide +kernel
theorem d_law_583 : decode code 583 = .ok (.iadd, 1) := by decide +kernel
theorem d_law_584 : decode code 584 = .ok (.iaload, 1) := by decide +kernel
theorem d_law_585 : decode code 585 = .ok (.aload_n 0, 1) := by decide +kernel
theorem d_law_586 : decode code 586 = .ok (.iload_n 3, 1) := by decide +kernel
theorem d_law_587 : decode code 587 = .ok (.iconst 2, 1) := by decide +kernel
theorem d_law_588 : decode code 588 = .ok (.iadd, 1) := by decide +kernel
theorem d_law_589 : decode code 589 = .ok (.iaload, 1) := by decide +kernel
theorem d_law_590 : decode code 590 = .ok (.aload_n 0, 1) := by decide +kernel
theorem d_law_591 : decode code 591 = .ok (.iload_n 3, 1) := by decide +kernel
theorem d_law_592 : decode code 592 = .ok (.iconst 3, 1) := by decide +kernel
theorem d_law_593 : decode code 593 = .ok (.iadd, 1) := by decide +kernel
theorem d_law_594 : decode code 594 = .ok (.iaload, 1) := by decide +kernel
theorem d_law_595 : decode code 595 = .ok (.invokevirtual 72, 3) := by decide +kernel
theorem d_law_598 : decode code 598 = .ok (.if_icmp .eq 527, 3) := by decide +kernel
theorem d_law_603 : decode code 603 = .ok (.aload_n 1, 1) := by decide +kernel
theorem d_law_604 : decode code 604 = .ok (.aload_n 0, 1) := by decide +kernel
theorem d_law_605 : decode code 605 = .ok (.iload_n 3, 1) := by decide +kernel
theorem d_law_606 : decode code 606 = .ok (.iconst 1, 1) := by decide +kernel
theorem d_law_607 : decode code 607 = .ok (.iadd, 1) := by decide +kernel
theorem d_law_608 : decode code 608 = .ok (.iaload, 1) := by decide +kernel
theorem d_law_609 : decode code 609 = .ok (.aload_n 0, 1) := by decide +kernel
theorem d_law_610 : decode code 610 = .ok (.iload_n 3, 1) := by decide +kernel
theorem d_law_611 : decode code 611 = .ok (.iconst 2, 1) := by decide +kernel
theorem d_law_612 : decode code 612 = .ok (.iadd, 1) := by decide +kernel
theorem d_law_613 : decode code 613 = .ok (.iaload, 1) := by decide +kernel
theorem d_law_614 : decode code 614 = .ok (.invokevirtual 73, 3) := by decide +kernel
theorem d_law_617 : decode code 617 = .ok (.aload_n 2, 1) := by decide +kernel
theorem d_law_618 : decode code 618 = .ok (.aload_n 0, 1) := by decide +kernel
theorem d_law_619 : decode code 619 = .ok (.iload_n 3, 1) := by decide +kernel
theorem d_law_620 : decode code 620 = .ok (.iconst 1, 1) := by decide +kernel
theorem d_law_621 : decode code 621 = .ok (.iadd, 1) := by decide +kernel
theorem d_law_622 : decode code 622 = .ok (.iaload, 1) := by decide +kernel
theorem d_law_623 : decode code 623 = .ok (.aload_n 0, 1) := by decide +kernel
theorem d_law_624 : decode code 624 = .ok (.iload_n 3, 1) := by decide +kernel
theorem d_law_625 : decode code 625 = .ok (.iconst 2, 1) := by decide +kernel
theorem d_law_626 : decode code 626 = .ok (.iadd, 1) := by decide +kernel
theorem d_law_627 : decode code 627 = .ok (.iaload, 1) := by decide +kernel
theorem d_law_628 : decode code 628 = .ok (.invokevirtual 76, 3) := by decide +kernel
theorem d_law_631 : decode code 631 = .ok (.if_icmp .eq 494, 3) := by decide +kernel
theorem d_law_636 : decode code 636 = .ok (.aload_n 1, 1) := by decide +kernel
theorem d_law_637 : decode code 637 = .ok (.aload_n 0, 1) := by decide +kernel
theorem d_law_638 : decode code 638 = .ok (.iload_n 3, 1) := by decide +kernel
theorem d_law_639 : decode code 639 = .ok (.iconst 1, 1) := by decide +kernel
theorem d_law_640 : decode code 640 = .ok (.iadd, 1) := by decide +kernel
theorem d_law_641 : decode code 641 = .ok (.iaload, 1) := by decide +kernel
theorem d_law_642 : decode code 642 = .ok (.invokevirtual 77, 3) := by decide +kernel
theorem d_law_645 : decode code 645 = .ok (.aload_n 2, 1) := by decide +kernel
theorem d_law_646 : decode code 646 = .ok (.aload_n 0, 1) := by decide +kernel
theorem d_law_647 : decode code 647 = .ok (.iload_n 3, 1) := by decide +kernel
theorem d_law_648 : decode code 648 = .ok (.iconst 1, 1) := by decide +kernel
theorem d_law_649 : decode code 649 = .ok (.iadd, 1) := by decide +kernel
theorem d_law_650 : decode code 650 = .ok (.iaload, 1) := by decide +kernel
theorem d_law_651 : decode code 651 = .ok (.invokevirtual 80, 3) := by decide +kernel
theorem d_law_654 : decode code 654 = .ok (.if_icmp .eq 471, 3) := by decide +kernel
set_option maxRecDepth 100000 in
set_option maxHeartbeats 4000000 in
theorem law_10 {p : Program} {l : Launch} {e : Env} {s : State} {m : MethodId} {below : List Frame} {meth : Method} {c : Code} {b L : Nat} {xs : Nat → Int32} {D : va_G} {ca : Nat → ClassId} {adX adM : Nat → Nat} (E : lw_E p s m c b D ca adX adM) (hX : va_X b L xs s s.heap) (hbl : b < s.heap.size) {i : Int32} (hi : ∀ k : Nat, k < 8 → vp_in (i + nI k) L) {A : am_A} {cn : Nat} (hcn : cn + 4096 ≤ 1073741824) {H : Heap} {locs : List Loc} {ls : Array Slot} (hl : lv_has ls 4 [(0, .ref b), (1, .ref (adX 0)), (2, .ref (adM 0)), (3, .int i)]) (hSt : lw_St s D ca adX adM (fun I L => CR I L A) (fun I L => MR I L A cn) H locs)
    (kk : ∀ (A2 : am_A) (c2 : Nat) (H2 : Heap) (locs2 : List Loc), c2 ≤ cn + 4096 → lw_St s D ca adX adM (fun I L => CR I L A2) (fun I L => MR I L A2 c2) H2 locs2 → W p l e room_1 s m #[Value.ref b] below meth c H2 locs2 600000 7302250 (lw_Z below #[Value.ref b] s) (F0 m 1125 ls [])) : W p l e room_1 s m #[Value.ref b] below meth c H locs 600000 7302250 (lw_Z below #[Value.ref b] s) (F0 m 484 ls []) := by
  obtain ⟨hx, hb, hml, hown, hU, hN, hK, hD⟩ := id E
  have hbA : ¬ (fun q : Nat => s.heap.size ≤ q) b := Nat.not_le.mpr hbl
  have hS := hSt.S
  have hi1 : vp_in (i + 1) L := hi 1 (by omega)
  have hi2 : vp_in (i + 2) L := hi 2 (by omega)
  refine lv_aload_n hx hb d_law_484 rfl (lv_at hl 1 rfl) ?_
  refine lv_aload_n hx hb d_law_485 rfl (lv_at hl 0 rfl) ?_
  refine lv_iload_n hx hb d_law_486 rfl (lv_at hl 3 rfl) ?_
  refine lv_iconst (v := 1) hx hb d_law_487 (by decide) ?_
  refine lv_iadd hx hb d_law_488 ?_
  refine va_sld hx hb hX hbl hbA hS hi1 d_law_489 ?_
  refine lv_aload_n hx hb d_law_490 rfl (lv_at hl 0 rfl) ?_
  refine lv_iload_n hx hb d_law_491 rfl (lv_at hl 3 rfl) ?_
  refine lv_iconst (v := 2) hx hb d_law_492 (by decide) ?_
  refine lv_iadd hx hb d_law_493 ?_
  refine va_sld hx hb hX hbl hbA hS hi2 d_law_494 ?_
  refine lw_cX E (n := 2) met_RP_read (am_pos 398 (by decide +kernel) rfl) (am_pos 399 (by decide +kernel) rfl) (am_pos 400 (by decide +kernel) rfl) (am_pos 35 (by decide +kernel) rfl) (am_pos 401 (by decide +kernel) rfl) ⟨by decide +kernel, by decide +kernel, by decide +kernel⟩ rfl rfl ⟨Nat.le_of_ble_eq_true rfl, Nat.le_of_ble_eq_true rfl⟩ rfl (t := [.int (xs (i + 1).toNatClampNeg), .int (xs (i + 2).toNatClampNeg)]) (r := []) (PX' := fun I L => CR I L (o_read A ((xs (i + 1).toNatClampNeg)) ((xs (i + 2).toNatClampNeg))).2) (rv := (o_read A ((xs (i + 1).toNatClampNeg)) ((xs (i + 2).toNatClampNeg))).1) d_law_495 rfl rfl (Nat.le_of_ble_eq_true rfl) hl.1 (fun I L hC => ⟨rfl, A, hC, fun I2 L2 h => ⟨rfl, h⟩⟩) hSt ⟨Nat.le_refl _, Nat.le_refl _⟩ (fun H locs hSt => ?_)
  have hS := hSt.S
  refine lv_aload_n hx hb d_law_498 rfl (lv_at hl 2 rfl) ?_
  refine lv_aload_n hx hb d_law_499 rfl (lv_at hl 0 rfl) ?_
  refine lv_iload_n hx hb d_law_500 rfl (lv_at hl 3 rfl) ?_
  refine lv_iconst (v := 1) hx hb d_law_501 (by decide) ?_
  refine lv_iadd hx hb d_law_502 ?_
  refine va_sld hx hb hX hbl hbA hS hi1 d_law_503 ?_
  refine lv_aload_n hx hb d_law_504 rfl (lv_at hl 0 rfl) ?_
  refine lv_iload_n hx hb d_law_505 rfl (lv_at hl 3 rfl) ?_
  refine lv_iconst (v := 2) hx hb d_law_506 (by decide) ?_
  refine lv_iadd hx hb d_law_507 ?_
  refine va_sld hx hb hX hbl hbA hS hi2 d_law_508 ?_
  refine lw_cM E (n := 2) met_MD_read (am_pos 754 (by decide +kernel) rfl) (am_pos 755 (by decide +kernel) rfl) (am_pos 756 (by decide +kernel) rfl) (am_pos 41 (by decide +kernel) rfl) (am_pos 757 (by decide +kernel) rfl) ⟨by decide +kernel, by decide +kernel, by decide +kernel⟩ rfl rfl ⟨Nat.le_of_ble_eq_true rfl, Nat.le_of_ble_eq_true rfl⟩ rfl (t := [.int (xs (i + 1).toNatClampNeg), .int (xs (i + 2).toNatClampNeg)]) (r := [.int ((o_read A ((xs (i + 1).toNatClampNeg)) ((xs (i + 2).toNatClampNeg))).1)]) (PM' := fun I L => ∃ c2, c2 ≤ cn + 4096 ∧ MR I L (o_read A ((xs (i + 1).toNatClampNeg)) ((xs (i + 2).toNatClampNeg))).2 c2) (rv := (o_read A ((xs (i + 1).toNatClampNeg)) ((xs (i + 2).toNatClampNeg))).1) d_law_509 rfl rfl (Nat.le_of_ble_eq_true rfl) hl.1 (fun I L hC => ⟨rfl, A, cn, hC, hcn, fun I2 L2 c2 h1 h2 => ⟨rfl, c2, h1, h2⟩⟩) hSt ⟨Nat.le_refl _, Nat.le_refl _⟩ (fun H locs hSt => ?_)
  have hS := hSt.S
  refine lv_icmp_eq (tgt := 1125) hx hb d_law_512 (by decide) (fun _ => ?_) (fun q => absurd rfl q)
  obtain ⟨IX, LX, IM, LM, a1, ⟨c2, b1, b2⟩, a3, a4, a5⟩ := hSt
  exact kk _ c2 _ _ b1 ⟨IX, LX, IM, LM, a1, b2, a3, a4, a5⟩
set_option maxRecDepth 100000 in
set_option maxHeartbeats 4000000 in
theorem law_11 {p : Program} {l : Launch} {e : Env} {s : State} {m : MethodId} {below : List Frame} {meth : Method} {c : Code} {b L : Nat} {xs : Nat → Int32} {D : va_G} {ca : Nat → ClassId} {adX adM : Nat → Nat} (E : lw_E p s m c b D ca adX adM) (hX : va_X b L xs s s.heap) (hbl : b < s.heap.size) {i : Int32} (hi : ∀ k : Nat, k < 8 → vp_in (i + nI k) L) {A : am_A} {cn : Nat} (hcn : cn + 4096 ≤ 1073741824) {H : Heap} {locs : List Loc} {ls : Array Slot} (hl : lv_has ls 4 [(0, .ref b), (1, .ref (adX 0)), (2, .ref (adM 0)), (3, .int i)]) (hSt : lw_St s D ca adX adM (fun I L => CR I L A) (fun I L => MR I L A cn) H locs)
    (kk : ∀ (A2 : am_A) (c2 : Nat) (H2 : Heap) (locs2 : List Loc), c2 ≤ cn + 4096 → lw_St s D ca adX adM (fun I L => CR I L A2) (fun I L => MR I L A2 c2) H2 locs2 → W p l e room_1 s m #[Value.ref b] below meth c H2 locs2 600000 7302250 (lw_Z below #[Value.ref b] s) (F0 m 1125 ls [])) : W p l e room_1 s m #[Value.ref b] below meth c H locs 600000 7302250 (lw_Z below #[Value.ref b] s) (F0 m 517 ls []) := by
  obtain ⟨hx, hb, hml, hown, hU, hN, hK, hD⟩ := id E
  have hbA : ¬ (fun q : Nat => s.heap.size ≤ q) b := Nat.not_le.mpr hbl
  have hS := hSt.S
  have hi1 : vp_in (i + 1) L := hi 1 (by omega)
  have hi2 : vp_in (i + 2) L := hi 2 (by omega)
  have hi3 : vp_in (i + 3) L := hi 3 (by omega)
  refine lv_aload_n hx hb d_law_517 rfl (lv_at hl 1 rfl) ?_
  refine lv_aload_n hx hb d_law_518 rfl (lv_at hl 0 rfl) ?_
  refine lv_iload_n hx hb d_law_519 rfl (lv_at hl 3 rfl) ?_
  refine lv_iconst (v := 1) hx hb d_law_520 (by decide) ?_
  refine lv_iadd hx hb d_law_521 ?_
  refine va_sld hx hb hX hbl hbA hS hi1 d_law_522 ?_
  refine lv_aload_n hx hb d_law_523 rfl (lv_at hl 0 rfl) ?_
  refine lv_iload_n hx hb d_law_524 rfl (lv_at hl 3 rfl) ?_
  refine lv_iconst (v := 2) hx hb d_law_525 (by decide) ?_
  refine lv_iadd hx hb d_law_526 ?_
  refine va_sld hx hb hX hbl hbA hS hi2 d_law_527 ?_
  refine lv_aload_n hx hb d_law_528 rfl (lv_at hl 0 rfl) ?_
  refine lv_iload_n hx hb d_law_529 rfl (lv_at hl 3 rfl) ?_
  refine lv_iconst (v := 3) hx hb d_law_530 (by decide) ?_
  refine lv_iadd hx hb d_law_531 ?_
  refine va_sld hx hb hX hbl hbA hS hi3 d_law_532 ?_
  refine lw_cX E (n := 3) met_RP_walk (am_pos 411 (by decide +kernel) rfl) (am_pos 412 (by decide +kernel) rfl) (am_pos 413 (by decide +kernel) rfl) (am_pos 35 (by decide +kernel) rfl) (am_pos 414 (by decide +kernel) rfl) ⟨by decide +kernel, by decide +kernel, by decide +kernel⟩ rfl rfl ⟨Nat.le_of_ble_eq_true rfl, Nat.le_of_ble_eq_true rfl⟩ rfl (t := [.int (xs (i + 1).toNatClampNeg), .int (xs (i + 2).toNatClampNeg), .int (xs (i + 3).toNatClampNeg)]) (r := []) (PX' := fun I L => CR I L (o_walk A ((xs (i + 1).toNatClampNeg)) ((xs (i + 2).toNatClampNeg)) ((xs (i + 3).toNatClampNeg))).2) (rv := (o_walk A ((xs (i + 1).toNatClampNeg)) ((xs (i + 2).toNatClampNeg)) ((xs (i + 3).toNatClampNeg))).1) d_law_533 rfl rfl (Nat.le_of_ble_eq_true rfl) hl.1 (fun I L hC => ⟨rfl, A, hC, fun I2 L2 h => ⟨rfl, h⟩⟩) hSt ⟨Nat.le_refl _, Nat.le_refl _⟩ (fun H locs hSt => ?_)
  have hS := hSt.S
  refine lv_aload_n hx hb d_law_536 rfl (lv_at hl 2 rfl) ?_
  refine lv_aload_n hx hb d_law_537 rfl (lv_at hl 0 rfl) ?_
  refine lv_iload_n hx hb d_law_538 rfl (lv_at hl 3 rfl) ?_
  refine lv_iconst (v := 1) hx hb d_law_539 (by decide) ?_
  refine lv_iadd hx hb d_law_540 ?_
  refine va_sld hx hb hX hbl hbA hS hi1 d_law_541 ?_
  refine lv_aload_n hx hb d_law_542 rfl (lv_at hl 0 rfl) ?_
  refine lv_iload_n hx hb d_law_543 rfl (lv_at hl 3 rfl) ?_
  refine lv_iconst (v := 2) hx hb d_law_544 (by decide) ?_
  refine lv_iadd hx hb d_law_545 ?_
  refine va_sld hx hb hX hbl hbA hS hi2 d_law_546 ?_
  refine lv_aload_n hx hb d_law_547 rfl (lv_at hl 0 rfl) ?_
  refine lv_iload_n hx hb d_law_548 rfl (lv_at hl 3 rfl) ?_
  refine lv_iconst (v := 3) hx hb d_law_549 (by decide) ?_
  refine lv_iadd hx hb d_law_550 ?_
  refine va_sld hx hb hX hbl hbA hS hi3 d_law_551 ?_
  refine lw_cM E (n := 3) met_MD_walk (am_pos 762 (by decide +kernel) rfl) (am_pos 763 (by decide +kernel) rfl) (am_pos 764 (by decide +kernel) rfl) (am_pos 41 (by decide +kernel) rfl) (am_pos 765 (by decide +kernel) rfl) ⟨by decide +kernel, by decide +kernel, by decide +kernel⟩ rfl rfl ⟨Nat.le_of_ble_eq_true rfl, Nat.le_of_ble_eq_true rfl⟩ rfl (t := [.int (xs (i + 1).toNatClampNeg), .int (xs (i + 2).toNatClampNeg), .int (xs (i + 3).toNatClampNeg)]) (r := [.int ((o_walk A ((xs (i + 1).toNatClampNeg)) ((xs (i + 2).toNatClampNeg)) ((xs (i + 3).toNatClampNeg))).1)]) (PM' := fun I L => ∃ c2, c2 ≤ cn + 4096 ∧ MR I L (o_walk A ((xs (i + 1).toNatClampNeg)) ((xs (i + 2).toNatClampNeg)) ((xs (i + 3).toNatClampNeg))).2 c2) (rv := (o_walk A ((xs (i + 1).toNatClampNeg)) ((xs (i + 2).toNatClampNeg)) ((xs (i + 3).toNatClampNeg))).1) d_law_552 rfl rfl (Nat.le_of_ble_eq_true rfl) hl.1 (fun I L hC => ⟨rfl, A, cn, hC, hcn, fun I2 L2 c2 h1 h2 => ⟨rfl, c2, h1, h2⟩⟩) hSt ⟨Nat.le_refl _, Nat.le_refl _⟩ (fun H locs hSt => ?_)
  have hS := hSt.S
  refine lv_icmp_eq (tgt := 1125) hx hb d_law_555 (by decide) (fun _ => ?_) (fun q => absurd rfl q)
  obtain ⟨IX, LX, IM, LM, a1, ⟨c2, b1, b2⟩, a3, a4, a5⟩ := hSt
  exact kk _ c2 _ _ b1 ⟨IX, LX, IM, LM, a1, b2, a3, a4, a5⟩
set_option maxRecDepth 100000 in
set_option maxHeartbeats 4000000 in
theorem law_12 {p : Program} {l : Launch} {e : Env} {s : State} {m : MethodId} {below : List Frame} {meth : Method} {c : Code} {b L : Nat} {xs : Nat → Int32} {D : va_G} {ca : Nat → ClassId} {adX adM : Nat → Nat} (E : lw_E p s m c b D ca adX adM) (hX : va_X b L xs s s.heap) (hbl : b < s.heap.size) {i : Int32} (hi : ∀ k : Nat, k < 8 → vp_in (i + nI k) L) {A : am_A} {cn : Nat} (hcn : cn + 4096 ≤ 1073741824) {H : Heap} {locs : List Loc} {ls : Array Slot} (hl : lv_has ls 4 [(0, .ref b), (1, .ref (adX 0)), (2, .ref (adM 0)), (3, .int i)]) (hSt : lw_St s D ca adX adM (fun I L => CR I L A) (fun I L => MR I L A cn) H locs)
    (kk : ∀ (A2 : am_A) (c2 : Nat) (H2 : Heap) (locs2 : List Loc), c2 ≤ cn + 4096 → lw_St s D ca adX adM (fun I L => CR I L A2) (fun I L => MR I L A2 c2) H2 locs2 → W p l e room_1 s m #[Value.ref b] below meth c H2 locs2 600000 7302250 (lw_Z below #[Value.ref b] s) (F0 m 1125 ls [])) : W p l e room_1 s m #[Value.ref b] below meth c H locs 600000 7302250 (lw_Z below #[Value.ref b] s) (F0 m 560 ls []) := by
  obtain ⟨hx, hb, hml, hown, hU, hN, hK, hD⟩ := id E
  have hbA : ¬ (fun q : Nat => s.heap.size ≤ q) b := Nat.not_le.mpr hbl
  have hS := hSt.S
  have hi1 : vp_in (i + 1) L := hi 1 (by omega)
  have hi2 : vp_in (i + 2) L := hi 2 (by omega)
  have hi3 : vp_in (i + 3) L := hi 3 (by omega)
  refine lv_aload_n hx hb d_law_560 rfl (lv_at hl 1 rfl) ?_
  refine lv_aload_n hx hb d_law_561 rfl (lv_at hl 0 rfl) ?_
  refine lv_iload_n hx hb d_law_562 rfl (lv_at hl 3 rfl) ?_
  refine lv_iconst (v := 1) hx hb d_law_563 (by decide) ?_
  refine lv_iadd hx hb d_law_564 ?_
  refine va_sld hx hb hX hbl hbA hS hi1 d_law_565 ?_
  refine lv_aload_n hx hb d_law_566 rfl (lv_at hl 0 rfl) ?_
  refine lv_iload_n hx hb d_law_567 rfl (lv_at hl 3 rfl) ?_
  refine lv_iconst (v := 2) hx hb d_law_568 (by decide) ?_
  refine lv_iadd hx hb d_law_569 ?_
  refine va_sld hx hb hX hbl hbA hS hi2 d_law_570 ?_
  refine lv_aload_n hx hb d_law_571 rfl (lv_at hl 0 rfl) ?_
  refine lv_iload_n hx hb d_law_572 rfl (lv_at hl 3 rfl) ?_
  refine lv_iconst (v := 3) hx hb d_law_573 (by decide) ?_
  refine lv_iadd hx hb d_law_574 ?_
  refine va_sld hx hb hX hbl hbA hS hi3 d_law_575 ?_
  refine lw_cX E (n := 3) met_RP_at (am_pos 475 (by decide +kernel) rfl) (am_pos 476 (by decide +kernel) rfl) (am_pos 477 (by decide +kernel) rfl) (am_pos 35 (by decide +kernel) rfl) (am_pos 478 (by decide +kernel) rfl) ⟨by decide +kernel, by decide +kernel, by decide +kernel⟩ rfl rfl ⟨Nat.le_of_ble_eq_true rfl, Nat.le_of_ble_eq_true rfl⟩ rfl (t := [.int (xs (i + 1).toNatClampNeg), .int (xs (i + 2).toNatClampNeg), .int (xs (i + 3).toNatClampNeg)]) (r := []) (PX' := fun I L => CR I L (o_at A ((xs (i + 1).toNatClampNeg)) ((xs (i + 2).toNatClampNeg)) ((xs (i + 3).toNatClampNeg))).2) (rv := (o_at A ((xs (i + 1).toNatClampNeg)) ((xs (i + 2).toNatClampNeg)) ((xs (i + 3).toNatClampNeg))).1) d_law_576 rfl rfl (Nat.le_of_ble_eq_true rfl) hl.1 (fun I L hC => ⟨rfl, A, hC, fun I2 L2 h => ⟨rfl, h⟩⟩) hSt ⟨Nat.le_refl _, Nat.le_refl _⟩ (fun H locs hSt => ?_)
  have hS := hSt.S
  refine lv_aload_n hx hb d_law_579 rfl (lv_at hl 2 rfl) ?_
  refine lv_aload_n hx hb d_law_580 rfl (lv_at hl 0 rfl) ?_
  refine lv_iload_n hx hb d_law_581 rfl (lv_at hl 3 rfl) ?_
  refine lv_iconst (v := 1) hx hb d_law_582 (by decide) ?_
  refine lv_iadd hx hb d_law_583 ?_
  refine va_sld hx hb hX hbl hbA hS hi1 d_law_584 ?_
  refine lv_aload_n hx hb d_law_585 rfl (lv_at hl 0 rfl) ?_
  refine lv_iload_n hx hb d_law_586 rfl (lv_at hl 3 rfl) ?_
  refine lv_iconst (v := 2) hx hb d_law_587 (by decide) ?_
  refine lv_iadd hx hb d_law_588 ?_
  refine va_sld hx hb hX hbl hbA hS hi2 d_law_589 ?_
  refine lv_aload_n hx hb d_law_590 rfl (lv_at hl 0 rfl) ?_
  refine lv_iload_n hx hb d_law_591 rfl (lv_at hl 3 rfl) ?_
  refine lv_iconst (v := 3) hx hb d_law_592 (by decide) ?_
  refine lv_iadd hx hb d_law_593 ?_
  refine va_sld hx hb hX hbl hbA hS hi3 d_law_594 ?_
  refine lw_cM E (n := 3) met_MD_at (am_pos 794 (by decide +kernel) rfl) (am_pos 795 (by decide +kernel) rfl) (am_pos 796 (by decide +kernel) rfl) (am_pos 41 (by decide +kernel) rfl) (am_pos 797 (by decide +kernel) rfl) ⟨by decide +kernel, by decide +kernel, by decide +kernel⟩ rfl rfl ⟨Nat.le_of_ble_eq_true rfl, Nat.le_of_ble_eq_true rfl⟩ rfl (t := [.int (xs (i + 1).toNatClampNeg), .int (xs (i + 2).toNatClampNeg), .int (xs (i + 3).toNatClampNeg)]) (r := [.int ((o_at A ((xs (i + 1).toNatClampNeg)) ((xs (i + 2).toNatClampNeg)) ((xs (i + 3).toNatClampNeg))).1)]) (PM' := fun I L => ∃ c2, c2 ≤ cn + 4096 ∧ MR I L (o_at A ((xs (i + 1).toNatClampNeg)) ((xs (i + 2).toNatClampNeg)) ((xs (i + 3).toNatClampNeg))).2 c2) (rv := (o_at A ((xs (i + 1).toNatClampNeg)) ((xs (i + 2).toNatClampNeg)) ((xs (i + 3).toNatClampNeg))).1) d_law_595 rfl rfl (Nat.le_of_ble_eq_true rfl) hl.1 (fun I L hC => ⟨rfl, A, cn, hC, hcn, fun I2 L2 c2 h1 h2 => ⟨rfl, c2, h1, h2⟩⟩) hSt ⟨Nat.le_refl _, Nat.le_refl _⟩ (fun H locs hSt => ?_)
  have hS := hSt.S
  refine lv_icmp_eq (tgt := 1125) hx hb d_law_598 (by decide) (fun _ => ?_) (fun q => absurd rfl q)
  obtain ⟨IX, LX, IM, LM, a1, ⟨c2, b1, b2⟩, a3, a4, a5⟩ := hSt
  exact kk _ c2 _ _ b1 ⟨IX, LX, IM, LM, a1, b2, a3, a4, a5⟩
set_option maxRecDepth 100000 in
set_option maxHeartbeats 4000000 in
theorem law_13 {p : Program} {l : Launch} {e : Env} {s : State} {m : MethodId} {below : List Frame} {meth : Method} {c : Code} {b L : Nat} {xs : Nat → Int32} {D : va_G} {ca : Nat → ClassId} {adX adM : Nat → Nat} (E : lw_E p s m c b D ca adX adM) (hX : va_X b L xs s s.heap) (hbl : b < s.heap.size) {i : Int32} (hi : ∀ k : Nat, k < 8 → vp_in (i + nI k) L) {A : am_A} {cn : Nat} (hcn : cn + 4096 ≤ 1073741824) {H : Heap} {locs : List Loc} {ls : Array Slot} (hl : lv_has ls 4 [(0, .ref b), (1, .ref (adX 0)), (2, .ref (adM 0)), (3, .int i)]) (hSt : lw_St s D ca adX adM (fun I L => CR I L A) (fun I L => MR I L A cn) H locs)
    (kk : ∀ (A2 : am_A) (c2 : Nat) (H2 : Heap) (locs2 : List Loc), c2 ≤ cn + 4096 → lw_St s D ca adX adM (fun I L => CR I L A2) (fun I L => MR I L A2 c2) H2 locs2 → W p l e room_1 s m #[Value.ref b] below meth c H2 locs2 600000 7302250 (lw_Z below #[Value.ref b] s) (F0 m 1125 ls [])) : W p l e room_1 s m #[Value.ref b] below meth c H locs 600000 7302250 (lw_Z below #[Value.ref b] s) (F0 m 603 ls []) := by
  obtain ⟨hx, hb, hml, hown, hU, hN, hK, hD⟩ := id E
  have hbA : ¬ (fun q : Nat => s.heap.size ≤ q) b := Nat.not_le.mpr hbl
  have hS := hSt.S
  have hi1 : vp_in (i + 1) L := hi 1 (by omega)
  have hi2 : vp_in (i + 2) L := hi 2 (by omega)
  refine lv_aload_n hx hb d_law_603 rfl (lv_at hl 1 rfl) ?_
  refine lv_aload_n hx hb d_law_604 rfl (lv_at hl 0 rfl) ?_
  refine lv_iload_n hx hb d_law_605 rfl (lv_at hl 3 rfl) ?_
  refine lv_iconst (v := 1) hx hb d_law_606 (by decide) ?_
  refine lv_iadd hx hb d_law_607 ?_
  refine va_sld hx hb hX hbl hbA hS hi1 d_law_608 ?_
  refine lv_aload_n hx hb d_law_609 rfl (lv_at hl 0 rfl) ?_
  refine lv_iload_n hx hb d_law_610 rfl (lv_at hl 3 rfl) ?_
  refine lv_iconst (v := 2) hx hb d_law_611 (by decide) ?_
  refine lv_iadd hx hb d_law_612 ?_
  refine va_sld hx hb hX hbl hbA hS hi2 d_law_613 ?_
  refine lw_cX E (n := 2) met_RP_shut (am_pos 479 (by decide +kernel) rfl) (am_pos 480 (by decide +kernel) rfl) (am_pos 481 (by decide +kernel) rfl) (am_pos 35 (by decide +kernel) rfl) (am_pos 482 (by decide +kernel) rfl) ⟨by decide +kernel, by decide +kernel, by decide +kernel⟩ rfl rfl ⟨Nat.le_of_ble_eq_true rfl, Nat.le_of_ble_eq_true rfl⟩ rfl (t := [.int (xs (i + 1).toNatClampNeg), .int (xs (i + 2).toNatClampNeg)]) (r := []) (PX' := fun I L => CR I L (o_shut A ((xs (i + 1).toNatClampNeg)) ((xs (i + 2).toNatClampNeg))).2) (rv := (o_shut A ((xs (i + 1).toNatClampNeg)) ((xs (i + 2).toNatClampNeg))).1) d_law_614 rfl rfl (Nat.le_of_ble_eq_true rfl) hl.1 (fun I L hC => ⟨rfl, A, hC, fun I2 L2 h => ⟨rfl, h⟩⟩) hSt ⟨Nat.le_refl _, Nat.le_refl _⟩ (fun H locs hSt => ?_)
  have hS := hSt.S
  refine lv_aload_n hx hb d_law_617 rfl (lv_at hl 2 rfl) ?_
  refine lv_aload_n hx hb d_law_618 rfl (lv_at hl 0 rfl) ?_
  refine lv_iload_n hx hb d_law_619 rfl (lv_at hl 3 rfl) ?_
  refine lv_iconst (v := 1) hx hb d_law_620 (by decide) ?_
  refine lv_iadd hx hb d_law_621 ?_
  refine va_sld hx hb hX hbl hbA hS hi1 d_law_622 ?_
  refine lv_aload_n hx hb d_law_623 rfl (lv_at hl 0 rfl) ?_
  refine lv_iload_n hx hb d_law_624 rfl (lv_at hl 3 rfl) ?_
  refine lv_iconst (v := 2) hx hb d_law_625 (by decide) ?_
  refine lv_iadd hx hb d_law_626 ?_
  refine va_sld hx hb hX hbl hbA hS hi2 d_law_627 ?_
  refine lw_cM E (n := 2) met_MD_shut (am_pos 799 (by decide +kernel) rfl) (am_pos 800 (by decide +kernel) rfl) (am_pos 801 (by decide +kernel) rfl) (am_pos 41 (by decide +kernel) rfl) (am_pos 802 (by decide +kernel) rfl) ⟨by decide +kernel, by decide +kernel, by decide +kernel⟩ rfl rfl ⟨Nat.le_of_ble_eq_true rfl, Nat.le_of_ble_eq_true rfl⟩ rfl (t := [.int (xs (i + 1).toNatClampNeg), .int (xs (i + 2).toNatClampNeg)]) (r := [.int ((o_shut A ((xs (i + 1).toNatClampNeg)) ((xs (i + 2).toNatClampNeg))).1)]) (PM' := fun I L => ∃ c2, c2 ≤ cn + 4096 ∧ MR I L (o_shut A ((xs (i + 1).toNatClampNeg)) ((xs (i + 2).toNatClampNeg))).2 c2) (rv := (o_shut A ((xs (i + 1).toNatClampNeg)) ((xs (i + 2).toNatClampNeg))).1) d_law_628 rfl rfl (Nat.le_of_ble_eq_true rfl) hl.1 (fun I L hC => ⟨rfl, A, cn, hC, hcn, fun I2 L2 c2 h1 h2 => ⟨rfl, c2, h1, h2⟩⟩) hSt ⟨Nat.le_refl _, Nat.le_refl _⟩ (fun H locs hSt => ?_)
  have hS := hSt.S
  refine lv_icmp_eq (tgt := 1125) hx hb d_law_631 (by decide) (fun _ => ?_) (fun q => absurd rfl q)
  obtain ⟨IX, LX, IM, LM, a1, ⟨c2, b1, b2⟩, a3, a4, a5⟩ := hSt
  exact kk _ c2 _ _ b1 ⟨IX, LX, IM, LM, a1, b2, a3, a4, a5⟩
set_option maxRecDepth 100000 in
set_option maxHeartbeats 4000000 in
theorem law_14 {p : Program} {l : Launch} {e : Env} {s : State} {m : MethodId} {below : List Frame} {meth : Method} {c : Code} {b L : Nat} {xs : Nat → Int32} {D : va_G} {ca : Nat → ClassId} {adX adM : Nat → Nat} (E : lw_E p s m c b D ca adX adM) (hX : va_X b L xs s s.heap) (hbl : b < s.heap.size) {i : Int32} (hi : ∀ k : Nat, k < 8 → vp_in (i + nI k) L) {A : am_A} {cn : Nat} (hcn : cn + 4096 ≤ 1073741824) {H : Heap} {locs : List Loc} {ls : Array Slot} (hl : lv_has ls 4 [(0, .ref b), (1, .ref (adX 0)), (2, .ref (adM 0)), (3, .int i)]) (hSt : lw_St s D ca adX adM (fun I L => CR I L A) (fun I L => MR I L A cn) H locs)
    (kk : ∀ (A2 : am_A) (c2 : Nat) (H2 : Heap) (locs2 : List Loc), c2 ≤ cn + 4096 → lw_St s D ca adX adM (fun I L => CR I L A2) (fun I L => MR I L A2 c2) H2 locs2 → W p l e room_1 s m #[Value.ref b] below meth c H2 locs2 600000 7302250 (lw_Z below #[Value.ref b] s) (F0 m 1125 ls [])) : W p l e room_1 s m #[Value.ref b] below meth c H locs 600000 7302250 (lw_Z below #[Value.ref b] s) (F0 m 636 ls []) := by
  obtain ⟨hx, hb, hml, hown, hU, hN, hK, hD⟩ := id E
  have hbA : ¬ (fun q : Nat => s.heap.size ≤ q) b := Nat.not_le.mpr hbl
  have hS := hSt.S
  have hi1 : vp_in (i + 1) L := hi 1 (by omega)
  refine lv_aload_n hx hb d_law_636 rfl (lv_at hl 1 rfl) ?_
  refine lv_aload_n hx hb d_law_637 rfl (lv_at hl 0 rfl) ?_
  refine lv_iload_n hx hb d_law_638 rfl (lv_at hl 3 rfl) ?_
  refine lv_iconst (v := 1) hx hb d_law_639 (by decide) ?_
  refine lv_iadd hx hb d_law_640 ?_
  refine va_sld hx hb hX hbl hbA hS hi1 d_law_641 ?_
  refine lw_cX E (n := 1) met_RP_worst (am_pos 483 (by decide +kernel) rfl) (am_pos 484 (by decide +kernel) rfl) (am_pos 485 (by decide +kernel) rfl) (am_pos 35 (by decide +kernel) rfl) (am_pos 486 (by decide +kernel) rfl) ⟨by decide +kernel, by decide +kernel, by decide +kernel⟩ rfl rfl ⟨Nat.le_of_ble_eq_true rfl, Nat.le_of_ble_eq_true rfl⟩ rfl (t := [.int (xs (i + 1).toNatClampNeg)]) (r := []) (PX' := fun I L => CR I L (o_worst A ((xs (i + 1).toNatClampNeg))).2) (rv := (o_worst A ((xs (i + 1).toNatClampNeg))).1) d_law_642 rfl rfl (Nat.le_of_ble_eq_true rfl) hl.1 (fun I L hC => ⟨rfl, A, hC, fun I2 L2 h => ⟨rfl, h⟩⟩) hSt ⟨Nat.le_refl _, Nat.le_refl _⟩ (fun H locs hSt => ?_)
  have hS := hSt.S
  refine lv_aload_n hx hb d_law_645 rfl (lv_at hl 2 rfl) ?_
  refine lv_aload_n hx hb d_law_646 rfl (lv_at hl 0 rfl) ?_
  refine lv_iload_n hx hb d_law_647 rfl (lv_at hl 3 rfl) ?_
  refine lv_iconst (v := 1) hx hb d_law_648 (by decide) ?_
  refine lv_iadd hx hb d_law_649 ?_
  refine va_sld hx hb hX hbl hbA hS hi1 d_law_650 ?_
  refine lw_cM E (n := 1) met_MD_worst (am_pos 803 (by decide +kernel) rfl) (am_pos 804 (by decide +kernel) rfl) (am_pos 805 (by decide +kernel) rfl) (am_pos 41 (by decide +kernel) rfl) (am_pos 806 (by decide +kernel) rfl) ⟨by decide +kernel, by decide +kernel, by decide +kernel⟩ rfl rfl ⟨Nat.le_of_ble_eq_true rfl, Nat.le_of_ble_eq_true rfl⟩ rfl (t := [.int (xs (i + 1).toNatClampNeg)]) (r := [.int ((o_worst A ((xs (i + 1).toNatClampNeg))).1)]) (PM' := fun I L => ∃ c2, c2 ≤ cn + 4096 ∧ MR I L (o_worst A ((xs (i + 1).toNatClampNeg))).2 c2) (rv := (o_worst A ((xs (i + 1).toNatClampNeg))).1) d_law_651 rfl rfl (Nat.le_of_ble_eq_true rfl) hl.1 (fun I L hC => ⟨rfl, A, cn, hC, hcn, fun I2 L2 c2 h1 h2 => ⟨rfl, c2, h1, h2⟩⟩) hSt ⟨Nat.le_refl _, Nat.le_refl _⟩ (fun H locs hSt => ?_)
  have hS := hSt.S
  refine lv_icmp_eq (tgt := 1125) hx hb d_law_654 (by decide) (fun _ => ?_) (fun q => absurd rfl q)
  obtain ⟨IX, LX, IM, LM, a1, ⟨c2, b1, b2⟩, a3, a4, a5⟩ := hSt
  exact kk _ c2 _ _ b1 ⟨IX, LX, IM, LM, a1, b2, a3, a4, a5⟩
