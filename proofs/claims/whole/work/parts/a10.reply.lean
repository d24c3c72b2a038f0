/-! the law: reply -/
theorem dl_519 : decode code 519 = .ok (.aload_n 1, 1) := by decide +kernel
theorem dl_520 : decode code 520 = .ok (.aload_n 0, 1) := by decide +kernel
theorem dl_521 : decode code 521 = .ok (.iload_n 3, 1) := by decide +kernel
theorem dl_522 : decode code 522 = .ok (.iconst 1, 1) := by decide +kernel
theorem dl_523 : decode code 523 = .ok (.iadd, 1) := by decide +kernel
theorem dl_524 : decode code 524 = .ok (.iaload, 1) := by decide +kernel
theorem dl_525 : decode code 525 = .ok (.aload_n 0, 1) := by decide +kernel
theorem dl_526 : decode code 526 = .ok (.iload_n 3, 1) := by decide +kernel
theorem dl_527 : decode code 527 = .ok (.iconst 2, 1) := by decide +kernel
theorem dl_528 : decode code 528 = .ok (.iadd, 1) := by decide +kernel
theorem dl_529 : decode code 529 = .ok (.iaload, 1) := by decide +kernel
theorem dl_530 : decode code 530 = .ok (.aload_n 0, 1) := by decide +kernel
theorem dl_531 : decode code 531 = .ok (.iload_n 3, 1) := by decide +kernel
theorem dl_532 : decode code 532 = .ok (.iconst 3, 1) := by decide +kernel
theorem dl_533 : decode code 533 = .ok (.iadd, 1) := by decide +kernel
theorem dl_534 : decode code 534 = .ok (.iaload, 1) := by decide +kernel
theorem dl_535 : decode code 535 = .ok (.aload_n 0, 1) := by decide +kernel
theorem dl_536 : decode code 536 = .ok (.iload_n 3, 1) := by decide +kernel
theorem dl_537 : decode code 537 = .ok (.iconst 4, 1) := by decide +kernel
theorem dl_538 : decode code 538 = .ok (.iadd, 1) := by decide +kernel
theorem dl_539 : decode code 539 = .ok (.iaload, 1) := by decide +kernel
theorem dl_540 : decode code 540 = .ok (.aload_n 0, 1) := by decide +kernel
theorem dl_541 : decode code 541 = .ok (.iload_n 3, 1) := by decide +kernel
theorem dl_542 : decode code 542 = .ok (.iconst 5, 1) := by decide +kernel
theorem dl_543 : decode code 543 = .ok (.iadd, 1) := by decide +kernel
theorem dl_544 : decode code 544 = .ok (.iaload, 1) := by decide +kernel
theorem dl_545 : decode code 545 = .ok (.aload_n 0, 1) := by decide +kernel
theorem dl_546 : decode code 546 = .ok (.iload_n 3, 1) := by decide +kernel
theorem dl_547 : decode code 547 = .ok (.bipush 6, 2) := by decide +kernel
theorem dl_549 : decode code 549 = .ok (.iadd, 1) := by decide +kernel
theorem dl_550 : decode code 550 = .ok (.iaload, 1) := by decide +kernel
theorem dl_551 : decode code 551 = .ok (.aload_n 0, 1) := by decide +kernel
theorem dl_552 : decode code 552 = .ok (.iload_n 3, 1) := by decide +kernel
theorem dl_553 : decode code 553 = .ok (.bipush 7, 2) := by decide +kernel
theorem dl_555 : decode code 555 = .ok (.iadd, 1) := by decide +kernel
theorem dl_556 : decode code 556 = .ok (.iaload, 1) := by decide +kernel
theorem dl_557 : decode code 557 = .ok (.invokevirtual 53, 3) := by decide +kernel
theorem dl_560 : decode code 560 = .ok (.aload_n 2, 1) := by decide +kernel
theorem dl_561 : decode code 561 = .ok (.aload_n 0, 1) := by decide +kernel
theorem dl_562 : decode code 562 = .ok (.iload_n 3, 1) := by decide +kernel
theorem dl_563 : decode code 563 = .ok (.iconst 1, 1) := by decide +kernel
theorem dl_564 : decode code 564 = .ok (.iadd, 1) := by decide +kernel
theorem dl_565 : decode code 565 = .ok (.iaload, 1) := by decide +kernel
theorem dl_566 : decode code 566 = .ok (.aload_n 0, 1) := by decide +kernel
theorem dl_567 : decode code 567 = .ok (.iload_n 3, 1) := by decide +kernel
theorem dl_568 : decode code 568 = .ok (.iconst 2, 1) := by decide +kernel
theorem dl_569 : decode code 569 = .ok (.iadd, 1) := by decide +kernel
theorem dl_570 : decode code 570 = .ok (.iaload, 1) := by decide +kernel
theorem dl_571 : decode code 571 = .ok (.aload_n 0, 1) := by decide +kernel
theorem dl_572 : decode code 572 = .ok (.iload_n 3, 1) := by decide +kernel
theorem dl_573 : decode code 573 = .ok (.iconst 3, 1) := by decide +kernel
theorem dl_574 : decode code 574 = .ok (.iadd, 1) := by decide +kernel
theorem dl_575 : decode code 575 = .ok (.iaload, 1) := by decide +kernel
theorem dl_576 : decode code 576 = .ok (.aload_n 0, 1) := by decide +kernel
theorem dl_577 : decode code 577 = .ok (.iload_n 3, 1) := by decide +kernel
theorem dl_578 : decode code 578 = .ok (.iconst 4, 1) := by decide +kernel
theorem dl_579 : decode code 579 = .ok (.iadd, 1) := by decide +kernel
theorem dl_580 : decode code 580 = .ok (.iaload, 1) := by decide +kernel
theorem dl_581 : decode code 581 = .ok (.aload_n 0, 1) := by decide +kernel
theorem dl_582 : decode code 582 = .ok (.iload_n 3, 1) := by decide +kernel
theorem dl_583 : decode code 583 = .ok (.iconst 5, 1) := by decide +kernel
theorem dl_584 : decode code 584 = .ok (.iadd, 1) := by decide +kernel
theorem dl_585 : decode code 585 = .ok (.iaload, 1) := by decide +kernel
theorem dl_586 : decode code 586 = .ok (.aload_n 0, 1) := by decide +kernel
theorem dl_587 : decode code 587 = .ok (.iload_n 3, 1) := by decide +kernel
theorem dl_588 : decode code 588 = .ok (.bipush 6, 2) := by decide +kernel
theorem dl_590 : decode code 590 = .ok (.iadd, 1) := by decide +kernel
theorem dl_591 : decode code 591 = .ok (.iaload, 1) := by decide +kernel
theorem dl_592 : decode code 592 = .ok (.aload_n 0, 1) := by decide +kernel
theorem dl_593 : decode code 593 = .ok (.iload_n 3, 1) := by decide +kernel
theorem dl_594 : decode code 594 = .ok (.bipush 7, 2) := by decide +kernel
theorem dl_596 : decode code 596 = .ok (.iadd, 1) := by decide +kernel
theorem dl_597 : decode code 597 = .ok (.iaload, 1) := by decide +kernel
theorem dl_598 : decode code 598 = .ok (.invokevirtual 57, 3) := by decide +kernel
theorem dl_601 : decode code 601 = .ok (.if_icmp .eq 848, 3) := by decide +kernel
section
variable {D : GD} {b L : Nat} {xs : Nat → Int32} {kc ks : Nat} {M : Mm} {i : Nat}
theorem lc_9 (hi : i + 9 ≤ L) (hL : L ≤ 4608) (hkc : 1 ≤ kc) (hks : 6 ≤ ks) (hN : mN M < 1000000) (hR : Rall M) (kk : ∀ M', Rall M' → mN M' ≤ mN M + 1 → LW D b L xs (kc - 0) (ks - 0) 1449 (lvl i) [] M') : LW D b L xs kc ks 519 (lvl i) [] M := by
  have hY := hR.1
  have y0 := hY.sh 0 (q := (0, 11)) rfl (by omega) (by omega)
  refine lb_aload_n 2 dl_519 rfl ?_
  refine lb_arg (k := 1) dl_520 dl_521 dl_522 rfl dl_523 dl_524 (by omega) hL ?_
  refine lb_arg (k := 2) dl_525 dl_526 dl_527 rfl dl_528 dl_529 (by omega) hL ?_
  refine lb_arg (k := 3) dl_530 dl_531 dl_532 rfl dl_533 dl_534 (by omega) hL ?_
  refine lb_arg (k := 4) dl_535 dl_536 dl_537 rfl dl_538 dl_539 (by omega) hL ?_
  refine lb_arg (k := 5) dl_540 dl_541 dl_542 rfl dl_543 dl_544 (by omega) hL ?_
  refine lb_argb (k := 6) dl_545 dl_546 dl_547 (by decide) dl_549 dl_550 (by omega) hL ?_
  refine lb_argb (k := 7) dl_551 dl_552 dl_553 (by decide) dl_555 dl_556 (by omega) hL ?_
  refine lb_callV (a := 0) (c0 := 11) (d' := 8) (mc' := 0) (ms' := 0) (u' := mX11_reply) (vs := [.int (xs (i + 1)), .int (xs (i + 2)), .int (xs (i + 3)), .int (xs (i + 4)), .int (xs (i + 5)), .int (xs (i + 6)), .int (xs (i + 7))]) dl_557 ⟨cw_X11_reply, w_669⟩ w_670 w_671 (by decide) y0.1 y0.2 rfl rfl (by decide) (by omega) (by omega) (by omega) (AM.mono (k_reply (D := D) (d := 0) hR) (fun r N h => ?_))
  obtain ⟨x, rfl, s1, h1⟩ := h
  have y1 := (hY.of s1).sh 62 (q := (0, 12)) rfl (by omega) (by omega)
  refine lb_aload_n 1 dl_560 rfl ?_
  refine lb_arg (k := 1) dl_561 dl_562 dl_563 rfl dl_564 dl_565 (by omega) hL ?_
  refine lb_arg (k := 2) dl_566 dl_567 dl_568 rfl dl_569 dl_570 (by omega) hL ?_
  refine lb_arg (k := 3) dl_571 dl_572 dl_573 rfl dl_574 dl_575 (by omega) hL ?_
  refine lb_arg (k := 4) dl_576 dl_577 dl_578 rfl dl_579 dl_580 (by omega) hL ?_
  refine lb_arg (k := 5) dl_581 dl_582 dl_583 rfl dl_584 dl_585 (by omega) hL ?_
  refine lb_argb (k := 6) dl_586 dl_587 dl_588 (by decide) dl_590 dl_591 (by omega) hL ?_
  refine lb_argb (k := 7) dl_592 dl_593 dl_594 (by decide) dl_596 dl_597 (by omega) hL ?_
  refine lb_callV (a := 62) (c0 := 12) (d' := 8) (mc' := 0) (ms' := 0) (u' := mX12_reply) (vs := [.int (xs (i + 1)), .int (xs (i + 2)), .int (xs (i + 3)), .int (xs (i + 4)), .int (xs (i + 5)), .int (xs (i + 6)), .int (xs (i + 7))]) dl_598 ⟨cw_X12_reply, w_1323⟩ w_1324 w_1325 (by decide) y1.1 y1.2 rfl rfl (by show (1 : Nat) ≤ 8; omega) (by omega) (by omega) (by omega) (AM.mono (h1) (fun r N2 h => ?_))
  obtain ⟨y, rfl, s2, rfl, hR2⟩ := h
  exact lb_icmp_eq (tgt := 1449) dl_601 (by decide) (fun _ => kk N2 hR2 (by rw [s2.1, s1.1]; omega)) (fun z => absurd rfl z)
end
