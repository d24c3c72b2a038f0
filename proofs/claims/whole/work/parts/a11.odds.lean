/-! the law: odds -/
theorem dl_606 : decode code 606 = .ok (.aload_n 1, 1) := by decide +kernel
theorem dl_607 : decode code 607 = .ok (.aload_n 0, 1) := by decide +kernel
theorem dl_608 : decode code 608 = .ok (.iload_n 3, 1) := by decide +kernel
theorem dl_609 : decode code 609 = .ok (.iconst 1, 1) := by decide +kernel
theorem dl_610 : decode code 610 = .ok (.iadd, 1) := by decide +kernel
theorem dl_611 : decode code 611 = .ok (.iaload, 1) := by decide +kernel
theorem dl_612 : decode code 612 = .ok (.aload_n 0, 1) := by decide +kernel
theorem dl_613 : decode code 613 = .ok (.iload_n 3, 1) := by decide +kernel
theorem dl_614 : decode code 614 = .ok (.iconst 2, 1) := by decide +kernel
theorem dl_615 : decode code 615 = .ok (.iadd, 1) := by decide +kernel
theorem dl_616 : decode code 616 = .ok (.iaload, 1) := by decide +kernel
theorem dl_617 : decode code 617 = .ok (.aload_n 0, 1) := by decide +kernel
theorem dl_618 : decode code 618 = .ok (.iload_n 3, 1) := by decide +kernel
theorem dl_619 : decode code 619 = .ok (.iconst 3, 1) := by decide +kernel
theorem dl_620 : decode code 620 = .ok (.iadd, 1) := by decide +kernel
theorem dl_621 : decode code 621 = .ok (.iaload, 1) := by decide +kernel
theorem dl_622 : decode code 622 = .ok (.aload_n 0, 1) := by decide +kernel
theorem dl_623 : decode code 623 = .ok (.iload_n 3, 1) := by decide +kernel
theorem dl_624 : decode code 624 = .ok (.iconst 4, 1) := by decide +kernel
theorem dl_625 : decode code 625 = .ok (.iadd, 1) := by decide +kernel
theorem dl_626 : decode code 626 = .ok (.iaload, 1) := by decide +kernel
theorem dl_627 : decode code 627 = .ok (.aload_n 0, 1) := by decide +kernel
theorem dl_628 : decode code 628 = .ok (.iload_n 3, 1) := by decide +kernel
theorem dl_629 : decode code 629 = .ok (.iconst 5, 1) := by decide +kernel
theorem dl_630 : decode code 630 = .ok (.iadd, 1) := by decide +kernel
theorem dl_631 : decode code 631 = .ok (.iaload, 1) := by decide +kernel
theorem dl_632 : decode code 632 = .ok (.aload_n 0, 1) := by decide +kernel
theorem dl_633 : decode code 633 = .ok (.iload_n 3, 1) := by decide +kernel
theorem dl_634 : decode code 634 = .ok (.bipush 6, 2) := by decide +kernel
theorem dl_636 : decode code 636 = .ok (.iadd, 1) := by decide +kernel
theorem dl_637 : decode code 637 = .ok (.iaload, 1) := by decide +kernel
theorem dl_638 : decode code 638 = .ok (.aload_n 0, 1) := by decide +kernel
theorem dl_639 : decode code 639 = .ok (.iload_n 3, 1) := by decide +kernel
theorem dl_640 : decode code 640 = .ok (.bipush 7, 2) := by decide +kernel
theorem dl_642 : decode code 642 = .ok (.iadd, 1) := by decide +kernel
theorem dl_643 : decode code 643 = .ok (.iaload, 1) := by decide +kernel
theorem dl_644 : decode code 644 = .ok (.aload_n 0, 1) := by decide +kernel
theorem dl_645 : decode code 645 = .ok (.iload_n 3, 1) := by decide +kernel
theorem dl_646 : decode code 646 = .ok (.bipush 8, 2) := by decide +kernel
theorem dl_648 : decode code 648 = .ok (.iadd, 1) := by decide +kernel
theorem dl_649 : decode code 649 = .ok (.iaload, 1) := by decide +kernel
theorem dl_650 : decode code 650 = .ok (.invokevirtual 58, 3) := by decide +kernel
theorem dl_653 : decode code 653 = .ok (.aload_n 2, 1) := by decide +kernel
theorem dl_654 : decode code 654 = .ok (.aload_n 0, 1) := by decide +kernel
theorem dl_655 : decode code 655 = .ok (.iload_n 3, 1) := by decide +kernel
theorem dl_656 : decode code 656 = .ok (.iconst 1, 1) := by decide +kernel
theorem dl_657 : decode code 657 = .ok (.iadd, 1) := by decide +kernel
theorem dl_658 : decode code 658 = .ok (.iaload, 1) := by decide +kernel
theorem dl_659 : decode code 659 = .ok (.aload_n 0, 1) := by decide +kernel
theorem dl_660 : decode code 660 = .ok (.iload_n 3, 1) := by decide +kernel
theorem dl_661 : decode code 661 = .ok (.iconst 2, 1) := by decide +kernel
theorem dl_662 : decode code 662 = .ok (.iadd, 1) := by decide +kernel
theorem dl_663 : decode code 663 = .ok (.iaload, 1) := by decide +kernel
theorem dl_664 : decode code 664 = .ok (.aload_n 0, 1) := by decide +kernel
theorem dl_665 : decode code 665 = .ok (.iload_n 3, 1) := by decide +kernel
theorem dl_666 : decode code 666 = .ok (.iconst 3, 1) := by decide +kernel
theorem dl_667 : decode code 667 = .ok (.iadd, 1) := by decide +kernel
theorem dl_668 : decode code 668 = .ok (.iaload, 1) := by decide +kernel
theorem dl_669 : decode code 669 = .ok (.aload_n 0, 1) := by decide +kernel
theorem dl_670 : decode code 670 = .ok (.iload_n 3, 1) := by decide +kernel
theorem dl_671 : decode code 671 = .ok (.iconst 4, 1) := by decide +kernel
theorem dl_672 : decode code 672 = .ok (.iadd, 1) := by decide +kernel
theorem dl_673 : decode code 673 = .ok (.iaload, 1) := by decide +kernel
theorem dl_674 : decode code 674 = .ok (.aload_n 0, 1) := by decide +kernel
theorem dl_675 : decode code 675 = .ok (.iload_n 3, 1) := by decide +kernel
theorem dl_676 : decode code 676 = .ok (.iconst 5, 1) := by decide +kernel
theorem dl_677 : decode code 677 = .ok (.iadd, 1) := by decide +kernel
theorem dl_678 : decode code 678 = .ok (.iaload, 1) := by decide +kernel
theorem dl_679 : decode code 679 = .ok (.aload_n 0, 1) := by decide +kernel
theorem dl_680 : decode code 680 = .ok (.iload_n 3, 1) := by decide +kernel
theorem dl_681 : decode code 681 = .ok (.bipush 6, 2) := by decide +kernel
theorem dl_683 : decode code 683 = .ok (.iadd, 1) := by decide +kernel
theorem dl_684 : decode code 684 = .ok (.iaload, 1) := by decide +kernel
theorem dl_685 : decode code 685 = .ok (.aload_n 0, 1) := by decide +kernel
theorem dl_686 : decode code 686 = .ok (.iload_n 3, 1) := by decide +kernel
theorem dl_687 : decode code 687 = .ok (.bipush 7, 2) := by decide +kernel
theorem dl_689 : decode code 689 = .ok (.iadd, 1) := by decide +kernel
theorem dl_690 : decode code 690 = .ok (.iaload, 1) := by decide +kernel
theorem dl_691 : decode code 691 = .ok (.aload_n 0, 1) := by decide +kernel
theorem dl_692 : decode code 692 = .ok (.iload_n 3, 1) := by decide +kernel
theorem dl_693 : decode code 693 = .ok (.bipush 8, 2) := by decide +kernel
theorem dl_695 : decode code 695 = .ok (.iadd, 1) := by decide +kernel
theorem dl_696 : decode code 696 = .ok (.iaload, 1) := by decide +kernel
theorem dl_697 : decode code 697 = .ok (.invokevirtual 62, 3) := by decide +kernel
theorem dl_700 : decode code 700 = .ok (.lcmp, 1) := by decide +kernel
theorem dl_701 : decode code 701 = .ok (.ifCond .eq 748, 3) := by decide +kernel
section
variable {D : GD} {b L : Nat} {xs : Nat → Int32} {kc ks : Nat} {M : Mm} {i : Nat}
theorem lc_10 (hi : i + 9 ≤ L) (hL : L ≤ 4608) (hkc : 1 ≤ kc) (hks : 6 ≤ ks) (hN : mN M < 1000000) (hR : Rall M) (kk : ∀ M', Rall M' → mN M' ≤ mN M + 1 → LW D b L xs (kc - 1) (ks - 6) 1449 (lvl i) [] M') : LW D b L xs kc ks 606 (lvl i) [] M := by
  have hY := hR.1
  have y0 := hY.sh 0 (q := (0, 11)) rfl (by omega) (by omega)
  refine lb_aload_n 2 dl_606 rfl ?_
  refine lb_arg (k := 1) dl_607 dl_608 dl_609 rfl dl_610 dl_611 (by omega) hL ?_
  refine lb_arg (k := 2) dl_612 dl_613 dl_614 rfl dl_615 dl_616 (by omega) hL ?_
  refine lb_arg (k := 3) dl_617 dl_618 dl_619 rfl dl_620 dl_621 (by omega) hL ?_
  refine lb_arg (k := 4) dl_622 dl_623 dl_624 rfl dl_625 dl_626 (by omega) hL ?_
  refine lb_arg (k := 5) dl_627 dl_628 dl_629 rfl dl_630 dl_631 (by omega) hL ?_
  refine lb_argb (k := 6) dl_632 dl_633 dl_634 (by decide) dl_636 dl_637 (by omega) hL ?_
  refine lb_argb (k := 7) dl_638 dl_639 dl_640 (by decide) dl_642 dl_643 (by omega) hL ?_
  refine lb_argb (k := 8) dl_644 dl_645 dl_646 (by decide) dl_648 dl_649 (by omega) hL ?_
  refine lb_callV (a := 0) (c0 := 11) (d' := 9) (mc' := 1) (ms' := 6) (u' := mX11_odds) (vs := [.int (xs (i + 1)), .int (xs (i + 2)), .int (xs (i + 3)), .int (xs (i + 4)), .int (xs (i + 5)), .int (xs (i + 6)), .int (xs (i + 7)), .int (xs (i + 8))]) dl_650 ⟨cw_X11_odds, w_674⟩ w_675 w_676 (by decide) y0.1 y0.2 rfl rfl (by decide) (by omega) (by omega) (by omega) (AM.mono (k_odds (D := D) (d := 0) hR (by omega)) (fun r N h => ?_))
  obtain ⟨x, rfl, s1, h1⟩ := h
  have y1 := (hY.ofx s1).sh 62 (q := (0, 12)) rfl (by omega) (by omega)
  refine lb_aload_n 1 dl_653 rfl ?_
  refine lb_arg (k := 1) dl_654 dl_655 dl_656 rfl dl_657 dl_658 (by omega) hL ?_
  refine lb_arg (k := 2) dl_659 dl_660 dl_661 rfl dl_662 dl_663 (by omega) hL ?_
  refine lb_arg (k := 3) dl_664 dl_665 dl_666 rfl dl_667 dl_668 (by omega) hL ?_
  refine lb_arg (k := 4) dl_669 dl_670 dl_671 rfl dl_672 dl_673 (by omega) hL ?_
  refine lb_arg (k := 5) dl_674 dl_675 dl_676 rfl dl_677 dl_678 (by omega) hL ?_
  refine lb_argb (k := 6) dl_679 dl_680 dl_681 (by decide) dl_683 dl_684 (by omega) hL ?_
  refine lb_argb (k := 7) dl_685 dl_686 dl_687 (by decide) dl_689 dl_690 (by omega) hL ?_
  refine lb_argb (k := 8) dl_691 dl_692 dl_693 (by decide) dl_695 dl_696 (by omega) hL ?_
  refine lb_callV (a := 62) (c0 := 12) (d' := 9) (mc' := 0) (ms' := 0) (u' := mX12_odds) (vs := [.int (xs (i + 1)), .int (xs (i + 2)), .int (xs (i + 3)), .int (xs (i + 4)), .int (xs (i + 5)), .int (xs (i + 6)), .int (xs (i + 7)), .int (xs (i + 8))]) dl_697 ⟨cw_X12_odds, w_1327⟩ w_1328 w_1329 (by decide) y1.1 y1.2 rfl rfl (by show (2 : Nat) ≤ 8; omega) (by omega) (by omega) (by omega) (AM.mono (h1) (fun r N2 h => ?_))
  obtain ⟨y, rfl, s2, rfl, hR2, n2⟩ := h
  refine lb_lcmp dl_700 ?_
  exact lb_if_eq (tgt := 1449) dl_701 (by decide) (fun _ => kk N2 hR2 n2) (fun z => absurd (lg_self _) z)
end
