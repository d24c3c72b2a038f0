/-! the law: leak -/
theorem dl_706 : decode code 706 = .ok (.aload_n 1, 1) := by decide +kernel
theorem dl_707 : decode code 707 = .ok (.aload_n 0, 1) := by decide +kernel
theorem dl_708 : decode code 708 = .ok (.iload_n 3, 1) := by decide +kernel
theorem dl_709 : decode code 709 = .ok (.iconst 1, 1) := by decide +kernel
theorem dl_710 : decode code 710 = .ok (.iadd, 1) := by decide +kernel
theorem dl_711 : decode code 711 = .ok (.iaload, 1) := by decide +kernel
theorem dl_712 : decode code 712 = .ok (.aload_n 0, 1) := by decide +kernel
theorem dl_713 : decode code 713 = .ok (.iload_n 3, 1) := by decide +kernel
theorem dl_714 : decode code 714 = .ok (.iconst 2, 1) := by decide +kernel
theorem dl_715 : decode code 715 = .ok (.iadd, 1) := by decide +kernel
theorem dl_716 : decode code 716 = .ok (.iaload, 1) := by decide +kernel
theorem dl_717 : decode code 717 = .ok (.aload_n 0, 1) := by decide +kernel
theorem dl_718 : decode code 718 = .ok (.iload_n 3, 1) := by decide +kernel
theorem dl_719 : decode code 719 = .ok (.iconst 3, 1) := by decide +kernel
theorem dl_720 : decode code 720 = .ok (.iadd, 1) := by decide +kernel
theorem dl_721 : decode code 721 = .ok (.iaload, 1) := by decide +kernel
theorem dl_722 : decode code 722 = .ok (.aload_n 0, 1) := by decide +kernel
theorem dl_723 : decode code 723 = .ok (.iload_n 3, 1) := by decide +kernel
theorem dl_724 : decode code 724 = .ok (.iconst 4, 1) := by decide +kernel
theorem dl_725 : decode code 725 = .ok (.iadd, 1) := by decide +kernel
theorem dl_726 : decode code 726 = .ok (.iaload, 1) := by decide +kernel
theorem dl_727 : decode code 727 = .ok (.aload_n 0, 1) := by decide +kernel
theorem dl_728 : decode code 728 = .ok (.iload_n 3, 1) := by decide +kernel
theorem dl_729 : decode code 729 = .ok (.iconst 5, 1) := by decide +kernel
theorem dl_730 : decode code 730 = .ok (.iadd, 1) := by decide +kernel
theorem dl_731 : decode code 731 = .ok (.iaload, 1) := by decide +kernel
theorem dl_732 : decode code 732 = .ok (.aload_n 0, 1) := by decide +kernel
theorem dl_733 : decode code 733 = .ok (.iload_n 3, 1) := by decide +kernel
theorem dl_734 : decode code 734 = .ok (.bipush 6, 2) := by decide +kernel
theorem dl_736 : decode code 736 = .ok (.iadd, 1) := by decide +kernel
theorem dl_737 : decode code 737 = .ok (.iaload, 1) := by decide +kernel
theorem dl_738 : decode code 738 = .ok (.invokevirtual 63, 3) := by decide +kernel
theorem dl_741 : decode code 741 = .ok (.aload_n 2, 1) := by decide +kernel
theorem dl_742 : decode code 742 = .ok (.aload_n 0, 1) := by decide +kernel
theorem dl_743 : decode code 743 = .ok (.iload_n 3, 1) := by decide +kernel
theorem dl_744 : decode code 744 = .ok (.iconst 1, 1) := by decide +kernel
theorem dl_745 : decode code 745 = .ok (.iadd, 1) := by decide +kernel
theorem dl_746 : decode code 746 = .ok (.iaload, 1) := by decide +kernel
theorem dl_747 : decode code 747 = .ok (.aload_n 0, 1) := by decide +kernel
theorem dl_748 : decode code 748 = .ok (.iload_n 3, 1) := by decide +kernel
theorem dl_749 : decode code 749 = .ok (.iconst 2, 1) := by decide +kernel
theorem dl_750 : decode code 750 = .ok (.iadd, 1) := by decide +kernel
theorem dl_751 : decode code 751 = .ok (.iaload, 1) := by decide +kernel
theorem dl_752 : decode code 752 = .ok (.aload_n 0, 1) := by decide +kernel
theorem dl_753 : decode code 753 = .ok (.iload_n 3, 1) := by decide +kernel
theorem dl_754 : decode code 754 = .ok (.iconst 3, 1) := by decide +kernel
theorem dl_755 : decode code 755 = .ok (.iadd, 1) := by decide +kernel
theorem dl_756 : decode code 756 = .ok (.iaload, 1) := by decide +kernel
theorem dl_757 : decode code 757 = .ok (.aload_n 0, 1) := by decide +kernel
theorem dl_758 : decode code 758 = .ok (.iload_n 3, 1) := by decide +kernel
theorem dl_759 : decode code 759 = .ok (.iconst 4, 1) := by decide +kernel
theorem dl_760 : decode code 760 = .ok (.iadd, 1) := by decide +kernel
theorem dl_761 : decode code 761 = .ok (.iaload, 1) := by decide +kernel
theorem dl_762 : decode code 762 = .ok (.aload_n 0, 1) := by decide +kernel
theorem dl_763 : decode code 763 = .ok (.iload_n 3, 1) := by decide +kernel
theorem dl_764 : decode code 764 = .ok (.iconst 5, 1) := by decide +kernel
theorem dl_765 : decode code 765 = .ok (.iadd, 1) := by decide +kernel
theorem dl_766 : decode code 766 = .ok (.iaload, 1) := by decide +kernel
theorem dl_767 : decode code 767 = .ok (.aload_n 0, 1) := by decide +kernel
theorem dl_768 : decode code 768 = .ok (.iload_n 3, 1) := by decide +kernel
theorem dl_769 : decode code 769 = .ok (.bipush 6, 2) := by decide +kernel
theorem dl_771 : decode code 771 = .ok (.iadd, 1) := by decide +kernel
theorem dl_772 : decode code 772 = .ok (.iaload, 1) := by decide +kernel
theorem dl_773 : decode code 773 = .ok (.invokevirtual 67, 3) := by decide +kernel
theorem dl_776 : decode code 776 = .ok (.lcmp, 1) := by decide +kernel
theorem dl_777 : decode code 777 = .ok (.ifCond .eq 672, 3) := by decide +kernel
section
variable {D : GD} {b L : Nat} {xs : Nat → Int32} {kc ks : Nat} {M : Mm} {i : Nat}
theorem lc_11 (hi : i + 9 ≤ L) (hL : L ≤ 4608) (hkc : 1 ≤ kc) (hks : 6 ≤ ks) (hN : mN M < 1000000) (hR : Rall M) (kk : ∀ M', Rall M' → mN M' ≤ mN M + 1 → LW D b L xs (kc - 0) (ks - 0) 1449 (lvl i) [] M') : LW D b L xs kc ks 706 (lvl i) [] M := by
  have hY := hR.1
  have y0 := hY.sh 0 (q := (0, 11)) rfl (by omega) (by omega)
  refine lb_aload_n 2 dl_706 rfl ?_
  refine lb_arg (k := 1) dl_707 dl_708 dl_709 rfl dl_710 dl_711 (by omega) hL ?_
  refine lb_arg (k := 2) dl_712 dl_713 dl_714 rfl dl_715 dl_716 (by omega) hL ?_
  refine lb_arg (k := 3) dl_717 dl_718 dl_719 rfl dl_720 dl_721 (by omega) hL ?_
  refine lb_arg (k := 4) dl_722 dl_723 dl_724 rfl dl_725 dl_726 (by omega) hL ?_
  refine lb_arg (k := 5) dl_727 dl_728 dl_729 rfl dl_730 dl_731 (by omega) hL ?_
  refine lb_argb (k := 6) dl_732 dl_733 dl_734 (by decide) dl_736 dl_737 (by omega) hL ?_
  refine lb_callV (a := 0) (c0 := 11) (d' := 8) (mc' := 0) (ms' := 0) (u' := mX11_leak) (vs := [.int (xs (i + 1)), .int (xs (i + 2)), .int (xs (i + 3)), .int (xs (i + 4)), .int (xs (i + 5)), .int (xs (i + 6))]) dl_738 ⟨cw_X11_leak, w_710⟩ w_711 w_712 (by decide) y0.1 y0.2 rfl rfl (by decide) (by omega) (by omega) (by omega) (AM.mono (k_leak (D := D) (d := 0) hR) (fun r N h => ?_))
  obtain ⟨x, rfl, s1, h1⟩ := h
  have y1 := (hY.of s1).sh 62 (q := (0, 12)) rfl (by omega) (by omega)
  refine lb_aload_n 1 dl_741 rfl ?_
  refine lb_arg (k := 1) dl_742 dl_743 dl_744 rfl dl_745 dl_746 (by omega) hL ?_
  refine lb_arg (k := 2) dl_747 dl_748 dl_749 rfl dl_750 dl_751 (by omega) hL ?_
  refine lb_arg (k := 3) dl_752 dl_753 dl_754 rfl dl_755 dl_756 (by omega) hL ?_
  refine lb_arg (k := 4) dl_757 dl_758 dl_759 rfl dl_760 dl_761 (by omega) hL ?_
  refine lb_arg (k := 5) dl_762 dl_763 dl_764 rfl dl_765 dl_766 (by omega) hL ?_
  refine lb_argb (k := 6) dl_767 dl_768 dl_769 (by decide) dl_771 dl_772 (by omega) hL ?_
  refine lb_callV (a := 62) (c0 := 12) (d' := 8) (mc' := 0) (ms' := 0) (u' := mX12_leak) (vs := [.int (xs (i + 1)), .int (xs (i + 2)), .int (xs (i + 3)), .int (xs (i + 4)), .int (xs (i + 5)), .int (xs (i + 6))]) dl_773 ⟨cw_X12_leak, w_1353⟩ w_1354 w_1355 (by decide) y1.1 y1.2 rfl rfl (by show (2 : Nat) ≤ 8; omega) (by omega) (by omega) (by omega) (AM.mono (h1) (fun r N2 h => ?_))
  obtain ⟨y, rfl, s2, rfl, hR2⟩ := h
  refine lb_lcmp dl_776 ?_
  exact lb_if_eq (tgt := 1449) dl_777 (by decide) (fun _ => kk N2 hR2 (by rw [s2.1, s1.1]; omega)) (fun z => absurd (lg_self _) z)
end
