/-! the law: kick -/
theorem dl_782 : decode code 782 = .ok (.aload_n 1, 1) := by decide +kernel
theorem dl_783 : decode code 783 = .ok (.aload_n 0, 1) := by decide +kernel
theorem dl_784 : decode code 784 = .ok (.iload_n 3, 1) := by decide +kernel
theorem dl_785 : decode code 785 = .ok (.iconst 1, 1) := by decide +kernel
theorem dl_786 : decode code 786 = .ok (.iadd, 1) := by decide +kernel
theorem dl_787 : decode code 787 = .ok (.iaload, 1) := by decide +kernel
theorem dl_788 : decode code 788 = .ok (.aload_n 0, 1) := by decide +kernel
theorem dl_789 : decode code 789 = .ok (.iload_n 3, 1) := by decide +kernel
theorem dl_790 : decode code 790 = .ok (.iconst 2, 1) := by decide +kernel
theorem dl_791 : decode code 791 = .ok (.iadd, 1) := by decide +kernel
theorem dl_792 : decode code 792 = .ok (.iaload, 1) := by decide +kernel
theorem dl_793 : decode code 793 = .ok (.aload_n 0, 1) := by decide +kernel
theorem dl_794 : decode code 794 = .ok (.iload_n 3, 1) := by decide +kernel
theorem dl_795 : decode code 795 = .ok (.iconst 3, 1) := by decide +kernel
theorem dl_796 : decode code 796 = .ok (.iadd, 1) := by decide +kernel
theorem dl_797 : decode code 797 = .ok (.iaload, 1) := by decide +kernel
theorem dl_798 : decode code 798 = .ok (.ifCond .eq 7, 3) := by decide +kernel
theorem dl_801 : decode code 801 = .ok (.iconst 1, 1) := by decide +kernel
theorem dl_802 : decode code 802 = .ok (.goto 4, 3) := by decide +kernel
theorem dl_805 : decode code 805 = .ok (.iconst 0, 1) := by decide +kernel
theorem dl_806 : decode code 806 = .ok (.invokevirtual 68, 3) := by decide +kernel
theorem dl_809 : decode code 809 = .ok (.aload_n 2, 1) := by decide +kernel
theorem dl_810 : decode code 810 = .ok (.aload_n 0, 1) := by decide +kernel
theorem dl_811 : decode code 811 = .ok (.iload_n 3, 1) := by decide +kernel
theorem dl_812 : decode code 812 = .ok (.iconst 1, 1) := by decide +kernel
theorem dl_813 : decode code 813 = .ok (.iadd, 1) := by decide +kernel
theorem dl_814 : decode code 814 = .ok (.iaload, 1) := by decide +kernel
theorem dl_815 : decode code 815 = .ok (.aload_n 0, 1) := by decide +kernel
theorem dl_816 : decode code 816 = .ok (.iload_n 3, 1) := by decide +kernel
theorem dl_817 : decode code 817 = .ok (.iconst 2, 1) := by decide +kernel
theorem dl_818 : decode code 818 = .ok (.iadd, 1) := by decide +kernel
theorem dl_819 : decode code 819 = .ok (.iaload, 1) := by decide +kernel
theorem dl_820 : decode code 820 = .ok (.aload_n 0, 1) := by decide +kernel
theorem dl_821 : decode code 821 = .ok (.iload_n 3, 1) := by decide +kernel
theorem dl_822 : decode code 822 = .ok (.iconst 3, 1) := by decide +kernel
theorem dl_823 : decode code 823 = .ok (.iadd, 1) := by decide +kernel
theorem dl_824 : decode code 824 = .ok (.iaload, 1) := by decide +kernel
theorem dl_825 : decode code 825 = .ok (.ifCond .eq 7, 3) := by decide +kernel
theorem dl_828 : decode code 828 = .ok (.iconst 1, 1) := by decide +kernel
theorem dl_829 : decode code 829 = .ok (.goto 4, 3) := by decide +kernel
theorem dl_832 : decode code 832 = .ok (.iconst 0, 1) := by decide +kernel
theorem dl_833 : decode code 833 = .ok (.invokevirtual 72, 3) := by decide +kernel
theorem dl_836 : decode code 836 = .ok (.if_icmp .eq 613, 3) := by decide +kernel
section
variable {D : GD} {b L : Nat} {xs : Nat → Int32} {kc ks : Nat} {M : Mm} {i : Nat}
theorem lc_12a (hi : i + 9 ≤ L) (hL : L ≤ 4608) (hkc : 1 ≤ kc) (hks : 6 ≤ ks) (hN : mN M < 1000000) (hR : Rall M) (hz : xs (i + 3) = 0) (kk : ∀ M', Rall M' → mN M' ≤ mN M + 1 → LW D b L xs (kc - 0) (ks - 0) 1449 (lvl i) [] M') : LW D b L xs kc ks 782 (lvl i) [] M := by
  have hY := hR.1
  have y0 := hY.sh 0 (q := (0, 11)) rfl (by omega) (by omega)
  refine lb_aload_n 2 dl_782 rfl ?_
  refine lb_arg (k := 1) dl_783 dl_784 dl_785 rfl dl_786 dl_787 (by omega) hL ?_
  refine lb_arg (k := 2) dl_788 dl_789 dl_790 rfl dl_791 dl_792 (by omega) hL ?_
  refine lb_arg (k := 3) dl_793 dl_794 dl_795 rfl dl_796 dl_797 (by omega) hL ?_
  refine lb_if_eq (tgt := 805) dl_798 (by decide) (fun _ => ?_) (fun n => absurd hz n)
  refine lb_iconst (v := (0 : Int32)) dl_805 (by decide) ?_
  refine lb_callV (a := 0) (c0 := 11) (d' := 8) (mc' := 0) (ms' := 0) (u' := mX11_kick) (vs := [.int (xs (i + 1)), .int (xs (i + 2)), .int (0 : Int32)]) dl_806 ⟨cw_X11_kick, w_714⟩ w_715 w_716 (by decide) y0.1 y0.2 rfl rfl (by decide) (by omega) (by omega) (by omega) (AM.mono (k_kick (D := D) (d := 0) hR) (fun r N h => ?_))
  obtain ⟨x, rfl, s1, h1⟩ := h
  have y1 := (hY.of s1).sh 62 (q := (0, 12)) rfl (by omega) (by omega)
  refine lb_aload_n 1 dl_809 rfl ?_
  refine lb_arg (k := 1) dl_810 dl_811 dl_812 rfl dl_813 dl_814 (by omega) hL ?_
  refine lb_arg (k := 2) dl_815 dl_816 dl_817 rfl dl_818 dl_819 (by omega) hL ?_
  refine lb_arg (k := 3) dl_820 dl_821 dl_822 rfl dl_823 dl_824 (by omega) hL ?_
  refine lb_if_eq (tgt := 832) dl_825 (by decide) (fun _ => ?_) (fun n => absurd hz n)
  refine lb_iconst (v := (0 : Int32)) dl_832 (by decide) ?_
  refine lb_callV (a := 62) (c0 := 12) (d' := 8) (mc' := 0) (ms' := 0) (u' := mX12_kick) (vs := [.int (xs (i + 1)), .int (xs (i + 2)), .int (0 : Int32)]) dl_833 ⟨cw_X12_kick, w_1357⟩ w_1358 w_1359 (by decide) y1.1 y1.2 rfl rfl (by show (1 : Nat) ≤ 8; omega) (by omega) (by omega) (by omega) (AM.mono (h1) (fun r N2 h => ?_))
  obtain ⟨y, rfl, s2, rfl, hR2⟩ := h
  exact lb_icmp_eq (tgt := 1449) dl_836 (by decide) (fun _ => kk N2 hR2 (by rw [s2.1, s1.1]; omega)) (fun z => absurd rfl z)
theorem lc_12b (hi : i + 9 ≤ L) (hL : L ≤ 4608) (hkc : 1 ≤ kc) (hks : 6 ≤ ks) (hN : mN M < 1000000) (hR : Rall M) (hz : ¬ xs (i + 3) = 0) (kk : ∀ M', Rall M' → mN M' ≤ mN M + 1 → LW D b L xs (kc - 0) (ks - 0) 1449 (lvl i) [] M') : LW D b L xs kc ks 782 (lvl i) [] M := by
  have hY := hR.1
  have y0 := hY.sh 0 (q := (0, 11)) rfl (by omega) (by omega)
  refine lb_aload_n 2 dl_782 rfl ?_
  refine lb_arg (k := 1) dl_783 dl_784 dl_785 rfl dl_786 dl_787 (by omega) hL ?_
  refine lb_arg (k := 2) dl_788 dl_789 dl_790 rfl dl_791 dl_792 (by omega) hL ?_
  refine lb_arg (k := 3) dl_793 dl_794 dl_795 rfl dl_796 dl_797 (by omega) hL ?_
  refine lb_if_eq (tgt := 805) dl_798 (by decide) (fun n => absurd n hz) (fun _ => ?_)
  refine lb_iconst (v := (1 : Int32)) dl_801 (by decide) ?_
  refine lb_goto (tgt := 806) dl_802 (by decide) ?_
  refine lb_callV (a := 0) (c0 := 11) (d' := 8) (mc' := 0) (ms' := 0) (u' := mX11_kick) (vs := [.int (xs (i + 1)), .int (xs (i + 2)), .int (1 : Int32)]) dl_806 ⟨cw_X11_kick, w_714⟩ w_715 w_716 (by decide) y0.1 y0.2 rfl rfl (by decide) (by omega) (by omega) (by omega) (AM.mono (k_kick (D := D) (d := 0) hR) (fun r N h => ?_))
  obtain ⟨x, rfl, s1, h1⟩ := h
  have y1 := (hY.of s1).sh 62 (q := (0, 12)) rfl (by omega) (by omega)
  refine lb_aload_n 1 dl_809 rfl ?_
  refine lb_arg (k := 1) dl_810 dl_811 dl_812 rfl dl_813 dl_814 (by omega) hL ?_
  refine lb_arg (k := 2) dl_815 dl_816 dl_817 rfl dl_818 dl_819 (by omega) hL ?_
  refine lb_arg (k := 3) dl_820 dl_821 dl_822 rfl dl_823 dl_824 (by omega) hL ?_
  refine lb_if_eq (tgt := 832) dl_825 (by decide) (fun n => absurd n hz) (fun _ => ?_)
  refine lb_iconst (v := (1 : Int32)) dl_828 (by decide) ?_
  refine lb_goto (tgt := 833) dl_829 (by decide) ?_
  refine lb_callV (a := 62) (c0 := 12) (d' := 8) (mc' := 0) (ms' := 0) (u' := mX12_kick) (vs := [.int (xs (i + 1)), .int (xs (i + 2)), .int (1 : Int32)]) dl_833 ⟨cw_X12_kick, w_1357⟩ w_1358 w_1359 (by decide) y1.1 y1.2 rfl rfl (by show (1 : Nat) ≤ 8; omega) (by omega) (by omega) (by omega) (AM.mono (h1) (fun r N2 h => ?_))
  obtain ⟨y, rfl, s2, rfl, hR2⟩ := h
  exact lb_icmp_eq (tgt := 1449) dl_836 (by decide) (fun _ => kk N2 hR2 (by rw [s2.1, s1.1]; omega)) (fun z => absurd rfl z)
theorem lc_12 (hi : i + 9 ≤ L) (hL : L ≤ 4608) (hkc : 1 ≤ kc) (hks : 6 ≤ ks) (hN : mN M < 1000000) (hR : Rall M) (kk : ∀ M', Rall M' → mN M' ≤ mN M + 1 → LW D b L xs (kc - 0) (ks - 0) 1449 (lvl i) [] M') : LW D b L xs kc ks 782 (lvl i) [] M := by
  by_cases hz : xs (i + 3) = 0
  · exact lc_12a hi hL hkc hks hN hR hz kk
  · exact lc_12b hi hL hkc hks hN hR hz kk
end
