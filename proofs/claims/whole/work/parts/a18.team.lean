/-! the law: team -/
theorem dl_923 : decode code 923 = .ok (.aload_n 1, 1) := by decide +kernel
theorem dl_924 : decode code 924 = .ok (.aload_n 0, 1) := by decide +kernel
theorem dl_925 : decode code 925 = .ok (.iload_n 3, 1) := by decide +kernel
theorem dl_926 : decode code 926 = .ok (.iconst 1, 1) := by decide +kernel
theorem dl_927 : decode code 927 = .ok (.iadd, 1) := by decide +kernel
theorem dl_928 : decode code 928 = .ok (.iaload, 1) := by decide +kernel
theorem dl_929 : decode code 929 = .ok (.aload_n 0, 1) := by decide +kernel
theorem dl_930 : decode code 930 = .ok (.iload_n 3, 1) := by decide +kernel
theorem dl_931 : decode code 931 = .ok (.iconst 2, 1) := by decide +kernel
theorem dl_932 : decode code 932 = .ok (.iadd, 1) := by decide +kernel
theorem dl_933 : decode code 933 = .ok (.iaload, 1) := by decide +kernel
theorem dl_934 : decode code 934 = .ok (.aload_n 0, 1) := by decide +kernel
theorem dl_935 : decode code 935 = .ok (.iload_n 3, 1) := by decide +kernel
theorem dl_936 : decode code 936 = .ok (.iconst 3, 1) := by decide +kernel
theorem dl_937 : decode code 937 = .ok (.iadd, 1) := by decide +kernel
theorem dl_938 : decode code 938 = .ok (.iaload, 1) := by decide +kernel
theorem dl_939 : decode code 939 = .ok (.invokevirtual 90, 3) := by decide +kernel
theorem dl_942 : decode code 942 = .ok (.aload_n 2, 1) := by decide +kernel
theorem dl_943 : decode code 943 = .ok (.aload_n 0, 1) := by decide +kernel
theorem dl_944 : decode code 944 = .ok (.iload_n 3, 1) := by decide +kernel
theorem dl_945 : decode code 945 = .ok (.iconst 1, 1) := by decide +kernel
theorem dl_946 : decode code 946 = .ok (.iadd, 1) := by decide +kernel
theorem dl_947 : decode code 947 = .ok (.iaload, 1) := by decide +kernel
theorem dl_948 : decode code 948 = .ok (.aload_n 0, 1) := by decide +kernel
theorem dl_949 : decode code 949 = .ok (.iload_n 3, 1) := by decide +kernel
theorem dl_950 : decode code 950 = .ok (.iconst 2, 1) := by decide +kernel
theorem dl_951 : decode code 951 = .ok (.iadd, 1) := by decide +kernel
theorem dl_952 : decode code 952 = .ok (.iaload, 1) := by decide +kernel
theorem dl_953 : decode code 953 = .ok (.aload_n 0, 1) := by decide +kernel
theorem dl_954 : decode code 954 = .ok (.iload_n 3, 1) := by decide +kernel
theorem dl_955 : decode code 955 = .ok (.iconst 3, 1) := by decide +kernel
theorem dl_956 : decode code 956 = .ok (.iadd, 1) := by decide +kernel
theorem dl_957 : decode code 957 = .ok (.iaload, 1) := by decide +kernel
theorem dl_958 : decode code 958 = .ok (.invokevirtual 93, 3) := by decide +kernel
theorem dl_961 : decode code 961 = .ok (.if_icmp .eq 488, 3) := by decide +kernel
section
variable {D : GD} {b L : Nat} {xs : Nat → Int32} {kc ks : Nat} {M : Mm} {i : Nat}
theorem lc_17 (hi : i + 9 ≤ L) (hL : L ≤ 4608) (hkc : 1 ≤ kc) (hks : 6 ≤ ks) (hN : mN M < 1000000) (hR : Rall M) (kk : ∀ M', Rall M' → mN M' ≤ mN M + 1 → LW D b L xs (kc - 0) (ks - 0) 1449 (lvl i) [] M') : LW D b L xs kc ks 923 (lvl i) [] M := by
  have hY := hR.1
  have y0 := hY.sh 0 (q := (0, 11)) rfl (by omega) (by omega)
  refine lb_aload_n 2 dl_923 rfl ?_
  refine lb_arg (k := 1) dl_924 dl_925 dl_926 rfl dl_927 dl_928 (by omega) hL ?_
  refine lb_arg (k := 2) dl_929 dl_930 dl_931 rfl dl_932 dl_933 (by omega) hL ?_
  refine lb_arg (k := 3) dl_934 dl_935 dl_936 rfl dl_937 dl_938 (by omega) hL ?_
  refine lb_callV (a := 0) (c0 := 11) (d' := 8) (mc' := 0) (ms' := 0) (u' := mX11_team) (vs := [.int (xs (i + 1)), .int (xs (i + 2)), .int (xs (i + 3))]) dl_939 ⟨cw_X11_team, w_768⟩ w_769 w_770 (by decide) y0.1 y0.2 rfl rfl (by decide) (by omega) (by omega) (by omega) (AM.mono (k_team (D := D) (d := 0) hR) (fun r N h => ?_))
  obtain ⟨x, rfl, s1, h1⟩ := h
  have y1 := (hY.of s1).sh 62 (q := (0, 12)) rfl (by omega) (by omega)
  refine lb_aload_n 1 dl_942 rfl ?_
  refine lb_arg (k := 1) dl_943 dl_944 dl_945 rfl dl_946 dl_947 (by omega) hL ?_
  refine lb_arg (k := 2) dl_948 dl_949 dl_950 rfl dl_951 dl_952 (by omega) hL ?_
  refine lb_arg (k := 3) dl_953 dl_954 dl_955 rfl dl_956 dl_957 (by omega) hL ?_
  refine lb_callV (a := 62) (c0 := 12) (d' := 8) (mc' := 0) (ms' := 0) (u' := mX12_team) (vs := [.int (xs (i + 1)), .int (xs (i + 2)), .int (xs (i + 3))]) dl_958 ⟨cw_X12_team, w_1386⟩ w_1387 w_1388 (by decide) y1.1 y1.2 rfl rfl (by show (1 : Nat) ≤ 8; omega) (by omega) (by omega) (by omega) (AM.mono (h1) (fun r N2 h => ?_))
  obtain ⟨y, rfl, s2, rfl, hR2⟩ := h
  exact lb_icmp_eq (tgt := 1449) dl_961 (by decide) (fun _ => kk N2 hR2 (by rw [s2.1, s1.1]; omega)) (fun z => absurd rfl z)
end
