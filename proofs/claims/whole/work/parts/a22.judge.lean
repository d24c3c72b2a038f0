/-! the law: judge -/
theorem dl_1055 : decode code 1055 = .ok (.aload_n 1, 1) := by decide +kernel
theorem dl_1056 : decode code 1056 = .ok (.aload_n 0, 1) := by decide +kernel
theorem dl_1057 : decode code 1057 = .ok (.iload_n 3, 1) := by decide +kernel
theorem dl_1058 : decode code 1058 = .ok (.iconst 1, 1) := by decide +kernel
theorem dl_1059 : decode code 1059 = .ok (.iadd, 1) := by decide +kernel
theorem dl_1060 : decode code 1060 = .ok (.iaload, 1) := by decide +kernel
theorem dl_1061 : decode code 1061 = .ok (.aload_n 0, 1) := by decide +kernel
theorem dl_1062 : decode code 1062 = .ok (.iload_n 3, 1) := by decide +kernel
theorem dl_1063 : decode code 1063 = .ok (.iconst 2, 1) := by decide +kernel
theorem dl_1064 : decode code 1064 = .ok (.iadd, 1) := by decide +kernel
theorem dl_1065 : decode code 1065 = .ok (.iaload, 1) := by decide +kernel
theorem dl_1066 : decode code 1066 = .ok (.invokevirtual 106, 3) := by decide +kernel
theorem dl_1069 : decode code 1069 = .ok (.aload_n 2, 1) := by decide +kernel
theorem dl_1070 : decode code 1070 = .ok (.aload_n 0, 1) := by decide +kernel
theorem dl_1071 : decode code 1071 = .ok (.iload_n 3, 1) := by decide +kernel
theorem dl_1072 : decode code 1072 = .ok (.iconst 1, 1) := by decide +kernel
theorem dl_1073 : decode code 1073 = .ok (.iadd, 1) := by decide +kernel
theorem dl_1074 : decode code 1074 = .ok (.iaload, 1) := by decide +kernel
theorem dl_1075 : decode code 1075 = .ok (.aload_n 0, 1) := by decide +kernel
theorem dl_1076 : decode code 1076 = .ok (.iload_n 3, 1) := by decide +kernel
theorem dl_1077 : decode code 1077 = .ok (.iconst 2, 1) := by decide +kernel
theorem dl_1078 : decode code 1078 = .ok (.iadd, 1) := by decide +kernel
theorem dl_1079 : decode code 1079 = .ok (.iaload, 1) := by decide +kernel
theorem dl_1080 : decode code 1080 = .ok (.invokevirtual 109, 3) := by decide +kernel
theorem dl_1083 : decode code 1083 = .ok (.if_icmp .eq 366, 3) := by decide +kernel
section
variable {D : GD} {b L : Nat} {xs : Nat → Int32} {kc ks : Nat} {M : Mm} {i : Nat}
theorem lc_21 (hi : i + 9 ≤ L) (hL : L ≤ 4608) (hkc : 1 ≤ kc) (hks : 6 ≤ ks) (hN : mN M < 1000000) (hR : Rall M) (kk : ∀ M', Rall M' → mN M' ≤ mN M + 1 → LW D b L xs (kc - 0) (ks - 0) 1449 (lvl i) [] M') : LW D b L xs kc ks 1055 (lvl i) [] M := by
  have hY := hR.1
  have y0 := hY.sh 0 (q := (0, 11)) rfl (by omega) (by omega)
  refine lb_aload_n 2 dl_1055 rfl ?_
  refine lb_arg (k := 1) dl_1056 dl_1057 dl_1058 rfl dl_1059 dl_1060 (by omega) hL ?_
  refine lb_arg (k := 2) dl_1061 dl_1062 dl_1063 rfl dl_1064 dl_1065 (by omega) hL ?_
  refine lb_callV (a := 0) (c0 := 11) (d' := 8) (mc' := 0) (ms' := 0) (u' := mX11_judge) (vs := [.int (xs (i + 1)), .int (xs (i + 2))]) dl_1066 ⟨cw_X11_judge, w_825⟩ w_826 w_827 (by decide) y0.1 y0.2 rfl rfl (by decide) (by omega) (by omega) (by omega) (AM.mono (k_judge (D := D) (d := 0) hR) (fun r N h => ?_))
  obtain ⟨x, rfl, s1, h1⟩ := h
  have y1 := (hY.of s1).sh 62 (q := (0, 12)) rfl (by omega) (by omega)
  refine lb_aload_n 1 dl_1069 rfl ?_
  refine lb_arg (k := 1) dl_1070 dl_1071 dl_1072 rfl dl_1073 dl_1074 (by omega) hL ?_
  refine lb_arg (k := 2) dl_1075 dl_1076 dl_1077 rfl dl_1078 dl_1079 (by omega) hL ?_
  refine lb_callV (a := 62) (c0 := 12) (d' := 8) (mc' := 0) (ms' := 0) (u' := mX12_judge) (vs := [.int (xs (i + 1)), .int (xs (i + 2))]) dl_1080 ⟨cw_X12_judge, w_1435⟩ w_1436 w_1437 (by decide) y1.1 y1.2 rfl rfl (by show (1 : Nat) ≤ 8; omega) (by omega) (by omega) (by omega) (AM.mono (h1) (fun r N2 h => ?_))
  obtain ⟨y, rfl, s2, rfl, hR2⟩ := h
  exact lb_icmp_eq (tgt := 1449) dl_1083 (by decide) (fun _ => kk N2 hR2 (by rw [s2.1, s1.1]; omega)) (fun z => absurd rfl z)
end
