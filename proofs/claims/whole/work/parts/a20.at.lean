/-! the law: at -/
theorem dl_989 : decode code 989 = .ok (.aload_n 1, 1) := by decide +kernel
theorem dl_990 : decode code 990 = .ok (.aload_n 0, 1) := by decide +kernel
theorem dl_991 : decode code 991 = .ok (.iload_n 3, 1) := by decide +kernel
theorem dl_992 : decode code 992 = .ok (.iconst 1, 1) := by decide +kernel
theorem dl_993 : decode code 993 = .ok (.iadd, 1) := by decide +kernel
theorem dl_994 : decode code 994 = .ok (.iaload, 1) := by decide +kernel
theorem dl_995 : decode code 995 = .ok (.aload_n 0, 1) := by decide +kernel
theorem dl_996 : decode code 996 = .ok (.iload_n 3, 1) := by decide +kernel
theorem dl_997 : decode code 997 = .ok (.iconst 2, 1) := by decide +kernel
theorem dl_998 : decode code 998 = .ok (.iadd, 1) := by decide +kernel
theorem dl_999 : decode code 999 = .ok (.iaload, 1) := by decide +kernel
theorem dl_1000 : decode code 1000 = .ok (.aload_n 0, 1) := by decide +kernel
theorem dl_1001 : decode code 1001 = .ok (.iload_n 3, 1) := by decide +kernel
theorem dl_1002 : decode code 1002 = .ok (.iconst 3, 1) := by decide +kernel
theorem dl_1003 : decode code 1003 = .ok (.iadd, 1) := by decide +kernel
theorem dl_1004 : decode code 1004 = .ok (.iaload, 1) := by decide +kernel
theorem dl_1005 : decode code 1005 = .ok (.invokevirtual 98, 3) := by decide +kernel
theorem dl_1008 : decode code 1008 = .ok (.aload_n 2, 1) := by decide +kernel
theorem dl_1009 : decode code 1009 = .ok (.aload_n 0, 1) := by decide +kernel
theorem dl_1010 : decode code 1010 = .ok (.iload_n 3, 1) := by decide +kernel
theorem dl_1011 : decode code 1011 = .ok (.iconst 1, 1) := by decide +kernel
theorem dl_1012 : decode code 1012 = .ok (.iadd, 1) := by decide +kernel
theorem dl_1013 : decode code 1013 = .ok (.iaload, 1) := by decide +kernel
theorem dl_1014 : decode code 1014 = .ok (.aload_n 0, 1) := by decide +kernel
theorem dl_1015 : decode code 1015 = .ok (.iload_n 3, 1) := by decide +kernel
theorem dl_1016 : decode code 1016 = .ok (.iconst 2, 1) := by decide +kernel
theorem dl_1017 : decode code 1017 = .ok (.iadd, 1) := by decide +kernel
theorem dl_1018 : decode code 1018 = .ok (.iaload, 1) := by decide +kernel
theorem dl_1019 : decode code 1019 = .ok (.aload_n 0, 1) := by decide +kernel
theorem dl_1020 : decode code 1020 = .ok (.iload_n 3, 1) := by decide +kernel
theorem dl_1021 : decode code 1021 = .ok (.iconst 3, 1) := by decide +kernel
theorem dl_1022 : decode code 1022 = .ok (.iadd, 1) := by decide +kernel
theorem dl_1023 : decode code 1023 = .ok (.iaload, 1) := by decide +kernel
theorem dl_1024 : decode code 1024 = .ok (.invokevirtual 101, 3) := by decide +kernel
theorem dl_1027 : decode code 1027 = .ok (.if_icmp .eq 422, 3) := by decide +kernel
section
variable {D : GD} {b L : Nat} {xs : Nat → Int32} {kc ks : Nat} {M : Mm} {i : Nat}
theorem lc_19 (hi : i + 9 ≤ L) (hL : L ≤ 4608) (hkc : 1 ≤ kc) (hks : 6 ≤ ks) (hN : mN M < 1000000) (hR : Rall M) (kk : ∀ M', Rall M' → mN M' ≤ mN M + 1 → LW D b L xs (kc - 0) (ks - 0) 1449 (lvl i) [] M') : LW D b L xs kc ks 989 (lvl i) [] M := by
  have hY := hR.1
  have y0 := hY.sh 0 (q := (0, 11)) rfl (by omega) (by omega)
  refine lb_aload_n 2 dl_989 rfl ?_
  refine lb_arg (k := 1) dl_990 dl_991 dl_992 rfl dl_993 dl_994 (by omega) hL ?_
  refine lb_arg (k := 2) dl_995 dl_996 dl_997 rfl dl_998 dl_999 (by omega) hL ?_
  refine lb_arg (k := 3) dl_1000 dl_1001 dl_1002 rfl dl_1003 dl_1004 (by omega) hL ?_
  refine lb_callV (a := 0) (c0 := 11) (d' := 8) (mc' := 0) (ms' := 0) (u' := mX11_at) (vs := [.int (xs (i + 1)), .int (xs (i + 2)), .int (xs (i + 3))]) dl_1005 ⟨cw_X11_at, w_805⟩ w_806 w_807 (by decide) y0.1 y0.2 rfl rfl (by decide) (by omega) (by omega) (by omega) (AM.mono (k_at (D := D) (d := 0) hR) (fun r N h => ?_))
  obtain ⟨x, rfl, s1, h1⟩ := h
  have y1 := (hY.of s1).sh 62 (q := (0, 12)) rfl (by omega) (by omega)
  refine lb_aload_n 1 dl_1008 rfl ?_
  refine lb_arg (k := 1) dl_1009 dl_1010 dl_1011 rfl dl_1012 dl_1013 (by omega) hL ?_
  refine lb_arg (k := 2) dl_1014 dl_1015 dl_1016 rfl dl_1017 dl_1018 (by omega) hL ?_
  refine lb_arg (k := 3) dl_1019 dl_1020 dl_1021 rfl dl_1022 dl_1023 (by omega) hL ?_
  refine lb_callV (a := 62) (c0 := 12) (d' := 8) (mc' := 0) (ms' := 0) (u' := mX12_at) (vs := [.int (xs (i + 1)), .int (xs (i + 2)), .int (xs (i + 3))]) dl_1024 ⟨cw_X12_at, w_1427⟩ w_1428 w_1429 (by decide) y1.1 y1.2 rfl rfl (by show (1 : Nat) ≤ 8; omega) (by omega) (by omega) (by omega) (AM.mono (h1) (fun r N2 h => ?_))
  obtain ⟨y, rfl, s2, rfl, hR2⟩ := h
  exact lb_icmp_eq (tgt := 1449) dl_1027 (by decide) (fun _ => kk N2 hR2 (by rw [s2.1, s1.1]; omega)) (fun z => absurd rfl z)
end
