/-! the law: order -/
theorem dl_1032 : decode code 1032 = .ok (.aload_n 1, 1) := by decide +kernel
theorem dl_1033 : decode code 1033 = .ok (.aload_n 0, 1) := by decide +kernel
theorem dl_1034 : decode code 1034 = .ok (.iload_n 3, 1) := by decide +kernel
theorem dl_1035 : decode code 1035 = .ok (.iconst 1, 1) := by decide +kernel
theorem dl_1036 : decode code 1036 = .ok (.iadd, 1) := by decide +kernel
theorem dl_1037 : decode code 1037 = .ok (.iaload, 1) := by decide +kernel
theorem dl_1038 : decode code 1038 = .ok (.invokevirtual 102, 3) := by decide +kernel
theorem dl_1041 : decode code 1041 = .ok (.aload_n 2, 1) := by decide +kernel
theorem dl_1042 : decode code 1042 = .ok (.aload_n 0, 1) := by decide +kernel
theorem dl_1043 : decode code 1043 = .ok (.iload_n 3, 1) := by decide +kernel
theorem dl_1044 : decode code 1044 = .ok (.iconst 1, 1) := by decide +kernel
theorem dl_1045 : decode code 1045 = .ok (.iadd, 1) := by decide +kernel
theorem dl_1046 : decode code 1046 = .ok (.iaload, 1) := by decide +kernel
theorem dl_1047 : decode code 1047 = .ok (.invokevirtual 105, 3) := by decide +kernel
theorem dl_1050 : decode code 1050 = .ok (.if_icmp .eq 399, 3) := by decide +kernel
section
variable {D : GD} {b L : Nat} {xs : Nat → Int32} {kc ks : Nat} {M : Mm} {i : Nat}
theorem lc_20 (hi : i + 9 ≤ L) (hL : L ≤ 4608) (hkc : 1 ≤ kc) (hks : 6 ≤ ks) (hN : mN M < 1000000) (hR : Rall M) (kk : ∀ M', Rall M' → mN M' ≤ mN M + 1 → LW D b L xs (kc - 0) (ks - 0) 1449 (lvl i) [] M') : LW D b L xs kc ks 1032 (lvl i) [] M := by
  have hY := hR.1
  have y0 := hY.sh 0 (q := (0, 11)) rfl (by omega) (by omega)
  refine lb_aload_n 2 dl_1032 rfl ?_
  refine lb_arg (k := 1) dl_1033 dl_1034 dl_1035 rfl dl_1036 dl_1037 (by omega) hL ?_
  refine lb_callV (a := 0) (c0 := 11) (d' := 9) (mc' := 0) (ms' := 0) (u' := mX11_order) (vs := [.int (xs (i + 1))]) dl_1038 ⟨cw_X11_order, w_810⟩ w_811 w_812 (by decide) y0.1 y0.2 rfl rfl (by decide) (by omega) (by omega) (by omega) (AM.mono (k_order (D := D) (d := 0) hR) (fun r N h => ?_))
  obtain ⟨x, rfl, s1, h1⟩ := h
  have y1 := (hY.of s1).sh 62 (q := (0, 12)) rfl (by omega) (by omega)
  refine lb_aload_n 1 dl_1041 rfl ?_
  refine lb_arg (k := 1) dl_1042 dl_1043 dl_1044 rfl dl_1045 dl_1046 (by omega) hL ?_
  refine lb_callV (a := 62) (c0 := 12) (d' := 9) (mc' := 0) (ms' := 0) (u' := mX12_order) (vs := [.int (xs (i + 1))]) dl_1047 ⟨cw_X12_order, w_1431⟩ w_1432 w_1433 (by decide) y1.1 y1.2 rfl rfl (by show (1 : Nat) ≤ 8; omega) (by omega) (by omega) (by omega) (AM.mono (h1) (fun r N2 h => ?_))
  obtain ⟨y, rfl, s2, rfl, hR2⟩ := h
  exact lb_icmp_eq (tgt := 1449) dl_1050 (by decide) (fun _ => kk N2 hR2 (by rw [s2.1, s1.1]; omega)) (fun z => absurd rfl z)
end
