/-! the law: trace -/
theorem dl_1157 : decode code 1157 = .ok (.aload_n 1, 1) := by decide +kernel
theorem dl_1158 : decode code 1158 = .ok (.aload_n 0, 1) := by decide +kernel
theorem dl_1159 : decode code 1159 = .ok (.iload_n 3, 1) := by decide +kernel
theorem dl_1160 : decode code 1160 = .ok (.iconst 1, 1) := by decide +kernel
theorem dl_1161 : decode code 1161 = .ok (.iadd, 1) := by decide +kernel
theorem dl_1162 : decode code 1162 = .ok (.iaload, 1) := by decide +kernel
theorem dl_1163 : decode code 1163 = .ok (.invokevirtual 122, 3) := by decide +kernel
theorem dl_1166 : decode code 1166 = .ok (.aload_n 2, 1) := by decide +kernel
theorem dl_1167 : decode code 1167 = .ok (.aload_n 0, 1) := by decide +kernel
theorem dl_1168 : decode code 1168 = .ok (.iload_n 3, 1) := by decide +kernel
theorem dl_1169 : decode code 1169 = .ok (.iconst 1, 1) := by decide +kernel
theorem dl_1170 : decode code 1170 = .ok (.iadd, 1) := by decide +kernel
theorem dl_1171 : decode code 1171 = .ok (.iaload, 1) := by decide +kernel
theorem dl_1172 : decode code 1172 = .ok (.invokevirtual 125, 3) := by decide +kernel
theorem dl_1175 : decode code 1175 = .ok (.if_icmp .eq 274, 3) := by decide +kernel
section
variable {D : GD} {b L : Nat} {xs : Nat → Int32} {kc ks : Nat} {M : Mm} {i : Nat}
theorem lc_25 (hi : i + 9 ≤ L) (hL : L ≤ 4608) (hkc : 1 ≤ kc) (hks : 6 ≤ ks) (hN : mN M < 1000000) (hR : Rall M) (kk : ∀ M', Rall M' → mN M' ≤ mN M + 1 → LW D b L xs (kc - 0) (ks - 0) 1449 (lvl i) [] M') : LW D b L xs kc ks 1157 (lvl i) [] M := by
  have hY := hR.1
  have y0 := hY.sh 0 (q := (0, 11)) rfl (by omega) (by omega)
  refine lb_aload_n 2 dl_1157 rfl ?_
  refine lb_arg (k := 1) dl_1158 dl_1159 dl_1160 rfl dl_1161 dl_1162 (by omega) hL ?_
  refine lb_callV (a := 0) (c0 := 11) (d' := 8) (mc' := 0) (ms' := 0) (u' := mX11_trace) (vs := [.int (xs (i + 1))]) dl_1163 ⟨cw_X11_trace, w_949⟩ w_950 w_951 (by decide) y0.1 y0.2 rfl rfl (by decide) (by omega) (by omega) (by omega) (AM.mono (k_trace (D := D) (d := 0) hR) (fun r N h => ?_))
  obtain ⟨x, rfl, s1, h1⟩ := h
  have y1 := (hY.of s1).sh 62 (q := (0, 12)) rfl (by omega) (by omega)
  refine lb_aload_n 1 dl_1166 rfl ?_
  refine lb_arg (k := 1) dl_1167 dl_1168 dl_1169 rfl dl_1170 dl_1171 (by omega) hL ?_
  refine lb_callV (a := 62) (c0 := 12) (d' := 8) (mc' := 0) (ms' := 0) (u' := mX12_trace) (vs := [.int (xs (i + 1))]) dl_1172 ⟨cw_X12_trace, w_1495⟩ w_1496 w_1497 (by decide) y1.1 y1.2 rfl rfl (by show (1 : Nat) ≤ 8; omega) (by omega) (by omega) (by omega) (AM.mono (h1) (fun r N2 h => ?_))
  obtain ⟨y, rfl, s2, rfl, hR2⟩ := h
  exact lb_icmp_eq (tgt := 1449) dl_1175 (by decide) (fun _ => kk N2 hR2 (by rw [s2.1, s1.1]; omega)) (fun z => absurd rfl z)
end
