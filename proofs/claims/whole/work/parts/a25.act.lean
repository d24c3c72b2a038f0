/-! the law: act -/
theorem dl_1114 : decode code 1114 = .ok (.aload_n 1, 1) := by decide +kernel
theorem dl_1115 : decode code 1115 = .ok (.aload_n 0, 1) := by decide +kernel
theorem dl_1116 : decode code 1116 = .ok (.iload_n 3, 1) := by decide +kernel
theorem dl_1117 : decode code 1117 = .ok (.iconst 1, 1) := by decide +kernel
theorem dl_1118 : decode code 1118 = .ok (.iadd, 1) := by decide +kernel
theorem dl_1119 : decode code 1119 = .ok (.iaload, 1) := by decide +kernel
theorem dl_1120 : decode code 1120 = .ok (.aload_n 0, 1) := by decide +kernel
theorem dl_1121 : decode code 1121 = .ok (.iload_n 3, 1) := by decide +kernel
theorem dl_1122 : decode code 1122 = .ok (.iconst 2, 1) := by decide +kernel
theorem dl_1123 : decode code 1123 = .ok (.iadd, 1) := by decide +kernel
theorem dl_1124 : decode code 1124 = .ok (.iaload, 1) := by decide +kernel
theorem dl_1125 : decode code 1125 = .ok (.aload_n 0, 1) := by decide +kernel
theorem dl_1126 : decode code 1126 = .ok (.iload_n 3, 1) := by decide +kernel
theorem dl_1127 : decode code 1127 = .ok (.iconst 3, 1) := by decide +kernel
theorem dl_1128 : decode code 1128 = .ok (.iadd, 1) := by decide +kernel
theorem dl_1129 : decode code 1129 = .ok (.iaload, 1) := by decide +kernel
theorem dl_1130 : decode code 1130 = .ok (.invokevirtual 118, 3) := by decide +kernel
theorem dl_1133 : decode code 1133 = .ok (.aload_n 2, 1) := by decide +kernel
theorem dl_1134 : decode code 1134 = .ok (.aload_n 0, 1) := by decide +kernel
theorem dl_1135 : decode code 1135 = .ok (.iload_n 3, 1) := by decide +kernel
theorem dl_1136 : decode code 1136 = .ok (.iconst 1, 1) := by decide +kernel
theorem dl_1137 : decode code 1137 = .ok (.iadd, 1) := by decide +kernel
theorem dl_1138 : decode code 1138 = .ok (.iaload, 1) := by decide +kernel
theorem dl_1139 : decode code 1139 = .ok (.aload_n 0, 1) := by decide +kernel
theorem dl_1140 : decode code 1140 = .ok (.iload_n 3, 1) := by decide +kernel
theorem dl_1141 : decode code 1141 = .ok (.iconst 2, 1) := by decide +kernel
theorem dl_1142 : decode code 1142 = .ok (.iadd, 1) := by decide +kernel
theorem dl_1143 : decode code 1143 = .ok (.iaload, 1) := by decide +kernel
theorem dl_1144 : decode code 1144 = .ok (.aload_n 0, 1) := by decide +kernel
theorem dl_1145 : decode code 1145 = .ok (.iload_n 3, 1) := by decide +kernel
theorem dl_1146 : decode code 1146 = .ok (.iconst 3, 1) := by decide +kernel
theorem dl_1147 : decode code 1147 = .ok (.iadd, 1) := by decide +kernel
theorem dl_1148 : decode code 1148 = .ok (.iaload, 1) := by decide +kernel
theorem dl_1149 : decode code 1149 = .ok (.invokevirtual 121, 3) := by decide +kernel
theorem dl_1152 : decode code 1152 = .ok (.if_icmp .eq 297, 3) := by decide +kernel
section
variable {D : GD} {b L : Nat} {xs : Nat → Int32} {kc ks : Nat} {M : Mm} {i : Nat}
theorem lc_24 (hi : i + 9 ≤ L) (hL : L ≤ 4608) (hkc : 1 ≤ kc) (hks : 6 ≤ ks) (hN : mN M < 1000000) (hR : Rall M) (kk : ∀ M', Rall M' → mN M' ≤ mN M + 1 → LW D b L xs (kc - 0) (ks - 0) 1449 (lvl i) [] M') : LW D b L xs kc ks 1114 (lvl i) [] M := by
  have hY := hR.1
  have y0 := hY.sh 0 (q := (0, 11)) rfl (by omega) (by omega)
  refine lb_aload_n 2 dl_1114 rfl ?_
  refine lb_arg (k := 1) dl_1115 dl_1116 dl_1117 rfl dl_1118 dl_1119 (by omega) hL ?_
  refine lb_arg (k := 2) dl_1120 dl_1121 dl_1122 rfl dl_1123 dl_1124 (by omega) hL ?_
  refine lb_arg (k := 3) dl_1125 dl_1126 dl_1127 rfl dl_1128 dl_1129 (by omega) hL ?_
  refine lb_callV (a := 0) (c0 := 11) (d' := 9) (mc' := 0) (ms' := 0) (u' := mX11_act) (vs := [.int (xs (i + 1)), .int (xs (i + 2)), .int (xs (i + 3))]) dl_1130 ⟨cw_X11_act, w_852⟩ w_853 w_854 (by decide) y0.1 y0.2 rfl rfl (by decide) (by omega) (by omega) (by omega) (AM.mono (k_act (D := D) (d := 0) hR) (fun r N h => ?_))
  obtain ⟨x, rfl, s1, h1⟩ := h
  have y1 := (hY.of s1).sh 62 (q := (0, 12)) rfl (by omega) (by omega)
  refine lb_aload_n 1 dl_1133 rfl ?_
  refine lb_arg (k := 1) dl_1134 dl_1135 dl_1136 rfl dl_1137 dl_1138 (by omega) hL ?_
  refine lb_arg (k := 2) dl_1139 dl_1140 dl_1141 rfl dl_1142 dl_1143 (by omega) hL ?_
  refine lb_arg (k := 3) dl_1144 dl_1145 dl_1146 rfl dl_1147 dl_1148 (by omega) hL ?_
  refine lb_callV (a := 62) (c0 := 12) (d' := 9) (mc' := 0) (ms' := 0) (u' := mX12_act) (vs := [.int (xs (i + 1)), .int (xs (i + 2)), .int (xs (i + 3))]) dl_1149 ⟨cw_X12_act, w_1455⟩ w_1456 w_1457 (by decide) y1.1 y1.2 rfl rfl (by show (1 : Nat) ≤ 8; omega) (by omega) (by omega) (by omega) (AM.mono (h1) (fun r N2 h => ?_))
  obtain ⟨y, rfl, s2, rfl, hR2⟩ := h
  exact lb_icmp_eq (tgt := 1449) dl_1152 (by decide) (fun _ => kk N2 hR2 (by rw [s2.1, s1.1]; omega)) (fun z => absurd rfl z)
end
