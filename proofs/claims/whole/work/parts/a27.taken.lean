/-! the law: taken -/
theorem dl_1180 : decode code 1180 = .ok (.aload_n 1, 1) := by decide +kernel
theorem dl_1181 : decode code 1181 = .ok (.aload_n 0, 1) := by decide +kernel
theorem dl_1182 : decode code 1182 = .ok (.iload_n 3, 1) := by decide +kernel
theorem dl_1183 : decode code 1183 = .ok (.iconst 1, 1) := by decide +kernel
theorem dl_1184 : decode code 1184 = .ok (.iadd, 1) := by decide +kernel
theorem dl_1185 : decode code 1185 = .ok (.iaload, 1) := by decide +kernel
theorem dl_1186 : decode code 1186 = .ok (.aload_n 0, 1) := by decide +kernel
theorem dl_1187 : decode code 1187 = .ok (.iload_n 3, 1) := by decide +kernel
theorem dl_1188 : decode code 1188 = .ok (.iconst 2, 1) := by decide +kernel
theorem dl_1189 : decode code 1189 = .ok (.iadd, 1) := by decide +kernel
theorem dl_1190 : decode code 1190 = .ok (.iaload, 1) := by decide +kernel
theorem dl_1191 : decode code 1191 = .ok (.invokevirtual 126, 3) := by decide +kernel
theorem dl_1194 : decode code 1194 = .ok (.aload_n 2, 1) := by decide +kernel
theorem dl_1195 : decode code 1195 = .ok (.aload_n 0, 1) := by decide +kernel
theorem dl_1196 : decode code 1196 = .ok (.iload_n 3, 1) := by decide +kernel
theorem dl_1197 : decode code 1197 = .ok (.iconst 1, 1) := by decide +kernel
theorem dl_1198 : decode code 1198 = .ok (.iadd, 1) := by decide +kernel
theorem dl_1199 : decode code 1199 = .ok (.iaload, 1) := by decide +kernel
theorem dl_1200 : decode code 1200 = .ok (.aload_n 0, 1) := by decide +kernel
theorem dl_1201 : decode code 1201 = .ok (.iload_n 3, 1) := by decide +kernel
theorem dl_1202 : decode code 1202 = .ok (.iconst 2, 1) := by decide +kernel
theorem dl_1203 : decode code 1203 = .ok (.iadd, 1) := by decide +kernel
theorem dl_1204 : decode code 1204 = .ok (.iaload, 1) := by decide +kernel
theorem dl_1205 : decode code 1205 = .ok (.invokevirtual 129, 3) := by decide +kernel
theorem dl_1208 : decode code 1208 = .ok (.if_icmp .eq 241, 3) := by decide +kernel
section
variable {D : GD} {b L : Nat} {xs : Nat → Int32} {kc ks : Nat} {M : Mm} {i : Nat}
theorem lc_26 (hi : i + 9 ≤ L) (hL : L ≤ 4608) (hkc : 1 ≤ kc) (hks : 6 ≤ ks) (hN : mN M < 1000000) (hR : Rall M) (kk : ∀ M', Rall M' → mN M' ≤ mN M + 1 → LW D b L xs (kc - 0) (ks - 0) 1449 (lvl i) [] M') : LW D b L xs kc ks 1180 (lvl i) [] M := by
  have hY := hR.1
  have y0 := hY.sh 0 (q := (0, 11)) rfl (by omega) (by omega)
  refine lb_aload_n 2 dl_1180 rfl ?_
  refine lb_arg (k := 1) dl_1181 dl_1182 dl_1183 rfl dl_1184 dl_1185 (by omega) hL ?_
  refine lb_arg (k := 2) dl_1186 dl_1187 dl_1188 rfl dl_1189 dl_1190 (by omega) hL ?_
  refine lb_callV (a := 0) (c0 := 11) (d' := 8) (mc' := 0) (ms' := 0) (u' := mX11_taken) (vs := [.int (xs (i + 1)), .int (xs (i + 2))]) dl_1191 ⟨cw_X11_taken, w_953⟩ w_954 w_955 (by decide) y0.1 y0.2 rfl rfl (by decide) (by omega) (by omega) (by omega) (AM.mono (k_taken (D := D) (d := 0) hR) (fun r N h => ?_))
  obtain ⟨x, rfl, s1, h1⟩ := h
  have y1 := (hY.of s1).sh 62 (q := (0, 12)) rfl (by omega) (by omega)
  refine lb_aload_n 1 dl_1194 rfl ?_
  refine lb_arg (k := 1) dl_1195 dl_1196 dl_1197 rfl dl_1198 dl_1199 (by omega) hL ?_
  refine lb_arg (k := 2) dl_1200 dl_1201 dl_1202 rfl dl_1203 dl_1204 (by omega) hL ?_
  refine lb_callV (a := 62) (c0 := 12) (d' := 8) (mc' := 0) (ms' := 0) (u' := mX12_taken) (vs := [.int (xs (i + 1)), .int (xs (i + 2))]) dl_1205 ⟨cw_X12_taken, w_1499⟩ w_1500 w_1501 (by decide) y1.1 y1.2 rfl rfl (by show (1 : Nat) ≤ 8; omega) (by omega) (by omega) (by omega) (AM.mono (h1) (fun r N2 h => ?_))
  obtain ⟨y, rfl, s2, rfl, hR2⟩ := h
  exact lb_icmp_eq (tgt := 1449) dl_1208 (by decide) (fun _ => kk N2 hR2 (by rw [s2.1, s1.1]; omega)) (fun z => absurd rfl z)
end
