/-! the law: count -/
theorem dl_1213 : decode code 1213 = .ok (.aload_n 1, 1) := by decide +kernel
theorem dl_1214 : decode code 1214 = .ok (.aload_n 0, 1) := by decide +kernel
theorem dl_1215 : decode code 1215 = .ok (.iload_n 3, 1) := by decide +kernel
theorem dl_1216 : decode code 1216 = .ok (.iconst 1, 1) := by decide +kernel
theorem dl_1217 : decode code 1217 = .ok (.iadd, 1) := by decide +kernel
theorem dl_1218 : decode code 1218 = .ok (.iaload, 1) := by decide +kernel
theorem dl_1219 : decode code 1219 = .ok (.invokevirtual 130, 3) := by decide +kernel
theorem dl_1222 : decode code 1222 = .ok (.aload_n 2, 1) := by decide +kernel
theorem dl_1223 : decode code 1223 = .ok (.aload_n 0, 1) := by decide +kernel
theorem dl_1224 : decode code 1224 = .ok (.iload_n 3, 1) := by decide +kernel
theorem dl_1225 : decode code 1225 = .ok (.iconst 1, 1) := by decide +kernel
theorem dl_1226 : decode code 1226 = .ok (.iadd, 1) := by decide +kernel
theorem dl_1227 : decode code 1227 = .ok (.iaload, 1) := by decide +kernel
theorem dl_1228 : decode code 1228 = .ok (.invokevirtual 133, 3) := by decide +kernel
theorem dl_1231 : decode code 1231 = .ok (.if_icmp .eq 218, 3) := by decide +kernel
section
variable {D : GD} {b L : Nat} {xs : Nat → Int32} {kc ks : Nat} {M : Mm} {i : Nat}
theorem lc_27 (hi : i + 9 ≤ L) (hL : L ≤ 4608) (hkc : 1 ≤ kc) (hks : 6 ≤ ks) (hN : mN M < 1000000) (hR : Rall M) (kk : ∀ M', Rall M' → mN M' ≤ mN M + 1 → LW D b L xs (kc - 0) (ks - 0) 1449 (lvl i) [] M') : LW D b L xs kc ks 1213 (lvl i) [] M := by
  have hY := hR.1
  have y0 := hY.sh 0 (q := (0, 11)) rfl (by omega) (by omega)
  refine lb_aload_n 2 dl_1213 rfl ?_
  refine lb_arg (k := 1) dl_1214 dl_1215 dl_1216 rfl dl_1217 dl_1218 (by omega) hL ?_
  refine lb_callV (a := 0) (c0 := 11) (d' := 8) (mc' := 0) (ms' := 0) (u' := mX11_count) (vs := [.int (xs (i + 1))]) dl_1219 ⟨cw_X11_count, w_960⟩ w_961 w_962 (by decide) y0.1 y0.2 rfl rfl (by decide) (by omega) (by omega) (by omega) (AM.mono (k_count (D := D) (d := 0) hR) (fun r N h => ?_))
  obtain ⟨x, rfl, s1, h1⟩ := h
  have y1 := (hY.of s1).sh 62 (q := (0, 12)) rfl (by omega) (by omega)
  refine lb_aload_n 1 dl_1222 rfl ?_
  refine lb_arg (k := 1) dl_1223 dl_1224 dl_1225 rfl dl_1226 dl_1227 (by omega) hL ?_
  refine lb_callV (a := 62) (c0 := 12) (d' := 8) (mc' := 0) (ms' := 0) (u' := mX12_count) (vs := [.int (xs (i + 1))]) dl_1228 ⟨cw_X12_count, w_1503⟩ w_1504 w_1505 (by decide) y1.1 y1.2 rfl rfl (by show (1 : Nat) ≤ 8; omega) (by omega) (by omega) (by omega) (AM.mono (h1) (fun r N2 h => ?_))
  obtain ⟨y, rfl, s2, rfl, hR2⟩ := h
  exact lb_icmp_eq (tgt := 1449) dl_1231 (by decide) (fun _ => kk N2 hR2 (by rw [s2.1, s1.1]; omega)) (fun z => absurd rfl z)
end
