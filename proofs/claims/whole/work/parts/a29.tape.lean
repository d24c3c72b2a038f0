/-! the law: tape -/
theorem dl_1236 : decode code 1236 = .ok (.aload_n 1, 1) := by decide +kernel
theorem dl_1237 : decode code 1237 = .ok (.aload_n 0, 1) := by decide +kernel
theorem dl_1238 : decode code 1238 = .ok (.iload_n 3, 1) := by decide +kernel
theorem dl_1239 : decode code 1239 = .ok (.iconst 1, 1) := by decide +kernel
theorem dl_1240 : decode code 1240 = .ok (.iadd, 1) := by decide +kernel
theorem dl_1241 : decode code 1241 = .ok (.iaload, 1) := by decide +kernel
theorem dl_1242 : decode code 1242 = .ok (.aload_n 0, 1) := by decide +kernel
theorem dl_1243 : decode code 1243 = .ok (.iload_n 3, 1) := by decide +kernel
theorem dl_1244 : decode code 1244 = .ok (.iconst 2, 1) := by decide +kernel
theorem dl_1245 : decode code 1245 = .ok (.iadd, 1) := by decide +kernel
theorem dl_1246 : decode code 1246 = .ok (.iaload, 1) := by decide +kernel
theorem dl_1247 : decode code 1247 = .ok (.aload_n 0, 1) := by decide +kernel
theorem dl_1248 : decode code 1248 = .ok (.iload_n 3, 1) := by decide +kernel
theorem dl_1249 : decode code 1249 = .ok (.iconst 3, 1) := by decide +kernel
theorem dl_1250 : decode code 1250 = .ok (.iadd, 1) := by decide +kernel
theorem dl_1251 : decode code 1251 = .ok (.iaload, 1) := by decide +kernel
theorem dl_1252 : decode code 1252 = .ok (.invokevirtual 134, 3) := by decide +kernel
theorem dl_1255 : decode code 1255 = .ok (.aload_n 2, 1) := by decide +kernel
theorem dl_1256 : decode code 1256 = .ok (.aload_n 0, 1) := by decide +kernel
theorem dl_1257 : decode code 1257 = .ok (.iload_n 3, 1) := by decide +kernel
theorem dl_1258 : decode code 1258 = .ok (.iconst 1, 1) := by decide +kernel
theorem dl_1259 : decode code 1259 = .ok (.iadd, 1) := by decide +kernel
theorem dl_1260 : decode code 1260 = .ok (.iaload, 1) := by decide +kernel
theorem dl_1261 : decode code 1261 = .ok (.aload_n 0, 1) := by decide +kernel
theorem dl_1262 : decode code 1262 = .ok (.iload_n 3, 1) := by decide +kernel
theorem dl_1263 : decode code 1263 = .ok (.iconst 2, 1) := by decide +kernel
theorem dl_1264 : decode code 1264 = .ok (.iadd, 1) := by decide +kernel
theorem dl_1265 : decode code 1265 = .ok (.iaload, 1) := by decide +kernel
theorem dl_1266 : decode code 1266 = .ok (.aload_n 0, 1) := by decide +kernel
theorem dl_1267 : decode code 1267 = .ok (.iload_n 3, 1) := by decide +kernel
theorem dl_1268 : decode code 1268 = .ok (.iconst 3, 1) := by decide +kernel
theorem dl_1269 : decode code 1269 = .ok (.iadd, 1) := by decide +kernel
theorem dl_1270 : decode code 1270 = .ok (.iaload, 1) := by decide +kernel
theorem dl_1271 : decode code 1271 = .ok (.invokevirtual 137, 3) := by decide +kernel
theorem dl_1274 : decode code 1274 = .ok (.if_icmp .eq 175, 3) := by decide +kernel
section
variable {D : GD} {b L : Nat} {xs : Nat → Int32} {kc ks : Nat} {M : Mm} {i : Nat}
theorem lc_28 (hi : i + 9 ≤ L) (hL : L ≤ 4608) (hkc : 1 ≤ kc) (hks : 6 ≤ ks) (hN : mN M < 1000000) (hR : Rall M) (kk : ∀ M', Rall M' → mN M' ≤ mN M + 1 → LW D b L xs (kc - 0) (ks - 0) 1449 (lvl i) [] M') : LW D b L xs kc ks 1236 (lvl i) [] M := by
  have hY := hR.1
  have y0 := hY.sh 0 (q := (0, 11)) rfl (by omega) (by omega)
  refine lb_aload_n 2 dl_1236 rfl ?_
  refine lb_arg (k := 1) dl_1237 dl_1238 dl_1239 rfl dl_1240 dl_1241 (by omega) hL ?_
  refine lb_arg (k := 2) dl_1242 dl_1243 dl_1244 rfl dl_1245 dl_1246 (by omega) hL ?_
  refine lb_arg (k := 3) dl_1247 dl_1248 dl_1249 rfl dl_1250 dl_1251 (by omega) hL ?_
  refine lb_callV (a := 0) (c0 := 11) (d' := 8) (mc' := 0) (ms' := 0) (u' := mX11_tape) (vs := [.int (xs (i + 1)), .int (xs (i + 2)), .int (xs (i + 3))]) dl_1252 ⟨cw_X11_tape, w_964⟩ w_965 w_966 (by decide) y0.1 y0.2 rfl rfl (by decide) (by omega) (by omega) (by omega) (AM.mono (k_tape (D := D) (d := 0) hR) (fun r N h => ?_))
  obtain ⟨x, rfl, s1, h1⟩ := h
  have y1 := (hY.of s1).sh 62 (q := (0, 12)) rfl (by omega) (by omega)
  refine lb_aload_n 1 dl_1255 rfl ?_
  refine lb_arg (k := 1) dl_1256 dl_1257 dl_1258 rfl dl_1259 dl_1260 (by omega) hL ?_
  refine lb_arg (k := 2) dl_1261 dl_1262 dl_1263 rfl dl_1264 dl_1265 (by omega) hL ?_
  refine lb_arg (k := 3) dl_1266 dl_1267 dl_1268 rfl dl_1269 dl_1270 (by omega) hL ?_
  refine lb_callV (a := 62) (c0 := 12) (d' := 8) (mc' := 0) (ms' := 0) (u' := mX12_tape) (vs := [.int (xs (i + 1)), .int (xs (i + 2)), .int (xs (i + 3))]) dl_1271 ⟨cw_X12_tape, w_1507⟩ w_1508 w_1509 (by decide) y1.1 y1.2 rfl rfl (by show (1 : Nat) ≤ 8; omega) (by omega) (by omega) (by omega) (AM.mono (h1) (fun r N2 h => ?_))
  obtain ⟨y, rfl, s2, rfl, hR2⟩ := h
  exact lb_icmp_eq (tgt := 1449) dl_1274 (by decide) (fun _ => kk N2 hR2 (by rw [s2.1, s1.1]; omega)) (fun z => absurd rfl z)
end
