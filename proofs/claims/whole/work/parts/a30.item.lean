/-! the law: item -/
theorem dl_1279 : decode code 1279 = .ok (.aload_n 1, 1) := by decide +kernel
theorem dl_1280 : decode code 1280 = .ok (.aload_n 0, 1) := by decide +kernel
theorem dl_1281 : decode code 1281 = .ok (.iload_n 3, 1) := by decide +kernel
theorem dl_1282 : decode code 1282 = .ok (.iconst 1, 1) := by decide +kernel
theorem dl_1283 : decode code 1283 = .ok (.iadd, 1) := by decide +kernel
theorem dl_1284 : decode code 1284 = .ok (.iaload, 1) := by decide +kernel
theorem dl_1285 : decode code 1285 = .ok (.aload_n 0, 1) := by decide +kernel
theorem dl_1286 : decode code 1286 = .ok (.iload_n 3, 1) := by decide +kernel
theorem dl_1287 : decode code 1287 = .ok (.iconst 2, 1) := by decide +kernel
theorem dl_1288 : decode code 1288 = .ok (.iadd, 1) := by decide +kernel
theorem dl_1289 : decode code 1289 = .ok (.iaload, 1) := by decide +kernel
theorem dl_1290 : decode code 1290 = .ok (.aload_n 0, 1) := by decide +kernel
theorem dl_1291 : decode code 1291 = .ok (.iload_n 3, 1) := by decide +kernel
theorem dl_1292 : decode code 1292 = .ok (.iconst 3, 1) := by decide +kernel
theorem dl_1293 : decode code 1293 = .ok (.iadd, 1) := by decide +kernel
theorem dl_1294 : decode code 1294 = .ok (.iaload, 1) := by decide +kernel
theorem dl_1295 : decode code 1295 = .ok (.i2l, 1) := by decide +kernel
theorem dl_1296 : decode code 1296 = .ok (.bipush 32, 2) := by decide +kernel
theorem dl_1298 : decode code 1298 = .ok (.lshl, 1) := by decide +kernel
theorem dl_1299 : decode code 1299 = .ok (.aload_n 0, 1) := by decide +kernel
theorem dl_1300 : decode code 1300 = .ok (.iload_n 3, 1) := by decide +kernel
theorem dl_1301 : decode code 1301 = .ok (.iconst 4, 1) := by decide +kernel
theorem dl_1302 : decode code 1302 = .ok (.iadd, 1) := by decide +kernel
theorem dl_1303 : decode code 1303 = .ok (.iaload, 1) := by decide +kernel
theorem dl_1304 : decode code 1304 = .ok (.i2l, 1) := by decide +kernel
theorem dl_1305 : decode code 1305 = .ok (.ldc2_w 138, 3) := by decide +kernel
theorem dl_1308 : decode code 1308 = .ok (.land, 1) := by decide +kernel
theorem dl_1309 : decode code 1309 = .ok (.lor, 1) := by decide +kernel
theorem dl_1310 : decode code 1310 = .ok (.invokevirtual 140, 3) := by decide +kernel
theorem dl_1313 : decode code 1313 = .ok (.aload_n 2, 1) := by decide +kernel
theorem dl_1314 : decode code 1314 = .ok (.aload_n 0, 1) := by decide +kernel
theorem dl_1315 : decode code 1315 = .ok (.iload_n 3, 1) := by decide +kernel
theorem dl_1316 : decode code 1316 = .ok (.iconst 1, 1) := by decide +kernel
theorem dl_1317 : decode code 1317 = .ok (.iadd, 1) := by decide +kernel
theorem dl_1318 : decode code 1318 = .ok (.iaload, 1) := by decide +kernel
theorem dl_1319 : decode code 1319 = .ok (.aload_n 0, 1) := by decide +kernel
theorem dl_1320 : decode code 1320 = .ok (.iload_n 3, 1) := by decide +kernel
theorem dl_1321 : decode code 1321 = .ok (.iconst 2, 1) := by decide +kernel
theorem dl_1322 : decode code 1322 = .ok (.iadd, 1) := by decide +kernel
theorem dl_1323 : decode code 1323 = .ok (.iaload, 1) := by decide +kernel
theorem dl_1324 : decode code 1324 = .ok (.aload_n 0, 1) := by decide +kernel
theorem dl_1325 : decode code 1325 = .ok (.iload_n 3, 1) := by decide +kernel
theorem dl_1326 : decode code 1326 = .ok (.iconst 3, 1) := by decide +kernel
theorem dl_1327 : decode code 1327 = .ok (.iadd, 1) := by decide +kernel
theorem dl_1328 : decode code 1328 = .ok (.iaload, 1) := by decide +kernel
theorem dl_1329 : decode code 1329 = .ok (.i2l, 1) := by decide +kernel
theorem dl_1330 : decode code 1330 = .ok (.bipush 32, 2) := by decide +kernel
theorem dl_1332 : decode code 1332 = .ok (.lshl, 1) := by decide +kernel
theorem dl_1333 : decode code 1333 = .ok (.aload_n 0, 1) := by decide +kernel
theorem dl_1334 : decode code 1334 = .ok (.iload_n 3, 1) := by decide +kernel
theorem dl_1335 : decode code 1335 = .ok (.iconst 4, 1) := by decide +kernel
theorem dl_1336 : decode code 1336 = .ok (.iadd, 1) := by decide +kernel
theorem dl_1337 : decode code 1337 = .ok (.iaload, 1) := by decide +kernel
theorem dl_1338 : decode code 1338 = .ok (.i2l, 1) := by decide +kernel
theorem dl_1339 : decode code 1339 = .ok (.ldc2_w 138, 3) := by decide +kernel
theorem dl_1342 : decode code 1342 = .ok (.land, 1) := by decide +kernel
theorem dl_1343 : decode code 1343 = .ok (.lor, 1) := by decide +kernel
theorem dl_1344 : decode code 1344 = .ok (.invokevirtual 144, 3) := by decide +kernel
theorem dl_1347 : decode code 1347 = .ok (.if_icmp .eq 102, 3) := by decide +kernel
section
variable {D : GD} {b L : Nat} {xs : Nat → Int32} {kc ks : Nat} {M : Mm} {i : Nat}
theorem lc_29 (hi : i + 9 ≤ L) (hL : L ≤ 4608) (hkc : 1 ≤ kc) (hks : 6 ≤ ks) (hN : mN M < 1000000) (hR : Rall M) (kk : ∀ M', Rall M' → mN M' ≤ mN M + 1 → LW D b L xs (kc - 0) (ks - 0) 1449 (lvl i) [] M') : LW D b L xs kc ks 1279 (lvl i) [] M := by
  have hY := hR.1
  have y0 := hY.sh 0 (q := (0, 11)) rfl (by omega) (by omega)
  refine lb_aload_n 2 dl_1279 rfl ?_
  refine lb_arg (k := 1) dl_1280 dl_1281 dl_1282 rfl dl_1283 dl_1284 (by omega) hL ?_
  refine lb_arg (k := 2) dl_1285 dl_1286 dl_1287 rfl dl_1288 dl_1289 (by omega) hL ?_
  refine lb_arg (k := 3) dl_1290 dl_1291 dl_1292 rfl dl_1293 dl_1294 (by omega) hL ?_
  refine lb_i2l dl_1295 ?_
  refine lb_bipush (v := (32 : Int32)) dl_1296 (by decide) ?_
  refine lb_lshl dl_1298 ?_
  refine lb_arg (k := 4) dl_1299 dl_1300 dl_1301 rfl dl_1302 dl_1303 (by omega) hL ?_
  refine lb_i2l dl_1304 ?_
  refine lb_ldc2 (v := (4294967295 : Int64)) dl_1305 w_1527 ?_
  refine lb_land dl_1308 ?_
  refine lb_lor dl_1309 ?_
  refine lb_callV (a := 0) (c0 := 11) (d' := 8) (mc' := 0) (ms' := 0) (u' := mX11_item) (vs := [.int (xs (i + 1)), .int (xs (i + 2)), .long (((xs (i + 3)).toInt64 <<< ((32 : Int32).toInt64 &&& 63)) ||| ((xs (i + 4)).toInt64 &&& (4294967295 : Int64)))]) dl_1310 ⟨cw_X11_item, w_971⟩ w_972 w_973 (by decide) y0.1 y0.2 rfl rfl (by decide) (by omega) (by omega) (by omega) (AM.mono (k_item (D := D) (d := 0) hR) (fun r N h => ?_))
  obtain ⟨x, rfl, s1, h1⟩ := h
  have y1 := (hY.of s1).sh 62 (q := (0, 12)) rfl (by omega) (by omega)
  refine lb_aload_n 1 dl_1313 rfl ?_
  refine lb_arg (k := 1) dl_1314 dl_1315 dl_1316 rfl dl_1317 dl_1318 (by omega) hL ?_
  refine lb_arg (k := 2) dl_1319 dl_1320 dl_1321 rfl dl_1322 dl_1323 (by omega) hL ?_
  refine lb_arg (k := 3) dl_1324 dl_1325 dl_1326 rfl dl_1327 dl_1328 (by omega) hL ?_
  refine lb_i2l dl_1329 ?_
  refine lb_bipush (v := (32 : Int32)) dl_1330 (by decide) ?_
  refine lb_lshl dl_1332 ?_
  refine lb_arg (k := 4) dl_1333 dl_1334 dl_1335 rfl dl_1336 dl_1337 (by omega) hL ?_
  refine lb_i2l dl_1338 ?_
  refine lb_ldc2 (v := (4294967295 : Int64)) dl_1339 w_1527 ?_
  refine lb_land dl_1342 ?_
  refine lb_lor dl_1343 ?_
  refine lb_callV (a := 62) (c0 := 12) (d' := 8) (mc' := 0) (ms' := 0) (u' := mX12_item) (vs := [.int (xs (i + 1)), .int (xs (i + 2)), .long (((xs (i + 3)).toInt64 <<< ((32 : Int32).toInt64 &&& 63)) ||| ((xs (i + 4)).toInt64 &&& (4294967295 : Int64)))]) dl_1344 ⟨cw_X12_item, w_1511⟩ w_1512 w_1513 (by decide) y1.1 y1.2 rfl rfl (by show (1 : Nat) ≤ 8; omega) (by omega) (by omega) (by omega) (AM.mono (h1) (fun r N2 h => ?_))
  obtain ⟨y, rfl, s2, rfl, hR2⟩ := h
  exact lb_icmp_eq (tgt := 1449) dl_1347 (by decide) (fun _ => kk N2 hR2 (by rw [s2.1, s1.1]; omega)) (fun z => absurd rfl z)
end
