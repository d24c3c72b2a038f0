/-! the law: shift -/
theorem dl_1386 : decode code 1386 = .ok (.aload_n 1, 1) := by decide +kernel
theorem dl_1387 : decode code 1387 = .ok (.aload_n 0, 1) := by decide +kernel
theorem dl_1388 : decode code 1388 = .ok (.iload_n 3, 1) := by decide +kernel
theorem dl_1389 : decode code 1389 = .ok (.iconst 1, 1) := by decide +kernel
theorem dl_1390 : decode code 1390 = .ok (.iadd, 1) := by decide +kernel
theorem dl_1391 : decode code 1391 = .ok (.iaload, 1) := by decide +kernel
theorem dl_1392 : decode code 1392 = .ok (.aload_n 0, 1) := by decide +kernel
theorem dl_1393 : decode code 1393 = .ok (.iload_n 3, 1) := by decide +kernel
theorem dl_1394 : decode code 1394 = .ok (.iconst 2, 1) := by decide +kernel
theorem dl_1395 : decode code 1395 = .ok (.iadd, 1) := by decide +kernel
theorem dl_1396 : decode code 1396 = .ok (.iaload, 1) := by decide +kernel
theorem dl_1397 : decode code 1397 = .ok (.aload_n 0, 1) := by decide +kernel
theorem dl_1398 : decode code 1398 = .ok (.iload_n 3, 1) := by decide +kernel
theorem dl_1399 : decode code 1399 = .ok (.iconst 3, 1) := by decide +kernel
theorem dl_1400 : decode code 1400 = .ok (.iadd, 1) := by decide +kernel
theorem dl_1401 : decode code 1401 = .ok (.iaload, 1) := by decide +kernel
theorem dl_1402 : decode code 1402 = .ok (.aload_n 0, 1) := by decide +kernel
theorem dl_1403 : decode code 1403 = .ok (.iload_n 3, 1) := by decide +kernel
theorem dl_1404 : decode code 1404 = .ok (.iconst 4, 1) := by decide +kernel
theorem dl_1405 : decode code 1405 = .ok (.iadd, 1) := by decide +kernel
theorem dl_1406 : decode code 1406 = .ok (.iaload, 1) := by decide +kernel
theorem dl_1407 : decode code 1407 = .ok (.aload_n 0, 1) := by decide +kernel
theorem dl_1408 : decode code 1408 = .ok (.iload_n 3, 1) := by decide +kernel
theorem dl_1409 : decode code 1409 = .ok (.iconst 5, 1) := by decide +kernel
theorem dl_1410 : decode code 1410 = .ok (.iadd, 1) := by decide +kernel
theorem dl_1411 : decode code 1411 = .ok (.iaload, 1) := by decide +kernel
theorem dl_1412 : decode code 1412 = .ok (.invokevirtual 150, 3) := by decide +kernel
theorem dl_1415 : decode code 1415 = .ok (.aload_n 2, 1) := by decide +kernel
theorem dl_1416 : decode code 1416 = .ok (.aload_n 0, 1) := by decide +kernel
theorem dl_1417 : decode code 1417 = .ok (.iload_n 3, 1) := by decide +kernel
theorem dl_1418 : decode code 1418 = .ok (.iconst 1, 1) := by decide +kernel
theorem dl_1419 : decode code 1419 = .ok (.iadd, 1) := by decide +kernel
theorem dl_1420 : decode code 1420 = .ok (.iaload, 1) := by decide +kernel
theorem dl_1421 : decode code 1421 = .ok (.aload_n 0, 1) := by decide +kernel
theorem dl_1422 : decode code 1422 = .ok (.iload_n 3, 1) := by decide +kernel
theorem dl_1423 : decode code 1423 = .ok (.iconst 2, 1) := by decide +kernel
theorem dl_1424 : decode code 1424 = .ok (.iadd, 1) := by decide +kernel
theorem dl_1425 : decode code 1425 = .ok (.iaload, 1) := by decide +kernel
theorem dl_1426 : decode code 1426 = .ok (.aload_n 0, 1) := by decide +kernel
theorem dl_1427 : decode code 1427 = .ok (.iload_n 3, 1) := by decide +kernel
theorem dl_1428 : decode code 1428 = .ok (.iconst 3, 1) := by decide +kernel
theorem dl_1429 : decode code 1429 = .ok (.iadd, 1) := by decide +kernel
theorem dl_1430 : decode code 1430 = .ok (.iaload, 1) := by decide +kernel
theorem dl_1431 : decode code 1431 = .ok (.aload_n 0, 1) := by decide +kernel
theorem dl_1432 : decode code 1432 = .ok (.iload_n 3, 1) := by decide +kernel
theorem dl_1433 : decode code 1433 = .ok (.iconst 4, 1) := by decide +kernel
theorem dl_1434 : decode code 1434 = .ok (.iadd, 1) := by decide +kernel
theorem dl_1435 : decode code 1435 = .ok (.iaload, 1) := by decide +kernel
theorem dl_1436 : decode code 1436 = .ok (.aload_n 0, 1) := by decide +kernel
theorem dl_1437 : decode code 1437 = .ok (.iload_n 3, 1) := by decide +kernel
theorem dl_1438 : decode code 1438 = .ok (.iconst 5, 1) := by decide +kernel
theorem dl_1439 : decode code 1439 = .ok (.iadd, 1) := by decide +kernel
theorem dl_1440 : decode code 1440 = .ok (.iaload, 1) := by decide +kernel
theorem dl_1441 : decode code 1441 = .ok (.invokevirtual 154, 3) := by decide +kernel
theorem dl_1444 : decode code 1444 = .ok (.if_icmp .eq 5, 3) := by decide +kernel
section
variable {D : GD} {b L : Nat} {xs : Nat → Int32} {kc ks : Nat} {M : Mm} {i : Nat}
theorem lc_31 (hi : i + 9 ≤ L) (hL : L ≤ 4608) (hkc : 1 ≤ kc) (hks : 6 ≤ ks) (hN : mN M < 1000000) (hR : Rall M) (kk : ∀ M', Rall M' → mN M' ≤ mN M + 1 → LW D b L xs (kc - 0) (ks - 0) 1449 (lvl i) [] M') : LW D b L xs kc ks 1386 (lvl i) [] M := by
  have hY := hR.1
  have y0 := hY.sh 0 (q := (0, 11)) rfl (by omega) (by omega)
  refine lb_aload_n 2 dl_1386 rfl ?_
  refine lb_arg (k := 1) dl_1387 dl_1388 dl_1389 rfl dl_1390 dl_1391 (by omega) hL ?_
  refine lb_arg (k := 2) dl_1392 dl_1393 dl_1394 rfl dl_1395 dl_1396 (by omega) hL ?_
  refine lb_arg (k := 3) dl_1397 dl_1398 dl_1399 rfl dl_1400 dl_1401 (by omega) hL ?_
  refine lb_arg (k := 4) dl_1402 dl_1403 dl_1404 rfl dl_1405 dl_1406 (by omega) hL ?_
  refine lb_arg (k := 5) dl_1407 dl_1408 dl_1409 rfl dl_1410 dl_1411 (by omega) hL ?_
  refine lb_callV (a := 0) (c0 := 11) (d' := 8) (mc' := 0) (ms' := 0) (u' := mX11_shift) (vs := [.int (xs (i + 1)), .int (xs (i + 2)), .int (xs (i + 3)), .int (xs (i + 4)), .int (xs (i + 5))]) dl_1412 ⟨cw_X11_shift, w_982⟩ w_983 w_984 (by decide) y0.1 y0.2 rfl rfl (by decide) (by omega) (by omega) (by omega) (AM.mono (k_shift (D := D) (d := 0) hR) (fun r N h => ?_))
  obtain ⟨x, rfl, s1, h1⟩ := h
  have y1 := (hY.of s1).sh 62 (q := (0, 12)) rfl (by omega) (by omega)
  refine lb_aload_n 1 dl_1415 rfl ?_
  refine lb_arg (k := 1) dl_1416 dl_1417 dl_1418 rfl dl_1419 dl_1420 (by omega) hL ?_
  refine lb_arg (k := 2) dl_1421 dl_1422 dl_1423 rfl dl_1424 dl_1425 (by omega) hL ?_
  refine lb_arg (k := 3) dl_1426 dl_1427 dl_1428 rfl dl_1429 dl_1430 (by omega) hL ?_
  refine lb_arg (k := 4) dl_1431 dl_1432 dl_1433 rfl dl_1434 dl_1435 (by omega) hL ?_
  refine lb_arg (k := 5) dl_1436 dl_1437 dl_1438 rfl dl_1439 dl_1440 (by omega) hL ?_
  refine lb_callV (a := 62) (c0 := 12) (d' := 8) (mc' := 0) (ms' := 0) (u' := mX12_shift) (vs := [.int (xs (i + 1)), .int (xs (i + 2)), .int (xs (i + 3)), .int (xs (i + 4)), .int (xs (i + 5))]) dl_1441 ⟨cw_X12_shift, w_1523⟩ w_1524 w_1525 (by decide) y1.1 y1.2 rfl rfl (by show (1 : Nat) ≤ 8; omega) (by omega) (by omega) (by omega) (AM.mono (h1) (fun r N2 h => ?_))
  obtain ⟨y, rfl, s2, rfl, hR2⟩ := h
  exact lb_icmp_eq (tgt := 1449) dl_1444 (by decide) (fun _ => kk N2 hR2 (by rw [s2.1, s1.1]; omega)) (fun z => absurd rfl z)
end
