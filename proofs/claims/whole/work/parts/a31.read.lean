/-! the law: read -/
theorem dl_1352 : decode code 1352 = .ok (.aload_n 1, 1) := by decide +kernel
theorem dl_1353 : decode code 1353 = .ok (.aload_n 0, 1) := by decide +kernel
theorem dl_1354 : decode code 1354 = .ok (.iload_n 3, 1) := by decide +kernel
theorem dl_1355 : decode code 1355 = .ok (.iconst 1, 1) := by decide +kernel
theorem dl_1356 : decode code 1356 = .ok (.iadd, 1) := by decide +kernel
theorem dl_1357 : decode code 1357 = .ok (.iaload, 1) := by decide +kernel
theorem dl_1358 : decode code 1358 = .ok (.aload_n 0, 1) := by decide +kernel
theorem dl_1359 : decode code 1359 = .ok (.iload_n 3, 1) := by decide +kernel
theorem dl_1360 : decode code 1360 = .ok (.iconst 2, 1) := by decide +kernel
theorem dl_1361 : decode code 1361 = .ok (.iadd, 1) := by decide +kernel
theorem dl_1362 : decode code 1362 = .ok (.iaload, 1) := by decide +kernel
theorem dl_1363 : decode code 1363 = .ok (.invokevirtual 145, 3) := by decide +kernel
theorem dl_1366 : decode code 1366 = .ok (.aload_n 2, 1) := by decide +kernel
theorem dl_1367 : decode code 1367 = .ok (.aload_n 0, 1) := by decide +kernel
theorem dl_1368 : decode code 1368 = .ok (.iload_n 3, 1) := by decide +kernel
theorem dl_1369 : decode code 1369 = .ok (.iconst 1, 1) := by decide +kernel
theorem dl_1370 : decode code 1370 = .ok (.iadd, 1) := by decide +kernel
theorem dl_1371 : decode code 1371 = .ok (.iaload, 1) := by decide +kernel
theorem dl_1372 : decode code 1372 = .ok (.aload_n 0, 1) := by decide +kernel
theorem dl_1373 : decode code 1373 = .ok (.iload_n 3, 1) := by decide +kernel
theorem dl_1374 : decode code 1374 = .ok (.iconst 2, 1) := by decide +kernel
theorem dl_1375 : decode code 1375 = .ok (.iadd, 1) := by decide +kernel
theorem dl_1376 : decode code 1376 = .ok (.iaload, 1) := by decide +kernel
theorem dl_1377 : decode code 1377 = .ok (.invokevirtual 149, 3) := by decide +kernel
theorem dl_1380 : decode code 1380 = .ok (.lcmp, 1) := by decide +kernel
theorem dl_1381 : decode code 1381 = .ok (.ifCond .eq 68, 3) := by decide +kernel
section
variable {D : GD} {b L : Nat} {xs : Nat → Int32} {kc ks : Nat} {M : Mm} {i : Nat}
theorem lc_30 (hi : i + 9 ≤ L) (hL : L ≤ 4608) (hkc : 1 ≤ kc) (hks : 6 ≤ ks) (hN : mN M < 1000000) (hR : Rall M) (kk : ∀ M', Rall M' → mN M' ≤ mN M + 1 → LW D b L xs (kc - 0) (ks - 0) 1449 (lvl i) [] M') : LW D b L xs kc ks 1352 (lvl i) [] M := by
  have hY := hR.1
  have y0 := hY.sh 0 (q := (0, 11)) rfl (by omega) (by omega)
  refine lb_aload_n 2 dl_1352 rfl ?_
  refine lb_arg (k := 1) dl_1353 dl_1354 dl_1355 rfl dl_1356 dl_1357 (by omega) hL ?_
  refine lb_arg (k := 2) dl_1358 dl_1359 dl_1360 rfl dl_1361 dl_1362 (by omega) hL ?_
  refine lb_callV (a := 0) (c0 := 11) (d' := 8) (mc' := 0) (ms' := 0) (u' := mX11_read) (vs := [.int (xs (i + 1)), .int (xs (i + 2))]) dl_1363 ⟨cw_X11_read, w_978⟩ w_979 w_980 (by decide) y0.1 y0.2 rfl rfl (by decide) (by omega) (by omega) (by omega) (AM.mono (k_read (D := D) (d := 0) hR) (fun r N h => ?_))
  obtain ⟨x, rfl, s1, h1⟩ := h
  have y1 := (hY.of s1).sh 62 (q := (0, 12)) rfl (by omega) (by omega)
  refine lb_aload_n 1 dl_1366 rfl ?_
  refine lb_arg (k := 1) dl_1367 dl_1368 dl_1369 rfl dl_1370 dl_1371 (by omega) hL ?_
  refine lb_arg (k := 2) dl_1372 dl_1373 dl_1374 rfl dl_1375 dl_1376 (by omega) hL ?_
  refine lb_callV (a := 62) (c0 := 12) (d' := 8) (mc' := 0) (ms' := 0) (u' := mX12_read) (vs := [.int (xs (i + 1)), .int (xs (i + 2))]) dl_1377 ⟨cw_X12_read, w_1519⟩ w_1520 w_1521 (by decide) y1.1 y1.2 rfl rfl (by show (2 : Nat) ≤ 8; omega) (by omega) (by omega) (by omega) (AM.mono (h1) (fun r N2 h => ?_))
  obtain ⟨y, rfl, s2, rfl, hR2⟩ := h
  refine lb_lcmp dl_1380 ?_
  exact lb_if_eq (tgt := 1449) dl_1381 (by decide) (fun _ => kk N2 hR2 (by rw [s2.1, s1.1]; omega)) (fun z => absurd (lg_self _) z)
end
