/-! the law: of -/
theorem dl_341 : decode code 341 = .ok (.aload_n 1, 1) := by decide +kernel
theorem dl_342 : decode code 342 = .ok (.aload_n 0, 1) := by decide +kernel
theorem dl_343 : decode code 343 = .ok (.iload_n 3, 1) := by decide +kernel
theorem dl_344 : decode code 344 = .ok (.iconst 1, 1) := by decide +kernel
theorem dl_345 : decode code 345 = .ok (.iadd, 1) := by decide +kernel
theorem dl_346 : decode code 346 = .ok (.iaload, 1) := by decide +kernel
theorem dl_347 : decode code 347 = .ok (.aload_n 0, 1) := by decide +kernel
theorem dl_348 : decode code 348 = .ok (.iload_n 3, 1) := by decide +kernel
theorem dl_349 : decode code 349 = .ok (.iconst 2, 1) := by decide +kernel
theorem dl_350 : decode code 350 = .ok (.iadd, 1) := by decide +kernel
theorem dl_351 : decode code 351 = .ok (.iaload, 1) := by decide +kernel
theorem dl_352 : decode code 352 = .ok (.invokevirtual 36, 3) := by decide +kernel
theorem dl_355 : decode code 355 = .ok (.aload_n 2, 1) := by decide +kernel
theorem dl_356 : decode code 356 = .ok (.aload_n 0, 1) := by decide +kernel
theorem dl_357 : decode code 357 = .ok (.iload_n 3, 1) := by decide +kernel
theorem dl_358 : decode code 358 = .ok (.iconst 1, 1) := by decide +kernel
theorem dl_359 : decode code 359 = .ok (.iadd, 1) := by decide +kernel
theorem dl_360 : decode code 360 = .ok (.iaload, 1) := by decide +kernel
theorem dl_361 : decode code 361 = .ok (.aload_n 0, 1) := by decide +kernel
theorem dl_362 : decode code 362 = .ok (.iload_n 3, 1) := by decide +kernel
theorem dl_363 : decode code 363 = .ok (.iconst 2, 1) := by decide +kernel
theorem dl_364 : decode code 364 = .ok (.iadd, 1) := by decide +kernel
theorem dl_365 : decode code 365 = .ok (.iaload, 1) := by decide +kernel
theorem dl_366 : decode code 366 = .ok (.invokevirtual 39, 3) := by decide +kernel
theorem dl_369 : decode code 369 = .ok (.if_icmp .eq 1080, 3) := by decide +kernel
section
variable {D : GD} {b L : Nat} {xs : Nat → Int32} {kc ks : Nat} {M : Mm} {i : Nat}
theorem lc_5 (hi : i + 9 ≤ L) (hL : L ≤ 4608) (hkc : 1 ≤ kc) (hks : 6 ≤ ks) (hN : mN M < 1000000) (hR : Rall M) (kk : ∀ M', Rall M' → mN M' ≤ mN M + 1 → LW D b L xs (kc - 0) (ks - 0) 1449 (lvl i) [] M') : LW D b L xs kc ks 341 (lvl i) [] M := by
  have hY := hR.1
  have y0 := hY.sh 0 (q := (0, 11)) rfl (by omega) (by omega)
  refine lb_aload_n 2 dl_341 rfl ?_
  refine lb_arg (k := 1) dl_342 dl_343 dl_344 rfl dl_345 dl_346 (by omega) hL ?_
  refine lb_arg (k := 2) dl_347 dl_348 dl_349 rfl dl_350 dl_351 (by omega) hL ?_
  refine lb_callV (a := 0) (c0 := 11) (d' := 8) (mc' := 0) (ms' := 0) (u' := mX11_of) (vs := [.int (xs (i + 1)), .int (xs (i + 2))]) dl_352 ⟨cw_X11_of, w_566⟩ w_567 w_568 (by decide) y0.1 y0.2 rfl rfl (by decide) (by omega) (by omega) (by omega) (AM.mono (k_of (D := D) (d := 0) hR) (fun r N h => ?_))
  obtain ⟨x, rfl, s1, h1⟩ := h
  have y1 := (hY.of s1).sh 62 (q := (0, 12)) rfl (by omega) (by omega)
  refine lb_aload_n 1 dl_355 rfl ?_
  refine lb_arg (k := 1) dl_356 dl_357 dl_358 rfl dl_359 dl_360 (by omega) hL ?_
  refine lb_arg (k := 2) dl_361 dl_362 dl_363 rfl dl_364 dl_365 (by omega) hL ?_
  refine lb_callV (a := 62) (c0 := 12) (d' := 8) (mc' := 0) (ms' := 0) (u' := mX12_of) (vs := [.int (xs (i + 1)), .int (xs (i + 2))]) dl_366 ⟨cw_X12_of, w_1243⟩ w_1244 w_1245 (by decide) y1.1 y1.2 rfl rfl (by show (1 : Nat) ≤ 8; omega) (by omega) (by omega) (by omega) (AM.mono (h1) (fun r N2 h => ?_))
  obtain ⟨y, rfl, s2, rfl, hR2⟩ := h
  exact lb_icmp_eq (tgt := 1449) dl_369 (by decide) (fun _ => kk N2 hR2 (by rw [s2.1, s1.1]; omega)) (fun z => absurd rfl z)
end
