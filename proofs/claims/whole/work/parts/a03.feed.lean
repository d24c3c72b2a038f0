/-! the law: feed -/
theorem dl_252 : decode code 252 = .ok (.aload_n 1, 1) := by decide +kernel
theorem dl_253 : decode code 253 = .ok (.aload_n 0, 1) := by decide +kernel
theorem dl_254 : decode code 254 = .ok (.iload_n 3, 1) := by decide +kernel
theorem dl_255 : decode code 255 = .ok (.iconst 1, 1) := by decide +kernel
theorem dl_256 : decode code 256 = .ok (.iadd, 1) := by decide +kernel
theorem dl_257 : decode code 257 = .ok (.iaload, 1) := by decide +kernel
theorem dl_258 : decode code 258 = .ok (.aload_n 0, 1) := by decide +kernel
theorem dl_259 : decode code 259 = .ok (.iload_n 3, 1) := by decide +kernel
theorem dl_260 : decode code 260 = .ok (.iconst 2, 1) := by decide +kernel
theorem dl_261 : decode code 261 = .ok (.iadd, 1) := by decide +kernel
theorem dl_262 : decode code 262 = .ok (.iaload, 1) := by decide +kernel
theorem dl_263 : decode code 263 = .ok (.invokevirtual 23, 3) := by decide +kernel
theorem dl_266 : decode code 266 = .ok (.aload_n 2, 1) := by decide +kernel
theorem dl_267 : decode code 267 = .ok (.aload_n 0, 1) := by decide +kernel
theorem dl_268 : decode code 268 = .ok (.iload_n 3, 1) := by decide +kernel
theorem dl_269 : decode code 269 = .ok (.iconst 1, 1) := by decide +kernel
theorem dl_270 : decode code 270 = .ok (.iadd, 1) := by decide +kernel
theorem dl_271 : decode code 271 = .ok (.iaload, 1) := by decide +kernel
theorem dl_272 : decode code 272 = .ok (.aload_n 0, 1) := by decide +kernel
theorem dl_273 : decode code 273 = .ok (.iload_n 3, 1) := by decide +kernel
theorem dl_274 : decode code 274 = .ok (.iconst 2, 1) := by decide +kernel
theorem dl_275 : decode code 275 = .ok (.iadd, 1) := by decide +kernel
theorem dl_276 : decode code 276 = .ok (.iaload, 1) := by decide +kernel
theorem dl_277 : decode code 277 = .ok (.invokevirtual 26, 3) := by decide +kernel
theorem dl_280 : decode code 280 = .ok (.if_icmp .eq 1169, 3) := by decide +kernel
section
variable {D : GD} {b L : Nat} {xs : Nat → Int32} {kc ks : Nat} {M : Mm} {i : Nat}
theorem lc_2 (hi : i + 9 ≤ L) (hL : L ≤ 4608) (hkc : 1 ≤ kc) (hks : 6 ≤ ks) (hN : mN M < 1000000) (hR : Rall M) (kk : ∀ M', Rall M' → mN M' ≤ mN M + 1 → LW D b L xs (kc - 0) (ks - 0) 1449 (lvl i) [] M') : LW D b L xs kc ks 252 (lvl i) [] M := by
  have hY := hR.1
  have y0 := hY.sh 0 (q := (0, 11)) rfl (by omega) (by omega)
  refine lb_aload_n 2 dl_252 rfl ?_
  refine lb_arg (k := 1) dl_253 dl_254 dl_255 rfl dl_256 dl_257 (by omega) hL ?_
  refine lb_arg (k := 2) dl_258 dl_259 dl_260 rfl dl_261 dl_262 (by omega) hL ?_
  refine lb_callV (a := 0) (c0 := 11) (d' := 8) (mc' := 0) (ms' := 0) (u' := mX11_feed) (vs := [.int (xs (i + 1)), .int (xs (i + 2))]) dl_263 ⟨cw_X11_feed, w_326⟩ w_327 w_328 (by decide) y0.1 y0.2 rfl rfl (by decide) (by omega) (by omega) (by omega) (AM.mono (k_feed (D := D) (d := 0) hR) (fun r N h => ?_))
  obtain ⟨x, rfl, s1, h1⟩ := h
  have y1 := (hY.of s1).sh 62 (q := (0, 12)) rfl (by omega) (by omega)
  refine lb_aload_n 1 dl_266 rfl ?_
  refine lb_arg (k := 1) dl_267 dl_268 dl_269 rfl dl_270 dl_271 (by omega) hL ?_
  refine lb_arg (k := 2) dl_272 dl_273 dl_274 rfl dl_275 dl_276 (by omega) hL ?_
  refine lb_callV (a := 62) (c0 := 12) (d' := 8) (mc' := 0) (ms' := 0) (u' := mX12_feed) (vs := [.int (xs (i + 1)), .int (xs (i + 2))]) dl_277 ⟨cw_X12_feed, w_1178⟩ w_1179 w_1180 (by decide) y1.1 y1.2 rfl rfl (by show (1 : Nat) ≤ 8; omega) (by omega) (by omega) (by omega) (AM.mono (h1) (fun r N2 h => ?_))
  obtain ⟨y, rfl, s2, rfl, hR2⟩ := h
  exact lb_icmp_eq (tgt := 1449) dl_280 (by decide) (fun _ => kk N2 hR2 (by rw [s2.1, s1.1]; omega)) (fun z => absurd rfl z)
end
