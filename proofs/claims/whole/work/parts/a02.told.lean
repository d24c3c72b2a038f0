/-! the law: told -/
theorem dl_219 : decode code 219 = .ok (.aload_n 1, 1) := by decide +kernel
theorem dl_220 : decode code 220 = .ok (.aload_n 0, 1) := by decide +kernel
theorem dl_221 : decode code 221 = .ok (.iload_n 3, 1) := by decide +kernel
theorem dl_222 : decode code 222 = .ok (.iconst 1, 1) := by decide +kernel
theorem dl_223 : decode code 223 = .ok (.iadd, 1) := by decide +kernel
theorem dl_224 : decode code 224 = .ok (.iaload, 1) := by decide +kernel
theorem dl_225 : decode code 225 = .ok (.aload_n 0, 1) := by decide +kernel
theorem dl_226 : decode code 226 = .ok (.iload_n 3, 1) := by decide +kernel
theorem dl_227 : decode code 227 = .ok (.iconst 2, 1) := by decide +kernel
theorem dl_228 : decode code 228 = .ok (.iadd, 1) := by decide +kernel
theorem dl_229 : decode code 229 = .ok (.iaload, 1) := by decide +kernel
theorem dl_230 : decode code 230 = .ok (.invokevirtual 18, 3) := by decide +kernel
theorem dl_233 : decode code 233 = .ok (.aload_n 2, 1) := by decide +kernel
theorem dl_234 : decode code 234 = .ok (.aload_n 0, 1) := by decide +kernel
theorem dl_235 : decode code 235 = .ok (.iload_n 3, 1) := by decide +kernel
theorem dl_236 : decode code 236 = .ok (.iconst 1, 1) := by decide +kernel
theorem dl_237 : decode code 237 = .ok (.iadd, 1) := by decide +kernel
theorem dl_238 : decode code 238 = .ok (.iaload, 1) := by decide +kernel
theorem dl_239 : decode code 239 = .ok (.aload_n 0, 1) := by decide +kernel
theorem dl_240 : decode code 240 = .ok (.iload_n 3, 1) := by decide +kernel
theorem dl_241 : decode code 241 = .ok (.iconst 2, 1) := by decide +kernel
theorem dl_242 : decode code 242 = .ok (.iadd, 1) := by decide +kernel
theorem dl_243 : decode code 243 = .ok (.iaload, 1) := by decide +kernel
theorem dl_244 : decode code 244 = .ok (.invokevirtual 22, 3) := by decide +kernel
theorem dl_247 : decode code 247 = .ok (.if_icmp .eq 1202, 3) := by decide +kernel
section
variable {D : GD} {b L : Nat} {xs : Nat → Int32} {kc ks : Nat} {M : Mm} {i : Nat}
theorem lc_1 (hi : i + 9 ≤ L) (hL : L ≤ 4608) (hkc : 1 ≤ kc) (hks : 6 ≤ ks) (hN : mN M < 1000000) (hR : Rall M) (kk : ∀ M', Rall M' → mN M' ≤ mN M + 1 → LW D b L xs (kc - 0) (ks - 0) 1449 (lvl i) [] M') : LW D b L xs kc ks 219 (lvl i) [] M := by
  have hY := hR.1
  have y0 := hY.sh 0 (q := (0, 11)) rfl (by omega) (by omega)
  refine lb_aload_n 2 dl_219 rfl ?_
  refine lb_arg (k := 1) dl_220 dl_221 dl_222 rfl dl_223 dl_224 (by omega) hL ?_
  refine lb_arg (k := 2) dl_225 dl_226 dl_227 rfl dl_228 dl_229 (by omega) hL ?_
  refine lb_callV (a := 0) (c0 := 11) (d' := 8) (mc' := 0) (ms' := 0) (u' := mX11_told) (vs := [.int (xs (i + 1)), .int (xs (i + 2))]) dl_230 ⟨cw_X11_told, w_322⟩ w_323 w_324 (by decide) y0.1 y0.2 rfl rfl (by decide) (by omega) (by omega) (by omega) (AM.mono (k_told (D := D) (d := 0) hR) (fun r N h => ?_))
  obtain ⟨x, rfl, s1, h1⟩ := h
  have y1 := (hY.of s1).sh 62 (q := (0, 12)) rfl (by omega) (by omega)
  refine lb_aload_n 1 dl_233 rfl ?_
  refine lb_arg (k := 1) dl_234 dl_235 dl_236 rfl dl_237 dl_238 (by omega) hL ?_
  refine lb_arg (k := 2) dl_239 dl_240 dl_241 rfl dl_242 dl_243 (by omega) hL ?_
  refine lb_callV (a := 62) (c0 := 12) (d' := 8) (mc' := 0) (ms' := 0) (u' := mX12_told) (vs := [.int (xs (i + 1)), .int (xs (i + 2))]) dl_244 ⟨cw_X12_told, w_1174⟩ w_1175 w_1176 (by decide) y1.1 y1.2 rfl rfl (by show (1 : Nat) ≤ 8; omega) (by omega) (by omega) (by omega) (AM.mono (h1) (fun r N2 h => ?_))
  obtain ⟨y, rfl, s2, rfl, hR2⟩ := h
  exact lb_icmp_eq (tgt := 1449) dl_247 (by decide) (fun _ => kk N2 hR2 (by rw [s2.1, s1.1]; omega)) (fun z => absurd rfl z)
end
