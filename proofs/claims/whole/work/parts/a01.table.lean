/-! the law: table -/
theorem dl_176 : decode code 176 = .ok (.aload_n 1, 1) := by decide +kernel
theorem dl_177 : decode code 177 = .ok (.aload_n 0, 1) := by decide +kernel
theorem dl_178 : decode code 178 = .ok (.iload_n 3, 1) := by decide +kernel
theorem dl_179 : decode code 179 = .ok (.iconst 1, 1) := by decide +kernel
theorem dl_180 : decode code 180 = .ok (.iadd, 1) := by decide +kernel
theorem dl_181 : decode code 181 = .ok (.iaload, 1) := by decide +kernel
theorem dl_182 : decode code 182 = .ok (.aload_n 0, 1) := by decide +kernel
theorem dl_183 : decode code 183 = .ok (.iload_n 3, 1) := by decide +kernel
theorem dl_184 : decode code 184 = .ok (.iconst 2, 1) := by decide +kernel
theorem dl_185 : decode code 185 = .ok (.iadd, 1) := by decide +kernel
theorem dl_186 : decode code 186 = .ok (.iaload, 1) := by decide +kernel
theorem dl_187 : decode code 187 = .ok (.aload_n 0, 1) := by decide +kernel
theorem dl_188 : decode code 188 = .ok (.iload_n 3, 1) := by decide +kernel
theorem dl_189 : decode code 189 = .ok (.iconst 3, 1) := by decide +kernel
theorem dl_190 : decode code 190 = .ok (.iadd, 1) := by decide +kernel
theorem dl_191 : decode code 191 = .ok (.iaload, 1) := by decide +kernel
theorem dl_192 : decode code 192 = .ok (.invokevirtual 13, 3) := by decide +kernel
theorem dl_195 : decode code 195 = .ok (.aload_n 2, 1) := by decide +kernel
theorem dl_196 : decode code 196 = .ok (.aload_n 0, 1) := by decide +kernel
theorem dl_197 : decode code 197 = .ok (.iload_n 3, 1) := by decide +kernel
theorem dl_198 : decode code 198 = .ok (.iconst 1, 1) := by decide +kernel
theorem dl_199 : decode code 199 = .ok (.iadd, 1) := by decide +kernel
theorem dl_200 : decode code 200 = .ok (.iaload, 1) := by decide +kernel
theorem dl_201 : decode code 201 = .ok (.aload_n 0, 1) := by decide +kernel
theorem dl_202 : decode code 202 = .ok (.iload_n 3, 1) := by decide +kernel
theorem dl_203 : decode code 203 = .ok (.iconst 2, 1) := by decide +kernel
theorem dl_204 : decode code 204 = .ok (.iadd, 1) := by decide +kernel
theorem dl_205 : decode code 205 = .ok (.iaload, 1) := by decide +kernel
theorem dl_206 : decode code 206 = .ok (.aload_n 0, 1) := by decide +kernel
theorem dl_207 : decode code 207 = .ok (.iload_n 3, 1) := by decide +kernel
theorem dl_208 : decode code 208 = .ok (.iconst 3, 1) := by decide +kernel
theorem dl_209 : decode code 209 = .ok (.iadd, 1) := by decide +kernel
theorem dl_210 : decode code 210 = .ok (.iaload, 1) := by decide +kernel
theorem dl_211 : decode code 211 = .ok (.invokevirtual 17, 3) := by decide +kernel
theorem dl_214 : decode code 214 = .ok (.if_icmp .eq 1235, 3) := by decide +kernel
section
variable {D : GD} {b L : Nat} {xs : Nat → Int32} {kc ks : Nat} {M : Mm} {i : Nat}
theorem lc_0 (hi : i + 9 ≤ L) (hL : L ≤ 4608) (hkc : 1 ≤ kc) (hks : 6 ≤ ks) (hN : mN M < 1000000) (hR : Rall M) (kk : ∀ M', Rall M' → mN M' ≤ mN M + 1 → LW D b L xs (kc - 0) (ks - 0) 1449 (lvl i) [] M') : LW D b L xs kc ks 176 (lvl i) [] M := by
  have hY := hR.1
  have y0 := hY.sh 0 (q := (0, 11)) rfl (by omega) (by omega)
  refine lb_aload_n 2 dl_176 rfl ?_
  refine lb_arg (k := 1) dl_177 dl_178 dl_179 rfl dl_180 dl_181 (by omega) hL ?_
  refine lb_arg (k := 2) dl_182 dl_183 dl_184 rfl dl_185 dl_186 (by omega) hL ?_
  refine lb_arg (k := 3) dl_187 dl_188 dl_189 rfl dl_190 dl_191 (by omega) hL ?_
  refine lb_callV (a := 0) (c0 := 11) (d' := 8) (mc' := 0) (ms' := 0) (u' := mX11_table) (vs := [.int (xs (i + 1)), .int (xs (i + 2)), .int (xs (i + 3))]) dl_192 ⟨cw_X11_table, w_314⟩ w_315 w_316 (by decide) y0.1 y0.2 rfl rfl (by decide) (by omega) (by omega) (by omega) (AM.mono (k_table (D := D) (d := 0) hR) (fun r N h => ?_))
  obtain ⟨x, rfl, s1, h1⟩ := h
  have y1 := (hY.of s1).sh 62 (q := (0, 12)) rfl (by omega) (by omega)
  refine lb_aload_n 1 dl_195 rfl ?_
  refine lb_arg (k := 1) dl_196 dl_197 dl_198 rfl dl_199 dl_200 (by omega) hL ?_
  refine lb_arg (k := 2) dl_201 dl_202 dl_203 rfl dl_204 dl_205 (by omega) hL ?_
  refine lb_arg (k := 3) dl_206 dl_207 dl_208 rfl dl_209 dl_210 (by omega) hL ?_
  refine lb_callV (a := 62) (c0 := 12) (d' := 8) (mc' := 0) (ms' := 0) (u' := mX12_table) (vs := [.int (xs (i + 1)), .int (xs (i + 2)), .int (xs (i + 3))]) dl_211 ⟨cw_X12_table, w_1162⟩ w_1163 w_1164 (by decide) y1.1 y1.2 rfl rfl (by show (1 : Nat) ≤ 8; omega) (by omega) (by omega) (by omega) (AM.mono (h1) (fun r N2 h => ?_))
  obtain ⟨y, rfl, s2, rfl, hR2⟩ := h
  exact lb_icmp_eq (tgt := 1449) dl_214 (by decide) (fun _ => kk N2 hR2 (by rw [s2.1, s1.1]; omega)) (fun z => absurd rfl z)
end
