/-! the law: rule -/
theorem dl_285 : decode code 285 = .ok (.aload_n 1, 1) := by decide +kernel
theorem dl_286 : decode code 286 = .ok (.invokevirtual 27, 3) := by decide +kernel
theorem dl_289 : decode code 289 = .ok (.aload_n 2, 1) := by decide +kernel
theorem dl_290 : decode code 290 = .ok (.invokevirtual 31, 3) := by decide +kernel
theorem dl_293 : decode code 293 = .ok (.if_icmp .eq 1156, 3) := by decide +kernel
section
variable {D : GD} {b L : Nat} {xs : Nat → Int32} {kc ks : Nat} {M : Mm} {i : Nat}
theorem lc_3 (hE : ExOk D) (hi : i + 9 ≤ L) (hL : L ≤ 4608) (hkc : 1 ≤ kc) (hks : 6 ≤ ks) (hN : mN M < 1000000) (hR : Rall M) (kk : ∀ M', Rall M' → mN M' ≤ mN M + 1 → LW D b L xs (kc - 0) (ks - 0) 1449 (lvl i) [] M') : LW D b L xs kc ks 285 (lvl i) [] M := by
  have hY := hR.1
  have y0 := hY.sh 0 (q := (0, 11)) rfl (by omega) (by omega)
  refine lb_aload_n 2 dl_285 rfl ?_
  refine lb_callV (a := 0) (c0 := 11) (d' := 22) (mc' := 0) (ms' := 0) (u' := mX11_rule) (vs := []) dl_286 ⟨cw_X11_rule, w_334⟩ w_335 w_336 (by decide) y0.1 y0.2 rfl rfl (by decide) (by omega) (by omega) (by omega) (AM.mono (k_rule (D := D) (d := 0) hE hR) (fun r N h => ?_))
  obtain ⟨x, rfl, s1, h1⟩ := h
  have y1 := (hY.of s1).sh 62 (q := (0, 12)) rfl (by omega) (by omega)
  refine lb_aload_n 1 dl_289 rfl ?_
  refine lb_callV (a := 62) (c0 := 12) (d' := 22) (mc' := 0) (ms' := 0) (u' := mX12_rule) (vs := []) dl_290 ⟨cw_X12_rule, w_1182⟩ w_1183 w_1184 (by decide) y1.1 y1.2 rfl rfl (by show (1 : Nat) ≤ 8; omega) (by omega) (by omega) (by omega) (AM.mono (h1) (fun r N2 h => ?_))
  obtain ⟨y, rfl, s2, rfl, hR2⟩ := h
  exact lb_icmp_eq (tgt := 1449) dl_293 (by decide) (fun _ => kk N2 hR2 (by rw [s2.1, s1.1]; omega)) (fun z => absurd rfl z)
end
