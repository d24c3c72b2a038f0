/-! the law: win -/
theorem dl_966 : decode code 966 = .ok (.aload_n 1, 1) := by decide +kernel
theorem dl_967 : decode code 967 = .ok (.aload_n 0, 1) := by decide +kernel
theorem dl_968 : decode code 968 = .ok (.iload_n 3, 1) := by decide +kernel
theorem dl_969 : decode code 969 = .ok (.iconst 1, 1) := by decide +kernel
theorem dl_970 : decode code 970 = .ok (.iadd, 1) := by decide +kernel
theorem dl_971 : decode code 971 = .ok (.iaload, 1) := by decide +kernel
theorem dl_972 : decode code 972 = .ok (.invokevirtual 94, 3) := by decide +kernel
theorem dl_975 : decode code 975 = .ok (.aload_n 2, 1) := by decide +kernel
theorem dl_976 : decode code 976 = .ok (.aload_n 0, 1) := by decide +kernel
theorem dl_977 : decode code 977 = .ok (.iload_n 3, 1) := by decide +kernel
theorem dl_978 : decode code 978 = .ok (.iconst 1, 1) := by decide +kernel
theorem dl_979 : decode code 979 = .ok (.iadd, 1) := by decide +kernel
theorem dl_980 : decode code 980 = .ok (.iaload, 1) := by decide +kernel
theorem dl_981 : decode code 981 = .ok (.invokevirtual 97, 3) := by decide +kernel
theorem dl_984 : decode code 984 = .ok (.if_icmp .eq 465, 3) := by decide +kernel
section
variable {D : GD} {b L : Nat} {xs : Nat → Int32} {kc ks : Nat} {M : Mm} {i : Nat}
theorem lc_18 (hi : i + 9 ≤ L) (hL : L ≤ 4608) (hkc : 1 ≤ kc) (hks : 6 ≤ ks) (hN : mN M < 1000000) (hR : Rall M) (kk : ∀ M', Rall M' → mN M' ≤ mN M + 1 → LW D b L xs (kc - 0) (ks - 0) 1449 (lvl i) [] M') : LW D b L xs kc ks 966 (lvl i) [] M := by
  have hY := hR.1
  have y0 := hY.sh 0 (q := (0, 11)) rfl (by omega) (by omega)
  refine lb_aload_n 2 dl_966 rfl ?_
  refine lb_arg (k := 1) dl_967 dl_968 dl_969 rfl dl_970 dl_971 (by omega) hL ?_
  refine lb_callV (a := 0) (c0 := 11) (d' := 8) (mc' := 0) (ms' := 0) (u' := mX11_win) (vs := [.int (xs (i + 1))]) dl_972 ⟨cw_X11_win, w_772⟩ w_773 w_774 (by decide) y0.1 y0.2 rfl rfl (by decide) (by omega) (by omega) (by omega) (AM.mono (k_win (D := D) (d := 0) hR) (fun r N h => ?_))
  obtain ⟨x, rfl, s1, h1⟩ := h
  have y1 := (hY.of s1).sh 62 (q := (0, 12)) rfl (by omega) (by omega)
  refine lb_aload_n 1 dl_975 rfl ?_
  refine lb_arg (k := 1) dl_976 dl_977 dl_978 rfl dl_979 dl_980 (by omega) hL ?_
  refine lb_callV (a := 62) (c0 := 12) (d' := 8) (mc' := 0) (ms' := 0) (u' := mX12_win) (vs := [.int (xs (i + 1))]) dl_981 ⟨cw_X12_win, w_1390⟩ w_1391 w_1392 (by decide) y1.1 y1.2 rfl rfl (by show (1 : Nat) ≤ 8; omega) (by omega) (by omega) (by omega) (AM.mono (h1) (fun r N2 h => ?_))
  obtain ⟨y, rfl, s2, rfl, hR2⟩ := h
  exact lb_icmp_eq (tgt := 1449) dl_984 (by decide) (fun _ => kk N2 hR2 (by rw [s2.1, s1.1]; omega)) (fun z => absurd rfl z)
end
