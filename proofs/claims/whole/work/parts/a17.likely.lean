/-! the law: likely -/
theorem dl_900 : decode code 900 = .ok (.aload_n 1, 1) := by decide +kernel
theorem dl_901 : decode code 901 = .ok (.aload_n 0, 1) := by decide +kernel
theorem dl_902 : decode code 902 = .ok (.iload_n 3, 1) := by decide +kernel
theorem dl_903 : decode code 903 = .ok (.iconst 1, 1) := by decide +kernel
theorem dl_904 : decode code 904 = .ok (.iadd, 1) := by decide +kernel
theorem dl_905 : decode code 905 = .ok (.iaload, 1) := by decide +kernel
theorem dl_906 : decode code 906 = .ok (.invokevirtual 86, 3) := by decide +kernel
theorem dl_909 : decode code 909 = .ok (.aload_n 2, 1) := by decide +kernel
theorem dl_910 : decode code 910 = .ok (.aload_n 0, 1) := by decide +kernel
theorem dl_911 : decode code 911 = .ok (.iload_n 3, 1) := by decide +kernel
theorem dl_912 : decode code 912 = .ok (.iconst 1, 1) := by decide +kernel
theorem dl_913 : decode code 913 = .ok (.iadd, 1) := by decide +kernel
theorem dl_914 : decode code 914 = .ok (.iaload, 1) := by decide +kernel
theorem dl_915 : decode code 915 = .ok (.invokevirtual 89, 3) := by decide +kernel
theorem dl_918 : decode code 918 = .ok (.if_icmp .eq 531, 3) := by decide +kernel
section
variable {D : GD} {b L : Nat} {xs : Nat → Int32} {kc ks : Nat} {M : Mm} {i : Nat}
theorem lc_16 (hi : i + 9 ≤ L) (hL : L ≤ 4608) (hkc : 1 ≤ kc) (hks : 6 ≤ ks) (hN : mN M < 1000000) (hR : Rall M) (kk : ∀ M', Rall M' → mN M' ≤ mN M + 1 → LW D b L xs (kc - 0) (ks - 0) 1449 (lvl i) [] M') : LW D b L xs kc ks 900 (lvl i) [] M := by
  have hY := hR.1
  have y0 := hY.sh 0 (q := (0, 11)) rfl (by omega) (by omega)
  refine lb_aload_n 2 dl_900 rfl ?_
  refine lb_arg (k := 1) dl_901 dl_902 dl_903 rfl dl_904 dl_905 (by omega) hL ?_
  refine lb_callV (a := 0) (c0 := 11) (d' := 13) (mc' := 0) (ms' := 0) (u' := mX11_likely) (vs := [.int (xs (i + 1))]) dl_906 ⟨cw_X11_likely, w_751⟩ w_752 w_753 (by decide) y0.1 y0.2 rfl rfl (by decide) (by omega) (by omega) (by omega) (AM.mono (k_likely (D := D) (d := 0) hR) (fun r N h => ?_))
  obtain ⟨x, rfl, s1, h1⟩ := h
  have y1 := (hY.of s1).sh 62 (q := (0, 12)) rfl (by omega) (by omega)
  refine lb_aload_n 1 dl_909 rfl ?_
  refine lb_arg (k := 1) dl_910 dl_911 dl_912 rfl dl_913 dl_914 (by omega) hL ?_
  refine lb_callV (a := 62) (c0 := 12) (d' := 13) (mc' := 0) (ms' := 0) (u' := mX12_likely) (vs := [.int (xs (i + 1))]) dl_915 ⟨cw_X12_likely, w_1377⟩ w_1378 w_1379 (by decide) y1.1 y1.2 rfl rfl (by show (1 : Nat) ≤ 8; omega) (by omega) (by omega) (by omega) (AM.mono (h1) (fun r N2 h => ?_))
  obtain ⟨y, rfl, s2, rfl, hR2⟩ := h
  exact lb_icmp_eq (tgt := 1449) dl_918 (by decide) (fun _ => kk N2 hR2 (by rw [s2.1, s1.1]; omega)) (fun z => absurd rfl z)
end
