/-! the law: does -/
theorem dl_854 : decode code 854 = .ok (.aload_n 1, 1) := by decide +kernel
theorem dl_855 : decode code 855 = .ok (.aload_n 0, 1) := by decide +kernel
theorem dl_856 : decode code 856 = .ok (.iload_n 3, 1) := by decide +kernel
theorem dl_857 : decode code 857 = .ok (.iconst 1, 1) := by decide +kernel
theorem dl_858 : decode code 858 = .ok (.iadd, 1) := by decide +kernel
theorem dl_859 : decode code 859 = .ok (.iaload, 1) := by decide +kernel
theorem dl_860 : decode code 860 = .ok (.invokevirtual 77, 3) := by decide +kernel
theorem dl_863 : decode code 863 = .ok (.aload_n 2, 1) := by decide +kernel
theorem dl_864 : decode code 864 = .ok (.aload_n 0, 1) := by decide +kernel
theorem dl_865 : decode code 865 = .ok (.iload_n 3, 1) := by decide +kernel
theorem dl_866 : decode code 866 = .ok (.iconst 1, 1) := by decide +kernel
theorem dl_867 : decode code 867 = .ok (.iadd, 1) := by decide +kernel
theorem dl_868 : decode code 868 = .ok (.iaload, 1) := by decide +kernel
theorem dl_869 : decode code 869 = .ok (.invokevirtual 81, 3) := by decide +kernel
theorem dl_872 : decode code 872 = .ok (.if_icmp .eq 577, 3) := by decide +kernel
section
variable {D : GD} {b L : Nat} {xs : Nat → Int32} {kc ks : Nat} {M : Mm} {i : Nat}
theorem lc_14 (hi : i + 9 ≤ L) (hL : L ≤ 4608) (hkc : 1 ≤ kc) (hks : 6 ≤ ks) (hN : mN M < 1000000) (hR : Rall M) (kk : ∀ M', Rall M' → mN M' ≤ mN M + 1 → LW D b L xs (kc - 0) (ks - 0) 1449 (lvl i) [] M') : LW D b L xs kc ks 854 (lvl i) [] M := by
  have hY := hR.1
  have y0 := hY.sh 0 (q := (0, 11)) rfl (by omega) (by omega)
  refine lb_aload_n 2 dl_854 rfl ?_
  refine lb_arg (k := 1) dl_855 dl_856 dl_857 rfl dl_858 dl_859 (by omega) hL ?_
  refine lb_callV (a := 0) (c0 := 11) (d' := 8) (mc' := 0) (ms' := 0) (u' := mX11_does) (vs := [.int (xs (i + 1))]) dl_860 ⟨cw_X11_does, w_726⟩ w_727 w_728 (by decide) y0.1 y0.2 rfl rfl (by decide) (by omega) (by omega) (by omega) (AM.mono (k_does (D := D) (d := 0) hR) (fun r N h => ?_))
  obtain ⟨x, rfl, s1, h1⟩ := h
  have y1 := (hY.of s1).sh 62 (q := (0, 12)) rfl (by omega) (by omega)
  refine lb_aload_n 1 dl_863 rfl ?_
  refine lb_arg (k := 1) dl_864 dl_865 dl_866 rfl dl_867 dl_868 (by omega) hL ?_
  refine lb_callV (a := 62) (c0 := 12) (d' := 8) (mc' := 0) (ms' := 0) (u' := mX12_does) (vs := [.int (xs (i + 1))]) dl_869 ⟨cw_X12_does, w_1365⟩ w_1366 w_1367 (by decide) y1.1 y1.2 rfl rfl (by show (1 : Nat) ≤ 8; omega) (by omega) (by omega) (by omega) (AM.mono (h1) (fun r N2 h => ?_))
  obtain ⟨y, rfl, s2, rfl, hR2⟩ := h
  exact lb_icmp_eq (tgt := 1449) dl_872 (by decide) (fun _ => kk N2 hR2 (by rw [s2.1, s1.1]; omega)) (fun z => absurd rfl z)
end
