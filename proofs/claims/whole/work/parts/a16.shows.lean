/-! the law: shows -/
theorem dl_877 : decode code 877 = .ok (.aload_n 1, 1) := by decide +kernel
theorem dl_878 : decode code 878 = .ok (.aload_n 0, 1) := by decide +kernel
theorem dl_879 : decode code 879 = .ok (.iload_n 3, 1) := by decide +kernel
theorem dl_880 : decode code 880 = .ok (.iconst 1, 1) := by decide +kernel
theorem dl_881 : decode code 881 = .ok (.iadd, 1) := by decide +kernel
theorem dl_882 : decode code 882 = .ok (.iaload, 1) := by decide +kernel
theorem dl_883 : decode code 883 = .ok (.invokevirtual 82, 3) := by decide +kernel
theorem dl_886 : decode code 886 = .ok (.aload_n 2, 1) := by decide +kernel
theorem dl_887 : decode code 887 = .ok (.aload_n 0, 1) := by decide +kernel
theorem dl_888 : decode code 888 = .ok (.iload_n 3, 1) := by decide +kernel
theorem dl_889 : decode code 889 = .ok (.iconst 1, 1) := by decide +kernel
theorem dl_890 : decode code 890 = .ok (.iadd, 1) := by decide +kernel
theorem dl_891 : decode code 891 = .ok (.iaload, 1) := by decide +kernel
theorem dl_892 : decode code 892 = .ok (.invokevirtual 85, 3) := by decide +kernel
theorem dl_895 : decode code 895 = .ok (.if_icmp .eq 554, 3) := by decide +kernel
section
variable {D : GD} {b L : Nat} {xs : Nat → Int32} {kc ks : Nat} {M : Mm} {i : Nat}
theorem lc_15 (hi : i + 9 ≤ L) (hL : L ≤ 4608) (hkc : 1 ≤ kc) (hks : 6 ≤ ks) (hN : mN M < 1000000) (hR : Rall M) (kk : ∀ M', Rall M' → mN M' ≤ mN M + 1 → LW D b L xs (kc - 0) (ks - 0) 1449 (lvl i) [] M') : LW D b L xs kc ks 877 (lvl i) [] M := by
  have hY := hR.1
  have y0 := hY.sh 0 (q := (0, 11)) rfl (by omega) (by omega)
  refine lb_aload_n 2 dl_877 rfl ?_
  refine lb_arg (k := 1) dl_878 dl_879 dl_880 rfl dl_881 dl_882 (by omega) hL ?_
  refine lb_callV (a := 0) (c0 := 11) (d' := 8) (mc' := 0) (ms' := 0) (u' := mX11_shows) (vs := [.int (xs (i + 1))]) dl_883 ⟨cw_X11_shows, w_734⟩ w_735 w_736 (by decide) y0.1 y0.2 rfl rfl (by decide) (by omega) (by omega) (by omega) (AM.mono (k_shows (D := D) (d := 0) hR) (fun r N h => ?_))
  obtain ⟨x, rfl, s1, h1⟩ := h
  have y1 := (hY.of s1).sh 62 (q := (0, 12)) rfl (by omega) (by omega)
  refine lb_aload_n 1 dl_886 rfl ?_
  refine lb_arg (k := 1) dl_887 dl_888 dl_889 rfl dl_890 dl_891 (by omega) hL ?_
  refine lb_callV (a := 62) (c0 := 12) (d' := 8) (mc' := 0) (ms' := 0) (u' := mX12_shows) (vs := [.int (xs (i + 1))]) dl_892 ⟨cw_X12_shows, w_1373⟩ w_1374 w_1375 (by decide) y1.1 y1.2 rfl rfl (by show (1 : Nat) ≤ 8; omega) (by omega) (by omega) (by omega) (AM.mono (h1) (fun r N2 h => ?_))
  obtain ⟨y, rfl, s2, rfl, hR2⟩ := h
  exact lb_icmp_eq (tgt := 1449) dl_895 (by decide) (fun _ => kk N2 hR2 (by rw [s2.1, s1.1]; omega)) (fun z => absurd rfl z)
end
