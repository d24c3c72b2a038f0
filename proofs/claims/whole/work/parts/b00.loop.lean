/-! the law: its loop -/
theorem dl_16 : decode code 16 = .ok (.iconst 0, 1) := by decide +kernel
theorem dl_17 : decode code 17 = .ok (.istore_n 3, 1) := by decide +kernel
theorem dl_18 : decode code 18 = .ok (.iload_n 3, 1) := by decide +kernel
theorem dl_19 : decode code 19 = .ok (.aload_n 0, 1) := by decide +kernel
theorem dl_20 : decode code 20 = .ok (.arraylength, 1) := by decide +kernel
theorem dl_21 : decode code 21 = .ok (.bipush 9, 2) := by decide +kernel
theorem dl_23 : decode code 23 = .ok (.isub, 1) := by decide +kernel
theorem dl_24 : decode code 24 = .ok (.if_icmp .gt 1431, 3) := by decide +kernel
theorem dl_27 : decode code 27 = .ok (.aload_n 0, 1) := by decide +kernel
theorem dl_28 : decode code 28 = .ok (.iload_n 3, 1) := by decide +kernel
theorem dl_29 : decode code 29 = .ok (.iaload, 1) := by decide +kernel
theorem dl_30 : decode code 30 = .ok (.bipush 31, 2) := by decide +kernel
theorem dl_32 : decode code 32 = .ok (.iand, 1) := by decide +kernel
theorem dl_1449 : decode code 1449 = .ok (.iinc 3 9, 3) := by decide +kernel
theorem dl_1452 : decode code 1452 = .ok (.goto (-1434), 3) := by decide +kernel
theorem dl_1455 : decode code 1455 = .ok (.iconst 1, 1) := by decide +kernel
theorem dl_1456 : decode code 1456 = .ok (.ireturn, 1) := by decide +kernel
theorem dl_33 : decode code 33 = .ok (.tableswitch 1416 0 31 #[143, 186, 219, 252, 265, 308, 341, 374, 387, 486, 573, 673, 749, 808, 821, 844, 867, 890, 933, 956, 999, 1022, 1055, 1068, 1081, 1124, 1147, 1180, 1203, 1246, 1319, 1353], 143) := by decide +kernel
theorem and31 (w : Int32) : ∃ t : Nat, t < 32 ∧ w &&& (31 : Int32) = J (t : Nat) := by
  refine ⟨w.toBitVec.toNat % 32, Nat.mod_lt _ (by omega), ?_⟩
  have e : w = J (w.toBitVec.toNat : Nat) := by
    rw [← Int32.toBitVec_inj, J_bv]
    simp
  have h := J_and w.toBitVec.toNat 31
  rw [← e] at h
  rw [(by rfl : (31 : Int32) = J ((31 : Nat) : Int)), h]
  congr 2
  exact Nat.and_two_pow_sub_one_eq_mod _ 5
section
variable {D : GD} {b L : Nat} {xs : Nat → Int32} {kc ks pc : Nat} {lv : List (Nat × Value)} {st : List Value} {M : Mm} {i : Nat}
theorem lb_wk {kc' ks' : Nat} (h : LW D b L xs kc' ks' pc lv st M) (h1 : kc' ≤ kc) (h2 : ks' ≤ ks) : LW D b L xs kc ks pc lv st M := fun p e s m below meth c H locs ls cells slots B hX g1 g2 => h p e s m below meth c H locs ls cells slots B hX (by omega) (by omega)
theorem lw_loop (hE : ExOk D) (hL : L ≤ 4608) : ∀ (n i : Nat) (M : Mm), L ≤ i + n → i ≤ 4608 → Rall M → mN M ≤ 98 + i → LW D b L xs n (6 * n) 18 (lvl i) [] M := by
  intro n
  induction n using Nat.strongRecOn with
  | ind n ih =>
    intro i M hn hi4 hR hN
    refine lb_iload_n 0 dl_18 rfl (lb_aload_n 3 dl_19 rfl (lb_len dl_20 (lb_bipush (v := J 9) dl_21 (by decide) (lb_isub dl_23 ?_))))
    rw [J_ofNat, J_sub]
    refine lb_icmp_gt (tgt := 1455) dl_24 (by decide) (fun _ => lb_iconst (v := (1 : Int32)) dl_1455 (by decide) (lb_true dl_1456)) (fun c => ?_)
    have hi : i + 9 ≤ L := by
      simp (disch := omega) only [J_lit, J_add, J_sub, J_mul, J_neg, J_lt, J_le, J_eq, J_nat, J_in, J_div] at c
      omega
    refine lb_aload_n 3 dl_27 rfl (lb_iload_n 0 dl_28 rfl (lb_scr (by omega) hL dl_29 (lb_bipush (v := (31 : Int32)) dl_30 (by decide) (lb_iand dl_32 ?_))))
    have nx : ∀ M', Rall M' → mN M' ≤ mN M + 1 → LW D b L xs (n - 9) (6 * (n - 9)) 1449 (lvl i) [] M' := by
      intro M' hR' hN'
      refine lb_iinc (v := J ((i + 9 : Nat) : Int)) (lv1 := lvl (i + 9)) 0 dl_1449 rfl (J_add _ _) (by decide) rfl (lb_goto (tgt := 18) dl_1452 (by decide) ?_)
      exact ih (n - 9) (by omega) (i + 9) M' (by omega) (by omega) hR' (by omega)
    have k0 : ∀ M', Rall M' → mN M' ≤ mN M + 1 → LW D b L xs (n - 0) (6 * n - 0) 1449 (lvl i) [] M' := fun M' a c => lb_wk (nx M' a c) (by omega) (by omega)
    have k1 : ∀ M', Rall M' → mN M' ≤ mN M + 1 → LW D b L xs (n - 1) (6 * n - 6) 1449 (lvl i) [] M' := fun M' a c => lb_wk (nx M' a c) (by omega) (by omega)
    obtain ⟨t, ht, et⟩ := and31 (xs i)
    rw [et]
    rcases (by omega : t = 0 ∨ t = 1 ∨ t = 2 ∨ t = 3 ∨ t = 4 ∨ t = 5 ∨ t = 6 ∨ t = 7 ∨ t = 8 ∨ t = 9 ∨ t = 10 ∨ t = 11 ∨ t = 12 ∨ t = 13 ∨ t = 14 ∨ t = 15 ∨ t = 16 ∨ t = 17 ∨ t = 18 ∨ t = 19 ∨ t = 20 ∨ t = 21 ∨ t = 22 ∨ t = 23 ∨ t = 24 ∨ t = 25 ∨ t = 26 ∨ t = 27 ∨ t = 28 ∨ t = 29 ∨ t = 30 ∨ t = 31) with rfl | rfl | rfl | rfl | rfl | rfl | rfl | rfl | rfl | rfl | rfl | rfl | rfl | rfl | rfl | rfl | rfl | rfl | rfl | rfl | rfl | rfl | rfl | rfl | rfl | rfl | rfl | rfl | rfl | rfl | rfl | rfl
    · exact lb_tableIn (off := 143) (tgt := 176) dl_33 (by decide) (by decide) (by decide) (by decide) (lc_0 hi hL (by omega) (by omega) (by omega) hR k0)
    · exact lb_tableIn (off := 186) (tgt := 219) dl_33 (by decide) (by decide) (by decide) (by decide) (lc_1 hi hL (by omega) (by omega) (by omega) hR k0)
    · exact lb_tableIn (off := 219) (tgt := 252) dl_33 (by decide) (by decide) (by decide) (by decide) (lc_2 hi hL (by omega) (by omega) (by omega) hR k0)
    · exact lb_tableIn (off := 252) (tgt := 285) dl_33 (by decide) (by decide) (by decide) (by decide) (lc_3 hE hi hL (by omega) (by omega) (by omega) hR k0)
    · exact lb_tableIn (off := 265) (tgt := 298) dl_33 (by decide) (by decide) (by decide) (by decide) (lc_4 hi hL (by omega) (by omega) (by omega) hR k1)
    · exact lb_tableIn (off := 308) (tgt := 341) dl_33 (by decide) (by decide) (by decide) (by decide) (lc_5 hi hL (by omega) (by omega) (by omega) hR k0)
    · exact lb_tableIn (off := 341) (tgt := 374) dl_33 (by decide) (by decide) (by decide) (by decide) (lc_6 hi hL (by omega) (by omega) (by omega) hR k0)
    · exact lb_tableIn (off := 374) (tgt := 407) dl_33 (by decide) (by decide) (by decide) (by decide) (lc_7 hi hL (by omega) (by omega) (by omega) hR k0)
    · exact lb_tableIn (off := 387) (tgt := 420) dl_33 (by decide) (by decide) (by decide) (by decide) (lc_8 hi hL (by omega) (by omega) (by omega) hR k0)
    · exact lb_tableIn (off := 486) (tgt := 519) dl_33 (by decide) (by decide) (by decide) (by decide) (lc_9 hi hL (by omega) (by omega) (by omega) hR k0)
    · exact lb_tableIn (off := 573) (tgt := 606) dl_33 (by decide) (by decide) (by decide) (by decide) (lc_10 hi hL (by omega) (by omega) (by omega) hR k1)
    · exact lb_tableIn (off := 673) (tgt := 706) dl_33 (by decide) (by decide) (by decide) (by decide) (lc_11 hi hL (by omega) (by omega) (by omega) hR k0)
    · exact lb_tableIn (off := 749) (tgt := 782) dl_33 (by decide) (by decide) (by decide) (by decide) (lc_12 hi hL (by omega) (by omega) (by omega) hR k0)
    · exact lb_tableIn (off := 808) (tgt := 841) dl_33 (by decide) (by decide) (by decide) (by decide) (lc_13 hi hL (by omega) (by omega) (by omega) hR k0)
    · exact lb_tableIn (off := 821) (tgt := 854) dl_33 (by decide) (by decide) (by decide) (by decide) (lc_14 hi hL (by omega) (by omega) (by omega) hR k0)
    · exact lb_tableIn (off := 844) (tgt := 877) dl_33 (by decide) (by decide) (by decide) (by decide) (lc_15 hi hL (by omega) (by omega) (by omega) hR k0)
    · exact lb_tableIn (off := 867) (tgt := 900) dl_33 (by decide) (by decide) (by decide) (by decide) (lc_16 hi hL (by omega) (by omega) (by omega) hR k0)
    · exact lb_tableIn (off := 890) (tgt := 923) dl_33 (by decide) (by decide) (by decide) (by decide) (lc_17 hi hL (by omega) (by omega) (by omega) hR k0)
    · exact lb_tableIn (off := 933) (tgt := 966) dl_33 (by decide) (by decide) (by decide) (by decide) (lc_18 hi hL (by omega) (by omega) (by omega) hR k0)
    · exact lb_tableIn (off := 956) (tgt := 989) dl_33 (by decide) (by decide) (by decide) (by decide) (lc_19 hi hL (by omega) (by omega) (by omega) hR k0)
    · exact lb_tableIn (off := 999) (tgt := 1032) dl_33 (by decide) (by decide) (by decide) (by decide) (lc_20 hi hL (by omega) (by omega) (by omega) hR k0)
    · exact lb_tableIn (off := 1022) (tgt := 1055) dl_33 (by decide) (by decide) (by decide) (by decide) (lc_21 hi hL (by omega) (by omega) (by omega) hR k0)
    · exact lb_tableIn (off := 1055) (tgt := 1088) dl_33 (by decide) (by decide) (by decide) (by decide) (lc_22 hi hL (by omega) (by omega) (by omega) hR k0)
    · exact lb_tableIn (off := 1068) (tgt := 1101) dl_33 (by decide) (by decide) (by decide) (by decide) (lc_23 hi hL (by omega) (by omega) (by omega) hR k0)
    · exact lb_tableIn (off := 1081) (tgt := 1114) dl_33 (by decide) (by decide) (by decide) (by decide) (lc_24 hi hL (by omega) (by omega) (by omega) hR k0)
    · exact lb_tableIn (off := 1124) (tgt := 1157) dl_33 (by decide) (by decide) (by decide) (by decide) (lc_25 hi hL (by omega) (by omega) (by omega) hR k0)
    · exact lb_tableIn (off := 1147) (tgt := 1180) dl_33 (by decide) (by decide) (by decide) (by decide) (lc_26 hi hL (by omega) (by omega) (by omega) hR k0)
    · exact lb_tableIn (off := 1180) (tgt := 1213) dl_33 (by decide) (by decide) (by decide) (by decide) (lc_27 hi hL (by omega) (by omega) (by omega) hR k0)
    · exact lb_tableIn (off := 1203) (tgt := 1236) dl_33 (by decide) (by decide) (by decide) (by decide) (lc_28 hi hL (by omega) (by omega) (by omega) hR k0)
    · exact lb_tableIn (off := 1246) (tgt := 1279) dl_33 (by decide) (by decide) (by decide) (by decide) (lc_29 hi hL (by omega) (by omega) (by omega) hR k0)
    · exact lb_tableIn (off := 1319) (tgt := 1352) dl_33 (by decide) (by decide) (by decide) (by decide) (lc_30 hi hL (by omega) (by omega) (by omega) hR k0)
    · exact lb_tableIn (off := 1353) (tgt := 1386) dl_33 (by decide) (by decide) (by decide) (by decide) (lc_31 hi hL (by omega) (by omega) (by omega) hR k0)
end
