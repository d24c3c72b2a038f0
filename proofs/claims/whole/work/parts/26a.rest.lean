theorem dX0_setSeen_0 : decode cX0_setSeen 0 = .ok (.aload_n 0, 1) := by decide +kernel
theorem dX0_setSeen_1 : decode cX0_setSeen 1 = .ok (.iconst 0, 1) := by decide +kernel
theorem dX0_setSeen_2 : decode cX0_setSeen 2 = .ok (.iload_n 1, 1) := by decide +kernel
theorem dX0_setSeen_3 : decode cX0_setSeen 3 = .ok (.iastore, 1) := by decide +kernel
theorem dX0_setSeen_4 : decode cX0_setSeen 4 = .ok (.aload_n 0, 1) := by decide +kernel
theorem dX0_setSeen_5 : decode cX0_setSeen 5 = .ok (.iconst 1, 1) := by decide +kernel
theorem dX0_setSeen_6 : decode cX0_setSeen 6 = .ok (.iload_n 2, 1) := by decide +kernel
theorem dX0_setSeen_7 : decode cX0_setSeen 7 = .ok (.iastore, 1) := by decide +kernel
theorem dX0_setSeen_8 : decode cX0_setSeen 8 = .ok (.aload_n 0, 1) := by decide +kernel
theorem dX0_setSeen_9 : decode cX0_setSeen 9 = .ok (.iconst 2, 1) := by decide +kernel
theorem dX0_setSeen_10 : decode cX0_setSeen 10 = .ok (.iload_n 3, 1) := by decide +kernel
theorem dX0_setSeen_11 : decode cX0_setSeen 11 = .ok (.iastore, 1) := by decide +kernel
theorem dX0_setSeen_12 : decode cX0_setSeen 12 = .ok (.aload_n 0, 1) := by decide +kernel
theorem dX0_setSeen_13 : decode cX0_setSeen 13 = .ok (.iconst 3, 1) := by decide +kernel
theorem dX0_setSeen_14 : decode cX0_setSeen 14 = .ok (.iload 4, 2) := by decide +kernel
theorem dX0_setSeen_16 : decode cX0_setSeen 16 = .ok (.iastore, 1) := by decide +kernel
theorem dX0_setSeen_17 : decode cX0_setSeen 17 = .ok (.return_, 1) := by decide +kernel
set_option maxRecDepth 20000 in
theorem rX0_setSeen (D : GD) (d : Nat) (a1 : Nat) (a2 : Int32) (a3 : Int32) (a4 : Int32) (a5 : Int32) (M : Mm) (post : Option Value → Mm → Prop) (hL : Lay 0 0 M) (sa1 : Sh M a1 (1, 4))
    (h : ∀ M1 : Mm, M1 = sI M a1 0 a2 → ∀ M5 : Mm, M5 = sI M1 a1 1 a3 → ∀ M9 : Mm, M9 = sI M5 a1 2 a4 → ∀ M13 : Mm, M13 = sI M9 a1 3 a5 → post none M13) :
    AM D d 0 0 mX0_setSeen [.ref a1, .int a2, .int a3, .int a4, .int a5] M post := by
  refine AM.of (by decide) (Nat.le_of_ble_eq_true rfl) ?_
  show AW D d 0 0 mX0_setSeen 0 0 0 [(0, .ref a1), (1, .int a2), (2, .int a3), (3, .int a4), (4, .int a5)] [] M post
  refine ab_aload_n 0 dX0_setSeen_0 rfl ?_
  refine ab_iconst (v := 0) dX0_setSeen_1 (by decide) ?_
  refine ab_iload_n 1 dX0_setSeen_2 rfl ?_
  refine ab_iastj (j := 0) dX0_setSeen_3 (sa1.of (Sm.refl M)) (vin (by decide)) (by decide) ?_
  refine ab_nameM (fun M1 hM1 => ?_)
  have h := h M1 hM1
  have hs4 : Sm M M1 := hM1 ▸ (Sm.refl _).i
  have hm2 : Sm M M1 := (Sm.refl M).trans hs4
  have hl3 := hL.of hm2
  refine ab_aload_n 0 dX0_setSeen_4 rfl ?_
  refine ab_iconst (v := 1) dX0_setSeen_5 (by decide) ?_
  refine ab_iload_n 2 dX0_setSeen_6 rfl ?_
  refine ab_iastj (j := 1) dX0_setSeen_7 (sa1.of hm2) (vin (by decide)) (by decide) ?_
  refine ab_nameM (fun M5 hM5 => ?_)
  have h := h M5 hM5
  have hs8 : Sm M1 M5 := hM5 ▸ (Sm.refl _).i
  have hm6 : Sm M M5 := hm2.trans hs8
  have hl7 := hL.of hm6
  refine ab_aload_n 0 dX0_setSeen_8 rfl ?_
  refine ab_iconst (v := 2) dX0_setSeen_9 (by decide) ?_
  refine ab_iload_n 3 dX0_setSeen_10 rfl ?_
  refine ab_iastj (j := 2) dX0_setSeen_11 (sa1.of hm6) (vin (by decide)) (by decide) ?_
  refine ab_nameM (fun M9 hM9 => ?_)
  have h := h M9 hM9
  have hs12 : Sm M5 M9 := hM9 ▸ (Sm.refl _).i
  have hm10 : Sm M M9 := hm6.trans hs12
  have hl11 := hL.of hm10
  refine ab_aload_n 0 dX0_setSeen_12 rfl ?_
  refine ab_iconst (v := 3) dX0_setSeen_13 (by decide) ?_
  refine ab_iload 4 dX0_setSeen_14 rfl ?_
  refine ab_iastj (j := 3) dX0_setSeen_16 (sa1.of hm10) (vin (by decide)) (by decide) ?_
  refine ab_nameM (fun M13 hM13 => ?_)
  have h := h M13 hM13
  have hs16 : Sm M9 M13 := hM13 ▸ (Sm.refl _).i
  have hm14 : Sm M M13 := hm10.trans hs16
  have hl15 := hL.of hm14
  exact ab_vret dX0_setSeen_17 rfl h
theorem dX0_temper_0 : decode cX0_temper 0 = .ok (.iconst 0, 1) := by decide +kernel
theorem dX0_temper_1 : decode cX0_temper 1 = .ok (.istore_n 1, 1) := by decide +kernel
theorem dX0_temper_2 : decode cX0_temper 2 = .ok (.iconst 0, 1) := by decide +kernel
theorem dX0_temper_3 : decode cX0_temper 3 = .ok (.istore_n 2, 1) := by decide +kernel
theorem dX0_temper_4 : decode cX0_temper 4 = .ok (.iload_n 2, 1) := by decide +kernel
theorem dX0_temper_5 : decode cX0_temper 5 = .ok (.iconst 3, 1) := by decide +kernel
theorem dX0_temper_6 : decode cX0_temper 6 = .ok (.if_icmp .ge 26, 3) := by decide +kernel
theorem dX0_temper_9 : decode cX0_temper 9 = .ok (.aload_n 0, 1) := by decide +kernel
theorem dX0_temper_10 : decode cX0_temper 10 = .ok (.iload_n 2, 1) := by decide +kernel
theorem dX0_temper_11 : decode cX0_temper 11 = .ok (.bipush 99, 2) := by decide +kernel
theorem dX0_temper_13 : decode cX0_temper 13 = .ok (.aload_n 0, 1) := by decide +kernel
theorem dX0_temper_14 : decode cX0_temper 14 = .ok (.iload_n 2, 1) := by decide +kernel
theorem dX0_temper_15 : decode cX0_temper 15 = .ok (.iaload, 1) := by decide +kernel
theorem dX0_temper_16 : decode cX0_temper 16 = .ok (.invokestatic 88, 3) := by decide +kernel
theorem dX0_temper_19 : decode cX0_temper 19 = .ok (.iastore, 1) := by decide +kernel
theorem dX0_temper_20 : decode cX0_temper 20 = .ok (.iload_n 1, 1) := by decide +kernel
theorem dX0_temper_21 : decode cX0_temper 21 = .ok (.aload_n 0, 1) := by decide +kernel
theorem dX0_temper_22 : decode cX0_temper 22 = .ok (.iload_n 2, 1) := by decide +kernel
theorem dX0_temper_23 : decode cX0_temper 23 = .ok (.iaload, 1) := by decide +kernel
theorem dX0_temper_24 : decode cX0_temper 24 = .ok (.iadd, 1) := by decide +kernel
theorem dX0_temper_25 : decode cX0_temper 25 = .ok (.istore_n 1, 1) := by decide +kernel
theorem dX0_temper_26 : decode cX0_temper 26 = .ok (.iinc 2 1, 3) := by decide +kernel
theorem dX0_temper_29 : decode cX0_temper 29 = .ok (.goto (-25), 3) := by decide +kernel
theorem dX0_temper_32 : decode cX0_temper 32 = .ok (.iload_n 1, 1) := by decide +kernel
theorem dX0_temper_33 : decode cX0_temper 33 = .ok (.ifCond .ne 7, 3) := by decide +kernel
theorem dX0_temper_36 : decode cX0_temper 36 = .ok (.aload_n 0, 1) := by decide +kernel
theorem dX0_temper_37 : decode cX0_temper 37 = .ok (.iconst 1, 1) := by decide +kernel
theorem dX0_temper_38 : decode cX0_temper 38 = .ok (.iconst 1, 1) := by decide +kernel
theorem dX0_temper_39 : decode cX0_temper 39 = .ok (.iastore, 1) := by decide +kernel
theorem dX0_temper_40 : decode cX0_temper 40 = .ok (.return_, 1) := by decide +kernel
def LX0_temper_4 (D : GD) (d : Nat) (v0 : Nat) (v1 : Int32) (v2 : Int32) (M : Mm) (post : Option Value → Mm → Prop) : Prop := AW D (d + 1) 0 0 mX0_temper 0 0 4 [(0, .ref v0), (1, .int v1), (2, .int v2)] [] M post
set_option maxRecDepth 20000 in
theorem rX0_temper (D : GD) (d : Nat) (a1 : Nat) (M : Mm) (post : Option Value → Mm → Prop) (hL : Lay 0 0 M) (sa1 : Sh M a1 (1, 4))
    (h : LX0_temper_4 D d a1 (0 : Int32) (0 : Int32) M post) :
    AM D (d + 1) 0 0 mX0_temper [.ref a1] M post := by
  refine AM.of (by decide) (Nat.le_of_ble_eq_true rfl) ?_
  show AW D (d + 1) 0 0 mX0_temper 0 0 0 [(0, .ref a1)] [] M post
  refine ab_iconst (v := 0) dX0_temper_0 (by decide) ?_
  refine ab_istore_n (lv1 := [(1, .int (0 : Int32)), (0, .ref a1)]) dX0_temper_1 (by decide) rfl ?_
  refine ab_iconst (v := 0) dX0_temper_2 (by decide) ?_
  refine ab_istore_n (lv1 := [(2, .int (0 : Int32)), (1, .int (0 : Int32)), (0, .ref a1)]) dX0_temper_3 (by decide) rfl ?_
  exact ab_sub [2, 1, 0] rfl h
set_option maxRecDepth 20000 in
theorem rX0_temper_4 (D : GD) (d : Nat)  (v0 : Nat) (v1 : Int32) (v2 : Int32) (M : Mm) (post : Option Value → Mm → Prop) (hL : Lay 0 0 M) (sv0 : Sh M v0 (1, 4))
    (h : (((3 : Int32) ≤ v2 → ((¬ v1 = 0 → post none M) ∧ (v1 = 0 → ∀ M3 : Mm, M3 = sI M v0 1 (1 : Int32) → post none M3))) ∧ (¬ (3 : Int32) ≤ v2 → vp_in v2 4 ∧ ∀ M8 : Mm, M8 = sI M v0 v2.toNatClampNeg (if (gI M v0 v2.toNatClampNeg) < (99 : Int32) then (gI M v0 v2.toNatClampNeg) else (99 : Int32)) → ∀ x12 : Int32, x12 = (v1 + (gI M8 v0 v2.toNatClampNeg)) → ∀ x13 : Int32, x13 = v2 + (1 : Int32) → LX0_temper_4 D d v0 x12 x13 M8 post))) :
    LX0_temper_4 D d v0 v1 v2 M post := by
  show AW D (d + 1) 0 0 mX0_temper 0 0 4 [(0, .ref v0), (1, .int v1), (2, .int v2)] [] M post
  refine ab_iload_n 2 dX0_temper_4 rfl ?_
  refine ab_iconst (v := 3) dX0_temper_5 (by decide) ?_
  refine ab_icmp_ge (tgt := 32) dX0_temper_6 (by decide) (fun c1 => ?_) (fun c1 => ?_)
  · have h := h.1 c1
    refine ab_iload_n 1 dX0_temper_32 rfl ?_
    refine ab_if_ne (tgt := 40) dX0_temper_33 (by decide) (fun c2 => ?_) (fun c2 => ?_)
    · have h := h.1 c2
      exact ab_vret dX0_temper_40 rfl h
    · have h := h.2 c2
      refine ab_aload_n 0 dX0_temper_36 rfl ?_
      refine ab_iconst (v := 1) dX0_temper_37 (by decide) ?_
      refine ab_iconst (v := 1) dX0_temper_38 (by decide) ?_
      refine ab_iastj (j := 1) dX0_temper_39 (sv0.of (Sm.refl M)) (vin (by decide)) (by decide) ?_
      refine ab_nameM (fun M3 hM3 => ?_)
      have h := h M3 hM3
      have hs6 : Sm M M3 := hM3 ▸ (Sm.refl _).i
      have hm4 : Sm M M3 := (Sm.refl M).trans hs6
      have hl5 := hL.of hm4
      exact ab_vret dX0_temper_40 rfl h
  · have h := h.2 c1
    refine ab_aload_n 0 dX0_temper_9 rfl ?_
    refine ab_iload_n 2 dX0_temper_10 rfl ?_
    refine ab_bipush (v := 99) dX0_temper_11 (by decide) ?_
    refine ab_aload_n 0 dX0_temper_13 rfl ?_
    refine ab_iload_n 2 dX0_temper_14 rfl ?_
    have hb7 := h.1
    have h := h.2
    refine ab_ialdj (j := v2.toNatClampNeg) dX0_temper_15 (sv0.of (Sm.refl M)) hb7 rfl ?_
    refine ab_mmin (st := [.int v2, .ref v0]) dX0_temper_16 w_628 (Nat.le_of_ble_eq_true rfl) (Nat.succ_le_succ (Nat.zero_le _)) ?_
    refine ab_iastj (j := v2.toNatClampNeg) dX0_temper_19 (sv0.of (Sm.refl M)) hb7 rfl ?_
    refine ab_nameM (fun M8 hM8 => ?_)
    have h := h M8 hM8
    have hs11 : Sm M M8 := hM8 ▸ (Sm.refl _).i
    have hm9 : Sm M M8 := (Sm.refl M).trans hs11
    have hl10 := hL.of hm9
    refine ab_iload_n 1 dX0_temper_20 rfl ?_
    refine ab_aload_n 0 dX0_temper_21 rfl ?_
    refine ab_iload_n 2 dX0_temper_22 rfl ?_
    refine ab_ialdj (j := v2.toNatClampNeg) dX0_temper_23 (sv0.of hm9) hb7 rfl ?_
    refine ab_iadd dX0_temper_24 ?_
    refine ab_topi (fun x12 hx12 => ?_)
    have h := h x12 hx12
    refine ab_istore_n (lv1 := [(1, .int x12), (0, .ref v0), (2, .int v2)]) dX0_temper_25 (by decide) rfl ?_
    obtain ⟨x13, hx13⟩ : ∃ y : Int32, y = v2 + (1 : Int32) := ⟨_, rfl⟩
    have h := h x13 hx13
    refine ab_iinc (v := x13) 2 (lv1 := [(2, .int x13), (1, .int x12), (0, .ref v0)]) dX0_temper_26 rfl (by rw [hx13]; rfl) (by decide) rfl ?_
    refine ab_goto (tgt := 4) dX0_temper_29 (by decide) ?_
    exact ab_sub [2, 1, 0] rfl h
theorem dX0_follow_0 : decode cX0_follow 0 = .ok (.aload_n 2, 1) := by decide +kernel
theorem dX0_follow_1 : decode cX0_follow 1 = .ok (.iconst 0, 1) := by decide +kernel
theorem dX0_follow_2 : decode cX0_follow 2 = .ok (.invokestatic 40, 3) := by decide +kernel
theorem dX0_follow_5 : decode cX0_follow 5 = .ok (.iconst 0, 1) := by decide +kernel
theorem dX0_follow_6 : decode cX0_follow 6 = .ok (.istore_n 3, 1) := by decide +kernel
theorem dX0_follow_7 : decode cX0_follow 7 = .ok (.iconst 0, 1) := by decide +kernel
theorem dX0_follow_8 : decode cX0_follow 8 = .ok (.istore 4, 2) := by decide +kernel
theorem dX0_follow_10 : decode cX0_follow 10 = .ok (.iload 4, 2) := by decide +kernel
theorem dX0_follow_12 : decode cX0_follow 12 = .ok (.aload_n 0, 1) := by decide +kernel
theorem dX0_follow_13 : decode cX0_follow 13 = .ok (.arraylength, 1) := by decide +kernel
theorem dX0_follow_14 : decode cX0_follow 14 = .ok (.if_icmp .ge 164, 3) := by decide +kernel
theorem dX0_follow_17 : decode cX0_follow 17 = .ok (.aload_n 0, 1) := by decide +kernel
theorem dX0_follow_18 : decode cX0_follow 18 = .ok (.iload 4, 2) := by decide +kernel
theorem dX0_follow_20 : decode cX0_follow 20 = .ok (.iaload, 1) := by decide +kernel
theorem dX0_follow_21 : decode cX0_follow 21 = .ok (.ifCond .eq 157, 3) := by decide +kernel
theorem dX0_follow_24 : decode cX0_follow 24 = .ok (.aload_n 0, 1) := by decide +kernel
theorem dX0_follow_25 : decode cX0_follow 25 = .ok (.iload 4, 2) := by decide +kernel
theorem dX0_follow_27 : decode cX0_follow 27 = .ok (.iaload, 1) := by decide +kernel
theorem dX0_follow_28 : decode cX0_follow 28 = .ok (.iconst 3, 1) := by decide +kernel
theorem dX0_follow_29 : decode cX0_follow 29 = .ok (.ishr, 1) := by decide +kernel
theorem dX0_follow_30 : decode cX0_follow 30 = .ok (.iconst 3, 1) := by decide +kernel
theorem dX0_follow_31 : decode cX0_follow 31 = .ok (.iand, 1) := by decide +kernel
theorem dX0_follow_32 : decode cX0_follow 32 = .ok (.istore 5, 2) := by decide +kernel
theorem dX0_follow_34 : decode cX0_follow 34 = .ok (.aload_n 0, 1) := by decide +kernel
theorem dX0_follow_35 : decode cX0_follow 35 = .ok (.iload 4, 2) := by decide +kernel
theorem dX0_follow_37 : decode cX0_follow 37 = .ok (.iaload, 1) := by decide +kernel
theorem dX0_follow_38 : decode cX0_follow 38 = .ok (.bipush 7, 2) := by decide +kernel
theorem dX0_follow_40 : decode cX0_follow 40 = .ok (.ishr, 1) := by decide +kernel
theorem dX0_follow_41 : decode cX0_follow 41 = .ok (.istore 6, 2) := by decide +kernel
theorem dX0_follow_43 : decode cX0_follow 43 = .ok (.iload_n 3, 1) := by decide +kernel
theorem dX0_follow_44 : decode cX0_follow 44 = .ok (.iconst 1, 1) := by decide +kernel
theorem dX0_follow_45 : decode cX0_follow 45 = .ok (.iand, 1) := by decide +kernel
theorem dX0_follow_46 : decode cX0_follow 46 = .ok (.istore 7, 2) := by decide +kernel
theorem dX0_follow_48 : decode cX0_follow 48 = .ok (.aload_n 0, 1) := by decide +kernel
theorem dX0_follow_49 : decode cX0_follow 49 = .ok (.iload 4, 2) := by decide +kernel
theorem dX0_follow_51 : decode cX0_follow 51 = .ok (.iaload, 1) := by decide +kernel
theorem dX0_follow_52 : decode cX0_follow 52 = .ok (.bipush 7, 2) := by decide +kernel
theorem dX0_follow_54 : decode cX0_follow 54 = .ok (.iand, 1) := by decide +kernel
theorem dX0_follow_55 : decode cX0_follow 55 = .ok (.tableswitch 101 1 4 #[29, 62, 69, 91], 29) := by decide +kernel
theorem dX0_follow_84 : decode cX0_follow 84 = .ok (.iload_n 3, 1) := by decide +kernel
theorem dX0_follow_85 : decode cX0_follow 85 = .ok (.iconst 1, 1) := by decide +kernel
theorem dX0_follow_86 : decode cX0_follow 86 = .ok (.ishl, 1) := by decide +kernel
theorem dX0_follow_87 : decode cX0_follow 87 = .ok (.aload_n 1, 1) := by decide +kernel
theorem dX0_follow_88 : decode cX0_follow 88 = .ok (.iload 5, 2) := by decide +kernel
theorem dX0_follow_90 : decode cX0_follow 90 = .ok (.iaload, 1) := by decide +kernel
theorem dX0_follow_91 : decode cX0_follow 91 = .ok (.aload_n 0, 1) := by decide +kernel
theorem dX0_follow_92 : decode cX0_follow 92 = .ok (.iload 4, 2) := by decide +kernel
theorem dX0_follow_94 : decode cX0_follow 94 = .ok (.iaload, 1) := by decide +kernel
theorem dX0_follow_95 : decode cX0_follow 95 = .ok (.iconst 5, 1) := by decide +kernel
theorem dX0_follow_96 : decode cX0_follow 96 = .ok (.ishr, 1) := by decide +kernel
theorem dX0_follow_97 : decode cX0_follow 97 = .ok (.iconst 3, 1) := by decide +kernel
theorem dX0_follow_98 : decode cX0_follow 98 = .ok (.iand, 1) := by decide +kernel
theorem dX0_follow_99 : decode cX0_follow 99 = .ok (.iload 6, 2) := by decide +kernel
theorem dX0_follow_101 : decode cX0_follow 101 = .ok (.invokestatic 106, 3) := by decide +kernel
theorem dX0_follow_104 : decode cX0_follow 104 = .ok (.ifCond .eq 7, 3) := by decide +kernel
theorem dX0_follow_107 : decode cX0_follow 107 = .ok (.iconst 1, 1) := by decide +kernel
theorem dX0_follow_108 : decode cX0_follow 108 = .ok (.goto 4, 3) := by decide +kernel
theorem dX0_follow_111 : decode cX0_follow 111 = .ok (.iconst 0, 1) := by decide +kernel
theorem dX0_follow_112 : decode cX0_follow 112 = .ok (.ior, 1) := by decide +kernel
theorem dX0_follow_113 : decode cX0_follow 113 = .ok (.istore_n 3, 1) := by decide +kernel
theorem dX0_follow_114 : decode cX0_follow 114 = .ok (.goto 58, 3) := by decide +kernel
theorem dX0_follow_117 : decode cX0_follow 117 = .ok (.iload_n 3, 1) := by decide +kernel
theorem dX0_follow_118 : decode cX0_follow 118 = .ok (.iconst 1, 1) := by decide +kernel
theorem dX0_follow_119 : decode cX0_follow 119 = .ok (.ixor, 1) := by decide +kernel
theorem dX0_follow_120 : decode cX0_follow 120 = .ok (.istore_n 3, 1) := by decide +kernel
theorem dX0_follow_121 : decode cX0_follow 121 = .ok (.goto 51, 3) := by decide +kernel
theorem dX0_follow_124 : decode cX0_follow 124 = .ok (.iload 7, 2) := by decide +kernel
theorem dX0_follow_126 : decode cX0_follow 126 = .ok (.iconst 1, 1) := by decide +kernel
theorem dX0_follow_127 : decode cX0_follow 127 = .ok (.if_icmp .ne 9, 3) := by decide +kernel
theorem dX0_follow_130 : decode cX0_follow 130 = .ok (.iload_n 3, 1) := by decide +kernel
theorem dX0_follow_131 : decode cX0_follow 131 = .ok (.iconst 1, 1) := by decide +kernel
theorem dX0_follow_132 : decode cX0_follow 132 = .ok (.ishr, 1) := by decide +kernel
theorem dX0_follow_133 : decode cX0_follow 133 = .ok (.goto 9, 3) := by decide +kernel
theorem dX0_follow_136 : decode cX0_follow 136 = .ok (.iload_n 3, 1) := by decide +kernel
theorem dX0_follow_137 : decode cX0_follow 137 = .ok (.iconst 1, 1) := by decide +kernel
theorem dX0_follow_138 : decode cX0_follow 138 = .ok (.ishr, 1) := by decide +kernel
theorem dX0_follow_139 : decode cX0_follow 139 = .ok (.bipush (-2), 2) := by decide +kernel
theorem dX0_follow_141 : decode cX0_follow 141 = .ok (.iand, 1) := by decide +kernel
theorem dX0_follow_142 : decode cX0_follow 142 = .ok (.istore_n 3, 1) := by decide +kernel
theorem dX0_follow_143 : decode cX0_follow 143 = .ok (.goto 29, 3) := by decide +kernel
theorem dX0_follow_146 : decode cX0_follow 146 = .ok (.iload_n 3, 1) := by decide +kernel
theorem dX0_follow_147 : decode cX0_follow 147 = .ok (.iconst 1, 1) := by decide +kernel
theorem dX0_follow_148 : decode cX0_follow 148 = .ok (.ishr, 1) := by decide +kernel
theorem dX0_follow_149 : decode cX0_follow 149 = .ok (.iload 7, 2) := by decide +kernel
theorem dX0_follow_151 : decode cX0_follow 151 = .ok (.ior, 1) := by decide +kernel
theorem dX0_follow_152 : decode cX0_follow 152 = .ok (.istore_n 3, 1) := by decide +kernel
theorem dX0_follow_153 : decode cX0_follow 153 = .ok (.goto 19, 3) := by decide +kernel
theorem dX0_follow_156 : decode cX0_follow 156 = .ok (.aload_n 2, 1) := by decide +kernel
theorem dX0_follow_157 : decode cX0_follow 157 = .ok (.iload 5, 2) := by decide +kernel
theorem dX0_follow_159 : decode cX0_follow 159 = .ok (.dup2, 1) := by decide +kernel
theorem dX0_follow_160 : decode cX0_follow 160 = .ok (.iaload, 1) := by decide +kernel
theorem dX0_follow_161 : decode cX0_follow 161 = .ok (.iload 7, 2) := by decide +kernel
theorem dX0_follow_163 : decode cX0_follow 163 = .ok (.iload 6, 2) := by decide +kernel
theorem dX0_follow_165 : decode cX0_follow 165 = .ok (.imul, 1) := by decide +kernel
theorem dX0_follow_166 : decode cX0_follow 166 = .ok (.iadd, 1) := by decide +kernel
theorem dX0_follow_167 : decode cX0_follow 167 = .ok (.iastore, 1) := by decide +kernel
theorem dX0_follow_168 : decode cX0_follow 168 = .ok (.iload_n 3, 1) := by decide +kernel
theorem dX0_follow_169 : decode cX0_follow 169 = .ok (.iconst 1, 1) := by decide +kernel
theorem dX0_follow_170 : decode cX0_follow 170 = .ok (.ishr, 1) := by decide +kernel
theorem dX0_follow_171 : decode cX0_follow 171 = .ok (.istore_n 3, 1) := by decide +kernel
theorem dX0_follow_172 : decode cX0_follow 172 = .ok (.iinc 4 1, 3) := by decide +kernel
theorem dX0_follow_175 : decode cX0_follow 175 = .ok (.goto (-165), 3) := by decide +kernel
theorem dX0_follow_178 : decode cX0_follow 178 = .ok (.return_, 1) := by decide +kernel
def LX0_follow_10 (D : GD) (d : Nat) (v0 : Nat) (v1 : Nat) (v2 : Nat) (v3 : Int32) (v4 : Int32) (M : Mm) (post : Option Value → Mm → Prop) : Prop := AW D (d + 1) 0 0 mX0_follow 0 0 10 [(0, .ref v0), (1, .ref v1), (2, .ref v2), (3, .int v3), (4, .int v4)] [] M post
set_option maxRecDepth 20000 in
theorem rX0_follow (D : GD) (d : Nat) (a1 : Nat) (a2 : Nat) (a3 : Nat) (M : Mm) (post : Option Value → Mm → Prop) (hL : Lay 0 0 M) (sa1 : Sh M a1 (1, 100)) (sa2 : Sh M a2 (1, 4)) (sa3 : Sh M a3 (1, 4))
    (h : AMv D d mJ7_fill_53178 [.ref a3, .int (0 : Int32)] M (fun M1 => LX0_follow_10 D d a1 a2 a3 (0 : Int32) (0 : Int32) M1 post)) :
    AM D (d + 1) 0 0 mX0_follow [.ref a1, .ref a2, .ref a3] M post := by
  refine AM.of (by decide) (Nat.le_of_ble_eq_true rfl) ?_
  show AW D (d + 1) 0 0 mX0_follow 0 0 0 [(0, .ref a1), (1, .ref a2), (2, .ref a3)] [] M post
  refine ab_aload_n 2 dX0_follow_0 rfl ?_
  refine ab_iconst (v := 0) dX0_follow_1 (by decide) ?_
  refine ab_callS (d' := d) (mc' := 0) (ms' := 0) (vs := [.ref a3, .int (0 : Int32)]) (st := []) dX0_follow_2 ⟨cw_J7_fill_53178, w_149⟩ w_150 rfl rfl (Nat.le_of_ble_eq_true rfl) (Nat.le_refl _) (Nat.zero_le _) (Nat.zero_le _) (AM.mono h (fun r M1 ⟨hr3, hc4, h⟩ => ?_))
  subst hr3
  refine ab_rv ?_
  have hm5 : Sm M M1 := (Sm.refl M).trans hc4
  have hl6 := hL.of hm5
  refine ab_iconst (v := 0) dX0_follow_5 (by decide) ?_
  refine ab_istore_n (lv1 := [(3, .int (0 : Int32)), (0, .ref a1), (1, .ref a2), (2, .ref a3)]) dX0_follow_6 (by decide) rfl ?_
  refine ab_iconst (v := 0) dX0_follow_7 (by decide) ?_
  refine ab_istore (lv1 := [(4, .int (0 : Int32)), (3, .int (0 : Int32)), (0, .ref a1), (1, .ref a2), (2, .ref a3)]) dX0_follow_8 (by decide) rfl ?_
  exact ab_sub [2, 3, 4, 1, 0] rfl h
set_option maxRecDepth 20000 in
theorem rX0_follow_10 (D : GD) (d : Nat)  (v0 : Nat) (v1 : Nat) (v2 : Nat) (v3 : Int32) (v4 : Int32) (M : Mm) (post : Option Value → Mm → Prop) (hL : Lay 0 0 M) (sv0 : Sh M v0 (1, 100)) (sv1 : Sh M v1 (1, 4)) (sv2 : Sh M v2 (1, 4))
    (h : (((100 : Int32) ≤ v4 → post none M) ∧ (¬ (100 : Int32) ≤ v4 → vp_in v4 100 ∧ (((gI M v0 v4.toNatClampNeg) = 0 → post none M) ∧ (¬ (gI M v0 v4.toNatClampNeg) = 0 → ∀ x4 : Int32, x4 = (((gI M v0 v4.toNatClampNeg) >>> ((3 : Int32) &&& 31)) &&& (3 : Int32)) → ∀ x5 : Int32, x5 = ((gI M v0 v4.toNatClampNeg) >>> ((7 : Int32) &&& 31)) → ∀ x6 : Int32, x6 = (v3 &&& (1 : Int32)) → ((((gI M v0 v4.toNatClampNeg) &&& (7 : Int32)) = (1 : Int32) → vp_in x4 4 ∧ AMi D d mX0_holds [.int (gI M v1 x4.toNatClampNeg), .int (((gI M v0 v4.toNatClampNeg) >>> ((5 : Int32) &&& 31)) &&& (3 : Int32)), .int x5] M (fun x10 M9 => ((x10 = 0 → ∀ x16 : Int32, x16 = ((v3 <<< ((1 : Int32) &&& 31)) ||| (0 : Int32)) → ∀ x17 : Int32, x17 = v4 + (1 : Int32) → LX0_follow_10 D d v0 v1 v2 x16 x17 M9 post) ∧ (¬ x10 = 0 → ∀ x18 : Int32, x18 = ((v3 <<< ((1 : Int32) &&& 31)) ||| (1 : Int32)) → ∀ x19 : Int32, x19 = v4 + (1 : Int32) → LX0_follow_10 D d v0 v1 v2 x18 x19 M9 post)))) ∧ ((((gI M v0 v4.toNatClampNeg) &&& (7 : Int32)) = (2 : Int32) → ∀ x21 : Int32, x21 = (v3 ^^^ (1 : Int32)) → ∀ x22 : Int32, x22 = v4 + (1 : Int32) → LX0_follow_10 D d v0 v1 v2 x21 x22 M post) ∧ ((((gI M v0 v4.toNatClampNeg) &&& (7 : Int32)) = (3 : Int32) → ((¬ x6 = (1 : Int32) → ∀ x25 : Int32, x25 = ((v3 >>> ((1 : Int32) &&& 31)) &&& (-2 : Int32)) → ∀ x26 : Int32, x26 = v4 + (1 : Int32) → LX0_follow_10 D d v0 v1 v2 x25 x26 M post) ∧ (x6 = (1 : Int32) → ∀ x27 : Int32, x27 = (v3 >>> ((1 : Int32) &&& 31)) → ∀ x28 : Int32, x28 = v4 + (1 : Int32) → LX0_follow_10 D d v0 v1 v2 x27 x28 M post))) ∧ ((((gI M v0 v4.toNatClampNeg) &&& (7 : Int32)) = (4 : Int32) → ∀ x30 : Int32, x30 = ((v3 >>> ((1 : Int32) &&& 31)) ||| x6) → ∀ x31 : Int32, x31 = v4 + (1 : Int32) → LX0_follow_10 D d v0 v1 v2 x30 x31 M post) ∧ ((¬ ((gI M v0 v4.toNatClampNeg) &&& (7 : Int32)) = (1 : Int32) → ¬ ((gI M v0 v4.toNatClampNeg) &&& (7 : Int32)) = (2 : Int32) → ¬ ((gI M v0 v4.toNatClampNeg) &&& (7 : Int32)) = (3 : Int32) → ¬ ((gI M v0 v4.toNatClampNeg) &&& (7 : Int32)) = (4 : Int32) → vp_in x4 4 ∧ ∀ M33 : Mm, M33 = sI M v2 x4.toNatClampNeg ((gI M v2 x4.toNatClampNeg) + (x6 * x5)) → ∀ x37 : Int32, x37 = (v3 >>> ((1 : Int32) &&& 31)) → ∀ x38 : Int32, x38 = v4 + (1 : Int32) → LX0_follow_10 D d v0 v1 v2 x37 x38 M33 post))))))))))) :
    LX0_follow_10 D d v0 v1 v2 v3 v4 M post := by
  show AW D (d + 1) 0 0 mX0_follow 0 0 10 [(0, .ref v0), (1, .ref v1), (2, .ref v2), (3, .int v3), (4, .int v4)] [] M post
  refine ab_iload 4 dX0_follow_10 rfl ?_
  refine ab_aload_n 0 dX0_follow_12 rfl ?_
  refine ab_alenv (t := 1) (n := 100) (v := 100) dX0_follow_13 (sv0.of (Sm.refl M)) (by decide) (by decide) rfl ?_
  refine ab_icmp_ge (tgt := 178) dX0_follow_14 (by decide) (fun c1 => ?_) (fun c1 => ?_)
  · have h := h.1 c1
    exact ab_vret dX0_follow_178 rfl h
  · have h := h.2 c1
    refine ab_aload_n 0 dX0_follow_17 rfl ?_
    refine ab_iload 4 dX0_follow_18 rfl ?_
    have hb2 := h.1
    have h := h.2
    refine ab_ialdj (j := v4.toNatClampNeg) dX0_follow_20 (sv0.of (Sm.refl M)) hb2 rfl ?_
    refine ab_if_eq (tgt := 178) dX0_follow_21 (by decide) (fun c3 => ?_) (fun c3 => ?_)
    · have h := h.1 c3
      exact ab_vret dX0_follow_178 rfl h
    · have h := h.2 c3
      refine ab_aload_n 0 dX0_follow_24 rfl ?_
      refine ab_iload 4 dX0_follow_25 rfl ?_
      refine ab_ialdj (j := v4.toNatClampNeg) dX0_follow_27 (sv0.of (Sm.refl M)) hb2 rfl ?_
      refine ab_iconst (v := 3) dX0_follow_28 (by decide) ?_
      refine ab_ishr dX0_follow_29 ?_
      refine ab_iconst (v := 3) dX0_follow_30 (by decide) ?_
      refine ab_iand dX0_follow_31 ?_
      refine ab_topi (fun x4 hx4 => ?_)
      have h := h x4 hx4
      refine ab_istore (lv1 := [(5, .int x4), (0, .ref v0), (1, .ref v1), (2, .ref v2), (3, .int v3), (4, .int v4)]) dX0_follow_32 (by decide) rfl ?_
      refine ab_aload_n 1 dX0_follow_34 rfl ?_
      refine ab_iload 5 dX0_follow_35 rfl ?_
      refine ab_ialdj (j := v4.toNatClampNeg) dX0_follow_37 (sv0.of (Sm.refl M)) hb2 rfl ?_
      refine ab_bipush (v := 7) dX0_follow_38 (by decide) ?_
      refine ab_ishr dX0_follow_40 ?_
      refine ab_topi (fun x5 hx5 => ?_)
      have h := h x5 hx5
      refine ab_istore (lv1 := [(6, .int x5), (5, .int x4), (0, .ref v0), (1, .ref v1), (2, .ref v2), (3, .int v3), (4, .int v4)]) dX0_follow_41 (by decide) rfl ?_
      refine ab_iload_n 5 dX0_follow_43 rfl ?_
      refine ab_iconst (v := 1) dX0_follow_44 (by decide) ?_
      refine ab_iand dX0_follow_45 ?_
      refine ab_topi (fun x6 hx6 => ?_)
      have h := h x6 hx6
      refine ab_istore (lv1 := [(7, .int x6), (6, .int x5), (5, .int x4), (0, .ref v0), (1, .ref v1), (2, .ref v2), (3, .int v3), (4, .int v4)]) dX0_follow_46 (by decide) rfl ?_
      refine ab_aload_n 3 dX0_follow_48 rfl ?_
      refine ab_iload 7 dX0_follow_49 rfl ?_
      refine ab_ialdj (j := v4.toNatClampNeg) dX0_follow_51 (sv0.of (Sm.refl M)) hb2 rfl ?_
      refine ab_bipush (v := 7) dX0_follow_52 (by decide) ?_
      refine ab_iand dX0_follow_54 ?_
      by_cases c7 : ((gI M v0 v4.toNatClampNeg) &&& (7 : Int32)) = (1 : Int32)
      · have h := h.1 c7
        refine ab_tableIn (off := (29)) (tgt := 84) dX0_follow_55 (by rw [c7]; decide) (by rw [c7]; decide) (by rw [c7]; decide) (by decide) ?_
        refine ab_iload_n 6 dX0_follow_84 rfl ?_
        refine ab_iconst (v := 1) dX0_follow_85 (by decide) ?_
        refine ab_ishl dX0_follow_86 ?_
        refine ab_aload_n 4 dX0_follow_87 rfl ?_
        refine ab_iload 2 dX0_follow_88 rfl ?_
        have hb8 := h.1
        have h := h.2
        refine ab_ialdj (j := x4.toNatClampNeg) dX0_follow_90 (sv1.of (Sm.refl M)) hb8 rfl ?_
        refine ab_aload_n 3 dX0_follow_91 rfl ?_
        refine ab_iload 7 dX0_follow_92 rfl ?_
        refine ab_ialdj (j := v4.toNatClampNeg) dX0_follow_94 (sv0.of (Sm.refl M)) hb2 rfl ?_
        refine ab_iconst (v := 5) dX0_follow_95 (by decide) ?_
        refine ab_ishr dX0_follow_96 ?_
        refine ab_iconst (v := 3) dX0_follow_97 (by decide) ?_
        refine ab_iand dX0_follow_98 ?_
        refine ab_iload 1 dX0_follow_99 rfl ?_
        refine ab_callS (d' := d) (mc' := 0) (ms' := 0) (vs := [.int (gI M v1 x4.toNatClampNeg), .int (((gI M v0 v4.toNatClampNeg) >>> ((5 : Int32) &&& 31)) &&& (3 : Int32)), .int x5]) (st := [.int (v3 <<< ((1 : Int32) &&& 31))]) dX0_follow_101 ⟨cw_X0_holds, w_625⟩ w_626 rfl rfl (Nat.le_of_ble_eq_true rfl) (Nat.le_refl _) (Nat.zero_le _) (Nat.zero_le _) (AM.mono h (fun r M9 ⟨x10, hr11, hc12, h⟩ => ?_))
        subst hr11
        refine ab_rs ?_
        have hm13 : Sm M M9 := (Sm.refl M).trans hc12
        have hl14 := hL.of hm13
        refine ab_if_eq (tgt := 111) dX0_follow_104 (by decide) (fun c15 => ?_) (fun c15 => ?_)
        · have h := h.1 c15
          refine ab_iconst (v := 0) dX0_follow_111 (by decide) ?_
          refine ab_ior dX0_follow_112 ?_
          refine ab_topi (fun x16 hx16 => ?_)
          have h := h x16 hx16
          refine ab_istore_n (lv1 := [(3, .int x16), (7, .int x6), (6, .int x5), (5, .int x4), (0, .ref v0), (1, .ref v1), (2, .ref v2), (4, .int v4)]) dX0_follow_113 (by decide) rfl ?_
          refine ab_goto (tgt := 172) dX0_follow_114 (by decide) ?_
          obtain ⟨x17, hx17⟩ : ∃ y : Int32, y = v4 + (1 : Int32) := ⟨_, rfl⟩
          have h := h x17 hx17
          refine ab_iinc (v := x17) 7 (lv1 := [(4, .int x17), (3, .int x16), (7, .int x6), (6, .int x5), (5, .int x4), (0, .ref v0), (1, .ref v1), (2, .ref v2)]) dX0_follow_172 rfl (by rw [hx17]; rfl) (by decide) rfl ?_
          refine ab_goto (tgt := 10) dX0_follow_175 (by decide) ?_
          exact ab_sub [5, 6, 7, 1, 0] rfl h
        · have h := h.2 c15
          refine ab_iconst (v := 1) dX0_follow_107 (by decide) ?_
          refine ab_goto (tgt := 112) dX0_follow_108 (by decide) ?_
          refine ab_ior dX0_follow_112 ?_
          refine ab_topi (fun x18 hx18 => ?_)
          have h := h x18 hx18
          refine ab_istore_n (lv1 := [(3, .int x18), (7, .int x6), (6, .int x5), (5, .int x4), (0, .ref v0), (1, .ref v1), (2, .ref v2), (4, .int v4)]) dX0_follow_113 (by decide) rfl ?_
          refine ab_goto (tgt := 172) dX0_follow_114 (by decide) ?_
          obtain ⟨x19, hx19⟩ : ∃ y : Int32, y = v4 + (1 : Int32) := ⟨_, rfl⟩
          have h := h x19 hx19
          refine ab_iinc (v := x19) 7 (lv1 := [(4, .int x19), (3, .int x18), (7, .int x6), (6, .int x5), (5, .int x4), (0, .ref v0), (1, .ref v1), (2, .ref v2)]) dX0_follow_172 rfl (by rw [hx19]; rfl) (by decide) rfl ?_
          refine ab_goto (tgt := 10) dX0_follow_175 (by decide) ?_
          exact ab_sub [5, 6, 7, 1, 0] rfl h
      · have h := h.2
        by_cases c20 : ((gI M v0 v4.toNatClampNeg) &&& (7 : Int32)) = (2 : Int32)
        · have h := h.1 c20
          refine ab_tableIn (off := (62)) (tgt := 117) dX0_follow_55 (by rw [c20]; decide) (by rw [c20]; decide) (by rw [c20]; decide) (by decide) ?_
          refine ab_iload_n 6 dX0_follow_117 rfl ?_
          refine ab_iconst (v := 1) dX0_follow_118 (by decide) ?_
          refine ab_ixor dX0_follow_119 ?_
          refine ab_topi (fun x21 hx21 => ?_)
          have h := h x21 hx21
          refine ab_istore_n (lv1 := [(3, .int x21), (7, .int x6), (6, .int x5), (5, .int x4), (0, .ref v0), (1, .ref v1), (2, .ref v2), (4, .int v4)]) dX0_follow_120 (by decide) rfl ?_
          refine ab_goto (tgt := 172) dX0_follow_121 (by decide) ?_
          obtain ⟨x22, hx22⟩ : ∃ y : Int32, y = v4 + (1 : Int32) := ⟨_, rfl⟩
          have h := h x22 hx22
          refine ab_iinc (v := x22) 7 (lv1 := [(4, .int x22), (3, .int x21), (7, .int x6), (6, .int x5), (5, .int x4), (0, .ref v0), (1, .ref v1), (2, .ref v2)]) dX0_follow_172 rfl (by rw [hx22]; rfl) (by decide) rfl ?_
          refine ab_goto (tgt := 10) dX0_follow_175 (by decide) ?_
          exact ab_sub [5, 6, 7, 1, 0] rfl h
        · have h := h.2
          by_cases c23 : ((gI M v0 v4.toNatClampNeg) &&& (7 : Int32)) = (3 : Int32)
          · have h := h.1 c23
            refine ab_tableIn (off := (69)) (tgt := 124) dX0_follow_55 (by rw [c23]; decide) (by rw [c23]; decide) (by rw [c23]; decide) (by decide) ?_
            refine ab_iload 0 dX0_follow_124 rfl ?_
            refine ab_iconst (v := 1) dX0_follow_126 (by decide) ?_
            refine ab_icmp_ne (tgt := 136) dX0_follow_127 (by decide) (fun c24 => ?_) (fun c24 => ?_)
            · have h := h.1 c24
              refine ab_iload_n 6 dX0_follow_136 rfl ?_
              refine ab_iconst (v := 1) dX0_follow_137 (by decide) ?_
              refine ab_ishr dX0_follow_138 ?_
              refine ab_bipush (v := (-2)) dX0_follow_139 (by decide) ?_
              refine ab_iand dX0_follow_141 ?_
              refine ab_topi (fun x25 hx25 => ?_)
              have h := h x25 hx25
              refine ab_istore_n (lv1 := [(3, .int x25), (7, .int x6), (6, .int x5), (5, .int x4), (0, .ref v0), (1, .ref v1), (2, .ref v2), (4, .int v4)]) dX0_follow_142 (by decide) rfl ?_
              refine ab_goto (tgt := 172) dX0_follow_143 (by decide) ?_
              obtain ⟨x26, hx26⟩ : ∃ y : Int32, y = v4 + (1 : Int32) := ⟨_, rfl⟩
              have h := h x26 hx26
              refine ab_iinc (v := x26) 7 (lv1 := [(4, .int x26), (3, .int x25), (7, .int x6), (6, .int x5), (5, .int x4), (0, .ref v0), (1, .ref v1), (2, .ref v2)]) dX0_follow_172 rfl (by rw [hx26]; rfl) (by decide) rfl ?_
              refine ab_goto (tgt := 10) dX0_follow_175 (by decide) ?_
              exact ab_sub [5, 6, 7, 1, 0] rfl h
            · have h := h.2 c24
              refine ab_iload_n 6 dX0_follow_130 rfl ?_
              refine ab_iconst (v := 1) dX0_follow_131 (by decide) ?_
              refine ab_ishr dX0_follow_132 ?_
              refine ab_goto (tgt := 142) dX0_follow_133 (by decide) ?_
              refine ab_topi (fun x27 hx27 => ?_)
              have h := h x27 hx27
              refine ab_istore_n (lv1 := [(3, .int x27), (7, .int x6), (6, .int x5), (5, .int x4), (0, .ref v0), (1, .ref v1), (2, .ref v2), (4, .int v4)]) dX0_follow_142 (by decide) rfl ?_
              refine ab_goto (tgt := 172) dX0_follow_143 (by decide) ?_
              obtain ⟨x28, hx28⟩ : ∃ y : Int32, y = v4 + (1 : Int32) := ⟨_, rfl⟩
              have h := h x28 hx28
              refine ab_iinc (v := x28) 7 (lv1 := [(4, .int x28), (3, .int x27), (7, .int x6), (6, .int x5), (5, .int x4), (0, .ref v0), (1, .ref v1), (2, .ref v2)]) dX0_follow_172 rfl (by rw [hx28]; rfl) (by decide) rfl ?_
              refine ab_goto (tgt := 10) dX0_follow_175 (by decide) ?_
              exact ab_sub [5, 6, 7, 1, 0] rfl h
          · have h := h.2
            by_cases c29 : ((gI M v0 v4.toNatClampNeg) &&& (7 : Int32)) = (4 : Int32)
            · have h := h.1 c29
              refine ab_tableIn (off := (91)) (tgt := 146) dX0_follow_55 (by rw [c29]; decide) (by rw [c29]; decide) (by rw [c29]; decide) (by decide) ?_
              refine ab_iload_n 6 dX0_follow_146 rfl ?_
              refine ab_iconst (v := 1) dX0_follow_147 (by decide) ?_
              refine ab_ishr dX0_follow_148 ?_
              refine ab_iload 0 dX0_follow_149 rfl ?_
              refine ab_ior dX0_follow_151 ?_
              refine ab_topi (fun x30 hx30 => ?_)
              have h := h x30 hx30
              refine ab_istore_n (lv1 := [(3, .int x30), (7, .int x6), (6, .int x5), (5, .int x4), (0, .ref v0), (1, .ref v1), (2, .ref v2), (4, .int v4)]) dX0_follow_152 (by decide) rfl ?_
              refine ab_goto (tgt := 172) dX0_follow_153 (by decide) ?_
              obtain ⟨x31, hx31⟩ : ∃ y : Int32, y = v4 + (1 : Int32) := ⟨_, rfl⟩
              have h := h x31 hx31
              refine ab_iinc (v := x31) 7 (lv1 := [(4, .int x31), (3, .int x30), (7, .int x6), (6, .int x5), (5, .int x4), (0, .ref v0), (1, .ref v1), (2, .ref v2)]) dX0_follow_172 rfl (by rw [hx31]; rfl) (by decide) rfl ?_
              refine ab_goto (tgt := 10) dX0_follow_175 (by decide) ?_
              exact ab_sub [5, 6, 7, 1, 0] rfl h
            · have h := h.2
              have h := h c7 c20 c23 c29
              refine ab_tableOut (tgt := 156) dX0_follow_55 (by have e0 := lv_neT (a := 1) c7 (by decide); have e1 := lv_neT (a := 2) c20 (by decide); have e2 := lv_neT (a := 3) c23 (by decide); have e3 := lv_neT (a := 4) c29 (by decide); omega) (by decide) ?_
              refine ab_aload_n 5 dX0_follow_156 rfl ?_
              refine ab_iload 2 dX0_follow_157 rfl ?_
              refine ab_dup2 dX0_follow_159 rfl rfl ?_
              have hb32 := h.1
              have h := h.2
              refine ab_ialdj (j := x4.toNatClampNeg) dX0_follow_160 (sv2.of (Sm.refl M)) hb32 rfl ?_
              refine ab_iload 0 dX0_follow_161 rfl ?_
              refine ab_iload 1 dX0_follow_163 rfl ?_
              refine ab_imul dX0_follow_165 ?_
              refine ab_iadd dX0_follow_166 ?_
              refine ab_iastj (j := x4.toNatClampNeg) dX0_follow_167 (sv2.of (Sm.refl M)) hb32 rfl ?_
              refine ab_nameM (fun M33 hM33 => ?_)
              have h := h M33 hM33
              have hs36 : Sm M M33 := hM33 ▸ (Sm.refl _).i
              have hm34 : Sm M M33 := (Sm.refl M).trans hs36
              have hl35 := hL.of hm34
              refine ab_iload_n 6 dX0_follow_168 rfl ?_
              refine ab_iconst (v := 1) dX0_follow_169 (by decide) ?_
              refine ab_ishr dX0_follow_170 ?_
              refine ab_topi (fun x37 hx37 => ?_)
              have h := h x37 hx37
              refine ab_istore_n (lv1 := [(3, .int x37), (7, .int x6), (6, .int x5), (5, .int x4), (0, .ref v0), (1, .ref v1), (2, .ref v2), (4, .int v4)]) dX0_follow_171 (by decide) rfl ?_
              obtain ⟨x38, hx38⟩ : ∃ y : Int32, y = v4 + (1 : Int32) := ⟨_, rfl⟩
              have h := h x38 hx38
              refine ab_iinc (v := x38) 7 (lv1 := [(4, .int x38), (3, .int x37), (7, .int x6), (6, .int x5), (5, .int x4), (0, .ref v0), (1, .ref v1), (2, .ref v2)]) dX0_follow_172 rfl (by rw [hx38]; rfl) (by decide) rfl ?_
              refine ab_goto (tgt := 10) dX0_follow_175 (by decide) ?_
              exact ab_sub [5, 6, 7, 1, 0] rfl h
theorem dX0_meet_0 : decode cX0_meet 0 = .ok (.aload_n 1, 1) := by decide +kernel
theorem dX0_meet_1 : decode cX0_meet 1 = .ok (.invokevirtual 69, 3) := by decide +kernel
theorem dX0_meet_4 : decode cX0_meet 4 = .ok (.ifCond .eq 20, 3) := by decide +kernel
theorem dX0_meet_7 : decode cX0_meet 7 = .ok (.aload_n 0, 1) := by decide +kernel
theorem dX0_meet_8 : decode cX0_meet 8 = .ok (.iconst 1, 1) := by decide +kernel
theorem dX0_meet_9 : decode cX0_meet 9 = .ok (.aload_n 2, 1) := by decide +kernel
theorem dX0_meet_10 : decode cX0_meet 10 = .ok (.aload_n 1, 1) := by decide +kernel
theorem dX0_meet_11 : decode cX0_meet 11 = .ok (.invokevirtual 75, 3) := by decide +kernel
theorem dX0_meet_14 : decode cX0_meet 14 = .ok (.aload_n 0, 1) := by decide +kernel
theorem dX0_meet_15 : decode cX0_meet 15 = .ok (.iconst 0, 1) := by decide +kernel
theorem dX0_meet_16 : decode cX0_meet 16 = .ok (.aload_n 1, 1) := by decide +kernel
theorem dX0_meet_17 : decode cX0_meet 17 = .ok (.aload_n 2, 1) := by decide +kernel
theorem dX0_meet_18 : decode cX0_meet 18 = .ok (.invokevirtual 75, 3) := by decide +kernel
theorem dX0_meet_21 : decode cX0_meet 21 = .ok (.goto 17, 3) := by decide +kernel
theorem dX0_meet_24 : decode cX0_meet 24 = .ok (.aload_n 0, 1) := by decide +kernel
theorem dX0_meet_25 : decode cX0_meet 25 = .ok (.iconst 0, 1) := by decide +kernel
theorem dX0_meet_26 : decode cX0_meet 26 = .ok (.aload_n 1, 1) := by decide +kernel
theorem dX0_meet_27 : decode cX0_meet 27 = .ok (.aload_n 2, 1) := by decide +kernel
theorem dX0_meet_28 : decode cX0_meet 28 = .ok (.invokevirtual 75, 3) := by decide +kernel
theorem dX0_meet_31 : decode cX0_meet 31 = .ok (.aload_n 0, 1) := by decide +kernel
theorem dX0_meet_32 : decode cX0_meet 32 = .ok (.iconst 1, 1) := by decide +kernel
theorem dX0_meet_33 : decode cX0_meet 33 = .ok (.aload_n 2, 1) := by decide +kernel
theorem dX0_meet_34 : decode cX0_meet 34 = .ok (.aload_n 1, 1) := by decide +kernel
theorem dX0_meet_35 : decode cX0_meet 35 = .ok (.invokevirtual 75, 3) := by decide +kernel
theorem dX0_meet_38 : decode cX0_meet 38 = .ok (.return_, 1) := by decide +kernel
set_option maxRecDepth 20000 in
theorem rX0_meet (D : GD) (d : Nat) (a1 ka1 ja1 : Nat) (a2 ka2 ja2 : Nat) (M : Mm) (post : Option Value → Mm → Prop) (hL : Lay 13 25 M) (hpa1 : Pl M a1 ka1 ja1) (hpa2 : Pl M a2 ka2 ja2)
    (h : AMi D d (vm_heeds ka1) [.ref a1] M (fun x2 M1 => ((x2 = 0 → AMv D d mX0_weighOne [.ref 13, .int (0 : Int32), .ref a1, .ref a2] M1 (fun M10 => AMv D d mX0_weighOne [.ref 13, .int (1 : Int32), .ref a2, .ref a1] M10 (fun M18 => post none M18))) ∧ (¬ x2 = 0 → AMv D d mX0_weighOne [.ref 13, .int (1 : Int32), .ref a2, .ref a1] M1 (fun M26 => AMv D d mX0_weighOne [.ref 13, .int (0 : Int32), .ref a1, .ref a2] M26 (fun M34 => post none M34)))))) :
    AM D (d + 1) 0 0 mX0_meet [.ref 13, .ref a1, .ref a2] M post := by
  refine AM.of (by decide) (Nat.le_of_ble_eq_true rfl) ?_
  show AW D (d + 1) 0 0 mX0_meet 0 0 0 [(0, .ref 13), (1, .ref a1), (2, .ref a2)] [] M post
  refine ab_aload_n 1 dX0_meet_0 rfl ?_
  refine vc_0_69 (d' := d) (vs := []) (st := []) rfl hpa1.2.1 dX0_meet_1 hpa1.1 rfl rfl (Nat.le_of_ble_eq_true rfl) (Nat.le_refl _) (AM.mono h (fun r M1 ⟨x2, hr3, hc4, h⟩ => ?_))
  subst hr3
  refine ab_rs ?_
  have hm5 : Sm M M1 := (Sm.refl M).trans hc4
  have hl6 := hL.of hm5
  have hp7 := hpa1.of hc4
  have hp8 := hpa2.of hc4
  refine ab_if_eq (tgt := 24) dX0_meet_4 (by decide) (fun c9 => ?_) (fun c9 => ?_)
  · have h := h.1 c9
    refine ab_aload_n 0 dX0_meet_24 rfl ?_
    refine ab_iconst (v := 0) dX0_meet_25 (by decide) ?_
    refine ab_aload_n 1 dX0_meet_26 rfl ?_
    refine ab_aload_n 2 dX0_meet_27 rfl ?_
    refine ab_callV (a := 13) (c0 := 0) (d' := d) (mc' := 0) (ms' := 0) (vs := [.int (0 : Int32), .ref a1, .ref a2]) (st := []) dX0_meet_28 ⟨cw_X0_weighOne, w_618⟩ w_620 w_15 (by decide) (hl6.sh 13 rfl (by decide) (by decide)).1 (hl6.sh 13 rfl (by decide) (by decide)).2 rfl rfl (Nat.le_of_ble_eq_true rfl) (Nat.le_refl _) (Nat.zero_le _) (Nat.zero_le _) (AM.mono h (fun r M10 ⟨hr12, hc13, h⟩ => ?_))
    subst hr12
    refine ab_rv ?_
    have hm14 : Sm M M10 := hm5.trans hc13
    have hl15 := hL.of hm14
    have hp16 := hp7.of hc13
    have hp17 := hp8.of hc13
    refine ab_aload_n 0 dX0_meet_31 rfl ?_
    refine ab_iconst (v := 1) dX0_meet_32 (by decide) ?_
    refine ab_aload_n 2 dX0_meet_33 rfl ?_
    refine ab_aload_n 1 dX0_meet_34 rfl ?_
    refine ab_callV (a := 13) (c0 := 0) (d' := d) (mc' := 0) (ms' := 0) (vs := [.int (1 : Int32), .ref a2, .ref a1]) (st := []) dX0_meet_35 ⟨cw_X0_weighOne, w_618⟩ w_620 w_15 (by decide) (hl15.sh 13 rfl (by decide) (by decide)).1 (hl15.sh 13 rfl (by decide) (by decide)).2 rfl rfl (Nat.le_of_ble_eq_true rfl) (Nat.le_refl _) (Nat.zero_le _) (Nat.zero_le _) (AM.mono h (fun r M18 ⟨hr20, hc21, h⟩ => ?_))
    subst hr20
    refine ab_rv ?_
    have hm22 : Sm M M18 := hm14.trans hc21
    have hl23 := hL.of hm22
    have hp24 := hp16.of hc21
    have hp25 := hp17.of hc21
    exact ab_vret dX0_meet_38 rfl h
  · have h := h.2 c9
    refine ab_aload_n 0 dX0_meet_7 rfl ?_
    refine ab_iconst (v := 1) dX0_meet_8 (by decide) ?_
    refine ab_aload_n 2 dX0_meet_9 rfl ?_
    refine ab_aload_n 1 dX0_meet_10 rfl ?_
    refine ab_callV (a := 13) (c0 := 0) (d' := d) (mc' := 0) (ms' := 0) (vs := [.int (1 : Int32), .ref a2, .ref a1]) (st := []) dX0_meet_11 ⟨cw_X0_weighOne, w_618⟩ w_620 w_15 (by decide) (hl6.sh 13 rfl (by decide) (by decide)).1 (hl6.sh 13 rfl (by decide) (by decide)).2 rfl rfl (Nat.le_of_ble_eq_true rfl) (Nat.le_refl _) (Nat.zero_le _) (Nat.zero_le _) (AM.mono h (fun r M26 ⟨hr28, hc29, h⟩ => ?_))
    subst hr28
    refine ab_rv ?_
    have hm30 : Sm M M26 := hm5.trans hc29
    have hl31 := hL.of hm30
    have hp32 := hp7.of hc29
    have hp33 := hp8.of hc29
    refine ab_aload_n 0 dX0_meet_14 rfl ?_
    refine ab_iconst (v := 0) dX0_meet_15 (by decide) ?_
    refine ab_aload_n 1 dX0_meet_16 rfl ?_
    refine ab_aload_n 2 dX0_meet_17 rfl ?_
    refine ab_callV (a := 13) (c0 := 0) (d' := d) (mc' := 0) (ms' := 0) (vs := [.int (0 : Int32), .ref a1, .ref a2]) (st := []) dX0_meet_18 ⟨cw_X0_weighOne, w_618⟩ w_620 w_15 (by decide) (hl31.sh 13 rfl (by decide) (by decide)).1 (hl31.sh 13 rfl (by decide) (by decide)).2 rfl rfl (Nat.le_of_ble_eq_true rfl) (Nat.le_refl _) (Nat.zero_le _) (Nat.zero_le _) (AM.mono h (fun r M34 ⟨hr36, hc37, h⟩ => ?_))
    subst hr36
    refine ab_rv ?_
    have hm38 : Sm M M34 := hm30.trans hc37
    have hl39 := hL.of hm38
    have hp40 := hp32.of hc37
    have hp41 := hp33.of hc37
    refine ab_goto (tgt := 38) dX0_meet_21 (by decide) ?_
    exact ab_vret dX0_meet_38 rfl h
theorem dX0_weighOne_0 : decode cX0_weighOne 0 = .ok (.aload_n 0, 1) := by decide +kernel
theorem dX0_weighOne_1 : decode cX0_weighOne 1 = .ok (.getfield 26, 3) := by decide +kernel
theorem dX0_weighOne_4 : decode cX0_weighOne 4 = .ok (.iload_n 1, 1) := by decide +kernel
theorem dX0_weighOne_5 : decode cX0_weighOne 5 = .ok (.aaload, 1) := by decide +kernel
theorem dX0_weighOne_6 : decode cX0_weighOne 6 = .ok (.astore 4, 2) := by decide +kernel
theorem dX0_weighOne_8 : decode cX0_weighOne 8 = .ok (.aload_n 2, 1) := by decide +kernel
theorem dX0_weighOne_9 : decode cX0_weighOne 9 = .ok (.getfield 79, 3) := by decide +kernel
theorem dX0_weighOne_12 : decode cX0_weighOne 12 = .ok (.aload_n 0, 1) := by decide +kernel
theorem dX0_weighOne_13 : decode cX0_weighOne 13 = .ok (.getfield 23, 3) := by decide +kernel
theorem dX0_weighOne_16 : decode cX0_weighOne 16 = .ok (.iload_n 1, 1) := by decide +kernel
theorem dX0_weighOne_17 : decode cX0_weighOne 17 = .ok (.aaload, 1) := by decide +kernel
theorem dX0_weighOne_18 : decode cX0_weighOne 18 = .ok (.aload 4, 2) := by decide +kernel
theorem dX0_weighOne_20 : decode cX0_weighOne 20 = .ok (.invokestatic 82, 3) := by decide +kernel
theorem dX0_weighOne_23 : decode cX0_weighOne 23 = .ok (.iload_n 1, 1) := by decide +kernel
theorem dX0_weighOne_24 : decode cX0_weighOne 24 = .ok (.ifCond .ne 16, 3) := by decide +kernel
theorem dX0_weighOne_27 : decode cX0_weighOne 27 = .ok (.aload_n 0, 1) := by decide +kernel
theorem dX0_weighOne_28 : decode cX0_weighOne 28 = .ok (.bipush 99, 2) := by decide +kernel
theorem dX0_weighOne_30 : decode cX0_weighOne 30 = .ok (.aload 4, 2) := by decide +kernel
theorem dX0_weighOne_32 : decode cX0_weighOne 32 = .ok (.iconst 3, 1) := by decide +kernel
theorem dX0_weighOne_33 : decode cX0_weighOne 33 = .ok (.iaload, 1) := by decide +kernel
theorem dX0_weighOne_34 : decode cX0_weighOne 34 = .ok (.invokestatic 88, 3) := by decide +kernel
theorem dX0_weighOne_37 : decode cX0_weighOne 37 = .ok (.putfield 29, 3) := by decide +kernel
theorem dX0_weighOne_40 : decode cX0_weighOne 40 = .ok (.aload_n 2, 1) := by decide +kernel
theorem dX0_weighOne_41 : decode cX0_weighOne 41 = .ok (.invokevirtual 69, 3) := by decide +kernel
theorem dX0_weighOne_44 : decode cX0_weighOne 44 = .ok (.ifCond .eq 18, 3) := by decide +kernel
theorem dX0_weighOne_47 : decode cX0_weighOne 47 = .ok (.aload_n 3, 1) := by decide +kernel
theorem dX0_weighOne_48 : decode cX0_weighOne 48 = .ok (.invokevirtual 69, 3) := by decide +kernel
theorem dX0_weighOne_51 : decode cX0_weighOne 51 = .ok (.ifCond .ne 11, 3) := by decide +kernel
theorem dX0_weighOne_54 : decode cX0_weighOne 54 = .ok (.aload_n 0, 1) := by decide +kernel
theorem dX0_weighOne_55 : decode cX0_weighOne 55 = .ok (.iload_n 1, 1) := by decide +kernel
theorem dX0_weighOne_56 : decode cX0_weighOne 56 = .ok (.invokevirtual 94, 3) := by decide +kernel
theorem dX0_weighOne_59 : decode cX0_weighOne 59 = .ok (.goto 4, 3) := by decide +kernel
theorem dX0_weighOne_62 : decode cX0_weighOne 62 = .ok (.iconst (-1), 1) := by decide +kernel
theorem dX0_weighOne_63 : decode cX0_weighOne 63 = .ok (.istore 5, 2) := by decide +kernel
theorem dX0_weighOne_65 : decode cX0_weighOne 65 = .ok (.aload_n 2, 1) := by decide +kernel
theorem dX0_weighOne_66 : decode cX0_weighOne 66 = .ok (.aload 4, 2) := by decide +kernel
theorem dX0_weighOne_68 : decode cX0_weighOne 68 = .ok (.aload_n 0, 1) := by decide +kernel
theorem dX0_weighOne_69 : decode cX0_weighOne 69 = .ok (.getfield 17, 3) := by decide +kernel
theorem dX0_weighOne_72 : decode cX0_weighOne 72 = .ok (.iload_n 1, 1) := by decide +kernel
theorem dX0_weighOne_73 : decode cX0_weighOne 73 = .ok (.aaload, 1) := by decide +kernel
theorem dX0_weighOne_74 : decode cX0_weighOne 74 = .ok (.aload_n 0, 1) := by decide +kernel
theorem dX0_weighOne_75 : decode cX0_weighOne 75 = .ok (.getfield 23, 3) := by decide +kernel
theorem dX0_weighOne_78 : decode cX0_weighOne 78 = .ok (.iload_n 1, 1) := by decide +kernel
theorem dX0_weighOne_79 : decode cX0_weighOne 79 = .ok (.aaload, 1) := by decide +kernel
theorem dX0_weighOne_80 : decode cX0_weighOne 80 = .ok (.iconst 0, 1) := by decide +kernel
theorem dX0_weighOne_81 : decode cX0_weighOne 81 = .ok (.iaload, 1) := by decide +kernel
theorem dX0_weighOne_82 : decode cX0_weighOne 82 = .ok (.iload 5, 2) := by decide +kernel
theorem dX0_weighOne_84 : decode cX0_weighOne 84 = .ok (.invokevirtual 98, 3) := by decide +kernel
theorem dX0_weighOne_87 : decode cX0_weighOne 87 = .ok (.aload 4, 2) := by decide +kernel
theorem dX0_weighOne_89 : decode cX0_weighOne 89 = .ok (.invokestatic 102, 3) := by decide +kernel
theorem dX0_weighOne_92 : decode cX0_weighOne 92 = .ok (.return_, 1) := by decide +kernel
set_option maxRecDepth 20000 in
theorem rX0_weighOne (D : GD) (d : Nat) (a1 : Int32) (a2 ka2 ja2 : Nat) (a3 ka3 ja3 : Nat) (M : Mm) (post : Option Value → Mm → Prop) (hL : Lay 13 25 M) (hpa2 : Pl M a2 ka2 ja2) (hpa3 : Pl M a3 ka3 ja3)
    (h : vp_in a1 2 ∧ AMv D d mX0_follow [.ref (5 + ja2), .ref (20 + a1.toNatClampNeg), .ref (23 + a1.toNatClampNeg)] M (fun M2 => ((¬ a1 = 0 → AMi D d (vm_heeds ka2) [.ref a2] M2 (fun x12 M11 => ((x12 = 0 → AMv D d (vm_weigh ka2) [.ref a2, .ref (23 + a1.toNatClampNeg), .ref (16 + a1.toNatClampNeg), .int (gI M11 (20 + a1.toNatClampNeg) 0), .int (-1 : Int32)] M11 (fun M20 => AMv D d mX0_temper [.ref (23 + a1.toNatClampNeg)] M20 (fun M28 => post none M28))) ∧ (¬ x12 = 0 → AMi D d (vm_heeds ka3) [.ref a3] M11 (fun x37 M36 => ((¬ x37 = 0 → AMv D d (vm_weigh ka2) [.ref a2, .ref (23 + a1.toNatClampNeg), .ref (16 + a1.toNatClampNeg), .int (gI M36 (20 + a1.toNatClampNeg) 0), .int (-1 : Int32)] M36 (fun M45 => AMv D d mX0_temper [.ref (23 + a1.toNatClampNeg)] M45 (fun M53 => post none M53))) ∧ (x37 = 0 → AMi D d mX0_replySide [.ref 13, .int a1] M36 (fun x62 M61 => AMv D d (vm_weigh ka2) [.ref a2, .ref (23 + a1.toNatClampNeg), .ref (16 + a1.toNatClampNeg), .int (gI M61 (20 + a1.toNatClampNeg) 0), .int x62] M61 (fun M69 => AMv D d mX0_temper [.ref (23 + a1.toNatClampNeg)] M69 (fun M77 => post none M77)))))))))) ∧ (a1 = 0 → ∀ M85 : Mm, M85 = sI M2 13 5 (if (gI M2 (23 + a1.toNatClampNeg) 3) < (99 : Int32) then (gI M2 (23 + a1.toNatClampNeg) 3) else (99 : Int32)) → AMi D d (vm_heeds ka2) [.ref a2] M85 (fun x92 M91 => ((x92 = 0 → AMv D d (vm_weigh ka2) [.ref a2, .ref (23 + a1.toNatClampNeg), .ref (16 + a1.toNatClampNeg), .int (gI M91 (20 + a1.toNatClampNeg) 0), .int (-1 : Int32)] M91 (fun M100 => AMv D d mX0_temper [.ref (23 + a1.toNatClampNeg)] M100 (fun M108 => post none M108))) ∧ (¬ x92 = 0 → AMi D d (vm_heeds ka3) [.ref a3] M91 (fun x117 M116 => ((¬ x117 = 0 → AMv D d (vm_weigh ka2) [.ref a2, .ref (23 + a1.toNatClampNeg), .ref (16 + a1.toNatClampNeg), .int (gI M116 (20 + a1.toNatClampNeg) 0), .int (-1 : Int32)] M116 (fun M125 => AMv D d mX0_temper [.ref (23 + a1.toNatClampNeg)] M125 (fun M133 => post none M133))) ∧ (x117 = 0 → AMi D d mX0_replySide [.ref 13, .int a1] M116 (fun x142 M141 => AMv D d (vm_weigh ka2) [.ref a2, .ref (23 + a1.toNatClampNeg), .ref (16 + a1.toNatClampNeg), .int (gI M141 (20 + a1.toNatClampNeg) 0), .int x142] M141 (fun M149 => AMv D d mX0_temper [.ref (23 + a1.toNatClampNeg)] M149 (fun M157 => post none M157))))))))))))) :
    AM D (d + 1) 0 0 mX0_weighOne [.ref 13, .int a1, .ref a2, .ref a3] M post := by
  refine AM.of (by decide) (Nat.le_of_ble_eq_true rfl) ?_
  show AW D (d + 1) 0 0 mX0_weighOne 0 0 0 [(0, .ref 13), (1, .int a1), (2, .ref a2), (3, .ref a3)] [] M post
  refine ab_aload_n 0 dX0_weighOne_0 rfl ?_
  refine ab_getP (r := 22) dX0_weighOne_1 fs_0_26_0 rfl (hL.sh 13 rfl (by decide) (by decide)).1 (hL.sh 13 rfl (by decide) (by decide)).2 (hL.pt 26 rfl (by decide) (by decide)) ?_
  refine ab_iload_n 1 dX0_weighOne_4 rfl ?_
  have hb1 := h.1
  have h := h.2
  refine ab_aald4j (j := a1.toNatClampNeg) (r := 23 + a1.toNatClampNeg) dX0_weighOne_5 (hL.sh 22 rfl (by decide) (by decide)) hb1 rfl (row_22 hL (by decide) (by decide) (vin_lt hb1)).1 ?_
  refine ab_astore (lv1 := [(4, .ref (23 + a1.toNatClampNeg)), (0, .ref 13), (1, .int a1), (2, .ref a2), (3, .ref a3)]) dX0_weighOne_6 (by decide) rfl ?_
  refine ab_aload_n 3 dX0_weighOne_8 rfl ?_
  refine ab_getP (r := 5 + ja2) dX0_weighOne_9 (pf_0_79 hpa2.2.1).1 (pf_0_79 hpa2.2.1).2 hpa2.1.1 hpa2.1.2 hpa2.2.2.2.2 ?_
  refine ab_aload_n 1 dX0_weighOne_12 rfl ?_
  refine ab_getP (r := 19) dX0_weighOne_13 fs_0_23_0 rfl (hL.sh 13 rfl (by decide) (by decide)).1 (hL.sh 13 rfl (by decide) (by decide)).2 (hL.pt 25 rfl (by decide) (by decide)) ?_
  refine ab_iload_n 2 dX0_weighOne_16 rfl ?_
  refine ab_aald4j (j := a1.toNatClampNeg) (r := 20 + a1.toNatClampNeg) dX0_weighOne_17 (hL.sh 19 rfl (by decide) (by decide)) hb1 rfl (row_19 hL (by decide) (by decide) (vin_lt hb1)).1 ?_
  refine ab_aload 0 dX0_weighOne_18 rfl ?_
  refine ab_callS (d' := d) (mc' := 0) (ms' := 0) (vs := [.ref (5 + ja2), .ref (20 + a1.toNatClampNeg), .ref (23 + a1.toNatClampNeg)]) (st := []) dX0_weighOne_20 ⟨cw_X0_follow, w_622⟩ w_623 rfl rfl (Nat.le_of_ble_eq_true rfl) (Nat.le_refl _) (Nat.zero_le _) (Nat.zero_le _) (AM.mono h (fun r M2 ⟨hr4, hc5, h⟩ => ?_))
  subst hr4
  refine ab_rv ?_
  have hm6 : Sm M M2 := (Sm.refl M).trans hc5
  have hl7 := hL.of hm6
  have hp8 := hpa2.of hc5
  have hp9 := hpa3.of hc5
  refine ab_iload_n 2 dX0_weighOne_23 rfl ?_
  refine ab_if_ne (tgt := 40) dX0_weighOne_24 (by decide) (fun c10 => ?_) (fun c10 => ?_)
  · have h := h.1 c10
    refine ab_aload_n 3 dX0_weighOne_40 rfl ?_
    refine vc_0_69 (d' := d) (vs := []) (st := []) rfl hp8.2.1 dX0_weighOne_41 hp8.1 rfl rfl (Nat.le_of_ble_eq_true rfl) (Nat.le_refl _) (AM.mono h (fun r M11 ⟨x12, hr13, hc14, h⟩ => ?_))
    subst hr13
    refine ab_rs ?_
    have hm15 : Sm M M11 := hm6.trans hc14
    have hl16 := hL.of hm15
    have hp17 := hp8.of hc14
    have hp18 := hp9.of hc14
    refine ab_if_eq (tgt := 62) dX0_weighOne_44 (by decide) (fun c19 => ?_) (fun c19 => ?_)
    · have h := h.1 c19
      refine ab_iconst (v := (-1)) dX0_weighOne_62 (by decide) ?_
      refine ab_istore (lv1 := [(5, .int (-1 : Int32)), (4, .ref (23 + a1.toNatClampNeg)), (0, .ref 13), (1, .int a1), (2, .ref a2), (3, .ref a3)]) dX0_weighOne_63 (by decide) rfl ?_
      refine ab_aload_n 4 dX0_weighOne_65 rfl ?_
      refine ab_aload 1 dX0_weighOne_66 rfl ?_
      refine ab_aload_n 2 dX0_weighOne_68 rfl ?_
      refine ab_getP (r := 15) dX0_weighOne_69 fs_0_17_0 rfl (hl16.sh 13 rfl (by decide) (by decide)).1 (hl16.sh 13 rfl (by decide) (by decide)).2 (hl16.pt 23 rfl (by decide) (by decide)) ?_
      refine ab_iload_n 3 dX0_weighOne_72 rfl ?_
      refine ab_aald4j (j := a1.toNatClampNeg) (r := 16 + a1.toNatClampNeg) dX0_weighOne_73 (hl16.sh 15 rfl (by decide) (by decide)) hb1 rfl (row_15 hl16 (by decide) (by decide) (vin_lt hb1)).1 ?_
      refine ab_aload_n 2 dX0_weighOne_74 rfl ?_
      refine ab_getP (r := 19) dX0_weighOne_75 fs_0_23_0 rfl (hl16.sh 13 rfl (by decide) (by decide)).1 (hl16.sh 13 rfl (by decide) (by decide)).2 (hl16.pt 25 rfl (by decide) (by decide)) ?_
      refine ab_iload_n 3 dX0_weighOne_78 rfl ?_
      refine ab_aald4j (j := a1.toNatClampNeg) (r := 20 + a1.toNatClampNeg) dX0_weighOne_79 (hl16.sh 19 rfl (by decide) (by decide)) hb1 rfl (row_19 hl16 (by decide) (by decide) (vin_lt hb1)).1 ?_
      refine ab_iconst (v := 0) dX0_weighOne_80 (by decide) ?_
      refine ab_ialdj (j := 0) dX0_weighOne_81 (row_19 hl16 (by decide) (by decide) (vin_lt hb1)).2 (vin (by decide)) (by decide) ?_
      refine ab_iload 0 dX0_weighOne_82 rfl ?_
      refine vc_0_98 (d' := d) (vs := [.ref (23 + a1.toNatClampNeg), .ref (16 + a1.toNatClampNeg), .int (gI M11 (20 + a1.toNatClampNeg) 0), .int (-1 : Int32)]) (st := []) rfl hp17.2.1 dX0_weighOne_84 hp17.1 rfl rfl (Nat.le_of_ble_eq_true rfl) (Nat.le_refl _) (AM.mono h (fun r M20 ⟨hr22, hc23, h⟩ => ?_))
      subst hr22
      refine ab_rv ?_
      have hm24 : Sm M M20 := hm15.trans hc23
      have hl25 := hL.of hm24
      have hp26 := hp17.of hc23
      have hp27 := hp18.of hc23
      refine ab_aload 1 dX0_weighOne_87 rfl ?_
      refine ab_callS (d' := d) (mc' := 0) (ms' := 0) (vs := [.ref (23 + a1.toNatClampNeg)]) (st := []) dX0_weighOne_89 ⟨cw_X0_temper, w_666⟩ w_667 rfl rfl (Nat.le_of_ble_eq_true rfl) (Nat.le_refl _) (Nat.zero_le _) (Nat.zero_le _) (AM.mono h (fun r M28 ⟨hr30, hc31, h⟩ => ?_))
      subst hr30
      refine ab_rv ?_
      have hm32 : Sm M M28 := hm24.trans hc31
      have hl33 := hL.of hm32
      have hp34 := hp26.of hc31
      have hp35 := hp27.of hc31
      exact ab_vret dX0_weighOne_92 rfl h
    · have h := h.2 c19
      refine ab_aload_n 4 dX0_weighOne_47 rfl ?_
      refine vc_0_69 (d' := d) (vs := []) (st := []) rfl hp18.2.1 dX0_weighOne_48 hp18.1 rfl rfl (Nat.le_of_ble_eq_true rfl) (Nat.le_refl _) (AM.mono h (fun r M36 ⟨x37, hr38, hc39, h⟩ => ?_))
      subst hr38
      refine ab_rs ?_
      have hm40 : Sm M M36 := hm15.trans hc39
      have hl41 := hL.of hm40
      have hp42 := hp17.of hc39
      have hp43 := hp18.of hc39
      refine ab_if_ne (tgt := 62) dX0_weighOne_51 (by decide) (fun c44 => ?_) (fun c44 => ?_)
      · have h := h.1 c44
        refine ab_iconst (v := (-1)) dX0_weighOne_62 (by decide) ?_
        refine ab_istore (lv1 := [(5, .int (-1 : Int32)), (4, .ref (23 + a1.toNatClampNeg)), (0, .ref 13), (1, .int a1), (2, .ref a2), (3, .ref a3)]) dX0_weighOne_63 (by decide) rfl ?_
        refine ab_aload_n 4 dX0_weighOne_65 rfl ?_
        refine ab_aload 1 dX0_weighOne_66 rfl ?_
        refine ab_aload_n 2 dX0_weighOne_68 rfl ?_
        refine ab_getP (r := 15) dX0_weighOne_69 fs_0_17_0 rfl (hl41.sh 13 rfl (by decide) (by decide)).1 (hl41.sh 13 rfl (by decide) (by decide)).2 (hl41.pt 23 rfl (by decide) (by decide)) ?_
        refine ab_iload_n 3 dX0_weighOne_72 rfl ?_
        refine ab_aald4j (j := a1.toNatClampNeg) (r := 16 + a1.toNatClampNeg) dX0_weighOne_73 (hl41.sh 15 rfl (by decide) (by decide)) hb1 rfl (row_15 hl41 (by decide) (by decide) (vin_lt hb1)).1 ?_
        refine ab_aload_n 2 dX0_weighOne_74 rfl ?_
        refine ab_getP (r := 19) dX0_weighOne_75 fs_0_23_0 rfl (hl41.sh 13 rfl (by decide) (by decide)).1 (hl41.sh 13 rfl (by decide) (by decide)).2 (hl41.pt 25 rfl (by decide) (by decide)) ?_
        refine ab_iload_n 3 dX0_weighOne_78 rfl ?_
        refine ab_aald4j (j := a1.toNatClampNeg) (r := 20 + a1.toNatClampNeg) dX0_weighOne_79 (hl41.sh 19 rfl (by decide) (by decide)) hb1 rfl (row_19 hl41 (by decide) (by decide) (vin_lt hb1)).1 ?_
        refine ab_iconst (v := 0) dX0_weighOne_80 (by decide) ?_
        refine ab_ialdj (j := 0) dX0_weighOne_81 (row_19 hl41 (by decide) (by decide) (vin_lt hb1)).2 (vin (by decide)) (by decide) ?_
        refine ab_iload 0 dX0_weighOne_82 rfl ?_
        refine vc_0_98 (d' := d) (vs := [.ref (23 + a1.toNatClampNeg), .ref (16 + a1.toNatClampNeg), .int (gI M36 (20 + a1.toNatClampNeg) 0), .int (-1 : Int32)]) (st := []) rfl hp42.2.1 dX0_weighOne_84 hp42.1 rfl rfl (Nat.le_of_ble_eq_true rfl) (Nat.le_refl _) (AM.mono h (fun r M45 ⟨hr47, hc48, h⟩ => ?_))
        subst hr47
        refine ab_rv ?_
        have hm49 : Sm M M45 := hm40.trans hc48
        have hl50 := hL.of hm49
        have hp51 := hp42.of hc48
        have hp52 := hp43.of hc48
        refine ab_aload 1 dX0_weighOne_87 rfl ?_
        refine ab_callS (d' := d) (mc' := 0) (ms' := 0) (vs := [.ref (23 + a1.toNatClampNeg)]) (st := []) dX0_weighOne_89 ⟨cw_X0_temper, w_666⟩ w_667 rfl rfl (Nat.le_of_ble_eq_true rfl) (Nat.le_refl _) (Nat.zero_le _) (Nat.zero_le _) (AM.mono h (fun r M53 ⟨hr55, hc56, h⟩ => ?_))
        subst hr55
        refine ab_rv ?_
        have hm57 : Sm M M53 := hm49.trans hc56
        have hl58 := hL.of hm57
        have hp59 := hp51.of hc56
        have hp60 := hp52.of hc56
        exact ab_vret dX0_weighOne_92 rfl h
      · have h := h.2 c44
        refine ab_aload_n 1 dX0_weighOne_54 rfl ?_
        refine ab_iload_n 2 dX0_weighOne_55 rfl ?_
        refine ab_callV (a := 13) (c0 := 0) (d' := d) (mc' := 0) (ms' := 0) (vs := [.int a1]) (st := []) dX0_weighOne_56 ⟨cw_X0_replySide, w_631⟩ w_632 w_633 (by decide) (hl41.sh 13 rfl (by decide) (by decide)).1 (hl41.sh 13 rfl (by decide) (by decide)).2 rfl rfl (Nat.le_of_ble_eq_true rfl) (Nat.le_refl _) (Nat.zero_le _) (Nat.zero_le _) (AM.mono h (fun r M61 ⟨x62, hr63, hc64, h⟩ => ?_))
        subst hr63
        refine ab_rs ?_
        have hm65 : Sm M M61 := hm40.trans hc64
        have hl66 := hL.of hm65
        have hp67 := hp42.of hc64
        have hp68 := hp43.of hc64
        refine ab_goto (tgt := 63) dX0_weighOne_59 (by decide) ?_
        refine ab_istore (lv1 := [(5, .int x62), (4, .ref (23 + a1.toNatClampNeg)), (0, .ref 13), (1, .int a1), (2, .ref a2), (3, .ref a3)]) dX0_weighOne_63 (by decide) rfl ?_
        refine ab_aload_n 4 dX0_weighOne_65 rfl ?_
        refine ab_aload 1 dX0_weighOne_66 rfl ?_
        refine ab_aload_n 2 dX0_weighOne_68 rfl ?_
        refine ab_getP (r := 15) dX0_weighOne_69 fs_0_17_0 rfl (hl66.sh 13 rfl (by decide) (by decide)).1 (hl66.sh 13 rfl (by decide) (by decide)).2 (hl66.pt 23 rfl (by decide) (by decide)) ?_
        refine ab_iload_n 3 dX0_weighOne_72 rfl ?_
        refine ab_aald4j (j := a1.toNatClampNeg) (r := 16 + a1.toNatClampNeg) dX0_weighOne_73 (hl66.sh 15 rfl (by decide) (by decide)) hb1 rfl (row_15 hl66 (by decide) (by decide) (vin_lt hb1)).1 ?_
        refine ab_aload_n 2 dX0_weighOne_74 rfl ?_
        refine ab_getP (r := 19) dX0_weighOne_75 fs_0_23_0 rfl (hl66.sh 13 rfl (by decide) (by decide)).1 (hl66.sh 13 rfl (by decide) (by decide)).2 (hl66.pt 25 rfl (by decide) (by decide)) ?_
        refine ab_iload_n 3 dX0_weighOne_78 rfl ?_
        refine ab_aald4j (j := a1.toNatClampNeg) (r := 20 + a1.toNatClampNeg) dX0_weighOne_79 (hl66.sh 19 rfl (by decide) (by decide)) hb1 rfl (row_19 hl66 (by decide) (by decide) (vin_lt hb1)).1 ?_
        refine ab_iconst (v := 0) dX0_weighOne_80 (by decide) ?_
        refine ab_ialdj (j := 0) dX0_weighOne_81 (row_19 hl66 (by decide) (by decide) (vin_lt hb1)).2 (vin (by decide)) (by decide) ?_
        refine ab_iload 0 dX0_weighOne_82 rfl ?_
        refine vc_0_98 (d' := d) (vs := [.ref (23 + a1.toNatClampNeg), .ref (16 + a1.toNatClampNeg), .int (gI M61 (20 + a1.toNatClampNeg) 0), .int x62]) (st := []) rfl hp67.2.1 dX0_weighOne_84 hp67.1 rfl rfl (Nat.le_of_ble_eq_true rfl) (Nat.le_refl _) (AM.mono h (fun r M69 ⟨hr71, hc72, h⟩ => ?_))
        subst hr71
        refine ab_rv ?_
        have hm73 : Sm M M69 := hm65.trans hc72
        have hl74 := hL.of hm73
        have hp75 := hp67.of hc72
        have hp76 := hp68.of hc72
        refine ab_aload 1 dX0_weighOne_87 rfl ?_
        refine ab_callS (d' := d) (mc' := 0) (ms' := 0) (vs := [.ref (23 + a1.toNatClampNeg)]) (st := []) dX0_weighOne_89 ⟨cw_X0_temper, w_666⟩ w_667 rfl rfl (Nat.le_of_ble_eq_true rfl) (Nat.le_refl _) (Nat.zero_le _) (Nat.zero_le _) (AM.mono h (fun r M77 ⟨hr79, hc80, h⟩ => ?_))
        subst hr79
        refine ab_rv ?_
        have hm81 : Sm M M77 := hm73.trans hc80
        have hl82 := hL.of hm81
        have hp83 := hp75.of hc80
        have hp84 := hp76.of hc80
        exact ab_vret dX0_weighOne_92 rfl h
  · have h := h.2 c10
    refine ab_aload_n 1 dX0_weighOne_27 rfl ?_
    refine ab_bipush (v := 99) dX0_weighOne_28 (by decide) ?_
    refine ab_aload 0 dX0_weighOne_30 rfl ?_
    refine ab_iconst (v := 3) dX0_weighOne_32 (by decide) ?_
    refine ab_ialdj (j := 3) dX0_weighOne_33 (row_22 hl7 (by decide) (by decide) (vin_lt hb1)).2 (vin (by decide)) (by decide) ?_
    refine ab_mmin (st := [.ref 13]) dX0_weighOne_34 w_628 (Nat.le_of_ble_eq_true rfl) (Nat.succ_le_succ (Nat.zero_le _)) ?_
    refine ab_putI dX0_weighOne_37 fs_0_29_0 rfl rfl (hl7.sh 13 rfl (by decide) (by decide)).1 (hl7.sh 13 rfl (by decide) (by decide)).2 ?_
    refine ab_nameM (fun M85 hM85 => ?_)
    have h := h M85 hM85
    have hs88 : Sm M2 M85 := hM85 ▸ (Sm.refl _).i
    have hm86 : Sm M M85 := hm6.trans hs88
    have hl87 := hL.of hm86
    have hp89 := hp8.of hs88
    have hp90 := hp9.of hs88
    refine ab_aload_n 3 dX0_weighOne_40 rfl ?_
    refine vc_0_69 (d' := d) (vs := []) (st := []) rfl hp89.2.1 dX0_weighOne_41 hp89.1 rfl rfl (Nat.le_of_ble_eq_true rfl) (Nat.le_refl _) (AM.mono h (fun r M91 ⟨x92, hr93, hc94, h⟩ => ?_))
    subst hr93
    refine ab_rs ?_
    have hm95 : Sm M M91 := hm86.trans hc94
    have hl96 := hL.of hm95
    have hp97 := hp89.of hc94
    have hp98 := hp90.of hc94
    refine ab_if_eq (tgt := 62) dX0_weighOne_44 (by decide) (fun c99 => ?_) (fun c99 => ?_)
    · have h := h.1 c99
      refine ab_iconst (v := (-1)) dX0_weighOne_62 (by decide) ?_
      refine ab_istore (lv1 := [(5, .int (-1 : Int32)), (4, .ref (23 + a1.toNatClampNeg)), (0, .ref 13), (1, .int a1), (2, .ref a2), (3, .ref a3)]) dX0_weighOne_63 (by decide) rfl ?_
      refine ab_aload_n 4 dX0_weighOne_65 rfl ?_
      refine ab_aload 1 dX0_weighOne_66 rfl ?_
      refine ab_aload_n 2 dX0_weighOne_68 rfl ?_
      refine ab_getP (r := 15) dX0_weighOne_69 fs_0_17_0 rfl (hl96.sh 13 rfl (by decide) (by decide)).1 (hl96.sh 13 rfl (by decide) (by decide)).2 (hl96.pt 23 rfl (by decide) (by decide)) ?_
      refine ab_iload_n 3 dX0_weighOne_72 rfl ?_
      refine ab_aald4j (j := a1.toNatClampNeg) (r := 16 + a1.toNatClampNeg) dX0_weighOne_73 (hl96.sh 15 rfl (by decide) (by decide)) hb1 rfl (row_15 hl96 (by decide) (by decide) (vin_lt hb1)).1 ?_
      refine ab_aload_n 2 dX0_weighOne_74 rfl ?_
      refine ab_getP (r := 19) dX0_weighOne_75 fs_0_23_0 rfl (hl96.sh 13 rfl (by decide) (by decide)).1 (hl96.sh 13 rfl (by decide) (by decide)).2 (hl96.pt 25 rfl (by decide) (by decide)) ?_
      refine ab_iload_n 3 dX0_weighOne_78 rfl ?_
      refine ab_aald4j (j := a1.toNatClampNeg) (r := 20 + a1.toNatClampNeg) dX0_weighOne_79 (hl96.sh 19 rfl (by decide) (by decide)) hb1 rfl (row_19 hl96 (by decide) (by decide) (vin_lt hb1)).1 ?_
      refine ab_iconst (v := 0) dX0_weighOne_80 (by decide) ?_
      refine ab_ialdj (j := 0) dX0_weighOne_81 (row_19 hl96 (by decide) (by decide) (vin_lt hb1)).2 (vin (by decide)) (by decide) ?_
      refine ab_iload 0 dX0_weighOne_82 rfl ?_
      refine vc_0_98 (d' := d) (vs := [.ref (23 + a1.toNatClampNeg), .ref (16 + a1.toNatClampNeg), .int (gI M91 (20 + a1.toNatClampNeg) 0), .int (-1 : Int32)]) (st := []) rfl hp97.2.1 dX0_weighOne_84 hp97.1 rfl rfl (Nat.le_of_ble_eq_true rfl) (Nat.le_refl _) (AM.mono h (fun r M100 ⟨hr102, hc103, h⟩ => ?_))
      subst hr102
      refine ab_rv ?_
      have hm104 : Sm M M100 := hm95.trans hc103
      have hl105 := hL.of hm104
      have hp106 := hp97.of hc103
      have hp107 := hp98.of hc103
      refine ab_aload 1 dX0_weighOne_87 rfl ?_
      refine ab_callS (d' := d) (mc' := 0) (ms' := 0) (vs := [.ref (23 + a1.toNatClampNeg)]) (st := []) dX0_weighOne_89 ⟨cw_X0_temper, w_666⟩ w_667 rfl rfl (Nat.le_of_ble_eq_true rfl) (Nat.le_refl _) (Nat.zero_le _) (Nat.zero_le _) (AM.mono h (fun r M108 ⟨hr110, hc111, h⟩ => ?_))
      subst hr110
      refine ab_rv ?_
      have hm112 : Sm M M108 := hm104.trans hc111
      have hl113 := hL.of hm112
      have hp114 := hp106.of hc111
      have hp115 := hp107.of hc111
      exact ab_vret dX0_weighOne_92 rfl h
    · have h := h.2 c99
      refine ab_aload_n 4 dX0_weighOne_47 rfl ?_
      refine vc_0_69 (d' := d) (vs := []) (st := []) rfl hp98.2.1 dX0_weighOne_48 hp98.1 rfl rfl (Nat.le_of_ble_eq_true rfl) (Nat.le_refl _) (AM.mono h (fun r M116 ⟨x117, hr118, hc119, h⟩ => ?_))
      subst hr118
      refine ab_rs ?_
      have hm120 : Sm M M116 := hm95.trans hc119
      have hl121 := hL.of hm120
      have hp122 := hp97.of hc119
      have hp123 := hp98.of hc119
      refine ab_if_ne (tgt := 62) dX0_weighOne_51 (by decide) (fun c124 => ?_) (fun c124 => ?_)
      · have h := h.1 c124
        refine ab_iconst (v := (-1)) dX0_weighOne_62 (by decide) ?_
        refine ab_istore (lv1 := [(5, .int (-1 : Int32)), (4, .ref (23 + a1.toNatClampNeg)), (0, .ref 13), (1, .int a1), (2, .ref a2), (3, .ref a3)]) dX0_weighOne_63 (by decide) rfl ?_
        refine ab_aload_n 4 dX0_weighOne_65 rfl ?_
        refine ab_aload 1 dX0_weighOne_66 rfl ?_
        refine ab_aload_n 2 dX0_weighOne_68 rfl ?_
        refine ab_getP (r := 15) dX0_weighOne_69 fs_0_17_0 rfl (hl121.sh 13 rfl (by decide) (by decide)).1 (hl121.sh 13 rfl (by decide) (by decide)).2 (hl121.pt 23 rfl (by decide) (by decide)) ?_
        refine ab_iload_n 3 dX0_weighOne_72 rfl ?_
        refine ab_aald4j (j := a1.toNatClampNeg) (r := 16 + a1.toNatClampNeg) dX0_weighOne_73 (hl121.sh 15 rfl (by decide) (by decide)) hb1 rfl (row_15 hl121 (by decide) (by decide) (vin_lt hb1)).1 ?_
        refine ab_aload_n 2 dX0_weighOne_74 rfl ?_
        refine ab_getP (r := 19) dX0_weighOne_75 fs_0_23_0 rfl (hl121.sh 13 rfl (by decide) (by decide)).1 (hl121.sh 13 rfl (by decide) (by decide)).2 (hl121.pt 25 rfl (by decide) (by decide)) ?_
        refine ab_iload_n 3 dX0_weighOne_78 rfl ?_
        refine ab_aald4j (j := a1.toNatClampNeg) (r := 20 + a1.toNatClampNeg) dX0_weighOne_79 (hl121.sh 19 rfl (by decide) (by decide)) hb1 rfl (row_19 hl121 (by decide) (by decide) (vin_lt hb1)).1 ?_
        refine ab_iconst (v := 0) dX0_weighOne_80 (by decide) ?_
        refine ab_ialdj (j := 0) dX0_weighOne_81 (row_19 hl121 (by decide) (by decide) (vin_lt hb1)).2 (vin (by decide)) (by decide) ?_
        refine ab_iload 0 dX0_weighOne_82 rfl ?_
        refine vc_0_98 (d' := d) (vs := [.ref (23 + a1.toNatClampNeg), .ref (16 + a1.toNatClampNeg), .int (gI M116 (20 + a1.toNatClampNeg) 0), .int (-1 : Int32)]) (st := []) rfl hp122.2.1 dX0_weighOne_84 hp122.1 rfl rfl (Nat.le_of_ble_eq_true rfl) (Nat.le_refl _) (AM.mono h (fun r M125 ⟨hr127, hc128, h⟩ => ?_))
        subst hr127
        refine ab_rv ?_
        have hm129 : Sm M M125 := hm120.trans hc128
        have hl130 := hL.of hm129
        have hp131 := hp122.of hc128
        have hp132 := hp123.of hc128
        refine ab_aload 1 dX0_weighOne_87 rfl ?_
        refine ab_callS (d' := d) (mc' := 0) (ms' := 0) (vs := [.ref (23 + a1.toNatClampNeg)]) (st := []) dX0_weighOne_89 ⟨cw_X0_temper, w_666⟩ w_667 rfl rfl (Nat.le_of_ble_eq_true rfl) (Nat.le_refl _) (Nat.zero_le _) (Nat.zero_le _) (AM.mono h (fun r M133 ⟨hr135, hc136, h⟩ => ?_))
        subst hr135
        refine ab_rv ?_
        have hm137 : Sm M M133 := hm129.trans hc136
        have hl138 := hL.of hm137
        have hp139 := hp131.of hc136
        have hp140 := hp132.of hc136
        exact ab_vret dX0_weighOne_92 rfl h
      · have h := h.2 c124
        refine ab_aload_n 1 dX0_weighOne_54 rfl ?_
        refine ab_iload_n 2 dX0_weighOne_55 rfl ?_
        refine ab_callV (a := 13) (c0 := 0) (d' := d) (mc' := 0) (ms' := 0) (vs := [.int a1]) (st := []) dX0_weighOne_56 ⟨cw_X0_replySide, w_631⟩ w_632 w_633 (by decide) (hl121.sh 13 rfl (by decide) (by decide)).1 (hl121.sh 13 rfl (by decide) (by decide)).2 rfl rfl (Nat.le_of_ble_eq_true rfl) (Nat.le_refl _) (Nat.zero_le _) (Nat.zero_le _) (AM.mono h (fun r M141 ⟨x142, hr143, hc144, h⟩ => ?_))
        subst hr143
        refine ab_rs ?_
        have hm145 : Sm M M141 := hm120.trans hc144
        have hl146 := hL.of hm145
        have hp147 := hp122.of hc144
        have hp148 := hp123.of hc144
        refine ab_goto (tgt := 63) dX0_weighOne_59 (by decide) ?_
        refine ab_istore (lv1 := [(5, .int x142), (4, .ref (23 + a1.toNatClampNeg)), (0, .ref 13), (1, .int a1), (2, .ref a2), (3, .ref a3)]) dX0_weighOne_63 (by decide) rfl ?_
        refine ab_aload_n 4 dX0_weighOne_65 rfl ?_
        refine ab_aload 1 dX0_weighOne_66 rfl ?_
        refine ab_aload_n 2 dX0_weighOne_68 rfl ?_
        refine ab_getP (r := 15) dX0_weighOne_69 fs_0_17_0 rfl (hl146.sh 13 rfl (by decide) (by decide)).1 (hl146.sh 13 rfl (by decide) (by decide)).2 (hl146.pt 23 rfl (by decide) (by decide)) ?_
        refine ab_iload_n 3 dX0_weighOne_72 rfl ?_
        refine ab_aald4j (j := a1.toNatClampNeg) (r := 16 + a1.toNatClampNeg) dX0_weighOne_73 (hl146.sh 15 rfl (by decide) (by decide)) hb1 rfl (row_15 hl146 (by decide) (by decide) (vin_lt hb1)).1 ?_
        refine ab_aload_n 2 dX0_weighOne_74 rfl ?_
        refine ab_getP (r := 19) dX0_weighOne_75 fs_0_23_0 rfl (hl146.sh 13 rfl (by decide) (by decide)).1 (hl146.sh 13 rfl (by decide) (by decide)).2 (hl146.pt 25 rfl (by decide) (by decide)) ?_
        refine ab_iload_n 3 dX0_weighOne_78 rfl ?_
        refine ab_aald4j (j := a1.toNatClampNeg) (r := 20 + a1.toNatClampNeg) dX0_weighOne_79 (hl146.sh 19 rfl (by decide) (by decide)) hb1 rfl (row_19 hl146 (by decide) (by decide) (vin_lt hb1)).1 ?_
        refine ab_iconst (v := 0) dX0_weighOne_80 (by decide) ?_
        refine ab_ialdj (j := 0) dX0_weighOne_81 (row_19 hl146 (by decide) (by decide) (vin_lt hb1)).2 (vin (by decide)) (by decide) ?_
        refine ab_iload 0 dX0_weighOne_82 rfl ?_
        refine vc_0_98 (d' := d) (vs := [.ref (23 + a1.toNatClampNeg), .ref (16 + a1.toNatClampNeg), .int (gI M141 (20 + a1.toNatClampNeg) 0), .int x142]) (st := []) rfl hp147.2.1 dX0_weighOne_84 hp147.1 rfl rfl (Nat.le_of_ble_eq_true rfl) (Nat.le_refl _) (AM.mono h (fun r M149 ⟨hr151, hc152, h⟩ => ?_))
        subst hr151
        refine ab_rv ?_
        have hm153 : Sm M M149 := hm145.trans hc152
        have hl154 := hL.of hm153
        have hp155 := hp147.of hc152
        have hp156 := hp148.of hc152
        refine ab_aload 1 dX0_weighOne_87 rfl ?_
        refine ab_callS (d' := d) (mc' := 0) (ms' := 0) (vs := [.ref (23 + a1.toNatClampNeg)]) (st := []) dX0_weighOne_89 ⟨cw_X0_temper, w_666⟩ w_667 rfl rfl (Nat.le_of_ble_eq_true rfl) (Nat.le_refl _) (Nat.zero_le _) (Nat.zero_le _) (AM.mono h (fun r M157 ⟨hr159, hc160, h⟩ => ?_))
        subst hr159
        refine ab_rv ?_
        have hm161 : Sm M M157 := hm153.trans hc160
        have hl162 := hL.of hm161
        have hp163 := hp155.of hc160
        have hp164 := hp156.of hc160
        exact ab_vret dX0_weighOne_92 rfl h
theorem dX0_score_0 : decode cX0_score 0 = .ok (.aload_n 0, 1) := by decide +kernel
theorem dX0_score_1 : decode cX0_score 1 = .ok (.aload_n 1, 1) := by decide +kernel
theorem dX0_score_2 : decode cX0_score 2 = .ok (.aload_n 2, 1) := by decide +kernel
theorem dX0_score_3 : decode cX0_score 3 = .ok (.invokevirtual 109, 3) := by decide +kernel
theorem dX0_score_6 : decode cX0_score 6 = .ok (.aload_n 0, 1) := by decide +kernel
theorem dX0_score_7 : decode cX0_score 7 = .ok (.iload_n 3, 1) := by decide +kernel
theorem dX0_score_8 : decode cX0_score 8 = .ok (.invokevirtual 113, 3) := by decide +kernel
theorem dX0_score_11 : decode cX0_score 11 = .ok (.aload_n 0, 1) := by decide +kernel
theorem dX0_score_12 : decode cX0_score 12 = .ok (.invokevirtual 116, 3) := by decide +kernel
theorem dX0_score_15 : decode cX0_score 15 = .ok (.return_, 1) := by decide +kernel
set_option maxRecDepth 20000 in
theorem rX0_score (D : GD) (d : Nat) (a1 : Nat) (a2 : Nat) (a3 : Int32) (M : Mm) (post : Option Value → Mm → Prop) (hL : Lay 13 25 M) 
    (h : AMv D d mX0_meet [.ref 13, .ref a1, .ref a2] M (fun M1 => AMv D d mX0_weighGoals [.ref 13, .int a3] M1 (fun M7 => AMv D d mX0_reduce [.ref 13] M7 (fun M13 => post none M13)))) :
    AM D (d + 1) 0 0 mX0_score [.ref 13, .ref a1, .ref a2, .int a3] M post := by
  refine AM.of (by decide) (Nat.le_of_ble_eq_true rfl) ?_
  show AW D (d + 1) 0 0 mX0_score 0 0 0 [(0, .ref 13), (1, .ref a1), (2, .ref a2), (3, .int a3)] [] M post
  refine ab_aload_n 0 dX0_score_0 rfl ?_
  refine ab_aload_n 1 dX0_score_1 rfl ?_
  refine ab_aload_n 2 dX0_score_2 rfl ?_
  refine ab_callV (a := 13) (c0 := 0) (d' := d) (mc' := 0) (ms' := 0) (vs := [.ref a1, .ref a2]) (st := []) dX0_score_3 ⟨cw_X0_meet, w_686⟩ w_600 w_601 (by decide) (hL.sh 13 rfl (by decide) (by decide)).1 (hL.sh 13 rfl (by decide) (by decide)).2 rfl rfl (Nat.le_of_ble_eq_true rfl) (Nat.le_refl _) (Nat.zero_le _) (Nat.zero_le _) (AM.mono h (fun r M1 ⟨hr3, hc4, h⟩ => ?_))
  subst hr3
  refine ab_rv ?_
  have hm5 : Sm M M1 := (Sm.refl M).trans hc4
  have hl6 := hL.of hm5
  refine ab_aload_n 0 dX0_score_6 rfl ?_
  refine ab_iload_n 3 dX0_score_7 rfl ?_
  refine ab_callV (a := 13) (c0 := 0) (d' := d) (mc' := 0) (ms' := 0) (vs := [.int a3]) (st := []) dX0_score_8 ⟨cw_X0_weighGoals, w_687⟩ w_689 w_16 (by decide) (hl6.sh 13 rfl (by decide) (by decide)).1 (hl6.sh 13 rfl (by decide) (by decide)).2 rfl rfl (Nat.le_of_ble_eq_true rfl) (Nat.le_refl _) (Nat.zero_le _) (Nat.zero_le _) (AM.mono h (fun r M7 ⟨hr9, hc10, h⟩ => ?_))
  subst hr9
  refine ab_rv ?_
  have hm11 : Sm M M7 := hm5.trans hc10
  have hl12 := hL.of hm11
  refine ab_aload_n 0 dX0_score_11 rfl ?_
  refine ab_callV (a := 13) (c0 := 0) (d' := d) (mc' := 0) (ms' := 0) (vs := []) (st := []) dX0_score_12 ⟨cw_X0_reduce, w_696⟩ w_698 w_17 (by decide) (hl12.sh 13 rfl (by decide) (by decide)).1 (hl12.sh 13 rfl (by decide) (by decide)).2 rfl rfl (Nat.le_of_ble_eq_true rfl) (Nat.le_refl _) (Nat.zero_le _) (Nat.zero_le _) (AM.mono h (fun r M13 ⟨hr15, hc16, h⟩ => ?_))
  subst hr15
  refine ab_rv ?_
  have hm17 : Sm M M13 := hm11.trans hc16
  have hl18 := hL.of hm17
  exact ab_vret dX0_score_15 rfl h
theorem dX1_copyFrom_0 : decode cX1_copyFrom 0 = .ok (.aload_n 0, 1) := by decide +kernel
theorem dX1_copyFrom_1 : decode cX1_copyFrom 1 = .ok (.aload_n 1, 1) := by decide +kernel
theorem dX1_copyFrom_2 : decode cX1_copyFrom 2 = .ok (.getfield 18, 3) := by decide +kernel
theorem dX1_copyFrom_5 : decode cX1_copyFrom 5 = .ok (.putfield 18, 3) := by decide +kernel
theorem dX1_copyFrom_8 : decode cX1_copyFrom 8 = .ok (.aload_n 1, 1) := by decide +kernel
theorem dX1_copyFrom_9 : decode cX1_copyFrom 9 = .ok (.getfield 9, 3) := by decide +kernel
theorem dX1_copyFrom_12 : decode cX1_copyFrom 12 = .ok (.iconst 0, 1) := by decide +kernel
theorem dX1_copyFrom_13 : decode cX1_copyFrom 13 = .ok (.aload_n 0, 1) := by decide +kernel
theorem dX1_copyFrom_14 : decode cX1_copyFrom 14 = .ok (.getfield 9, 3) := by decide +kernel
theorem dX1_copyFrom_17 : decode cX1_copyFrom 17 = .ok (.iconst 0, 1) := by decide +kernel
theorem dX1_copyFrom_18 : decode cX1_copyFrom 18 = .ok (.bipush 30, 2) := by decide +kernel
theorem dX1_copyFrom_20 : decode cX1_copyFrom 20 = .ok (.invokestatic 31, 3) := by decide +kernel
theorem dX1_copyFrom_23 : decode cX1_copyFrom 23 = .ok (.aload_n 1, 1) := by decide +kernel
theorem dX1_copyFrom_24 : decode cX1_copyFrom 24 = .ok (.getfield 15, 3) := by decide +kernel
theorem dX1_copyFrom_27 : decode cX1_copyFrom 27 = .ok (.iconst 0, 1) := by decide +kernel
theorem dX1_copyFrom_28 : decode cX1_copyFrom 28 = .ok (.aload_n 0, 1) := by decide +kernel
theorem dX1_copyFrom_29 : decode cX1_copyFrom 29 = .ok (.getfield 15, 3) := by decide +kernel
theorem dX1_copyFrom_32 : decode cX1_copyFrom 32 = .ok (.iconst 0, 1) := by decide +kernel
theorem dX1_copyFrom_33 : decode cX1_copyFrom 33 = .ok (.bipush 30, 2) := by decide +kernel
theorem dX1_copyFrom_35 : decode cX1_copyFrom 35 = .ok (.invokestatic 31, 3) := by decide +kernel
theorem dX1_copyFrom_38 : decode cX1_copyFrom 38 = .ok (.return_, 1) := by decide +kernel
set_option maxRecDepth 20000 in
theorem rX1_copyFrom (D : GD) (d : Nat)  (M : Mm) (post : Option Value → Mm → Prop) (hL : Lay 25 52 M) 
    (h : ∀ M1 : Mm, M1 = sI M 25 2 (gI M 48 2) → ∀ M5 : Mm, M5 = rI M1 26 (va_cpy (gI M1 49) (gI M1 26) 0 0 30) → ∀ M9 : Mm, M9 = rI M5 27 (va_cpy (gI M5 50) (gI M5 27) 0 0 30) → post none M9) :
    AM D (d + 1) 0 0 mX1_copyFrom [.ref 25, .ref 48] M post := by
  refine AM.of (by decide) (Nat.le_of_ble_eq_true rfl) ?_
  show AW D (d + 1) 0 0 mX1_copyFrom 0 0 0 [(0, .ref 25), (1, .ref 48)] [] M post
  refine ab_aload_n 0 dX1_copyFrom_0 rfl ?_
  refine ab_aload_n 1 dX1_copyFrom_1 rfl ?_
  refine ab_getI dX1_copyFrom_2 fs_1_18_1 rfl (hL.sh 48 rfl (by decide) (by decide)).1 (hL.sh 48 rfl (by decide) (by decide)).2 ?_
  refine ab_putI dX1_copyFrom_5 fs_1_18_1 rfl rfl (hL.sh 25 rfl (by decide) (by decide)).1 (hL.sh 25 rfl (by decide) (by decide)).2 ?_
  refine ab_nameM (fun M1 hM1 => ?_)
  have h := h M1 hM1
  have hs4 : Sm M M1 := hM1 ▸ (Sm.refl _).i
  have hm2 : Sm M M1 := (Sm.refl M).trans hs4
  have hl3 := hL.of hm2
  refine ab_aload_n 1 dX1_copyFrom_8 rfl ?_
  refine ab_getP (r := 49) dX1_copyFrom_9 fs_1_9_1 rfl (hl3.sh 48 rfl (by decide) (by decide)).1 (hl3.sh 48 rfl (by decide) (by decide)).2 (hl3.pt 52 rfl (by decide) (by decide)) ?_
  refine ab_iconst (v := 0) dX1_copyFrom_12 (by decide) ?_
  refine ab_aload_n 0 dX1_copyFrom_13 rfl ?_
  refine ab_getP (r := 26) dX1_copyFrom_14 fs_1_9_1 rfl (hl3.sh 25 rfl (by decide) (by decide)).1 (hl3.sh 25 rfl (by decide) (by decide)).2 (hl3.pt 33 rfl (by decide) (by decide)) ?_
  refine ab_iconst (v := 0) dX1_copyFrom_17 (by decide) ?_
  refine ab_bipush (v := 30) dX1_copyFrom_18 (by decide) ?_
  refine ab_acopyI (st := []) dX1_copyFrom_20 w_847 w_439 w_438 w_91 (hl3.sh 49 rfl (by decide) (by decide)) (hl3.sh 26 rfl (by decide) (by decide)) (by decide) (by decide) (by decide) (by decide) (by decide) (Nat.le_of_ble_eq_true rfl) (Nat.succ_le_succ (Nat.zero_le _)) ?_
  refine ab_nameM (fun M5 hM5 => ?_)
  have h := h M5 hM5
  have hs8 : Sm M1 M5 := hM5 ▸ (Sm.refl _).ri
  have hm6 : Sm M M5 := hm2.trans hs8
  have hl7 := hL.of hm6
  refine ab_aload_n 1 dX1_copyFrom_23 rfl ?_
  refine ab_getP (r := 50) dX1_copyFrom_24 fs_1_15_1 rfl (hl7.sh 48 rfl (by decide) (by decide)).1 (hl7.sh 48 rfl (by decide) (by decide)).2 (hl7.pt 53 rfl (by decide) (by decide)) ?_
  refine ab_iconst (v := 0) dX1_copyFrom_27 (by decide) ?_
  refine ab_aload_n 0 dX1_copyFrom_28 rfl ?_
  refine ab_getP (r := 27) dX1_copyFrom_29 fs_1_15_1 rfl (hl7.sh 25 rfl (by decide) (by decide)).1 (hl7.sh 25 rfl (by decide) (by decide)).2 (hl7.pt 34 rfl (by decide) (by decide)) ?_
  refine ab_iconst (v := 0) dX1_copyFrom_32 (by decide) ?_
  refine ab_bipush (v := 30) dX1_copyFrom_33 (by decide) ?_
  refine ab_acopyI (st := []) dX1_copyFrom_35 w_847 w_439 w_438 w_91 (hl7.sh 50 rfl (by decide) (by decide)) (hl7.sh 27 rfl (by decide) (by decide)) (by decide) (by decide) (by decide) (by decide) (by decide) (Nat.le_of_ble_eq_true rfl) (Nat.succ_le_succ (Nat.zero_le _)) ?_
  refine ab_nameM (fun M9 hM9 => ?_)
  have h := h M9 hM9
  have hs12 : Sm M5 M9 := hM9 ▸ (Sm.refl _).ri
  have hm10 : Sm M M9 := hm6.trans hs12
  have hl11 := hL.of hm10
  exact ab_vret dX1_copyFrom_38 rfl h
set_option maxRecDepth 20000 in
theorem rX1_copyFrom_b (D : GD) (d : Nat)  (M : Mm) (post : Option Value → Mm → Prop) (hL : Lay 25 52 M) 
    (h : ∀ M1 : Mm, M1 = sI M 48 2 (gI M 25 2) → ∀ M5 : Mm, M5 = rI M1 49 (va_cpy (gI M1 26) (gI M1 49) 0 0 30) → ∀ M9 : Mm, M9 = rI M5 50 (va_cpy (gI M5 27) (gI M5 50) 0 0 30) → post none M9) :
    AM D (d + 1) 0 0 mX1_copyFrom [.ref 48, .ref 25] M post := by
  refine AM.of (by decide) (Nat.le_of_ble_eq_true rfl) ?_
  show AW D (d + 1) 0 0 mX1_copyFrom 0 0 0 [(0, .ref 48), (1, .ref 25)] [] M post
  refine ab_aload_n 0 dX1_copyFrom_0 rfl ?_
  refine ab_aload_n 1 dX1_copyFrom_1 rfl ?_
  refine ab_getI dX1_copyFrom_2 fs_1_18_1 rfl (hL.sh 25 rfl (by decide) (by decide)).1 (hL.sh 25 rfl (by decide) (by decide)).2 ?_
  refine ab_putI dX1_copyFrom_5 fs_1_18_1 rfl rfl (hL.sh 48 rfl (by decide) (by decide)).1 (hL.sh 48 rfl (by decide) (by decide)).2 ?_
  refine ab_nameM (fun M1 hM1 => ?_)
  have h := h M1 hM1
  have hs4 : Sm M M1 := hM1 ▸ (Sm.refl _).i
  have hm2 : Sm M M1 := (Sm.refl M).trans hs4
  have hl3 := hL.of hm2
  refine ab_aload_n 1 dX1_copyFrom_8 rfl ?_
  refine ab_getP (r := 26) dX1_copyFrom_9 fs_1_9_1 rfl (hl3.sh 25 rfl (by decide) (by decide)).1 (hl3.sh 25 rfl (by decide) (by decide)).2 (hl3.pt 33 rfl (by decide) (by decide)) ?_
  refine ab_iconst (v := 0) dX1_copyFrom_12 (by decide) ?_
  refine ab_aload_n 0 dX1_copyFrom_13 rfl ?_
  refine ab_getP (r := 49) dX1_copyFrom_14 fs_1_9_1 rfl (hl3.sh 48 rfl (by decide) (by decide)).1 (hl3.sh 48 rfl (by decide) (by decide)).2 (hl3.pt 52 rfl (by decide) (by decide)) ?_
  refine ab_iconst (v := 0) dX1_copyFrom_17 (by decide) ?_
  refine ab_bipush (v := 30) dX1_copyFrom_18 (by decide) ?_
  refine ab_acopyI (st := []) dX1_copyFrom_20 w_847 w_439 w_438 w_91 (hl3.sh 26 rfl (by decide) (by decide)) (hl3.sh 49 rfl (by decide) (by decide)) (by decide) (by decide) (by decide) (by decide) (by decide) (Nat.le_of_ble_eq_true rfl) (Nat.succ_le_succ (Nat.zero_le _)) ?_
  refine ab_nameM (fun M5 hM5 => ?_)
  have h := h M5 hM5
  have hs8 : Sm M1 M5 := hM5 ▸ (Sm.refl _).ri
  have hm6 : Sm M M5 := hm2.trans hs8
  have hl7 := hL.of hm6
  refine ab_aload_n 1 dX1_copyFrom_23 rfl ?_
  refine ab_getP (r := 27) dX1_copyFrom_24 fs_1_15_1 rfl (hl7.sh 25 rfl (by decide) (by decide)).1 (hl7.sh 25 rfl (by decide) (by decide)).2 (hl7.pt 34 rfl (by decide) (by decide)) ?_
  refine ab_iconst (v := 0) dX1_copyFrom_27 (by decide) ?_
  refine ab_aload_n 0 dX1_copyFrom_28 rfl ?_
  refine ab_getP (r := 50) dX1_copyFrom_29 fs_1_15_1 rfl (hl7.sh 48 rfl (by decide) (by decide)).1 (hl7.sh 48 rfl (by decide) (by decide)).2 (hl7.pt 53 rfl (by decide) (by decide)) ?_
  refine ab_iconst (v := 0) dX1_copyFrom_32 (by decide) ?_
  refine ab_bipush (v := 30) dX1_copyFrom_33 (by decide) ?_
  refine ab_acopyI (st := []) dX1_copyFrom_35 w_847 w_439 w_438 w_91 (hl7.sh 27 rfl (by decide) (by decide)) (hl7.sh 50 rfl (by decide) (by decide)) (by decide) (by decide) (by decide) (by decide) (by decide) (Nat.le_of_ble_eq_true rfl) (Nat.succ_le_succ (Nat.zero_le _)) ?_
  refine ab_nameM (fun M9 hM9 => ?_)
  have h := h M9 hM9
  have hs12 : Sm M5 M9 := hM9 ▸ (Sm.refl _).ri
  have hm10 : Sm M M9 := hm6.trans hs12
  have hl11 := hL.of hm10
  exact ab_vret dX1_copyFrom_38 rfl h
theorem dX6_parseClause_0 : decode cX6_parseClause 0 = .ok (.iconst 3, 1) := by decide +kernel
theorem dX6_parseClause_1 : decode cX6_parseClause 1 = .ok (.istore_n 1, 1) := by decide +kernel
theorem dX6_parseClause_2 : decode cX6_parseClause 2 = .ok (.aload_n 0, 1) := by decide +kernel
theorem dX6_parseClause_3 : decode cX6_parseClause 3 = .ok (.bipush 103, 2) := by decide +kernel
theorem dX6_parseClause_5 : decode cX6_parseClause 5 = .ok (.invokevirtual 35, 3) := by decide +kernel
theorem dX6_parseClause_8 : decode cX6_parseClause 8 = .ok (.ifCond .eq 25, 3) := by decide +kernel
theorem dX6_parseClause_11 : decode cX6_parseClause 11 = .ok (.aload_n 0, 1) := by decide +kernel
theorem dX6_parseClause_12 : decode cX6_parseClause 12 = .ok (.ldc 39, 2) := by decide +kernel
theorem dX6_parseClause_14 : decode cX6_parseClause 14 = .ok (.invokevirtual 41, 3) := by decide +kernel
theorem dX6_parseClause_17 : decode cX6_parseClause 17 = .ok (.aload_n 0, 1) := by decide +kernel
theorem dX6_parseClause_18 : decode cX6_parseClause 18 = .ok (.ldc 45, 2) := by decide +kernel
theorem dX6_parseClause_20 : decode cX6_parseClause 20 = .ok (.invokevirtual 47, 3) := by decide +kernel
theorem dX6_parseClause_23 : decode cX6_parseClause 23 = .ok (.istore_n 1, 1) := by decide +kernel
theorem dX6_parseClause_24 : decode cX6_parseClause 24 = .ok (.aload_n 0, 1) := by decide +kernel
theorem dX6_parseClause_25 : decode cX6_parseClause 25 = .ok (.ldc 51, 2) := by decide +kernel
theorem dX6_parseClause_27 : decode cX6_parseClause 27 = .ok (.invokevirtual 41, 3) := by decide +kernel
theorem dX6_parseClause_30 : decode cX6_parseClause 30 = .ok (.goto 9, 3) := by decide +kernel
theorem dX6_parseClause_33 : decode cX6_parseClause 33 = .ok (.aload_n 0, 1) := by decide +kernel
theorem dX6_parseClause_34 : decode cX6_parseClause 34 = .ok (.ldc 53, 2) := by decide +kernel
theorem dX6_parseClause_36 : decode cX6_parseClause 36 = .ok (.invokevirtual 41, 3) := by decide +kernel
theorem dX6_parseClause_39 : decode cX6_parseClause 39 = .ok (.aload_n 0, 1) := by decide +kernel
theorem dX6_parseClause_40 : decode cX6_parseClause 40 = .ok (.invokevirtual 55, 3) := by decide +kernel
theorem dX6_parseClause_43 : decode cX6_parseClause 43 = .ok (.istore_n 2, 1) := by decide +kernel
theorem dX6_parseClause_44 : decode cX6_parseClause 44 = .ok (.aload_n 0, 1) := by decide +kernel
theorem dX6_parseClause_45 : decode cX6_parseClause 45 = .ok (.ldc 51, 2) := by decide +kernel
theorem dX6_parseClause_47 : decode cX6_parseClause 47 = .ok (.invokevirtual 41, 3) := by decide +kernel
theorem dX6_parseClause_50 : decode cX6_parseClause 50 = .ok (.aload_n 0, 1) := by decide +kernel
theorem dX6_parseClause_51 : decode cX6_parseClause 51 = .ok (.iconst 0, 1) := by decide +kernel
theorem dX6_parseClause_52 : decode cX6_parseClause 52 = .ok (.invokevirtual 59, 3) := by decide +kernel
theorem dX6_parseClause_55 : decode cX6_parseClause 55 = .ok (.aload_n 0, 1) := by decide +kernel
theorem dX6_parseClause_56 : decode cX6_parseClause 56 = .ok (.iconst 5, 1) := by decide +kernel
theorem dX6_parseClause_57 : decode cX6_parseClause 57 = .ok (.iload_n 1, 1) := by decide +kernel
theorem dX6_parseClause_58 : decode cX6_parseClause 58 = .ok (.iconst 0, 1) := by decide +kernel
theorem dX6_parseClause_59 : decode cX6_parseClause 59 = .ok (.iload_n 2, 1) := by decide +kernel
theorem dX6_parseClause_60 : decode cX6_parseClause 60 = .ok (.invokevirtual 63, 3) := by decide +kernel
theorem dX6_parseClause_63 : decode cX6_parseClause 63 = .ok (.return_, 1) := by decide +kernel
set_option maxRecDepth 20000 in
theorem rX6_parseClause (D : GD) (d : Nat)  (M : Mm) (post : Option Value → Mm → Prop) (hL : Lay 1 4 M) 
    (h : AMi D d mX6_sees [.ref 1, .int (103 : Int32)] M (fun x2 M1 => ((x2 = 0 → AMv D d mX6_pass [.ref 1, .ref (1000000 + 3)] M1 (fun M8 => AMi D d mX6_passNumber [.ref 1] M8 (fun x15 M14 => AMv D d mX6_pass [.ref 1, .ref (1000000 + 2)] M14 (fun M20 => AMv D d mX6_parseEither [.ref 1, .int (0 : Int32)] M20 (fun M26 => AMv D d mX6_make [.ref 1, .int (5 : Int32), .int (3 : Int32), .int (0 : Int32), .int x15] M26 (fun M32 => post none M32)))))) ∧ (¬ x2 = 0 → AMv D d mX6_pass [.ref 1, .ref (1000000 + 0)] M1 (fun M38 => AMi D d mX6_passOneOf [.ref 1, .ref (1000000 + 1)] M38 (fun x45 M44 => AMv D d mX6_pass [.ref 1, .ref (1000000 + 2)] M44 (fun M50 => AMi D d mX6_passNumber [.ref 1] M50 (fun x57 M56 => AMv D d mX6_pass [.ref 1, .ref (1000000 + 2)] M56 (fun M62 => AMv D d mX6_parseEither [.ref 1, .int (0 : Int32)] M62 (fun M68 => AMv D d mX6_make [.ref 1, .int (5 : Int32), .int x45, .int (0 : Int32), .int x57] M68 (fun M74 => post none M74))))))))))) :
    AM D (d + 1) 0 0 mX6_parseClause [.ref 1] M post := by
  refine AM.of (by decide) (Nat.le_of_ble_eq_true rfl) ?_
  show AW D (d + 1) 0 0 mX6_parseClause 0 0 0 [(0, .ref 1)] [] M post
  refine ab_iconst (v := 3) dX6_parseClause_0 (by decide) ?_
  refine ab_istore_n (lv1 := [(1, .int (3 : Int32)), (0, .ref 1)]) dX6_parseClause_1 (by decide) rfl ?_
  refine ab_aload_n 1 dX6_parseClause_2 rfl ?_
  refine ab_bipush (v := 103) dX6_parseClause_3 (by decide) ?_
  refine ab_callV (a := 1) (c0 := 6) (d' := d) (mc' := 0) (ms' := 0) (vs := [.int (103 : Int32)]) (st := []) dX6_parseClause_5 ⟨cw_X6_sees, w_346⟩ w_348 w_4 (by decide) (hL.sh 1 rfl (by decide) (by decide)).1 (hL.sh 1 rfl (by decide) (by decide)).2 rfl rfl (Nat.le_of_ble_eq_true rfl) (Nat.le_refl _) (Nat.zero_le _) (Nat.zero_le _) (AM.mono h (fun r M1 ⟨x2, hr3, hc4, h⟩ => ?_))
  subst hr3
  refine ab_rs ?_
  have hm5 : Sm M M1 := (Sm.refl M).trans hc4
  have hl6 := hL.of hm5
  refine ab_if_eq (tgt := 33) dX6_parseClause_8 (by decide) (fun c7 => ?_) (fun c7 => ?_)
  · have h := h.1 c7
    refine ab_aload_n 1 dX6_parseClause_33 rfl ?_
    refine ab_ldcs (j := 3) rfl (by decide) (by decide) dX6_parseClause_34 ?_
    refine ab_callV (a := 1) (c0 := 6) (d' := d) (mc' := 0) (ms' := 0) (vs := [.ref (1000000 + 3)]) (st := []) dX6_parseClause_36 ⟨cw_X6_pass, w_351⟩ w_353 w_5 (by decide) (hl6.sh 1 rfl (by decide) (by decide)).1 (hl6.sh 1 rfl (by decide) (by decide)).2 rfl rfl (Nat.le_of_ble_eq_true rfl) (Nat.le_refl _) (Nat.zero_le _) (Nat.zero_le _) (AM.mono h (fun r M8 ⟨hr10, hc11, h⟩ => ?_))
    subst hr10
    refine ab_rv ?_
    have hm12 : Sm M M8 := hm5.trans hc11
    have hl13 := hL.of hm12
    refine ab_aload_n 1 dX6_parseClause_39 rfl ?_
    refine ab_callV (a := 1) (c0 := 6) (d' := d) (mc' := 0) (ms' := 0) (vs := []) (st := []) dX6_parseClause_40 ⟨cw_X6_passNumber, w_410⟩ w_412 w_7 (by decide) (hl13.sh 1 rfl (by decide) (by decide)).1 (hl13.sh 1 rfl (by decide) (by decide)).2 rfl rfl (Nat.le_of_ble_eq_true rfl) (Nat.le_refl _) (Nat.zero_le _) (Nat.zero_le _) (AM.mono h (fun r M14 ⟨x15, hr16, hc17, h⟩ => ?_))
    subst hr16
    refine ab_rs ?_
    have hm18 : Sm M M14 := hm12.trans hc17
    have hl19 := hL.of hm18
    refine ab_istore_n (lv1 := [(2, .int x15), (1, .int (3 : Int32)), (0, .ref 1)]) dX6_parseClause_43 (by decide) rfl ?_
    refine ab_aload_n 2 dX6_parseClause_44 rfl ?_
    refine ab_ldcs (j := 2) rfl (by decide) (by decide) dX6_parseClause_45 ?_
    refine ab_callV (a := 1) (c0 := 6) (d' := d) (mc' := 0) (ms' := 0) (vs := [.ref (1000000 + 2)]) (st := []) dX6_parseClause_47 ⟨cw_X6_pass, w_351⟩ w_353 w_5 (by decide) (hl19.sh 1 rfl (by decide) (by decide)).1 (hl19.sh 1 rfl (by decide) (by decide)).2 rfl rfl (Nat.le_of_ble_eq_true rfl) (Nat.le_refl _) (Nat.zero_le _) (Nat.zero_le _) (AM.mono h (fun r M20 ⟨hr22, hc23, h⟩ => ?_))
    subst hr22
    refine ab_rv ?_
    have hm24 : Sm M M20 := hm18.trans hc23
    have hl25 := hL.of hm24
    refine ab_aload_n 2 dX6_parseClause_50 rfl ?_
    refine ab_iconst (v := 0) dX6_parseClause_51 (by decide) ?_
    refine ab_callV (a := 1) (c0 := 6) (d' := d) (mc' := 0) (ms' := 0) (vs := [.int (0 : Int32)]) (st := []) dX6_parseClause_52 ⟨cw_X6_parseEither, w_418⟩ w_420 w_9 (by decide) (hl25.sh 1 rfl (by decide) (by decide)).1 (hl25.sh 1 rfl (by decide) (by decide)).2 rfl rfl (Nat.le_of_ble_eq_true rfl) (Nat.le_refl _) (Nat.zero_le _) (Nat.zero_le _) (AM.mono h (fun r M26 ⟨hr28, hc29, h⟩ => ?_))
    subst hr28
    refine ab_rv ?_
    have hm30 : Sm M M26 := hm24.trans hc29
    have hl31 := hL.of hm30
    refine ab_aload_n 2 dX6_parseClause_55 rfl ?_
    refine ab_iconst (v := 5) dX6_parseClause_56 (by decide) ?_
    refine ab_iload_n 1 dX6_parseClause_57 rfl ?_
    refine ab_iconst (v := 0) dX6_parseClause_58 (by decide) ?_
    refine ab_iload_n 0 dX6_parseClause_59 rfl ?_
    refine ab_callV (a := 1) (c0 := 6) (d' := d) (mc' := 0) (ms' := 0) (vs := [.int (5 : Int32), .int (3 : Int32), .int (0 : Int32), .int x15]) (st := []) dX6_parseClause_60 ⟨cw_X6_make, w_430⟩ w_432 w_12 (by decide) (hl31.sh 1 rfl (by decide) (by decide)).1 (hl31.sh 1 rfl (by decide) (by decide)).2 rfl rfl (Nat.le_of_ble_eq_true rfl) (Nat.le_refl _) (Nat.zero_le _) (Nat.zero_le _) (AM.mono h (fun r M32 ⟨hr34, hc35, h⟩ => ?_))
    subst hr34
    refine ab_rv ?_
    have hm36 : Sm M M32 := hm30.trans hc35
    have hl37 := hL.of hm36
    exact ab_vret dX6_parseClause_63 rfl h
  · have h := h.2 c7
    refine ab_aload_n 1 dX6_parseClause_11 rfl ?_
    refine ab_ldcs (j := 0) rfl (by decide) (by decide) dX6_parseClause_12 ?_
    refine ab_callV (a := 1) (c0 := 6) (d' := d) (mc' := 0) (ms' := 0) (vs := [.ref (1000000 + 0)]) (st := []) dX6_parseClause_14 ⟨cw_X6_pass, w_351⟩ w_353 w_5 (by decide) (hl6.sh 1 rfl (by decide) (by decide)).1 (hl6.sh 1 rfl (by decide) (by decide)).2 rfl rfl (Nat.le_of_ble_eq_true rfl) (Nat.le_refl _) (Nat.zero_le _) (Nat.zero_le _) (AM.mono h (fun r M38 ⟨hr40, hc41, h⟩ => ?_))
    subst hr40
    refine ab_rv ?_
    have hm42 : Sm M M38 := hm5.trans hc41
    have hl43 := hL.of hm42
    refine ab_aload_n 1 dX6_parseClause_17 rfl ?_
    refine ab_ldcs (j := 1) rfl (by decide) (by decide) dX6_parseClause_18 ?_
    refine ab_callV (a := 1) (c0 := 6) (d' := d) (mc' := 0) (ms' := 0) (vs := [.ref (1000000 + 1)]) (st := []) dX6_parseClause_20 ⟨cw_X6_passOneOf, w_404⟩ w_406 w_6 (by decide) (hl43.sh 1 rfl (by decide) (by decide)).1 (hl43.sh 1 rfl (by decide) (by decide)).2 rfl rfl (Nat.le_of_ble_eq_true rfl) (Nat.le_refl _) (Nat.zero_le _) (Nat.zero_le _) (AM.mono h (fun r M44 ⟨x45, hr46, hc47, h⟩ => ?_))
    subst hr46
    refine ab_rs ?_
    have hm48 : Sm M M44 := hm42.trans hc47
    have hl49 := hL.of hm48
    refine ab_istore_n (lv1 := [(1, .int x45), (0, .ref 1)]) dX6_parseClause_23 (by decide) rfl ?_
    refine ab_aload_n 1 dX6_parseClause_24 rfl ?_
    refine ab_ldcs (j := 2) rfl (by decide) (by decide) dX6_parseClause_25 ?_
    refine ab_callV (a := 1) (c0 := 6) (d' := d) (mc' := 0) (ms' := 0) (vs := [.ref (1000000 + 2)]) (st := []) dX6_parseClause_27 ⟨cw_X6_pass, w_351⟩ w_353 w_5 (by decide) (hl49.sh 1 rfl (by decide) (by decide)).1 (hl49.sh 1 rfl (by decide) (by decide)).2 rfl rfl (Nat.le_of_ble_eq_true rfl) (Nat.le_refl _) (Nat.zero_le _) (Nat.zero_le _) (AM.mono h (fun r M50 ⟨hr52, hc53, h⟩ => ?_))
    subst hr52
    refine ab_rv ?_
    have hm54 : Sm M M50 := hm48.trans hc53
    have hl55 := hL.of hm54
    refine ab_goto (tgt := 39) dX6_parseClause_30 (by decide) ?_
    refine ab_aload_n 1 dX6_parseClause_39 rfl ?_
    refine ab_callV (a := 1) (c0 := 6) (d' := d) (mc' := 0) (ms' := 0) (vs := []) (st := []) dX6_parseClause_40 ⟨cw_X6_passNumber, w_410⟩ w_412 w_7 (by decide) (hl55.sh 1 rfl (by decide) (by decide)).1 (hl55.sh 1 rfl (by decide) (by decide)).2 rfl rfl (Nat.le_of_ble_eq_true rfl) (Nat.le_refl _) (Nat.zero_le _) (Nat.zero_le _) (AM.mono h (fun r M56 ⟨x57, hr58, hc59, h⟩ => ?_))
    subst hr58
    refine ab_rs ?_
    have hm60 : Sm M M56 := hm54.trans hc59
    have hl61 := hL.of hm60
    refine ab_istore_n (lv1 := [(2, .int x57), (1, .int x45), (0, .ref 1)]) dX6_parseClause_43 (by decide) rfl ?_
    refine ab_aload_n 2 dX6_parseClause_44 rfl ?_
    refine ab_ldcs (j := 2) rfl (by decide) (by decide) dX6_parseClause_45 ?_
    refine ab_callV (a := 1) (c0 := 6) (d' := d) (mc' := 0) (ms' := 0) (vs := [.ref (1000000 + 2)]) (st := []) dX6_parseClause_47 ⟨cw_X6_pass, w_351⟩ w_353 w_5 (by decide) (hl61.sh 1 rfl (by decide) (by decide)).1 (hl61.sh 1 rfl (by decide) (by decide)).2 rfl rfl (Nat.le_of_ble_eq_true rfl) (Nat.le_refl _) (Nat.zero_le _) (Nat.zero_le _) (AM.mono h (fun r M62 ⟨hr64, hc65, h⟩ => ?_))
    subst hr64
    refine ab_rv ?_
    have hm66 : Sm M M62 := hm60.trans hc65
    have hl67 := hL.of hm66
    refine ab_aload_n 2 dX6_parseClause_50 rfl ?_
    refine ab_iconst (v := 0) dX6_parseClause_51 (by decide) ?_
    refine ab_callV (a := 1) (c0 := 6) (d' := d) (mc' := 0) (ms' := 0) (vs := [.int (0 : Int32)]) (st := []) dX6_parseClause_52 ⟨cw_X6_parseEither, w_418⟩ w_420 w_9 (by decide) (hl67.sh 1 rfl (by decide) (by decide)).1 (hl67.sh 1 rfl (by decide) (by decide)).2 rfl rfl (Nat.le_of_ble_eq_true rfl) (Nat.le_refl _) (Nat.zero_le _) (Nat.zero_le _) (AM.mono h (fun r M68 ⟨hr70, hc71, h⟩ => ?_))
    subst hr70
    refine ab_rv ?_
    have hm72 : Sm M M68 := hm66.trans hc71
    have hl73 := hL.of hm72
    refine ab_aload_n 2 dX6_parseClause_55 rfl ?_
    refine ab_iconst (v := 5) dX6_parseClause_56 (by decide) ?_
    refine ab_iload_n 1 dX6_parseClause_57 rfl ?_
    refine ab_iconst (v := 0) dX6_parseClause_58 (by decide) ?_
    refine ab_iload_n 0 dX6_parseClause_59 rfl ?_
    refine ab_callV (a := 1) (c0 := 6) (d' := d) (mc' := 0) (ms' := 0) (vs := [.int (5 : Int32), .int x45, .int (0 : Int32), .int x57]) (st := []) dX6_parseClause_60 ⟨cw_X6_make, w_430⟩ w_432 w_12 (by decide) (hl73.sh 1 rfl (by decide) (by decide)).1 (hl73.sh 1 rfl (by decide) (by decide)).2 rfl rfl (Nat.le_of_ble_eq_true rfl) (Nat.le_refl _) (Nat.zero_le _) (Nat.zero_le _) (AM.mono h (fun r M74 ⟨hr76, hc77, h⟩ => ?_))
    subst hr76
    refine ab_rv ?_
    have hm78 : Sm M M74 := hm72.trans hc77
    have hl79 := hL.of hm78
    exact ab_vret dX6_parseClause_63 rfl h
theorem dX6_parseSingle_0 : decode cX6_parseSingle 0 = .ok (.iload_n 1, 1) := by decide +kernel
theorem dX6_parseSingle_1 : decode cX6_parseSingle 1 = .ok (.iconst 4, 1) := by decide +kernel
theorem dX6_parseSingle_2 : decode cX6_parseSingle 2 = .ok (.if_icmp .ge 40, 3) := by decide +kernel
theorem dX6_parseSingle_5 : decode cX6_parseSingle 5 = .ok (.aload_n 0, 1) := by decide +kernel
theorem dX6_parseSingle_6 : decode cX6_parseSingle 6 = .ok (.bipush 33, 2) := by decide +kernel
theorem dX6_parseSingle_8 : decode cX6_parseSingle 8 = .ok (.invokevirtual 35, 3) := by decide +kernel
theorem dX6_parseSingle_11 : decode cX6_parseSingle 11 = .ok (.ifCond .eq 31, 3) := by decide +kernel
theorem dX6_parseSingle_14 : decode cX6_parseSingle 14 = .ok (.aload_n 0, 1) := by decide +kernel
theorem dX6_parseSingle_15 : decode cX6_parseSingle 15 = .ok (.dup, 1) := by decide +kernel
theorem dX6_parseSingle_16 : decode cX6_parseSingle 16 = .ok (.getfield 25, 3) := by decide +kernel
theorem dX6_parseSingle_19 : decode cX6_parseSingle 19 = .ok (.iconst 1, 1) := by decide +kernel
theorem dX6_parseSingle_20 : decode cX6_parseSingle 20 = .ok (.iadd, 1) := by decide +kernel
theorem dX6_parseSingle_21 : decode cX6_parseSingle 21 = .ok (.putfield 25, 3) := by decide +kernel
theorem dX6_parseSingle_24 : decode cX6_parseSingle 24 = .ok (.aload_n 0, 1) := by decide +kernel
theorem dX6_parseSingle_25 : decode cX6_parseSingle 25 = .ok (.iload_n 1, 1) := by decide +kernel
theorem dX6_parseSingle_26 : decode cX6_parseSingle 26 = .ok (.iconst 1, 1) := by decide +kernel
theorem dX6_parseSingle_27 : decode cX6_parseSingle 27 = .ok (.iadd, 1) := by decide +kernel
theorem dX6_parseSingle_28 : decode cX6_parseSingle 28 = .ok (.invokevirtual 70, 3) := by decide +kernel
theorem dX6_parseSingle_31 : decode cX6_parseSingle 31 = .ok (.aload_n 0, 1) := by decide +kernel
theorem dX6_parseSingle_32 : decode cX6_parseSingle 32 = .ok (.iconst 2, 1) := by decide +kernel
theorem dX6_parseSingle_33 : decode cX6_parseSingle 33 = .ok (.iconst 0, 1) := by decide +kernel
theorem dX6_parseSingle_34 : decode cX6_parseSingle 34 = .ok (.iconst 0, 1) := by decide +kernel
theorem dX6_parseSingle_35 : decode cX6_parseSingle 35 = .ok (.iconst 0, 1) := by decide +kernel
theorem dX6_parseSingle_36 : decode cX6_parseSingle 36 = .ok (.invokevirtual 63, 3) := by decide +kernel
theorem dX6_parseSingle_39 : decode cX6_parseSingle 39 = .ok (.goto 68, 3) := by decide +kernel
theorem dX6_parseSingle_42 : decode cX6_parseSingle 42 = .ok (.iload_n 1, 1) := by decide +kernel
theorem dX6_parseSingle_43 : decode cX6_parseSingle 43 = .ok (.iconst 4, 1) := by decide +kernel
theorem dX6_parseSingle_44 : decode cX6_parseSingle 44 = .ok (.if_icmp .ge 38, 3) := by decide +kernel
theorem dX6_parseSingle_47 : decode cX6_parseSingle 47 = .ok (.aload_n 0, 1) := by decide +kernel
theorem dX6_parseSingle_48 : decode cX6_parseSingle 48 = .ok (.bipush 40, 2) := by decide +kernel
theorem dX6_parseSingle_50 : decode cX6_parseSingle 50 = .ok (.invokevirtual 35, 3) := by decide +kernel
theorem dX6_parseSingle_53 : decode cX6_parseSingle 53 = .ok (.ifCond .eq 29, 3) := by decide +kernel
theorem dX6_parseSingle_56 : decode cX6_parseSingle 56 = .ok (.aload_n 0, 1) := by decide +kernel
theorem dX6_parseSingle_57 : decode cX6_parseSingle 57 = .ok (.dup, 1) := by decide +kernel
theorem dX6_parseSingle_58 : decode cX6_parseSingle 58 = .ok (.getfield 25, 3) := by decide +kernel
theorem dX6_parseSingle_61 : decode cX6_parseSingle 61 = .ok (.iconst 1, 1) := by decide +kernel
theorem dX6_parseSingle_62 : decode cX6_parseSingle 62 = .ok (.iadd, 1) := by decide +kernel
theorem dX6_parseSingle_63 : decode cX6_parseSingle 63 = .ok (.putfield 25, 3) := by decide +kernel
theorem dX6_parseSingle_66 : decode cX6_parseSingle 66 = .ok (.aload_n 0, 1) := by decide +kernel
theorem dX6_parseSingle_67 : decode cX6_parseSingle 67 = .ok (.iload_n 1, 1) := by decide +kernel
theorem dX6_parseSingle_68 : decode cX6_parseSingle 68 = .ok (.iconst 1, 1) := by decide +kernel
theorem dX6_parseSingle_69 : decode cX6_parseSingle 69 = .ok (.iadd, 1) := by decide +kernel
theorem dX6_parseSingle_70 : decode cX6_parseSingle 70 = .ok (.invokevirtual 59, 3) := by decide +kernel
theorem dX6_parseSingle_73 : decode cX6_parseSingle 73 = .ok (.aload_n 0, 1) := by decide +kernel
theorem dX6_parseSingle_74 : decode cX6_parseSingle 74 = .ok (.ldc 73, 2) := by decide +kernel
theorem dX6_parseSingle_76 : decode cX6_parseSingle 76 = .ok (.invokevirtual 41, 3) := by decide +kernel
theorem dX6_parseSingle_79 : decode cX6_parseSingle 79 = .ok (.goto 28, 3) := by decide +kernel
theorem dX6_parseSingle_82 : decode cX6_parseSingle 82 = .ok (.aload_n 0, 1) := by decide +kernel
theorem dX6_parseSingle_83 : decode cX6_parseSingle 83 = .ok (.ldc 75, 2) := by decide +kernel
theorem dX6_parseSingle_85 : decode cX6_parseSingle 85 = .ok (.invokevirtual 47, 3) := by decide +kernel
theorem dX6_parseSingle_88 : decode cX6_parseSingle 88 = .ok (.istore_n 2, 1) := by decide +kernel
theorem dX6_parseSingle_89 : decode cX6_parseSingle 89 = .ok (.aload_n 0, 1) := by decide +kernel
theorem dX6_parseSingle_90 : decode cX6_parseSingle 90 = .ok (.ldc 77, 2) := by decide +kernel
theorem dX6_parseSingle_92 : decode cX6_parseSingle 92 = .ok (.invokevirtual 47, 3) := by decide +kernel
theorem dX6_parseSingle_95 : decode cX6_parseSingle 95 = .ok (.istore_n 3, 1) := by decide +kernel
theorem dX6_parseSingle_96 : decode cX6_parseSingle 96 = .ok (.aload_n 0, 1) := by decide +kernel
theorem dX6_parseSingle_97 : decode cX6_parseSingle 97 = .ok (.iconst 1, 1) := by decide +kernel
theorem dX6_parseSingle_98 : decode cX6_parseSingle 98 = .ok (.iload_n 2, 1) := by decide +kernel
theorem dX6_parseSingle_99 : decode cX6_parseSingle 99 = .ok (.iload_n 3, 1) := by decide +kernel
theorem dX6_parseSingle_100 : decode cX6_parseSingle 100 = .ok (.aload_n 0, 1) := by decide +kernel
theorem dX6_parseSingle_101 : decode cX6_parseSingle 101 = .ok (.invokevirtual 55, 3) := by decide +kernel
theorem dX6_parseSingle_104 : decode cX6_parseSingle 104 = .ok (.invokevirtual 63, 3) := by decide +kernel
theorem dX6_parseSingle_107 : decode cX6_parseSingle 107 = .ok (.return_, 1) := by decide +kernel
set_option maxRecDepth 20000 in
theorem rX6_parseSingle (D : GD) (d : Nat) (a1 : Int32) (M : Mm) (post : Option Value → Mm → Prop) (hL : Lay 1 4 M) 
    (h : (((4 : Int32) ≤ a1 → (((4 : Int32) ≤ a1 → AMi D d mX6_passOneOf [.ref 1, .ref (1000000 + 5)] M (fun x4 M3 => AMi D d mX6_passOneOf [.ref 1, .ref (1000000 + 6)] M3 (fun x10 M9 => AMi D d mX6_passNumber [.ref 1] M9 (fun x16 M15 => AMv D d mX6_make [.ref 1, .int (1 : Int32), .int x4, .int x10, .int x16] M15 (fun M21 => post none M21))))) ∧ (¬ (4 : Int32) ≤ a1 → AMi D d mX6_sees [.ref 1, .int (40 : Int32)] M (fun x28 M27 => ((x28 = 0 → AMi D d mX6_passOneOf [.ref 1, .ref (1000000 + 5)] M27 (fun x35 M34 => AMi D d mX6_passOneOf [.ref 1, .ref (1000000 + 6)] M34 (fun x41 M40 => AMi D d mX6_passNumber [.ref 1] M40 (fun x47 M46 => AMv D d mX6_make [.ref 1, .int (1 : Int32), .int x35, .int x41, .int x47] M46 (fun M52 => post none M52))))) ∧ (¬ x28 = 0 → ∀ M58 : Mm, M58 = sI M27 1 4 ((gI M27 1 4) + (1 : Int32)) → AMv D d mX6_parseEither [.ref 1, .int (a1 + (1 : Int32))] M58 (fun M62 => AMv D d mX6_pass [.ref 1, .ref (1000000 + 4)] M62 (fun M68 => post none M68)))))))) ∧ (¬ (4 : Int32) ≤ a1 → AMi D d mX6_sees [.ref 1, .int (33 : Int32)] M (fun x75 M74 => ((x75 = 0 → (((4 : Int32) ≤ a1 → AMi D d mX6_passOneOf [.ref 1, .ref (1000000 + 5)] M74 (fun x83 M82 => AMi D d mX6_passOneOf [.ref 1, .ref (1000000 + 6)] M82 (fun x89 M88 => AMi D d mX6_passNumber [.ref 1] M88 (fun x95 M94 => AMv D d mX6_make [.ref 1, .int (1 : Int32), .int x83, .int x89, .int x95] M94 (fun M100 => post none M100))))) ∧ (¬ (4 : Int32) ≤ a1 → AMi D d mX6_sees [.ref 1, .int (40 : Int32)] M74 (fun x107 M106 => ((x107 = 0 → AMi D d mX6_passOneOf [.ref 1, .ref (1000000 + 5)] M106 (fun x114 M113 => AMi D d mX6_passOneOf [.ref 1, .ref (1000000 + 6)] M113 (fun x120 M119 => AMi D d mX6_passNumber [.ref 1] M119 (fun x126 M125 => AMv D d mX6_make [.ref 1, .int (1 : Int32), .int x114, .int x120, .int x126] M125 (fun M131 => post none M131))))) ∧ (¬ x107 = 0 → ∀ M137 : Mm, M137 = sI M106 1 4 ((gI M106 1 4) + (1 : Int32)) → AMv D d mX6_parseEither [.ref 1, .int (a1 + (1 : Int32))] M137 (fun M141 => AMv D d mX6_pass [.ref 1, .ref (1000000 + 4)] M141 (fun M147 => post none M147)))))))) ∧ (¬ x75 = 0 → ∀ M153 : Mm, M153 = sI M74 1 4 ((gI M74 1 4) + (1 : Int32)) → AMv D d mX6_parseSingle [.ref 1, .int (a1 + (1 : Int32))] M153 (fun M157 => AMv D d mX6_make [.ref 1, .int (2 : Int32), .int (0 : Int32), .int (0 : Int32), .int (0 : Int32)] M157 (fun M163 => post none M163)))))))) :
    AM D (d + 1) 0 0 mX6_parseSingle [.ref 1, .int a1] M post := by
  refine AM.of (by decide) (Nat.le_of_ble_eq_true rfl) ?_
  show AW D (d + 1) 0 0 mX6_parseSingle 0 0 0 [(0, .ref 1), (1, .int a1)] [] M post
  refine ab_iload_n 1 dX6_parseSingle_0 rfl ?_
  refine ab_iconst (v := 4) dX6_parseSingle_1 (by decide) ?_
  refine ab_icmp_ge (tgt := 42) dX6_parseSingle_2 (by decide) (fun c1 => ?_) (fun c1 => ?_)
  · have h := h.1 c1
    refine ab_iload_n 1 dX6_parseSingle_42 rfl ?_
    refine ab_iconst (v := 4) dX6_parseSingle_43 (by decide) ?_
    refine ab_icmp_ge (tgt := 82) dX6_parseSingle_44 (by decide) (fun c2 => ?_) (fun c2 => ?_)
    · have h := h.1 c2
      refine ab_aload_n 0 dX6_parseSingle_82 rfl ?_
      refine ab_ldcs (j := 5) rfl (by decide) (by decide) dX6_parseSingle_83 ?_
      refine ab_callV (a := 1) (c0 := 6) (d' := d) (mc' := 0) (ms' := 0) (vs := [.ref (1000000 + 5)]) (st := []) dX6_parseSingle_85 ⟨cw_X6_passOneOf, w_404⟩ w_406 w_6 (by decide) (hL.sh 1 rfl (by decide) (by decide)).1 (hL.sh 1 rfl (by decide) (by decide)).2 rfl rfl (Nat.le_of_ble_eq_true rfl) (Nat.le_refl _) (Nat.zero_le _) (Nat.zero_le _) (AM.mono h (fun r M3 ⟨x4, hr5, hc6, h⟩ => ?_))
      subst hr5
      refine ab_rs ?_
      have hm7 : Sm M M3 := (Sm.refl M).trans hc6
      have hl8 := hL.of hm7
      refine ab_istore_n (lv1 := [(2, .int x4), (0, .ref 1), (1, .int a1)]) dX6_parseSingle_88 (by decide) rfl ?_
      refine ab_aload_n 1 dX6_parseSingle_89 rfl ?_
      refine ab_ldcs (j := 6) rfl (by decide) (by decide) dX6_parseSingle_90 ?_
      refine ab_callV (a := 1) (c0 := 6) (d' := d) (mc' := 0) (ms' := 0) (vs := [.ref (1000000 + 6)]) (st := []) dX6_parseSingle_92 ⟨cw_X6_passOneOf, w_404⟩ w_406 w_6 (by decide) (hl8.sh 1 rfl (by decide) (by decide)).1 (hl8.sh 1 rfl (by decide) (by decide)).2 rfl rfl (Nat.le_of_ble_eq_true rfl) (Nat.le_refl _) (Nat.zero_le _) (Nat.zero_le _) (AM.mono h (fun r M9 ⟨x10, hr11, hc12, h⟩ => ?_))
      subst hr11
      refine ab_rs ?_
      have hm13 : Sm M M9 := hm7.trans hc12
      have hl14 := hL.of hm13
      refine ab_istore_n (lv1 := [(3, .int x10), (2, .int x4), (0, .ref 1), (1, .int a1)]) dX6_parseSingle_95 (by decide) rfl ?_
      refine ab_aload_n 2 dX6_parseSingle_96 rfl ?_
      refine ab_iconst (v := 1) dX6_parseSingle_97 (by decide) ?_
      refine ab_iload_n 1 dX6_parseSingle_98 rfl ?_
      refine ab_iload_n 0 dX6_parseSingle_99 rfl ?_
      refine ab_aload_n 2 dX6_parseSingle_100 rfl ?_
      refine ab_callV (a := 1) (c0 := 6) (d' := d) (mc' := 0) (ms' := 0) (vs := []) (st := [.int x10, .int x4, .int (1 : Int32), .ref 1]) dX6_parseSingle_101 ⟨cw_X6_passNumber, w_410⟩ w_412 w_7 (by decide) (hl14.sh 1 rfl (by decide) (by decide)).1 (hl14.sh 1 rfl (by decide) (by decide)).2 rfl rfl (Nat.le_of_ble_eq_true rfl) (Nat.le_refl _) (Nat.zero_le _) (Nat.zero_le _) (AM.mono h (fun r M15 ⟨x16, hr17, hc18, h⟩ => ?_))
      subst hr17
      refine ab_rs ?_
      have hm19 : Sm M M15 := hm13.trans hc18
      have hl20 := hL.of hm19
      refine ab_callV (a := 1) (c0 := 6) (d' := d) (mc' := 0) (ms' := 0) (vs := [.int (1 : Int32), .int x4, .int x10, .int x16]) (st := []) dX6_parseSingle_104 ⟨cw_X6_make, w_430⟩ w_432 w_12 (by decide) (hl20.sh 1 rfl (by decide) (by decide)).1 (hl20.sh 1 rfl (by decide) (by decide)).2 rfl rfl (Nat.le_of_ble_eq_true rfl) (Nat.le_refl _) (Nat.zero_le _) (Nat.zero_le _) (AM.mono h (fun r M21 ⟨hr23, hc24, h⟩ => ?_))
      subst hr23
      refine ab_rv ?_
      have hm25 : Sm M M21 := hm19.trans hc24
      have hl26 := hL.of hm25
      exact ab_vret dX6_parseSingle_107 rfl h
    · have h := h.2 c2
      refine ab_aload_n 0 dX6_parseSingle_47 rfl ?_
      refine ab_bipush (v := 40) dX6_parseSingle_48 (by decide) ?_
      refine ab_callV (a := 1) (c0 := 6) (d' := d) (mc' := 0) (ms' := 0) (vs := [.int (40 : Int32)]) (st := []) dX6_parseSingle_50 ⟨cw_X6_sees, w_346⟩ w_348 w_4 (by decide) (hL.sh 1 rfl (by decide) (by decide)).1 (hL.sh 1 rfl (by decide) (by decide)).2 rfl rfl (Nat.le_of_ble_eq_true rfl) (Nat.le_refl _) (Nat.zero_le _) (Nat.zero_le _) (AM.mono h (fun r M27 ⟨x28, hr29, hc30, h⟩ => ?_))
      subst hr29
      refine ab_rs ?_
      have hm31 : Sm M M27 := (Sm.refl M).trans hc30
      have hl32 := hL.of hm31
      refine ab_if_eq (tgt := 82) dX6_parseSingle_53 (by decide) (fun c33 => ?_) (fun c33 => ?_)
      · have h := h.1 c33
        refine ab_aload_n 0 dX6_parseSingle_82 rfl ?_
        refine ab_ldcs (j := 5) rfl (by decide) (by decide) dX6_parseSingle_83 ?_
        refine ab_callV (a := 1) (c0 := 6) (d' := d) (mc' := 0) (ms' := 0) (vs := [.ref (1000000 + 5)]) (st := []) dX6_parseSingle_85 ⟨cw_X6_passOneOf, w_404⟩ w_406 w_6 (by decide) (hl32.sh 1 rfl (by decide) (by decide)).1 (hl32.sh 1 rfl (by decide) (by decide)).2 rfl rfl (Nat.le_of_ble_eq_true rfl) (Nat.le_refl _) (Nat.zero_le _) (Nat.zero_le _) (AM.mono h (fun r M34 ⟨x35, hr36, hc37, h⟩ => ?_))
        subst hr36
        refine ab_rs ?_
        have hm38 : Sm M M34 := hm31.trans hc37
        have hl39 := hL.of hm38
        refine ab_istore_n (lv1 := [(2, .int x35), (0, .ref 1), (1, .int a1)]) dX6_parseSingle_88 (by decide) rfl ?_
        refine ab_aload_n 1 dX6_parseSingle_89 rfl ?_
        refine ab_ldcs (j := 6) rfl (by decide) (by decide) dX6_parseSingle_90 ?_
        refine ab_callV (a := 1) (c0 := 6) (d' := d) (mc' := 0) (ms' := 0) (vs := [.ref (1000000 + 6)]) (st := []) dX6_parseSingle_92 ⟨cw_X6_passOneOf, w_404⟩ w_406 w_6 (by decide) (hl39.sh 1 rfl (by decide) (by decide)).1 (hl39.sh 1 rfl (by decide) (by decide)).2 rfl rfl (Nat.le_of_ble_eq_true rfl) (Nat.le_refl _) (Nat.zero_le _) (Nat.zero_le _) (AM.mono h (fun r M40 ⟨x41, hr42, hc43, h⟩ => ?_))
        subst hr42
        refine ab_rs ?_
        have hm44 : Sm M M40 := hm38.trans hc43
        have hl45 := hL.of hm44
        refine ab_istore_n (lv1 := [(3, .int x41), (2, .int x35), (0, .ref 1), (1, .int a1)]) dX6_parseSingle_95 (by decide) rfl ?_
        refine ab_aload_n 2 dX6_parseSingle_96 rfl ?_
        refine ab_iconst (v := 1) dX6_parseSingle_97 (by decide) ?_
        refine ab_iload_n 1 dX6_parseSingle_98 rfl ?_
        refine ab_iload_n 0 dX6_parseSingle_99 rfl ?_
        refine ab_aload_n 2 dX6_parseSingle_100 rfl ?_
        refine ab_callV (a := 1) (c0 := 6) (d' := d) (mc' := 0) (ms' := 0) (vs := []) (st := [.int x41, .int x35, .int (1 : Int32), .ref 1]) dX6_parseSingle_101 ⟨cw_X6_passNumber, w_410⟩ w_412 w_7 (by decide) (hl45.sh 1 rfl (by decide) (by decide)).1 (hl45.sh 1 rfl (by decide) (by decide)).2 rfl rfl (Nat.le_of_ble_eq_true rfl) (Nat.le_refl _) (Nat.zero_le _) (Nat.zero_le _) (AM.mono h (fun r M46 ⟨x47, hr48, hc49, h⟩ => ?_))
        subst hr48
        refine ab_rs ?_
        have hm50 : Sm M M46 := hm44.trans hc49
        have hl51 := hL.of hm50
        refine ab_callV (a := 1) (c0 := 6) (d' := d) (mc' := 0) (ms' := 0) (vs := [.int (1 : Int32), .int x35, .int x41, .int x47]) (st := []) dX6_parseSingle_104 ⟨cw_X6_make, w_430⟩ w_432 w_12 (by decide) (hl51.sh 1 rfl (by decide) (by decide)).1 (hl51.sh 1 rfl (by decide) (by decide)).2 rfl rfl (Nat.le_of_ble_eq_true rfl) (Nat.le_refl _) (Nat.zero_le _) (Nat.zero_le _) (AM.mono h (fun r M52 ⟨hr54, hc55, h⟩ => ?_))
        subst hr54
        refine ab_rv ?_
        have hm56 : Sm M M52 := hm50.trans hc55
        have hl57 := hL.of hm56
        exact ab_vret dX6_parseSingle_107 rfl h
      · have h := h.2 c33
        refine ab_aload_n 0 dX6_parseSingle_56 rfl ?_
        refine ab_dup dX6_parseSingle_57 rfl ?_
        refine ab_getI dX6_parseSingle_58 fs_6_25_6 rfl (hl32.sh 1 rfl (by decide) (by decide)).1 (hl32.sh 1 rfl (by decide) (by decide)).2 ?_
        refine ab_iconst (v := 1) dX6_parseSingle_61 (by decide) ?_
        refine ab_iadd dX6_parseSingle_62 ?_
        refine ab_putI dX6_parseSingle_63 fs_6_25_6 rfl rfl (hl32.sh 1 rfl (by decide) (by decide)).1 (hl32.sh 1 rfl (by decide) (by decide)).2 ?_
        refine ab_nameM (fun M58 hM58 => ?_)
        have h := h M58 hM58
        have hs61 : Sm M27 M58 := hM58 ▸ (Sm.refl _).i
        have hm59 : Sm M M58 := hm31.trans hs61
        have hl60 := hL.of hm59
        refine ab_aload_n 0 dX6_parseSingle_66 rfl ?_
        refine ab_iload_n 1 dX6_parseSingle_67 rfl ?_
        refine ab_iconst (v := 1) dX6_parseSingle_68 (by decide) ?_
        refine ab_iadd dX6_parseSingle_69 ?_
        refine ab_callV (a := 1) (c0 := 6) (d' := d) (mc' := 0) (ms' := 0) (vs := [.int (a1 + (1 : Int32))]) (st := []) dX6_parseSingle_70 ⟨cw_X6_parseEither, w_418⟩ w_420 w_9 (by decide) (hl60.sh 1 rfl (by decide) (by decide)).1 (hl60.sh 1 rfl (by decide) (by decide)).2 rfl rfl (Nat.le_of_ble_eq_true rfl) (Nat.le_refl _) (Nat.zero_le _) (Nat.zero_le _) (AM.mono h (fun r M62 ⟨hr64, hc65, h⟩ => ?_))
        subst hr64
        refine ab_rv ?_
        have hm66 : Sm M M62 := hm59.trans hc65
        have hl67 := hL.of hm66
        refine ab_aload_n 0 dX6_parseSingle_73 rfl ?_
        refine ab_ldcs (j := 4) rfl (by decide) (by decide) dX6_parseSingle_74 ?_
        refine ab_callV (a := 1) (c0 := 6) (d' := d) (mc' := 0) (ms' := 0) (vs := [.ref (1000000 + 4)]) (st := []) dX6_parseSingle_76 ⟨cw_X6_pass, w_351⟩ w_353 w_5 (by decide) (hl67.sh 1 rfl (by decide) (by decide)).1 (hl67.sh 1 rfl (by decide) (by decide)).2 rfl rfl (Nat.le_of_ble_eq_true rfl) (Nat.le_refl _) (Nat.zero_le _) (Nat.zero_le _) (AM.mono h (fun r M68 ⟨hr70, hc71, h⟩ => ?_))
        subst hr70
        refine ab_rv ?_
        have hm72 : Sm M M68 := hm66.trans hc71
        have hl73 := hL.of hm72
        refine ab_goto (tgt := 107) dX6_parseSingle_79 (by decide) ?_
        exact ab_vret dX6_parseSingle_107 rfl h
  · have h := h.2 c1
    refine ab_aload_n 0 dX6_parseSingle_5 rfl ?_
    refine ab_bipush (v := 33) dX6_parseSingle_6 (by decide) ?_
    refine ab_callV (a := 1) (c0 := 6) (d' := d) (mc' := 0) (ms' := 0) (vs := [.int (33 : Int32)]) (st := []) dX6_parseSingle_8 ⟨cw_X6_sees, w_346⟩ w_348 w_4 (by decide) (hL.sh 1 rfl (by decide) (by decide)).1 (hL.sh 1 rfl (by decide) (by decide)).2 rfl rfl (Nat.le_of_ble_eq_true rfl) (Nat.le_refl _) (Nat.zero_le _) (Nat.zero_le _) (AM.mono h (fun r M74 ⟨x75, hr76, hc77, h⟩ => ?_))
    subst hr76
    refine ab_rs ?_
    have hm78 : Sm M M74 := (Sm.refl M).trans hc77
    have hl79 := hL.of hm78
    refine ab_if_eq (tgt := 42) dX6_parseSingle_11 (by decide) (fun c80 => ?_) (fun c80 => ?_)
    · have h := h.1 c80
      refine ab_iload_n 1 dX6_parseSingle_42 rfl ?_
      refine ab_iconst (v := 4) dX6_parseSingle_43 (by decide) ?_
      refine ab_icmp_ge (tgt := 82) dX6_parseSingle_44 (by decide) (fun c81 => ?_) (fun c81 => ?_)
      · have h := h.1 c81
        refine ab_aload_n 0 dX6_parseSingle_82 rfl ?_
        refine ab_ldcs (j := 5) rfl (by decide) (by decide) dX6_parseSingle_83 ?_
        refine ab_callV (a := 1) (c0 := 6) (d' := d) (mc' := 0) (ms' := 0) (vs := [.ref (1000000 + 5)]) (st := []) dX6_parseSingle_85 ⟨cw_X6_passOneOf, w_404⟩ w_406 w_6 (by decide) (hl79.sh 1 rfl (by decide) (by decide)).1 (hl79.sh 1 rfl (by decide) (by decide)).2 rfl rfl (Nat.le_of_ble_eq_true rfl) (Nat.le_refl _) (Nat.zero_le _) (Nat.zero_le _) (AM.mono h (fun r M82 ⟨x83, hr84, hc85, h⟩ => ?_))
        subst hr84
        refine ab_rs ?_
        have hm86 : Sm M M82 := hm78.trans hc85
        have hl87 := hL.of hm86
        refine ab_istore_n (lv1 := [(2, .int x83), (0, .ref 1), (1, .int a1)]) dX6_parseSingle_88 (by decide) rfl ?_
        refine ab_aload_n 1 dX6_parseSingle_89 rfl ?_
        refine ab_ldcs (j := 6) rfl (by decide) (by decide) dX6_parseSingle_90 ?_
        refine ab_callV (a := 1) (c0 := 6) (d' := d) (mc' := 0) (ms' := 0) (vs := [.ref (1000000 + 6)]) (st := []) dX6_parseSingle_92 ⟨cw_X6_passOneOf, w_404⟩ w_406 w_6 (by decide) (hl87.sh 1 rfl (by decide) (by decide)).1 (hl87.sh 1 rfl (by decide) (by decide)).2 rfl rfl (Nat.le_of_ble_eq_true rfl) (Nat.le_refl _) (Nat.zero_le _) (Nat.zero_le _) (AM.mono h (fun r M88 ⟨x89, hr90, hc91, h⟩ => ?_))
        subst hr90
        refine ab_rs ?_
        have hm92 : Sm M M88 := hm86.trans hc91
        have hl93 := hL.of hm92
        refine ab_istore_n (lv1 := [(3, .int x89), (2, .int x83), (0, .ref 1), (1, .int a1)]) dX6_parseSingle_95 (by decide) rfl ?_
        refine ab_aload_n 2 dX6_parseSingle_96 rfl ?_
        refine ab_iconst (v := 1) dX6_parseSingle_97 (by decide) ?_
        refine ab_iload_n 1 dX6_parseSingle_98 rfl ?_
        refine ab_iload_n 0 dX6_parseSingle_99 rfl ?_
        refine ab_aload_n 2 dX6_parseSingle_100 rfl ?_
        refine ab_callV (a := 1) (c0 := 6) (d' := d) (mc' := 0) (ms' := 0) (vs := []) (st := [.int x89, .int x83, .int (1 : Int32), .ref 1]) dX6_parseSingle_101 ⟨cw_X6_passNumber, w_410⟩ w_412 w_7 (by decide) (hl93.sh 1 rfl (by decide) (by decide)).1 (hl93.sh 1 rfl (by decide) (by decide)).2 rfl rfl (Nat.le_of_ble_eq_true rfl) (Nat.le_refl _) (Nat.zero_le _) (Nat.zero_le _) (AM.mono h (fun r M94 ⟨x95, hr96, hc97, h⟩ => ?_))
        subst hr96
        refine ab_rs ?_
        have hm98 : Sm M M94 := hm92.trans hc97
        have hl99 := hL.of hm98
        refine ab_callV (a := 1) (c0 := 6) (d' := d) (mc' := 0) (ms' := 0) (vs := [.int (1 : Int32), .int x83, .int x89, .int x95]) (st := []) dX6_parseSingle_104 ⟨cw_X6_make, w_430⟩ w_432 w_12 (by decide) (hl99.sh 1 rfl (by decide) (by decide)).1 (hl99.sh 1 rfl (by decide) (by decide)).2 rfl rfl (Nat.le_of_ble_eq_true rfl) (Nat.le_refl _) (Nat.zero_le _) (Nat.zero_le _) (AM.mono h (fun r M100 ⟨hr102, hc103, h⟩ => ?_))
        subst hr102
        refine ab_rv ?_
        have hm104 : Sm M M100 := hm98.trans hc103
        have hl105 := hL.of hm104
        exact ab_vret dX6_parseSingle_107 rfl h
      · have h := h.2 c81
        refine ab_aload_n 0 dX6_parseSingle_47 rfl ?_
        refine ab_bipush (v := 40) dX6_parseSingle_48 (by decide) ?_
        refine ab_callV (a := 1) (c0 := 6) (d' := d) (mc' := 0) (ms' := 0) (vs := [.int (40 : Int32)]) (st := []) dX6_parseSingle_50 ⟨cw_X6_sees, w_346⟩ w_348 w_4 (by decide) (hl79.sh 1 rfl (by decide) (by decide)).1 (hl79.sh 1 rfl (by decide) (by decide)).2 rfl rfl (Nat.le_of_ble_eq_true rfl) (Nat.le_refl _) (Nat.zero_le _) (Nat.zero_le _) (AM.mono h (fun r M106 ⟨x107, hr108, hc109, h⟩ => ?_))
        subst hr108
        refine ab_rs ?_
        have hm110 : Sm M M106 := hm78.trans hc109
        have hl111 := hL.of hm110
        refine ab_if_eq (tgt := 82) dX6_parseSingle_53 (by decide) (fun c112 => ?_) (fun c112 => ?_)
        · have h := h.1 c112
          refine ab_aload_n 0 dX6_parseSingle_82 rfl ?_
          refine ab_ldcs (j := 5) rfl (by decide) (by decide) dX6_parseSingle_83 ?_
          refine ab_callV (a := 1) (c0 := 6) (d' := d) (mc' := 0) (ms' := 0) (vs := [.ref (1000000 + 5)]) (st := []) dX6_parseSingle_85 ⟨cw_X6_passOneOf, w_404⟩ w_406 w_6 (by decide) (hl111.sh 1 rfl (by decide) (by decide)).1 (hl111.sh 1 rfl (by decide) (by decide)).2 rfl rfl (Nat.le_of_ble_eq_true rfl) (Nat.le_refl _) (Nat.zero_le _) (Nat.zero_le _) (AM.mono h (fun r M113 ⟨x114, hr115, hc116, h⟩ => ?_))
          subst hr115
          refine ab_rs ?_
          have hm117 : Sm M M113 := hm110.trans hc116
          have hl118 := hL.of hm117
          refine ab_istore_n (lv1 := [(2, .int x114), (0, .ref 1), (1, .int a1)]) dX6_parseSingle_88 (by decide) rfl ?_
          refine ab_aload_n 1 dX6_parseSingle_89 rfl ?_
          refine ab_ldcs (j := 6) rfl (by decide) (by decide) dX6_parseSingle_90 ?_
          refine ab_callV (a := 1) (c0 := 6) (d' := d) (mc' := 0) (ms' := 0) (vs := [.ref (1000000 + 6)]) (st := []) dX6_parseSingle_92 ⟨cw_X6_passOneOf, w_404⟩ w_406 w_6 (by decide) (hl118.sh 1 rfl (by decide) (by decide)).1 (hl118.sh 1 rfl (by decide) (by decide)).2 rfl rfl (Nat.le_of_ble_eq_true rfl) (Nat.le_refl _) (Nat.zero_le _) (Nat.zero_le _) (AM.mono h (fun r M119 ⟨x120, hr121, hc122, h⟩ => ?_))
          subst hr121
          refine ab_rs ?_
          have hm123 : Sm M M119 := hm117.trans hc122
          have hl124 := hL.of hm123
          refine ab_istore_n (lv1 := [(3, .int x120), (2, .int x114), (0, .ref 1), (1, .int a1)]) dX6_parseSingle_95 (by decide) rfl ?_
          refine ab_aload_n 2 dX6_parseSingle_96 rfl ?_
          refine ab_iconst (v := 1) dX6_parseSingle_97 (by decide) ?_
          refine ab_iload_n 1 dX6_parseSingle_98 rfl ?_
          refine ab_iload_n 0 dX6_parseSingle_99 rfl ?_
          refine ab_aload_n 2 dX6_parseSingle_100 rfl ?_
          refine ab_callV (a := 1) (c0 := 6) (d' := d) (mc' := 0) (ms' := 0) (vs := []) (st := [.int x120, .int x114, .int (1 : Int32), .ref 1]) dX6_parseSingle_101 ⟨cw_X6_passNumber, w_410⟩ w_412 w_7 (by decide) (hl124.sh 1 rfl (by decide) (by decide)).1 (hl124.sh 1 rfl (by decide) (by decide)).2 rfl rfl (Nat.le_of_ble_eq_true rfl) (Nat.le_refl _) (Nat.zero_le _) (Nat.zero_le _) (AM.mono h (fun r M125 ⟨x126, hr127, hc128, h⟩ => ?_))
          subst hr127
          refine ab_rs ?_
          have hm129 : Sm M M125 := hm123.trans hc128
          have hl130 := hL.of hm129
          refine ab_callV (a := 1) (c0 := 6) (d' := d) (mc' := 0) (ms' := 0) (vs := [.int (1 : Int32), .int x114, .int x120, .int x126]) (st := []) dX6_parseSingle_104 ⟨cw_X6_make, w_430⟩ w_432 w_12 (by decide) (hl130.sh 1 rfl (by decide) (by decide)).1 (hl130.sh 1 rfl (by decide) (by decide)).2 rfl rfl (Nat.le_of_ble_eq_true rfl) (Nat.le_refl _) (Nat.zero_le _) (Nat.zero_le _) (AM.mono h (fun r M131 ⟨hr133, hc134, h⟩ => ?_))
          subst hr133
          refine ab_rv ?_
          have hm135 : Sm M M131 := hm129.trans hc134
          have hl136 := hL.of hm135
          exact ab_vret dX6_parseSingle_107 rfl h
        · have h := h.2 c112
          refine ab_aload_n 0 dX6_parseSingle_56 rfl ?_
          refine ab_dup dX6_parseSingle_57 rfl ?_
          refine ab_getI dX6_parseSingle_58 fs_6_25_6 rfl (hl111.sh 1 rfl (by decide) (by decide)).1 (hl111.sh 1 rfl (by decide) (by decide)).2 ?_
          refine ab_iconst (v := 1) dX6_parseSingle_61 (by decide) ?_
          refine ab_iadd dX6_parseSingle_62 ?_
          refine ab_putI dX6_parseSingle_63 fs_6_25_6 rfl rfl (hl111.sh 1 rfl (by decide) (by decide)).1 (hl111.sh 1 rfl (by decide) (by decide)).2 ?_
          refine ab_nameM (fun M137 hM137 => ?_)
          have h := h M137 hM137
          have hs140 : Sm M106 M137 := hM137 ▸ (Sm.refl _).i
          have hm138 : Sm M M137 := hm110.trans hs140
          have hl139 := hL.of hm138
          refine ab_aload_n 0 dX6_parseSingle_66 rfl ?_
          refine ab_iload_n 1 dX6_parseSingle_67 rfl ?_
          refine ab_iconst (v := 1) dX6_parseSingle_68 (by decide) ?_
          refine ab_iadd dX6_parseSingle_69 ?_
          refine ab_callV (a := 1) (c0 := 6) (d' := d) (mc' := 0) (ms' := 0) (vs := [.int (a1 + (1 : Int32))]) (st := []) dX6_parseSingle_70 ⟨cw_X6_parseEither, w_418⟩ w_420 w_9 (by decide) (hl139.sh 1 rfl (by decide) (by decide)).1 (hl139.sh 1 rfl (by decide) (by decide)).2 rfl rfl (Nat.le_of_ble_eq_true rfl) (Nat.le_refl _) (Nat.zero_le _) (Nat.zero_le _) (AM.mono h (fun r M141 ⟨hr143, hc144, h⟩ => ?_))
          subst hr143
          refine ab_rv ?_
          have hm145 : Sm M M141 := hm138.trans hc144
          have hl146 := hL.of hm145
          refine ab_aload_n 0 dX6_parseSingle_73 rfl ?_
          refine ab_ldcs (j := 4) rfl (by decide) (by decide) dX6_parseSingle_74 ?_
          refine ab_callV (a := 1) (c0 := 6) (d' := d) (mc' := 0) (ms' := 0) (vs := [.ref (1000000 + 4)]) (st := []) dX6_parseSingle_76 ⟨cw_X6_pass, w_351⟩ w_353 w_5 (by decide) (hl146.sh 1 rfl (by decide) (by decide)).1 (hl146.sh 1 rfl (by decide) (by decide)).2 rfl rfl (Nat.le_of_ble_eq_true rfl) (Nat.le_refl _) (Nat.zero_le _) (Nat.zero_le _) (AM.mono h (fun r M147 ⟨hr149, hc150, h⟩ => ?_))
          subst hr149
          refine ab_rv ?_
          have hm151 : Sm M M147 := hm145.trans hc150
          have hl152 := hL.of hm151
          refine ab_goto (tgt := 107) dX6_parseSingle_79 (by decide) ?_
          exact ab_vret dX6_parseSingle_107 rfl h
    · have h := h.2 c80
      refine ab_aload_n 0 dX6_parseSingle_14 rfl ?_
      refine ab_dup dX6_parseSingle_15 rfl ?_
      refine ab_getI dX6_parseSingle_16 fs_6_25_6 rfl (hl79.sh 1 rfl (by decide) (by decide)).1 (hl79.sh 1 rfl (by decide) (by decide)).2 ?_
      refine ab_iconst (v := 1) dX6_parseSingle_19 (by decide) ?_
      refine ab_iadd dX6_parseSingle_20 ?_
      refine ab_putI dX6_parseSingle_21 fs_6_25_6 rfl rfl (hl79.sh 1 rfl (by decide) (by decide)).1 (hl79.sh 1 rfl (by decide) (by decide)).2 ?_
      refine ab_nameM (fun M153 hM153 => ?_)
      have h := h M153 hM153
      have hs156 : Sm M74 M153 := hM153 ▸ (Sm.refl _).i
      have hm154 : Sm M M153 := hm78.trans hs156
      have hl155 := hL.of hm154
      refine ab_aload_n 0 dX6_parseSingle_24 rfl ?_
      refine ab_iload_n 1 dX6_parseSingle_25 rfl ?_
      refine ab_iconst (v := 1) dX6_parseSingle_26 (by decide) ?_
      refine ab_iadd dX6_parseSingle_27 ?_
      refine ab_callV (a := 1) (c0 := 6) (d' := d) (mc' := 0) (ms' := 0) (vs := [.int (a1 + (1 : Int32))]) (st := []) dX6_parseSingle_28 ⟨cw_X6_parseSingle, w_426⟩ w_428 w_11 (by decide) (hl155.sh 1 rfl (by decide) (by decide)).1 (hl155.sh 1 rfl (by decide) (by decide)).2 rfl rfl (Nat.le_of_ble_eq_true rfl) (Nat.le_refl _) (Nat.zero_le _) (Nat.zero_le _) (AM.mono h (fun r M157 ⟨hr159, hc160, h⟩ => ?_))
      subst hr159
      refine ab_rv ?_
      have hm161 : Sm M M157 := hm154.trans hc160
      have hl162 := hL.of hm161
      refine ab_aload_n 0 dX6_parseSingle_31 rfl ?_
      refine ab_iconst (v := 2) dX6_parseSingle_32 (by decide) ?_
      refine ab_iconst (v := 0) dX6_parseSingle_33 (by decide) ?_
      refine ab_iconst (v := 0) dX6_parseSingle_34 (by decide) ?_
      refine ab_iconst (v := 0) dX6_parseSingle_35 (by decide) ?_
      refine ab_callV (a := 1) (c0 := 6) (d' := d) (mc' := 0) (ms' := 0) (vs := [.int (2 : Int32), .int (0 : Int32), .int (0 : Int32), .int (0 : Int32)]) (st := []) dX6_parseSingle_36 ⟨cw_X6_make, w_430⟩ w_432 w_12 (by decide) (hl162.sh 1 rfl (by decide) (by decide)).1 (hl162.sh 1 rfl (by decide) (by decide)).2 rfl rfl (Nat.le_of_ble_eq_true rfl) (Nat.le_refl _) (Nat.zero_le _) (Nat.zero_le _) (AM.mono h (fun r M163 ⟨hr165, hc166, h⟩ => ?_))
      subst hr165
      refine ab_rv ?_
      have hm167 : Sm M M163 := hm161.trans hc166
      have hl168 := hL.of hm167
      refine ab_goto (tgt := 107) dX6_parseSingle_39 (by decide) ?_
      exact ab_vret dX6_parseSingle_107 rfl h
