theorem dX6_addByte_0 : decode cX6_addByte 0 = .ok (.aload_n 0, 1) := by decide +kernel
theorem dX6_addByte_1 : decode cX6_addByte 1 = .ok (.getfield 18, 3) := by decide +kernel
theorem dX6_addByte_4 : decode cX6_addByte 4 = .ok (.bipush 100, 2) := by decide +kernel
theorem dX6_addByte_6 : decode cX6_addByte 6 = .ok (.if_icmp .ge 23, 3) := by decide +kernel
theorem dX6_addByte_9 : decode cX6_addByte 9 = .ok (.aload_n 0, 1) := by decide +kernel
theorem dX6_addByte_10 : decode cX6_addByte 10 = .ok (.getfield 9, 3) := by decide +kernel
theorem dX6_addByte_13 : decode cX6_addByte 13 = .ok (.aload_n 0, 1) := by decide +kernel
theorem dX6_addByte_14 : decode cX6_addByte 14 = .ok (.getfield 18, 3) := by decide +kernel
theorem dX6_addByte_17 : decode cX6_addByte 17 = .ok (.iload_n 1, 1) := by decide +kernel
theorem dX6_addByte_18 : decode cX6_addByte 18 = .ok (.iastore, 1) := by decide +kernel
theorem dX6_addByte_19 : decode cX6_addByte 19 = .ok (.aload_n 0, 1) := by decide +kernel
theorem dX6_addByte_20 : decode cX6_addByte 20 = .ok (.dup, 1) := by decide +kernel
theorem dX6_addByte_21 : decode cX6_addByte 21 = .ok (.getfield 18, 3) := by decide +kernel
theorem dX6_addByte_24 : decode cX6_addByte 24 = .ok (.iconst 1, 1) := by decide +kernel
theorem dX6_addByte_25 : decode cX6_addByte 25 = .ok (.iadd, 1) := by decide +kernel
theorem dX6_addByte_26 : decode cX6_addByte 26 = .ok (.putfield 18, 3) := by decide +kernel
theorem dX6_addByte_29 : decode cX6_addByte 29 = .ok (.return_, 1) := by decide +kernel
set_option maxRecDepth 20000 in
theorem rX6_addByte (D : GD) (d : Nat) (a1 : Int32) (M : Mm) (post : Option Value → Mm → Prop) (hL : Lay 1 4 M) 
    (h : (((100 : Int32) ≤ (gI M 1 2) → post none M) ∧ (¬ (100 : Int32) ≤ (gI M 1 2) → vp_in (gI M 1 2) 100 ∧ ∀ M3 : Mm, M3 = sI M 2 ((gI M 1 2).toNatClampNeg) a1 → ∀ M7 : Mm, M7 = sI M3 1 2 ((gI M3 1 2) + (1 : Int32)) → post none M7))) :
    AM D d 0 0 mX6_addByte [.ref 1, .int a1] M post := by
  refine AM.of (by decide) (Nat.le_of_ble_eq_true rfl) ?_
  show AW D d 0 0 mX6_addByte 0 0 0 [(0, .ref 1), (1, .int a1)] [] M post
  refine ab_aload_n 0 dX6_addByte_0 rfl ?_
  refine ab_getI dX6_addByte_1 fs_6_18_6 rfl (hL.sh 1 rfl (by decide) (by decide)).1 (hL.sh 1 rfl (by decide) (by decide)).2 ?_
  refine ab_bipush (v := 100) dX6_addByte_4 (by decide) ?_
  refine ab_icmp_ge (tgt := 29) dX6_addByte_6 (by decide) (fun c1 => ?_) (fun c1 => ?_)
  · have h := h.1 c1
    exact ab_vret dX6_addByte_29 rfl h
  · have h := h.2 c1
    refine ab_aload_n 0 dX6_addByte_9 rfl ?_
    refine ab_getP (r := 2) dX6_addByte_10 fs_6_9_6 rfl (hL.sh 1 rfl (by decide) (by decide)).1 (hL.sh 1 rfl (by decide) (by decide)).2 (hL.pt 13 rfl (by decide) (by decide)) ?_
    refine ab_aload_n 0 dX6_addByte_13 rfl ?_
    refine ab_getI dX6_addByte_14 fs_6_18_6 rfl (hL.sh 1 rfl (by decide) (by decide)).1 (hL.sh 1 rfl (by decide) (by decide)).2 ?_
    refine ab_iload_n 1 dX6_addByte_17 rfl ?_
    have hb2 := h.1
    have h := h.2
    refine ab_iastj (j := (gI M 1 2).toNatClampNeg) dX6_addByte_18 (hL.sh 2 rfl (by decide) (by decide)) hb2 rfl ?_
    refine ab_nameM (fun M3 hM3 => ?_)
    have h := h M3 hM3
    have hs6 : Sm M M3 := hM3 ▸ (Sm.refl _).i
    have hm4 : Sm M M3 := (Sm.refl M).trans hs6
    have hl5 := hL.of hm4
    refine ab_aload_n 0 dX6_addByte_19 rfl ?_
    refine ab_dup dX6_addByte_20 rfl ?_
    refine ab_getI dX6_addByte_21 fs_6_18_6 rfl (hl5.sh 1 rfl (by decide) (by decide)).1 (hl5.sh 1 rfl (by decide) (by decide)).2 ?_
    refine ab_iconst (v := 1) dX6_addByte_24 (by decide) ?_
    refine ab_iadd dX6_addByte_25 ?_
    refine ab_putI dX6_addByte_26 fs_6_18_6 rfl rfl (hl5.sh 1 rfl (by decide) (by decide)).1 (hl5.sh 1 rfl (by decide) (by decide)).2 ?_
    refine ab_nameM (fun M7 hM7 => ?_)
    have h := h M7 hM7
    have hs10 : Sm M3 M7 := hM7 ▸ (Sm.refl _).i
    have hm8 : Sm M M7 := hm4.trans hs10
    have hl9 := hL.of hm8
    exact ab_vret dX6_addByte_29 rfl h
theorem dX6_parses_0 : decode cX6_parses 0 = .ok (.aload_n 0, 1) := by decide +kernel
theorem dX6_parses_1 : decode cX6_parses 1 = .ok (.iconst 0, 1) := by decide +kernel
theorem dX6_parses_2 : decode cX6_parses 2 = .ok (.putfield 25, 3) := by decide +kernel
theorem dX6_parses_5 : decode cX6_parses 5 = .ok (.aload_n 0, 1) := by decide +kernel
theorem dX6_parses_6 : decode cX6_parses 6 = .ok (.iconst 0, 1) := by decide +kernel
theorem dX6_parses_7 : decode cX6_parses 7 = .ok (.putfield 22, 3) := by decide +kernel
theorem dX6_parses_10 : decode cX6_parses 10 = .ok (.aload_n 0, 1) := by decide +kernel
theorem dX6_parses_11 : decode cX6_parses 11 = .ok (.iconst 0, 1) := by decide +kernel
theorem dX6_parses_12 : decode cX6_parses 12 = .ok (.putfield 28, 3) := by decide +kernel
theorem dX6_parses_15 : decode cX6_parses 15 = .ok (.aload_n 0, 1) := by decide +kernel
theorem dX6_parses_16 : decode cX6_parses 16 = .ok (.invokevirtual 32, 3) := by decide +kernel
theorem dX6_parses_19 : decode cX6_parses 19 = .ok (.iconst 1, 1) := by decide +kernel
theorem dX6_parses_20 : decode cX6_parses 20 = .ok (.istore_n 1, 1) := by decide +kernel
theorem dX6_parses_21 : decode cX6_parses 21 = .ok (.iload_n 1, 1) := by decide +kernel
theorem dX6_parses_22 : decode cX6_parses 22 = .ok (.bipush 8, 2) := by decide +kernel
theorem dX6_parses_24 : decode cX6_parses 24 = .ok (.if_icmp .ge 32, 3) := by decide +kernel
theorem dX6_parses_27 : decode cX6_parses 27 = .ok (.aload_n 0, 1) := by decide +kernel
theorem dX6_parses_28 : decode cX6_parses 28 = .ok (.bipush 59, 2) := by decide +kernel
theorem dX6_parses_30 : decode cX6_parses 30 = .ok (.invokevirtual 35, 3) := by decide +kernel
theorem dX6_parses_33 : decode cX6_parses 33 = .ok (.ifCond .eq 23, 3) := by decide +kernel
theorem dX6_parses_36 : decode cX6_parses 36 = .ok (.aload_n 0, 1) := by decide +kernel
theorem dX6_parses_37 : decode cX6_parses 37 = .ok (.dup, 1) := by decide +kernel
theorem dX6_parses_38 : decode cX6_parses 38 = .ok (.getfield 25, 3) := by decide +kernel
theorem dX6_parses_41 : decode cX6_parses 41 = .ok (.iconst 1, 1) := by decide +kernel
theorem dX6_parses_42 : decode cX6_parses 42 = .ok (.iadd, 1) := by decide +kernel
theorem dX6_parses_43 : decode cX6_parses 43 = .ok (.putfield 25, 3) := by decide +kernel
theorem dX6_parses_46 : decode cX6_parses 46 = .ok (.aload_n 0, 1) := by decide +kernel
theorem dX6_parses_47 : decode cX6_parses 47 = .ok (.invokevirtual 32, 3) := by decide +kernel
theorem dX6_parses_50 : decode cX6_parses 50 = .ok (.iinc 1 1, 3) := by decide +kernel
theorem dX6_parses_53 : decode cX6_parses 53 = .ok (.goto (-32), 3) := by decide +kernel
theorem dX6_parses_56 : decode cX6_parses 56 = .ok (.aload_n 0, 1) := by decide +kernel
theorem dX6_parses_57 : decode cX6_parses 57 = .ok (.getfield 28, 3) := by decide +kernel
theorem dX6_parses_60 : decode cX6_parses 60 = .ok (.ifCond .ne 18, 3) := by decide +kernel
theorem dX6_parses_63 : decode cX6_parses 63 = .ok (.aload_n 0, 1) := by decide +kernel
theorem dX6_parses_64 : decode cX6_parses 64 = .ok (.getfield 25, 3) := by decide +kernel
theorem dX6_parses_67 : decode cX6_parses 67 = .ok (.aload_n 0, 1) := by decide +kernel
theorem dX6_parses_68 : decode cX6_parses 68 = .ok (.getfield 18, 3) := by decide +kernel
theorem dX6_parses_71 : decode cX6_parses 71 = .ok (.if_icmp .ne 7, 3) := by decide +kernel
theorem dX6_parses_74 : decode cX6_parses 74 = .ok (.iconst 1, 1) := by decide +kernel
theorem dX6_parses_75 : decode cX6_parses 75 = .ok (.goto 4, 3) := by decide +kernel
theorem dX6_parses_78 : decode cX6_parses 78 = .ok (.iconst 0, 1) := by decide +kernel
theorem dX6_parses_79 : decode cX6_parses 79 = .ok (.ireturn, 1) := by decide +kernel
def LX6_parses_21 (D : GD) (d : Nat) (v1 : Int32) (M : Mm) (post : Option Value → Mm → Prop) : Prop := AW D (d + 1) 0 0 mX6_parses 0 0 21 [(0, .ref 1), (1, .int v1)] [] M post
set_option maxRecDepth 20000 in
theorem rX6_parses (D : GD) (d : Nat)  (M : Mm) (post : Option Value → Mm → Prop) (hL : Lay 1 4 M) 
    (h : ∀ M1 : Mm, M1 = sI M 1 4 (0 : Int32) → ∀ M5 : Mm, M5 = sI M1 1 3 (0 : Int32) → ∀ M9 : Mm, M9 = sI M5 1 5 (0 : Int32) → AMv D d mX6_parseClause [.ref 1] M9 (fun M13 => LX6_parses_21 D d (1 : Int32) M13 post)) :
    AM D (d + 1) 0 0 mX6_parses [.ref 1] M post := by
  refine AM.of (by decide) (Nat.le_of_ble_eq_true rfl) ?_
  show AW D (d + 1) 0 0 mX6_parses 0 0 0 [(0, .ref 1)] [] M post
  refine ab_aload_n 0 dX6_parses_0 rfl ?_
  refine ab_iconst (v := 0) dX6_parses_1 (by decide) ?_
  refine ab_putI dX6_parses_2 fs_6_25_6 rfl rfl (hL.sh 1 rfl (by decide) (by decide)).1 (hL.sh 1 rfl (by decide) (by decide)).2 ?_
  refine ab_nameM (fun M1 hM1 => ?_)
  have h := h M1 hM1
  have hs4 : Sm M M1 := hM1 ▸ (Sm.refl _).i
  have hm2 : Sm M M1 := (Sm.refl M).trans hs4
  have hl3 := hL.of hm2
  refine ab_aload_n 0 dX6_parses_5 rfl ?_
  refine ab_iconst (v := 0) dX6_parses_6 (by decide) ?_
  refine ab_putI dX6_parses_7 fs_6_22_6 rfl rfl (hl3.sh 1 rfl (by decide) (by decide)).1 (hl3.sh 1 rfl (by decide) (by decide)).2 ?_
  refine ab_nameM (fun M5 hM5 => ?_)
  have h := h M5 hM5
  have hs8 : Sm M1 M5 := hM5 ▸ (Sm.refl _).i
  have hm6 : Sm M M5 := hm2.trans hs8
  have hl7 := hL.of hm6
  refine ab_aload_n 0 dX6_parses_10 rfl ?_
  refine ab_iconst (v := 0) dX6_parses_11 (by decide) ?_
  refine ab_putZ dX6_parses_12 fs_6_28_6 rfl rfl (hl7.sh 1 rfl (by decide) (by decide)).1 (hl7.sh 1 rfl (by decide) (by decide)).2 (by decide) ?_
  refine ab_nameM (fun M9 hM9 => ?_)
  have h := h M9 hM9
  have hs12 : Sm M5 M9 := hM9 ▸ (Sm.refl _).i
  have hm10 : Sm M M9 := hm6.trans hs12
  have hl11 := hL.of hm10
  refine ab_aload_n 0 dX6_parses_15 rfl ?_
  refine ab_callV (a := 1) (c0 := 6) (d' := d) (mc' := 0) (ms' := 0) (vs := []) (st := []) dX6_parses_16 ⟨cw_X6_parseClause, w_342⟩ w_344 w_3 (by decide) (hl11.sh 1 rfl (by decide) (by decide)).1 (hl11.sh 1 rfl (by decide) (by decide)).2 rfl rfl (Nat.le_of_ble_eq_true rfl) (Nat.le_refl _) (Nat.zero_le _) (Nat.zero_le _) (AM.mono h (fun r M13 ⟨hr15, hc16, h⟩ => ?_))
  subst hr15
  refine ab_rv ?_
  have hm17 : Sm M M13 := hm10.trans hc16
  have hl18 := hL.of hm17
  refine ab_iconst (v := 1) dX6_parses_19 (by decide) ?_
  refine ab_istore_n (lv1 := [(1, .int (1 : Int32)), (0, .ref 1)]) dX6_parses_20 (by decide) rfl ?_
  exact ab_sub [1, 0] rfl h
set_option maxRecDepth 20000 in
theorem rX6_parses_21 (D : GD) (d : Nat)  (v1 : Int32) (M : Mm) (post : Option Value → Mm → Prop) (hL : Lay 1 4 M) 
    (h : (((8 : Int32) ≤ v1 → ((¬ (gI M 1 5) = 0 → post (some (.int (0 : Int32))) M) ∧ ((gI M 1 5) = 0 → ((¬ (gI M 1 4) = (gI M 1 2) → post (some (.int (0 : Int32))) M) ∧ ((gI M 1 4) = (gI M 1 2) → post (some (.int (1 : Int32))) M))))) ∧ (¬ (8 : Int32) ≤ v1 → AMi D d mX6_sees [.ref 1, .int (59 : Int32)] M (fun x5 M4 => ((x5 = 0 → ((¬ (gI M4 1 5) = 0 → post (some (.int (0 : Int32))) M4) ∧ ((gI M4 1 5) = 0 → ((¬ (gI M4 1 4) = (gI M4 1 2) → post (some (.int (0 : Int32))) M4) ∧ ((gI M4 1 4) = (gI M4 1 2) → post (some (.int (1 : Int32))) M4))))) ∧ (¬ x5 = 0 → ∀ M13 : Mm, M13 = sI M4 1 4 ((gI M4 1 4) + (1 : Int32)) → AMv D d mX6_parseClause [.ref 1] M13 (fun M17 => ∀ x23 : Int32, x23 = v1 + (1 : Int32) → LX6_parses_21 D d x23 M17 post))))))) :
    LX6_parses_21 D d v1 M post := by
  show AW D (d + 1) 0 0 mX6_parses 0 0 21 [(0, .ref 1), (1, .int v1)] [] M post
  refine ab_iload_n 1 dX6_parses_21 rfl ?_
  refine ab_bipush (v := 8) dX6_parses_22 (by decide) ?_
  refine ab_icmp_ge (tgt := 56) dX6_parses_24 (by decide) (fun c1 => ?_) (fun c1 => ?_)
  · have h := h.1 c1
    refine ab_aload_n 0 dX6_parses_56 rfl ?_
    refine ab_getI dX6_parses_57 fs_6_28_6 rfl (hL.sh 1 rfl (by decide) (by decide)).1 (hL.sh 1 rfl (by decide) (by decide)).2 ?_
    refine ab_if_ne (tgt := 78) dX6_parses_60 (by decide) (fun c2 => ?_) (fun c2 => ?_)
    · have h := h.1 c2
      refine ab_iconst (v := 0) dX6_parses_78 (by decide) ?_
      exact ab_zret dX6_parses_79 rfl rfl h
    · have h := h.2 c2
      refine ab_aload_n 0 dX6_parses_63 rfl ?_
      refine ab_getI dX6_parses_64 fs_6_25_6 rfl (hL.sh 1 rfl (by decide) (by decide)).1 (hL.sh 1 rfl (by decide) (by decide)).2 ?_
      refine ab_aload_n 0 dX6_parses_67 rfl ?_
      refine ab_getI dX6_parses_68 fs_6_18_6 rfl (hL.sh 1 rfl (by decide) (by decide)).1 (hL.sh 1 rfl (by decide) (by decide)).2 ?_
      refine ab_icmp_ne (tgt := 78) dX6_parses_71 (by decide) (fun c3 => ?_) (fun c3 => ?_)
      · have h := h.1 c3
        refine ab_iconst (v := 0) dX6_parses_78 (by decide) ?_
        exact ab_zret dX6_parses_79 rfl rfl h
      · have h := h.2 c3
        refine ab_iconst (v := 1) dX6_parses_74 (by decide) ?_
        refine ab_goto (tgt := 79) dX6_parses_75 (by decide) ?_
        exact ab_zret dX6_parses_79 rfl rfl h
  · have h := h.2 c1
    refine ab_aload_n 0 dX6_parses_27 rfl ?_
    refine ab_bipush (v := 59) dX6_parses_28 (by decide) ?_
    refine ab_callV (a := 1) (c0 := 6) (d' := d) (mc' := 0) (ms' := 0) (vs := [.int (59 : Int32)]) (st := []) dX6_parses_30 ⟨cw_X6_sees, w_346⟩ w_348 w_4 (by decide) (hL.sh 1 rfl (by decide) (by decide)).1 (hL.sh 1 rfl (by decide) (by decide)).2 rfl rfl (Nat.le_of_ble_eq_true rfl) (Nat.le_refl _) (Nat.zero_le _) (Nat.zero_le _) (AM.mono h (fun r M4 ⟨x5, hr6, hc7, h⟩ => ?_))
    subst hr6
    refine ab_rs ?_
    have hm8 : Sm M M4 := (Sm.refl M).trans hc7
    have hl9 := hL.of hm8
    refine ab_if_eq (tgt := 56) dX6_parses_33 (by decide) (fun c10 => ?_) (fun c10 => ?_)
    · have h := h.1 c10
      refine ab_aload_n 0 dX6_parses_56 rfl ?_
      refine ab_getI dX6_parses_57 fs_6_28_6 rfl (hl9.sh 1 rfl (by decide) (by decide)).1 (hl9.sh 1 rfl (by decide) (by decide)).2 ?_
      refine ab_if_ne (tgt := 78) dX6_parses_60 (by decide) (fun c11 => ?_) (fun c11 => ?_)
      · have h := h.1 c11
        refine ab_iconst (v := 0) dX6_parses_78 (by decide) ?_
        exact ab_zret dX6_parses_79 rfl rfl h
      · have h := h.2 c11
        refine ab_aload_n 0 dX6_parses_63 rfl ?_
        refine ab_getI dX6_parses_64 fs_6_25_6 rfl (hl9.sh 1 rfl (by decide) (by decide)).1 (hl9.sh 1 rfl (by decide) (by decide)).2 ?_
        refine ab_aload_n 0 dX6_parses_67 rfl ?_
        refine ab_getI dX6_parses_68 fs_6_18_6 rfl (hl9.sh 1 rfl (by decide) (by decide)).1 (hl9.sh 1 rfl (by decide) (by decide)).2 ?_
        refine ab_icmp_ne (tgt := 78) dX6_parses_71 (by decide) (fun c12 => ?_) (fun c12 => ?_)
        · have h := h.1 c12
          refine ab_iconst (v := 0) dX6_parses_78 (by decide) ?_
          exact ab_zret dX6_parses_79 rfl rfl h
        · have h := h.2 c12
          refine ab_iconst (v := 1) dX6_parses_74 (by decide) ?_
          refine ab_goto (tgt := 79) dX6_parses_75 (by decide) ?_
          exact ab_zret dX6_parses_79 rfl rfl h
    · have h := h.2 c10
      refine ab_aload_n 0 dX6_parses_36 rfl ?_
      refine ab_dup dX6_parses_37 rfl ?_
      refine ab_getI dX6_parses_38 fs_6_25_6 rfl (hl9.sh 1 rfl (by decide) (by decide)).1 (hl9.sh 1 rfl (by decide) (by decide)).2 ?_
      refine ab_iconst (v := 1) dX6_parses_41 (by decide) ?_
      refine ab_iadd dX6_parses_42 ?_
      refine ab_putI dX6_parses_43 fs_6_25_6 rfl rfl (hl9.sh 1 rfl (by decide) (by decide)).1 (hl9.sh 1 rfl (by decide) (by decide)).2 ?_
      refine ab_nameM (fun M13 hM13 => ?_)
      have h := h M13 hM13
      have hs16 : Sm M4 M13 := hM13 ▸ (Sm.refl _).i
      have hm14 : Sm M M13 := hm8.trans hs16
      have hl15 := hL.of hm14
      refine ab_aload_n 0 dX6_parses_46 rfl ?_
      refine ab_callV (a := 1) (c0 := 6) (d' := d) (mc' := 0) (ms' := 0) (vs := []) (st := []) dX6_parses_47 ⟨cw_X6_parseClause, w_342⟩ w_344 w_3 (by decide) (hl15.sh 1 rfl (by decide) (by decide)).1 (hl15.sh 1 rfl (by decide) (by decide)).2 rfl rfl (Nat.le_of_ble_eq_true rfl) (Nat.le_refl _) (Nat.zero_le _) (Nat.zero_le _) (AM.mono h (fun r M17 ⟨hr19, hc20, h⟩ => ?_))
      subst hr19
      refine ab_rv ?_
      have hm21 : Sm M M17 := hm14.trans hc20
      have hl22 := hL.of hm21
      obtain ⟨x23, hx23⟩ : ∃ y : Int32, y = v1 + (1 : Int32) := ⟨_, rfl⟩
      have h := h x23 hx23
      refine ab_iinc (v := x23) 1 (lv1 := [(1, .int x23), (0, .ref 1)]) dX6_parses_50 rfl (by rw [hx23]; rfl) (by decide) rfl ?_
      refine ab_goto (tgt := 21) dX6_parses_53 (by decide) ?_
      exact ab_sub [1, 0] rfl h
theorem dX6_parseClause_0 : decode cX6_parseClause 0 = .ok (.iconst 3, 1) := by decide +kernel
theorem dX6_parseClause_1 : decode cX6_parseClause 1 = .ok (.istore_n 1, 1) := by decide +kernel
theorem dX6_parseClause_2 : decode cX6_parseClause 2 = .ok (.aload_n 0, 1) := by decide +kernel
theorem dX6_parseClause_3 : decode cX6_parseClause 3 = .ok (.bipush 103, 2) := by decide +kernel
theorem dX6_parseClause_5 : decode cX6_parseClause 5 = .ok (.invokevirtual 35, 3) := by decide +kernel
theorem dX6_parseClause_8 : decode cX6_parseClause 8 = .ok (.ifCond .eq 25, 3) := by decide +kernel
theorem dX6_parseClause_11 : decode cX6_parseClause 11 = .ok (.aload_n 0, 1) := by decide +kernel
theorem dX6_parseClause_12 : decode cX6_parseClause 12 = .ok (.ldc 39, 2) := by decide +kernel
theorem dX6_parseClause_14 : decode cX6_parseClause 14 = .ok (.invokevirtual 41, 3) := by decide +kernel
theorem dX6_parseClause_17 : decode cX6_parseClause 17 = .ok (.aload_n 0, 1) := by decide +kernel
theorem dX6_parseClause_18 : decode cX6_parseClause 18 = .ok (.ldc 45, 2) := by decide +kernel
theorem dX6_parseClause_20 : decode cX6_parseClause 20 = .ok (.invokevirtual 47, 3) := by decide +kernel
theorem dX6_parseClause_23 : decode cX6_parseClause 23 = .ok (.istore_n 1, 1) := by decide +kernel
theorem dX6_parseClause_24 : decode cX6_parseClause 24 = .ok (.aload_n 0, 1) := by decide +kernel
theorem dX6_parseClause_25 : decode cX6_parseClause 25 = .ok (.ldc 51, 2) := by decide +kernel
theorem dX6_parseClause_27 : decode cX6_parseClause 27 = .ok (.invokevirtual 41, 3) := by decide +kernel
theorem dX6_parseClause_30 : decode cX6_parseClause 30 = .ok (.goto 9, 3) := by decide +kernel
theorem dX6_parseClause_33 : decode cX6_parseClause 33 = .ok (.aload_n 0, 1) := by decide +kernel
theorem dX6_parseClause_34 : decode cX6_parseClause 34 = .ok (.ldc 53, 2) := by decide +kernel
theorem dX6_parseClause_36 : decode cX6_parseClause 36 = .ok (.invokevirtual 41, 3) := by decide +kernel
theorem dX6_parseClause_39 : decode cX6_parseClause 39 = .ok (.aload_n 0, 1) := by decide +kernel
theorem dX6_parseClause_40 : decode cX6_parseClause 40 = .ok (.invokevirtual 55, 3) := by decide +kernel
theorem dX6_parseClause_43 : decode cX6_parseClause 43 = .ok (.istore_n 2, 1) := by decide +kernel
theorem dX6_parseClause_44 : decode cX6_parseClause 44 = .ok (.aload_n 0, 1) := by decide +kernel
theorem dX6_parseClause_45 : decode cX6_parseClause 45 = .ok (.ldc 51, 2) := by decide +kernel
theorem dX6_parseClause_47 : decode cX6_parseClause 47 = .ok (.invokevirtual 41, 3) := by decide +kernel
theorem dX6_parseClause_50 : decode cX6_parseClause 50 = .ok (.aload_n 0, 1) := by decide +kernel
theorem dX6_parseClause_51 : decode cX6_parseClause 51 = .ok (.iconst 0, 1) := by decide +kernel
theorem dX6_parseClause_52 : decode cX6_parseClause 52 = .ok (.invokevirtual 59, 3) := by decide +kernel
theorem dX6_parseClause_55 : decode cX6_parseClause 55 = .ok (.aload_n 0, 1) := by decide +kernel
theorem dX6_parseClause_56 : decode cX6_parseClause 56 = .ok (.iconst 5, 1) := by decide +kernel
theorem dX6_parseClause_57 : decode cX6_parseClause 57 = .ok (.iload_n 1, 1) := by decide +kernel
theorem dX6_parseClause_58 : decode cX6_parseClause 58 = .ok (.iconst 0, 1) := by decide +kernel
theorem dX6_parseClause_59 : decode cX6_parseClause 59 = .ok (.iload_n 2, 1) := by decide +kernel
theorem dX6_parseClause_60 : decode cX6_parseClause 60 = .ok (.invokevirtual 63, 3) := by decide +kernel
theorem dX6_parseClause_63 : decode cX6_parseClause 63 = .ok (.return_, 1) := by decide +kernel
set_option maxRecDepth 20000 in
theorem rX6_parseClause (D : GD) (d : Nat)  (M : Mm) (post : Option Value → Mm → Prop) (hL : Lay 1 4 M) 
    (h : AMi D d mX6_sees [.ref 1, .int (103 : Int32)] M (fun x2 M1 => ((x2 = 0 → AMv D d mX6_pass [.ref 1, .ref (1000000 + 3)] M1 (fun M8 => AMi D d mX6_passNumber [.ref 1] M8 (fun x15 M14 => AMv D d mX6_pass [.ref 1, .ref (1000000 + 2)] M14 (fun M20 => AMv D d mX6_parseEither [.ref 1, .int (0 : Int32)] M20 (fun M26 => AMv D d mX6_make [.ref 1, .int (5 : Int32), .int (3 : Int32), .int (0 : Int32), .int x15] M26 (fun M32 => post none M32)))))) ∧ (¬ x2 = 0 → AMv D d mX6_pass [.ref 1, .ref (1000000 + 0)] M1 (fun M38 => AMi D d mX6_passOneOf [.ref 1, .ref (1000000 + 1)] M38 (fun x45 M44 => AMv D d mX6_pass [.ref 1, .ref (1000000 + 2)] M44 (fun M50 => AMi D d mX6_passNumber [.ref 1] M50 (fun x57 M56 => AMv D d mX6_pass [.ref 1, .ref (1000000 + 2)] M56 (fun M62 => AMv D d mX6_parseEither [.ref 1, .int (0 : Int32)] M62 (fun M68 => AMv D d mX6_make [.ref 1, .int (5 : Int32), .int x45, .int (0 : Int32), .int x57] M68 (fun M74 => post none M74))))))))))) :
    AM D (d + 1) 0 0 mX6_parseClause [.ref 1] M post := by
  refine AM.of (by decide) (Nat.le_of_ble_eq_true rfl) ?_
  show AW D (d + 1) 0 0 mX6_parseClause 0 0 0 [(0, .ref 1)] [] M post
  refine ab_iconst (v := 3) dX6_parseClause_0 (by decide) ?_
  refine ab_istore_n (lv1 := [(1, .int (3 : Int32)), (0, .ref 1)]) dX6_parseClause_1 (by decide) rfl ?_
  refine ab_aload_n 1 dX6_parseClause_2 rfl ?_
  refine ab_bipush (v := 103) dX6_parseClause_3 (by decide) ?_
  refine ab_callV (a := 1) (c0 := 6) (d' := d) (mc' := 0) (ms' := 0) (vs := [.int (103 : Int32)]) (st := []) dX6_parseClause_5 ⟨cw_X6_sees, w_346⟩ w_348 w_4 (by decide) (hL.sh 1 rfl (by decide) (by decide)).1 (hL.sh 1 rfl (by decide) (by decide)).2 rfl rfl (Nat.le_of_ble_eq_true rfl) (Nat.le_refl _) (Nat.zero_le _) (Nat.zero_le _) (AM.mono h (fun r M1 ⟨x2, hr3, hc4, h⟩ => ?_))
  subst hr3
  refine ab_rs ?_
  have hm5 : Sm M M1 := (Sm.refl M).trans hc4
  have hl6 := hL.of hm5
  refine ab_if_eq (tgt := 33) dX6_parseClause_8 (by decide) (fun c7 => ?_) (fun c7 => ?_)
  · have h := h.1 c7
    refine ab_aload_n 1 dX6_parseClause_33 rfl ?_
    refine ab_ldcs (j := 3) rfl (by decide) (by decide) dX6_parseClause_34 ?_
    refine ab_callV (a := 1) (c0 := 6) (d' := d) (mc' := 0) (ms' := 0) (vs := [.ref (1000000 + 3)]) (st := []) dX6_parseClause_36 ⟨cw_X6_pass, w_351⟩ w_353 w_5 (by decide) (hl6.sh 1 rfl (by decide) (by decide)).1 (hl6.sh 1 rfl (by decide) (by decide)).2 rfl rfl (Nat.le_of_ble_eq_true rfl) (Nat.le_refl _) (Nat.zero_le _) (Nat.zero_le _) (AM.mono h (fun r M8 ⟨hr10, hc11, h⟩ => ?_))
    subst hr10
    refine ab_rv ?_
    have hm12 : Sm M M8 := hm5.trans hc11
    have hl13 := hL.of hm12
    refine ab_aload_n 1 dX6_parseClause_39 rfl ?_
    refine ab_callV (a := 1) (c0 := 6) (d' := d) (mc' := 0) (ms' := 0) (vs := []) (st := []) dX6_parseClause_40 ⟨cw_X6_passNumber, w_410⟩ w_412 w_7 (by decide) (hl13.sh 1 rfl (by decide) (by decide)).1 (hl13.sh 1 rfl (by decide) (by decide)).2 rfl rfl (Nat.le_of_ble_eq_true rfl) (Nat.le_refl _) (Nat.zero_le _) (Nat.zero_le _) (AM.mono h (fun r M14 ⟨x15, hr16, hc17, h⟩ => ?_))
    subst hr16
    refine ab_rs ?_
    have hm18 : Sm M M14 := hm12.trans hc17
    have hl19 := hL.of hm18
    refine ab_istore_n (lv1 := [(2, .int x15), (1, .int (3 : Int32)), (0, .ref 1)]) dX6_parseClause_43 (by decide) rfl ?_
    refine ab_aload_n 2 dX6_parseClause_44 rfl ?_
    refine ab_ldcs (j := 2) rfl (by decide) (by decide) dX6_parseClause_45 ?_
    refine ab_callV (a := 1) (c0 := 6) (d' := d) (mc' := 0) (ms' := 0) (vs := [.ref (1000000 + 2)]) (st := []) dX6_parseClause_47 ⟨cw_X6_pass, w_351⟩ w_353 w_5 (by decide) (hl19.sh 1 rfl (by decide) (by decide)).1 (hl19.sh 1 rfl (by decide) (by decide)).2 rfl rfl (Nat.le_of_ble_eq_true rfl) (Nat.le_refl _) (Nat.zero_le _) (Nat.zero_le _) (AM.mono h (fun r M20 ⟨hr22, hc23, h⟩ => ?_))
    subst hr22
    refine ab_rv ?_
    have hm24 : Sm M M20 := hm18.trans hc23
    have hl25 := hL.of hm24
    refine ab_aload_n 2 dX6_parseClause_50 rfl ?_
    refine ab_iconst (v := 0) dX6_parseClause_51 (by decide) ?_
    refine ab_callV (a := 1) (c0 := 6) (d' := d) (mc' := 0) (ms' := 0) (vs := [.int (0 : Int32)]) (st := []) dX6_parseClause_52 ⟨cw_X6_parseEither, w_418⟩ w_420 w_9 (by decide) (hl25.sh 1 rfl (by decide) (by decide)).1 (hl25.sh 1 rfl (by decide) (by decide)).2 rfl rfl (Nat.le_of_ble_eq_true rfl) (Nat.le_refl _) (Nat.zero_le _) (Nat.zero_le _) (AM.mono h (fun r M26 ⟨hr28, hc29, h⟩ => ?_))
    subst hr28
    refine ab_rv ?_
    have hm30 : Sm M M26 := hm24.trans hc29
    have hl31 := hL.of hm30
    refine ab_aload_n 2 dX6_parseClause_55 rfl ?_
    refine ab_iconst (v := 5) dX6_parseClause_56 (by decide) ?_
    refine ab_iload_n 1 dX6_parseClause_57 rfl ?_
    refine ab_iconst (v := 0) dX6_parseClause_58 (by decide) ?_
    refine ab_iload_n 0 dX6_parseClause_59 rfl ?_
    refine ab_callV (a := 1) (c0 := 6) (d' := d) (mc' := 0) (ms' := 0) (vs := [.int (5 : Int32), .int (3 : Int32), .int (0 : Int32), .int x15]) (st := []) dX6_parseClause_60 ⟨cw_X6_make, w_430⟩ w_432 w_12 (by decide) (hl31.sh 1 rfl (by decide) (by decide)).1 (hl31.sh 1 rfl (by decide) (by decide)).2 rfl rfl (Nat.le_of_ble_eq_true rfl) (Nat.le_refl _) (Nat.zero_le _) (Nat.zero_le _) (AM.mono h (fun r M32 ⟨hr34, hc35, h⟩ => ?_))
    subst hr34
    refine ab_rv ?_
    have hm36 : Sm M M32 := hm30.trans hc35
    have hl37 := hL.of hm36
    exact ab_vret dX6_parseClause_63 rfl h
  · have h := h.2 c7
    refine ab_aload_n 1 dX6_parseClause_11 rfl ?_
    refine ab_ldcs (j := 0) rfl (by decide) (by decide) dX6_parseClause_12 ?_
    refine ab_callV (a := 1) (c0 := 6) (d' := d) (mc' := 0) (ms' := 0) (vs := [.ref (1000000 + 0)]) (st := []) dX6_parseClause_14 ⟨cw_X6_pass, w_351⟩ w_353 w_5 (by decide) (hl6.sh 1 rfl (by decide) (by decide)).1 (hl6.sh 1 rfl (by decide) (by decide)).2 rfl rfl (Nat.le_of_ble_eq_true rfl) (Nat.le_refl _) (Nat.zero_le _) (Nat.zero_le _) (AM.mono h (fun r M38 ⟨hr40, hc41, h⟩ => ?_))
    subst hr40
    refine ab_rv ?_
    have hm42 : Sm M M38 := hm5.trans hc41
    have hl43 := hL.of hm42
    refine ab_aload_n 1 dX6_parseClause_17 rfl ?_
    refine ab_ldcs (j := 1) rfl (by decide) (by decide) dX6_parseClause_18 ?_
    refine ab_callV (a := 1) (c0 := 6) (d' := d) (mc' := 0) (ms' := 0) (vs := [.ref (1000000 + 1)]) (st := []) dX6_parseClause_20 ⟨cw_X6_passOneOf, w_404⟩ w_406 w_6 (by decide) (hl43.sh 1 rfl (by decide) (by decide)).1 (hl43.sh 1 rfl (by decide) (by decide)).2 rfl rfl (Nat.le_of_ble_eq_true rfl) (Nat.le_refl _) (Nat.zero_le _) (Nat.zero_le _) (AM.mono h (fun r M44 ⟨x45, hr46, hc47, h⟩ => ?_))
    subst hr46
    refine ab_rs ?_
    have hm48 : Sm M M44 := hm42.trans hc47
    have hl49 := hL.of hm48
    refine ab_istore_n (lv1 := [(1, .int x45), (0, .ref 1)]) dX6_parseClause_23 (by decide) rfl ?_
    refine ab_aload_n 1 dX6_parseClause_24 rfl ?_
    refine ab_ldcs (j := 2) rfl (by decide) (by decide) dX6_parseClause_25 ?_
    refine ab_callV (a := 1) (c0 := 6) (d' := d) (mc' := 0) (ms' := 0) (vs := [.ref (1000000 + 2)]) (st := []) dX6_parseClause_27 ⟨cw_X6_pass, w_351⟩ w_353 w_5 (by decide) (hl49.sh 1 rfl (by decide) (by decide)).1 (hl49.sh 1 rfl (by decide) (by decide)).2 rfl rfl (Nat.le_of_ble_eq_true rfl) (Nat.le_refl _) (Nat.zero_le _) (Nat.zero_le _) (AM.mono h (fun r M50 ⟨hr52, hc53, h⟩ => ?_))
    subst hr52
    refine ab_rv ?_
    have hm54 : Sm M M50 := hm48.trans hc53
    have hl55 := hL.of hm54
    refine ab_goto (tgt := 39) dX6_parseClause_30 (by decide) ?_
    refine ab_aload_n 1 dX6_parseClause_39 rfl ?_
    refine ab_callV (a := 1) (c0 := 6) (d' := d) (mc' := 0) (ms' := 0) (vs := []) (st := []) dX6_parseClause_40 ⟨cw_X6_passNumber, w_410⟩ w_412 w_7 (by decide) (hl55.sh 1 rfl (by decide) (by decide)).1 (hl55.sh 1 rfl (by decide) (by decide)).2 rfl rfl (Nat.le_of_ble_eq_true rfl) (Nat.le_refl _) (Nat.zero_le _) (Nat.zero_le _) (AM.mono h (fun r M56 ⟨x57, hr58, hc59, h⟩ => ?_))
    subst hr58
    refine ab_rs ?_
    have hm60 : Sm M M56 := hm54.trans hc59
    have hl61 := hL.of hm60
    refine ab_istore_n (lv1 := [(2, .int x57), (1, .int x45), (0, .ref 1)]) dX6_parseClause_43 (by decide) rfl ?_
    refine ab_aload_n 2 dX6_parseClause_44 rfl ?_
    refine ab_ldcs (j := 2) rfl (by decide) (by decide) dX6_parseClause_45 ?_
    refine ab_callV (a := 1) (c0 := 6) (d' := d) (mc' := 0) (ms' := 0) (vs := [.ref (1000000 + 2)]) (st := []) dX6_parseClause_47 ⟨cw_X6_pass, w_351⟩ w_353 w_5 (by decide) (hl61.sh 1 rfl (by decide) (by decide)).1 (hl61.sh 1 rfl (by decide) (by decide)).2 rfl rfl (Nat.le_of_ble_eq_true rfl) (Nat.le_refl _) (Nat.zero_le _) (Nat.zero_le _) (AM.mono h (fun r M62 ⟨hr64, hc65, h⟩ => ?_))
    subst hr64
    refine ab_rv ?_
    have hm66 : Sm M M62 := hm60.trans hc65
    have hl67 := hL.of hm66
    refine ab_aload_n 2 dX6_parseClause_50 rfl ?_
    refine ab_iconst (v := 0) dX6_parseClause_51 (by decide) ?_
    refine ab_callV (a := 1) (c0 := 6) (d' := d) (mc' := 0) (ms' := 0) (vs := [.int (0 : Int32)]) (st := []) dX6_parseClause_52 ⟨cw_X6_parseEither, w_418⟩ w_420 w_9 (by decide) (hl67.sh 1 rfl (by decide) (by decide)).1 (hl67.sh 1 rfl (by decide) (by decide)).2 rfl rfl (Nat.le_of_ble_eq_true rfl) (Nat.le_refl _) (Nat.zero_le _) (Nat.zero_le _) (AM.mono h (fun r M68 ⟨hr70, hc71, h⟩ => ?_))
    subst hr70
    refine ab_rv ?_
    have hm72 : Sm M M68 := hm66.trans hc71
    have hl73 := hL.of hm72
    refine ab_aload_n 2 dX6_parseClause_55 rfl ?_
    refine ab_iconst (v := 5) dX6_parseClause_56 (by decide) ?_
    refine ab_iload_n 1 dX6_parseClause_57 rfl ?_
    refine ab_iconst (v := 0) dX6_parseClause_58 (by decide) ?_
    refine ab_iload_n 0 dX6_parseClause_59 rfl ?_
    refine ab_callV (a := 1) (c0 := 6) (d' := d) (mc' := 0) (ms' := 0) (vs := [.int (5 : Int32), .int x45, .int (0 : Int32), .int x57]) (st := []) dX6_parseClause_60 ⟨cw_X6_make, w_430⟩ w_432 w_12 (by decide) (hl73.sh 1 rfl (by decide) (by decide)).1 (hl73.sh 1 rfl (by decide) (by decide)).2 rfl rfl (Nat.le_of_ble_eq_true rfl) (Nat.le_refl _) (Nat.zero_le _) (Nat.zero_le _) (AM.mono h (fun r M74 ⟨hr76, hc77, h⟩ => ?_))
    subst hr76
    refine ab_rv ?_
    have hm78 : Sm M M74 := hm72.trans hc77
    have hl79 := hL.of hm78
    exact ab_vret dX6_parseClause_63 rfl h
theorem dX6_parseEither_0 : decode cX6_parseEither 0 = .ok (.aload_n 0, 1) := by decide +kernel
theorem dX6_parseEither_1 : decode cX6_parseEither 1 = .ok (.iload_n 1, 1) := by decide +kernel
theorem dX6_parseEither_2 : decode cX6_parseEither 2 = .ok (.invokevirtual 67, 3) := by decide +kernel
theorem dX6_parseEither_5 : decode cX6_parseEither 5 = .ok (.iconst 0, 1) := by decide +kernel
theorem dX6_parseEither_6 : decode cX6_parseEither 6 = .ok (.istore_n 2, 1) := by decide +kernel
theorem dX6_parseEither_7 : decode cX6_parseEither 7 = .ok (.iload_n 2, 1) := by decide +kernel
theorem dX6_parseEither_8 : decode cX6_parseEither 8 = .ok (.bipush 100, 2) := by decide +kernel
theorem dX6_parseEither_10 : decode cX6_parseEither 10 = .ok (.if_icmp .ge 41, 3) := by decide +kernel
theorem dX6_parseEither_13 : decode cX6_parseEither 13 = .ok (.aload_n 0, 1) := by decide +kernel
theorem dX6_parseEither_14 : decode cX6_parseEither 14 = .ok (.bipush 124, 2) := by decide +kernel
theorem dX6_parseEither_16 : decode cX6_parseEither 16 = .ok (.invokevirtual 35, 3) := by decide +kernel
theorem dX6_parseEither_19 : decode cX6_parseEither 19 = .ok (.ifCond .eq 32, 3) := by decide +kernel
theorem dX6_parseEither_22 : decode cX6_parseEither 22 = .ok (.aload_n 0, 1) := by decide +kernel
theorem dX6_parseEither_23 : decode cX6_parseEither 23 = .ok (.dup, 1) := by decide +kernel
theorem dX6_parseEither_24 : decode cX6_parseEither 24 = .ok (.getfield 25, 3) := by decide +kernel
theorem dX6_parseEither_27 : decode cX6_parseEither 27 = .ok (.iconst 1, 1) := by decide +kernel
theorem dX6_parseEither_28 : decode cX6_parseEither 28 = .ok (.iadd, 1) := by decide +kernel
theorem dX6_parseEither_29 : decode cX6_parseEither 29 = .ok (.putfield 25, 3) := by decide +kernel
theorem dX6_parseEither_32 : decode cX6_parseEither 32 = .ok (.aload_n 0, 1) := by decide +kernel
theorem dX6_parseEither_33 : decode cX6_parseEither 33 = .ok (.iload_n 1, 1) := by decide +kernel
theorem dX6_parseEither_34 : decode cX6_parseEither 34 = .ok (.invokevirtual 67, 3) := by decide +kernel
theorem dX6_parseEither_37 : decode cX6_parseEither 37 = .ok (.aload_n 0, 1) := by decide +kernel
theorem dX6_parseEither_38 : decode cX6_parseEither 38 = .ok (.iconst 4, 1) := by decide +kernel
theorem dX6_parseEither_39 : decode cX6_parseEither 39 = .ok (.iconst 0, 1) := by decide +kernel
theorem dX6_parseEither_40 : decode cX6_parseEither 40 = .ok (.iconst 0, 1) := by decide +kernel
theorem dX6_parseEither_41 : decode cX6_parseEither 41 = .ok (.iconst 0, 1) := by decide +kernel
theorem dX6_parseEither_42 : decode cX6_parseEither 42 = .ok (.invokevirtual 63, 3) := by decide +kernel
theorem dX6_parseEither_45 : decode cX6_parseEither 45 = .ok (.iinc 2 1, 3) := by decide +kernel
theorem dX6_parseEither_48 : decode cX6_parseEither 48 = .ok (.goto (-41), 3) := by decide +kernel
theorem dX6_parseEither_51 : decode cX6_parseEither 51 = .ok (.return_, 1) := by decide +kernel
def LX6_parseEither_7 (D : GD) (d : Nat) (v1 : Int32) (v2 : Int32) (M : Mm) (post : Option Value → Mm → Prop) : Prop := AW D (d + 1) 0 0 mX6_parseEither 0 0 7 [(0, .ref 1), (1, .int v1), (2, .int v2)] [] M post
set_option maxRecDepth 20000 in
theorem rX6_parseEither (D : GD) (d : Nat) (a1 : Int32) (M : Mm) (post : Option Value → Mm → Prop) (hL : Lay 1 4 M) 
    (h : AMv D d mX6_parseBoth [.ref 1, .int a1] M (fun M1 => LX6_parseEither_7 D d a1 (0 : Int32) M1 post)) :
    AM D (d + 1) 0 0 mX6_parseEither [.ref 1, .int a1] M post := by
  refine AM.of (by decide) (Nat.le_of_ble_eq_true rfl) ?_
  show AW D (d + 1) 0 0 mX6_parseEither 0 0 0 [(0, .ref 1), (1, .int a1)] [] M post
  refine ab_aload_n 0 dX6_parseEither_0 rfl ?_
  refine ab_iload_n 1 dX6_parseEither_1 rfl ?_
  refine ab_callV (a := 1) (c0 := 6) (d' := d) (mc' := 0) (ms' := 0) (vs := [.int a1]) (st := []) dX6_parseEither_2 ⟨cw_X6_parseBoth, w_422⟩ w_424 w_10 (by decide) (hL.sh 1 rfl (by decide) (by decide)).1 (hL.sh 1 rfl (by decide) (by decide)).2 rfl rfl (Nat.le_of_ble_eq_true rfl) (Nat.le_refl _) (Nat.zero_le _) (Nat.zero_le _) (AM.mono h (fun r M1 ⟨hr3, hc4, h⟩ => ?_))
  subst hr3
  refine ab_rv ?_
  have hm5 : Sm M M1 := (Sm.refl M).trans hc4
  have hl6 := hL.of hm5
  refine ab_iconst (v := 0) dX6_parseEither_5 (by decide) ?_
  refine ab_istore_n (lv1 := [(2, .int (0 : Int32)), (0, .ref 1), (1, .int a1)]) dX6_parseEither_6 (by decide) rfl ?_
  exact ab_sub [1, 2, 0] rfl h
set_option maxRecDepth 20000 in
theorem rX6_parseEither_7 (D : GD) (d : Nat)  (v1 : Int32) (v2 : Int32) (M : Mm) (post : Option Value → Mm → Prop) (hL : Lay 1 4 M) 
    (h : (((100 : Int32) ≤ v2 → post none M) ∧ (¬ (100 : Int32) ≤ v2 → AMi D d mX6_sees [.ref 1, .int (124 : Int32)] M (fun x3 M2 => ((x3 = 0 → post none M2) ∧ (¬ x3 = 0 → ∀ M9 : Mm, M9 = sI M2 1 4 ((gI M2 1 4) + (1 : Int32)) → AMv D d mX6_parseBoth [.ref 1, .int v1] M9 (fun M13 => AMv D d mX6_make [.ref 1, .int (4 : Int32), .int (0 : Int32), .int (0 : Int32), .int (0 : Int32)] M13 (fun M19 => ∀ x25 : Int32, x25 = v2 + (1 : Int32) → LX6_parseEither_7 D d v1 x25 M19 post)))))))) :
    LX6_parseEither_7 D d v1 v2 M post := by
  show AW D (d + 1) 0 0 mX6_parseEither 0 0 7 [(0, .ref 1), (1, .int v1), (2, .int v2)] [] M post
  refine ab_iload_n 2 dX6_parseEither_7 rfl ?_
  refine ab_bipush (v := 100) dX6_parseEither_8 (by decide) ?_
  refine ab_icmp_ge (tgt := 51) dX6_parseEither_10 (by decide) (fun c1 => ?_) (fun c1 => ?_)
  · have h := h.1 c1
    exact ab_vret dX6_parseEither_51 rfl h
  · have h := h.2 c1
    refine ab_aload_n 0 dX6_parseEither_13 rfl ?_
    refine ab_bipush (v := 124) dX6_parseEither_14 (by decide) ?_
    refine ab_callV (a := 1) (c0 := 6) (d' := d) (mc' := 0) (ms' := 0) (vs := [.int (124 : Int32)]) (st := []) dX6_parseEither_16 ⟨cw_X6_sees, w_346⟩ w_348 w_4 (by decide) (hL.sh 1 rfl (by decide) (by decide)).1 (hL.sh 1 rfl (by decide) (by decide)).2 rfl rfl (Nat.le_of_ble_eq_true rfl) (Nat.le_refl _) (Nat.zero_le _) (Nat.zero_le _) (AM.mono h (fun r M2 ⟨x3, hr4, hc5, h⟩ => ?_))
    subst hr4
    refine ab_rs ?_
    have hm6 : Sm M M2 := (Sm.refl M).trans hc5
    have hl7 := hL.of hm6
    refine ab_if_eq (tgt := 51) dX6_parseEither_19 (by decide) (fun c8 => ?_) (fun c8 => ?_)
    · have h := h.1 c8
      exact ab_vret dX6_parseEither_51 rfl h
    · have h := h.2 c8
      refine ab_aload_n 0 dX6_parseEither_22 rfl ?_
      refine ab_dup dX6_parseEither_23 rfl ?_
      refine ab_getI dX6_parseEither_24 fs_6_25_6 rfl (hl7.sh 1 rfl (by decide) (by decide)).1 (hl7.sh 1 rfl (by decide) (by decide)).2 ?_
      refine ab_iconst (v := 1) dX6_parseEither_27 (by decide) ?_
      refine ab_iadd dX6_parseEither_28 ?_
      refine ab_putI dX6_parseEither_29 fs_6_25_6 rfl rfl (hl7.sh 1 rfl (by decide) (by decide)).1 (hl7.sh 1 rfl (by decide) (by decide)).2 ?_
      refine ab_nameM (fun M9 hM9 => ?_)
      have h := h M9 hM9
      have hs12 : Sm M2 M9 := hM9 ▸ (Sm.refl _).i
      have hm10 : Sm M M9 := hm6.trans hs12
      have hl11 := hL.of hm10
      refine ab_aload_n 0 dX6_parseEither_32 rfl ?_
      refine ab_iload_n 1 dX6_parseEither_33 rfl ?_
      refine ab_callV (a := 1) (c0 := 6) (d' := d) (mc' := 0) (ms' := 0) (vs := [.int v1]) (st := []) dX6_parseEither_34 ⟨cw_X6_parseBoth, w_422⟩ w_424 w_10 (by decide) (hl11.sh 1 rfl (by decide) (by decide)).1 (hl11.sh 1 rfl (by decide) (by decide)).2 rfl rfl (Nat.le_of_ble_eq_true rfl) (Nat.le_refl _) (Nat.zero_le _) (Nat.zero_le _) (AM.mono h (fun r M13 ⟨hr15, hc16, h⟩ => ?_))
      subst hr15
      refine ab_rv ?_
      have hm17 : Sm M M13 := hm10.trans hc16
      have hl18 := hL.of hm17
      refine ab_aload_n 0 dX6_parseEither_37 rfl ?_
      refine ab_iconst (v := 4) dX6_parseEither_38 (by decide) ?_
      refine ab_iconst (v := 0) dX6_parseEither_39 (by decide) ?_
      refine ab_iconst (v := 0) dX6_parseEither_40 (by decide) ?_
      refine ab_iconst (v := 0) dX6_parseEither_41 (by decide) ?_
      refine ab_callV (a := 1) (c0 := 6) (d' := d) (mc' := 0) (ms' := 0) (vs := [.int (4 : Int32), .int (0 : Int32), .int (0 : Int32), .int (0 : Int32)]) (st := []) dX6_parseEither_42 ⟨cw_X6_make, w_430⟩ w_432 w_12 (by decide) (hl18.sh 1 rfl (by decide) (by decide)).1 (hl18.sh 1 rfl (by decide) (by decide)).2 rfl rfl (Nat.le_of_ble_eq_true rfl) (Nat.le_refl _) (Nat.zero_le _) (Nat.zero_le _) (AM.mono h (fun r M19 ⟨hr21, hc22, h⟩ => ?_))
      subst hr21
      refine ab_rv ?_
      have hm23 : Sm M M19 := hm17.trans hc22
      have hl24 := hL.of hm23
      obtain ⟨x25, hx25⟩ : ∃ y : Int32, y = v2 + (1 : Int32) := ⟨_, rfl⟩
      have h := h x25 hx25
      refine ab_iinc (v := x25) 2 (lv1 := [(2, .int x25), (0, .ref 1), (1, .int v1)]) dX6_parseEither_45 rfl (by rw [hx25]; rfl) (by decide) rfl ?_
      refine ab_goto (tgt := 7) dX6_parseEither_48 (by decide) ?_
      exact ab_sub [1, 2, 0] rfl h
theorem dX6_parseBoth_0 : decode cX6_parseBoth 0 = .ok (.aload_n 0, 1) := by decide +kernel
theorem dX6_parseBoth_1 : decode cX6_parseBoth 1 = .ok (.iload_n 1, 1) := by decide +kernel
theorem dX6_parseBoth_2 : decode cX6_parseBoth 2 = .ok (.invokevirtual 70, 3) := by decide +kernel
theorem dX6_parseBoth_5 : decode cX6_parseBoth 5 = .ok (.iconst 0, 1) := by decide +kernel
theorem dX6_parseBoth_6 : decode cX6_parseBoth 6 = .ok (.istore_n 2, 1) := by decide +kernel
theorem dX6_parseBoth_7 : decode cX6_parseBoth 7 = .ok (.iload_n 2, 1) := by decide +kernel
theorem dX6_parseBoth_8 : decode cX6_parseBoth 8 = .ok (.bipush 100, 2) := by decide +kernel
theorem dX6_parseBoth_10 : decode cX6_parseBoth 10 = .ok (.if_icmp .ge 41, 3) := by decide +kernel
theorem dX6_parseBoth_13 : decode cX6_parseBoth 13 = .ok (.aload_n 0, 1) := by decide +kernel
theorem dX6_parseBoth_14 : decode cX6_parseBoth 14 = .ok (.bipush 38, 2) := by decide +kernel
theorem dX6_parseBoth_16 : decode cX6_parseBoth 16 = .ok (.invokevirtual 35, 3) := by decide +kernel
theorem dX6_parseBoth_19 : decode cX6_parseBoth 19 = .ok (.ifCond .eq 32, 3) := by decide +kernel
theorem dX6_parseBoth_22 : decode cX6_parseBoth 22 = .ok (.aload_n 0, 1) := by decide +kernel
theorem dX6_parseBoth_23 : decode cX6_parseBoth 23 = .ok (.dup, 1) := by decide +kernel
theorem dX6_parseBoth_24 : decode cX6_parseBoth 24 = .ok (.getfield 25, 3) := by decide +kernel
theorem dX6_parseBoth_27 : decode cX6_parseBoth 27 = .ok (.iconst 1, 1) := by decide +kernel
theorem dX6_parseBoth_28 : decode cX6_parseBoth 28 = .ok (.iadd, 1) := by decide +kernel
theorem dX6_parseBoth_29 : decode cX6_parseBoth 29 = .ok (.putfield 25, 3) := by decide +kernel
theorem dX6_parseBoth_32 : decode cX6_parseBoth 32 = .ok (.aload_n 0, 1) := by decide +kernel
theorem dX6_parseBoth_33 : decode cX6_parseBoth 33 = .ok (.iload_n 1, 1) := by decide +kernel
theorem dX6_parseBoth_34 : decode cX6_parseBoth 34 = .ok (.invokevirtual 70, 3) := by decide +kernel
theorem dX6_parseBoth_37 : decode cX6_parseBoth 37 = .ok (.aload_n 0, 1) := by decide +kernel
theorem dX6_parseBoth_38 : decode cX6_parseBoth 38 = .ok (.iconst 3, 1) := by decide +kernel
theorem dX6_parseBoth_39 : decode cX6_parseBoth 39 = .ok (.iconst 0, 1) := by decide +kernel
theorem dX6_parseBoth_40 : decode cX6_parseBoth 40 = .ok (.iconst 0, 1) := by decide +kernel
theorem dX6_parseBoth_41 : decode cX6_parseBoth 41 = .ok (.iconst 0, 1) := by decide +kernel
theorem dX6_parseBoth_42 : decode cX6_parseBoth 42 = .ok (.invokevirtual 63, 3) := by decide +kernel
theorem dX6_parseBoth_45 : decode cX6_parseBoth 45 = .ok (.iinc 2 1, 3) := by decide +kernel
theorem dX6_parseBoth_48 : decode cX6_parseBoth 48 = .ok (.goto (-41), 3) := by decide +kernel
theorem dX6_parseBoth_51 : decode cX6_parseBoth 51 = .ok (.return_, 1) := by decide +kernel
def LX6_parseBoth_7 (D : GD) (d : Nat) (v1 : Int32) (v2 : Int32) (M : Mm) (post : Option Value → Mm → Prop) : Prop := AW D (d + 1) 0 0 mX6_parseBoth 0 0 7 [(0, .ref 1), (1, .int v1), (2, .int v2)] [] M post
set_option maxRecDepth 20000 in
theorem rX6_parseBoth (D : GD) (d : Nat) (a1 : Int32) (M : Mm) (post : Option Value → Mm → Prop) (hL : Lay 1 4 M) 
    (h : AMv D d mX6_parseSingle [.ref 1, .int a1] M (fun M1 => LX6_parseBoth_7 D d a1 (0 : Int32) M1 post)) :
    AM D (d + 1) 0 0 mX6_parseBoth [.ref 1, .int a1] M post := by
  refine AM.of (by decide) (Nat.le_of_ble_eq_true rfl) ?_
  show AW D (d + 1) 0 0 mX6_parseBoth 0 0 0 [(0, .ref 1), (1, .int a1)] [] M post
  refine ab_aload_n 0 dX6_parseBoth_0 rfl ?_
  refine ab_iload_n 1 dX6_parseBoth_1 rfl ?_
  refine ab_callV (a := 1) (c0 := 6) (d' := d) (mc' := 0) (ms' := 0) (vs := [.int a1]) (st := []) dX6_parseBoth_2 ⟨cw_X6_parseSingle, w_426⟩ w_428 w_11 (by decide) (hL.sh 1 rfl (by decide) (by decide)).1 (hL.sh 1 rfl (by decide) (by decide)).2 rfl rfl (Nat.le_of_ble_eq_true rfl) (Nat.le_refl _) (Nat.zero_le _) (Nat.zero_le _) (AM.mono h (fun r M1 ⟨hr3, hc4, h⟩ => ?_))
  subst hr3
  refine ab_rv ?_
  have hm5 : Sm M M1 := (Sm.refl M).trans hc4
  have hl6 := hL.of hm5
  refine ab_iconst (v := 0) dX6_parseBoth_5 (by decide) ?_
  refine ab_istore_n (lv1 := [(2, .int (0 : Int32)), (0, .ref 1), (1, .int a1)]) dX6_parseBoth_6 (by decide) rfl ?_
  exact ab_sub [1, 2, 0] rfl h
set_option maxRecDepth 20000 in
theorem rX6_parseBoth_7 (D : GD) (d : Nat)  (v1 : Int32) (v2 : Int32) (M : Mm) (post : Option Value → Mm → Prop) (hL : Lay 1 4 M) 
    (h : (((100 : Int32) ≤ v2 → post none M) ∧ (¬ (100 : Int32) ≤ v2 → AMi D d mX6_sees [.ref 1, .int (38 : Int32)] M (fun x3 M2 => ((x3 = 0 → post none M2) ∧ (¬ x3 = 0 → ∀ M9 : Mm, M9 = sI M2 1 4 ((gI M2 1 4) + (1 : Int32)) → AMv D d mX6_parseSingle [.ref 1, .int v1] M9 (fun M13 => AMv D d mX6_make [.ref 1, .int (3 : Int32), .int (0 : Int32), .int (0 : Int32), .int (0 : Int32)] M13 (fun M19 => ∀ x25 : Int32, x25 = v2 + (1 : Int32) → LX6_parseBoth_7 D d v1 x25 M19 post)))))))) :
    LX6_parseBoth_7 D d v1 v2 M post := by
  show AW D (d + 1) 0 0 mX6_parseBoth 0 0 7 [(0, .ref 1), (1, .int v1), (2, .int v2)] [] M post
  refine ab_iload_n 2 dX6_parseBoth_7 rfl ?_
  refine ab_bipush (v := 100) dX6_parseBoth_8 (by decide) ?_
  refine ab_icmp_ge (tgt := 51) dX6_parseBoth_10 (by decide) (fun c1 => ?_) (fun c1 => ?_)
  · have h := h.1 c1
    exact ab_vret dX6_parseBoth_51 rfl h
  · have h := h.2 c1
    refine ab_aload_n 0 dX6_parseBoth_13 rfl ?_
    refine ab_bipush (v := 38) dX6_parseBoth_14 (by decide) ?_
    refine ab_callV (a := 1) (c0 := 6) (d' := d) (mc' := 0) (ms' := 0) (vs := [.int (38 : Int32)]) (st := []) dX6_parseBoth_16 ⟨cw_X6_sees, w_346⟩ w_348 w_4 (by decide) (hL.sh 1 rfl (by decide) (by decide)).1 (hL.sh 1 rfl (by decide) (by decide)).2 rfl rfl (Nat.le_of_ble_eq_true rfl) (Nat.le_refl _) (Nat.zero_le _) (Nat.zero_le _) (AM.mono h (fun r M2 ⟨x3, hr4, hc5, h⟩ => ?_))
    subst hr4
    refine ab_rs ?_
    have hm6 : Sm M M2 := (Sm.refl M).trans hc5
    have hl7 := hL.of hm6
    refine ab_if_eq (tgt := 51) dX6_parseBoth_19 (by decide) (fun c8 => ?_) (fun c8 => ?_)
    · have h := h.1 c8
      exact ab_vret dX6_parseBoth_51 rfl h
    · have h := h.2 c8
      refine ab_aload_n 0 dX6_parseBoth_22 rfl ?_
      refine ab_dup dX6_parseBoth_23 rfl ?_
      refine ab_getI dX6_parseBoth_24 fs_6_25_6 rfl (hl7.sh 1 rfl (by decide) (by decide)).1 (hl7.sh 1 rfl (by decide) (by decide)).2 ?_
      refine ab_iconst (v := 1) dX6_parseBoth_27 (by decide) ?_
      refine ab_iadd dX6_parseBoth_28 ?_
      refine ab_putI dX6_parseBoth_29 fs_6_25_6 rfl rfl (hl7.sh 1 rfl (by decide) (by decide)).1 (hl7.sh 1 rfl (by decide) (by decide)).2 ?_
      refine ab_nameM (fun M9 hM9 => ?_)
      have h := h M9 hM9
      have hs12 : Sm M2 M9 := hM9 ▸ (Sm.refl _).i
      have hm10 : Sm M M9 := hm6.trans hs12
      have hl11 := hL.of hm10
      refine ab_aload_n 0 dX6_parseBoth_32 rfl ?_
      refine ab_iload_n 1 dX6_parseBoth_33 rfl ?_
      refine ab_callV (a := 1) (c0 := 6) (d' := d) (mc' := 0) (ms' := 0) (vs := [.int v1]) (st := []) dX6_parseBoth_34 ⟨cw_X6_parseSingle, w_426⟩ w_428 w_11 (by decide) (hl11.sh 1 rfl (by decide) (by decide)).1 (hl11.sh 1 rfl (by decide) (by decide)).2 rfl rfl (Nat.le_of_ble_eq_true rfl) (Nat.le_refl _) (Nat.zero_le _) (Nat.zero_le _) (AM.mono h (fun r M13 ⟨hr15, hc16, h⟩ => ?_))
      subst hr15
      refine ab_rv ?_
      have hm17 : Sm M M13 := hm10.trans hc16
      have hl18 := hL.of hm17
      refine ab_aload_n 0 dX6_parseBoth_37 rfl ?_
      refine ab_iconst (v := 3) dX6_parseBoth_38 (by decide) ?_
      refine ab_iconst (v := 0) dX6_parseBoth_39 (by decide) ?_
      refine ab_iconst (v := 0) dX6_parseBoth_40 (by decide) ?_
      refine ab_iconst (v := 0) dX6_parseBoth_41 (by decide) ?_
      refine ab_callV (a := 1) (c0 := 6) (d' := d) (mc' := 0) (ms' := 0) (vs := [.int (3 : Int32), .int (0 : Int32), .int (0 : Int32), .int (0 : Int32)]) (st := []) dX6_parseBoth_42 ⟨cw_X6_make, w_430⟩ w_432 w_12 (by decide) (hl18.sh 1 rfl (by decide) (by decide)).1 (hl18.sh 1 rfl (by decide) (by decide)).2 rfl rfl (Nat.le_of_ble_eq_true rfl) (Nat.le_refl _) (Nat.zero_le _) (Nat.zero_le _) (AM.mono h (fun r M19 ⟨hr21, hc22, h⟩ => ?_))
      subst hr21
      refine ab_rv ?_
      have hm23 : Sm M M19 := hm17.trans hc22
      have hl24 := hL.of hm23
      obtain ⟨x25, hx25⟩ : ∃ y : Int32, y = v2 + (1 : Int32) := ⟨_, rfl⟩
      have h := h x25 hx25
      refine ab_iinc (v := x25) 2 (lv1 := [(2, .int x25), (0, .ref 1), (1, .int v1)]) dX6_parseBoth_45 rfl (by rw [hx25]; rfl) (by decide) rfl ?_
      refine ab_goto (tgt := 7) dX6_parseBoth_48 (by decide) ?_
      exact ab_sub [1, 2, 0] rfl h
theorem dX6_parseSingle_0 : decode cX6_parseSingle 0 = .ok (.iload_n 1, 1) := by decide +kernel
theorem dX6_parseSingle_1 : decode cX6_parseSingle 1 = .ok (.iconst 4, 1) := by decide +kernel
theorem dX6_parseSingle_2 : decode cX6_parseSingle 2 = .ok (.if_icmp .ge 40, 3) := by decide +kernel
theorem dX6_parseSingle_5 : decode cX6_parseSingle 5 = .ok (.aload_n 0, 1) := by decide +kernel
theorem dX6_parseSingle_6 : decode cX6_parseSingle 6 = .ok (.bipush 33, 2) := by decide +kernel
theorem dX6_parseSingle_8 : decode cX6_parseSingle 8 = .ok (.invokevirtual 35, 3) := by decide +kernel
theorem dX6_parseSingle_11 : decode cX6_parseSingle 11 = .ok (.ifCond .eq 31, 3) := by decide +kernel
theorem dX6_parseSingle_14 : decode cX6_parseSingle 14 = .ok (.aload_n 0, 1) := by decide +kernel
theorem dX6_parseSingle_15 : decode cX6_parseSingle 15 = .ok (.dup, 1) := by decide +kernel
theorem dX6_parseSingle_16 : decode cX6_parseSingle 16 = .ok (.getfield 25, 3) := by decide +kernel
theorem dX6_parseSingle_19 : decode cX6_parseSingle 19 = .ok (.iconst 1, 1) := by decide +kernel
theorem dX6_parseSingle_20 : decode cX6_parseSingle 20 = .ok (.iadd, 1) := by decide +kernel
theorem dX6_parseSingle_21 : decode cX6_parseSingle 21 = .ok (.putfield 25, 3) := by decide +kernel
theorem dX6_parseSingle_24 : decode cX6_parseSingle 24 = .ok (.aload_n 0, 1) := by decide +kernel
theorem dX6_parseSingle_25 : decode cX6_parseSingle 25 = .ok (.iload_n 1, 1) := by decide +kernel
theorem dX6_parseSingle_26 : decode cX6_parseSingle 26 = .ok (.iconst 1, 1) := by decide +kernel
theorem dX6_parseSingle_27 : decode cX6_parseSingle 27 = .ok (.iadd, 1) := by decide +kernel
theorem dX6_parseSingle_28 : decode cX6_parseSingle 28 = .ok (.invokevirtual 70, 3) := by decide +kernel
theorem dX6_parseSingle_31 : decode cX6_parseSingle 31 = .ok (.aload_n 0, 1) := by decide +kernel
theorem dX6_parseSingle_32 : decode cX6_parseSingle 32 = .ok (.iconst 2, 1) := by decide +kernel
theorem dX6_parseSingle_33 : decode cX6_parseSingle 33 = .ok (.iconst 0, 1) := by decide +kernel
theorem dX6_parseSingle_34 : decode cX6_parseSingle 34 = .ok (.iconst 0, 1) := by decide +kernel
theorem dX6_parseSingle_35 : decode cX6_parseSingle 35 = .ok (.iconst 0, 1) := by decide +kernel
theorem dX6_parseSingle_36 : decode cX6_parseSingle 36 = .ok (.invokevirtual 63, 3) := by decide +kernel
theorem dX6_parseSingle_39 : decode cX6_parseSingle 39 = .ok (.goto 68, 3) := by decide +kernel
theorem dX6_parseSingle_42 : decode cX6_parseSingle 42 = .ok (.iload_n 1, 1) := by decide +kernel
theorem dX6_parseSingle_43 : decode cX6_parseSingle 43 = .ok (.iconst 4, 1) := by decide +kernel
theorem dX6_parseSingle_44 : decode cX6_parseSingle 44 = .ok (.if_icmp .ge 38, 3) := by decide +kernel
theorem dX6_parseSingle_47 : decode cX6_parseSingle 47 = .ok (.aload_n 0, 1) := by decide +kernel
theorem dX6_parseSingle_48 : decode cX6_parseSingle 48 = .ok (.bipush 40, 2) := by decide +kernel
theorem dX6_parseSingle_50 : decode cX6_parseSingle 50 = .ok (.invokevirtual 35, 3) := by decide +kernel
theorem dX6_parseSingle_53 : decode cX6_parseSingle 53 = .ok (.ifCond .eq 29, 3) := by decide +kernel
theorem dX6_parseSingle_56 : decode cX6_parseSingle 56 = .ok (.aload_n 0, 1) := by decide +kernel
theorem dX6_parseSingle_57 : decode cX6_parseSingle 57 = .ok (.dup, 1) := by decide +kernel
theorem dX6_parseSingle_58 : decode cX6_parseSingle 58 = .ok (.getfield 25, 3) := by decide +kernel
theorem dX6_parseSingle_61 : decode cX6_parseSingle 61 = .ok (.iconst 1, 1) := by decide +kernel
theorem dX6_parseSingle_62 : decode cX6_parseSingle 62 = .ok (.iadd, 1) := by decide +kernel
theorem dX6_parseSingle_63 : decode cX6_parseSingle 63 = .ok (.putfield 25, 3) := by decide +kernel
theorem dX6_parseSingle_66 : decode cX6_parseSingle 66 = .ok (.aload_n 0, 1) := by decide +kernel
theorem dX6_parseSingle_67 : decode cX6_parseSingle 67 = .ok (.iload_n 1, 1) := by decide +kernel
theorem dX6_parseSingle_68 : decode cX6_parseSingle 68 = .ok (.iconst 1, 1) := by decide +kernel
theorem dX6_parseSingle_69 : decode cX6_parseSingle 69 = .ok (.iadd, 1) := by decide +kernel
theorem dX6_parseSingle_70 : decode cX6_parseSingle 70 = .ok (.invokevirtual 59, 3) := by decide +kernel
theorem dX6_parseSingle_73 : decode cX6_parseSingle 73 = .ok (.aload_n 0, 1) := by decide +kernel
theorem dX6_parseSingle_74 : decode cX6_parseSingle 74 = .ok (.ldc 73, 2) := by decide +kernel
theorem dX6_parseSingle_76 : decode cX6_parseSingle 76 = .ok (.invokevirtual 41, 3) := by decide +kernel
theorem dX6_parseSingle_79 : decode cX6_parseSingle 79 = .ok (.goto 28, 3) := by decide +kernel
theorem dX6_parseSingle_82 : decode cX6_parseSingle 82 = .ok (.aload_n 0, 1) := by decide +kernel
theorem dX6_parseSingle_83 : decode cX6_parseSingle 83 = .ok (.ldc 75, 2) := by decide +kernel
theorem dX6_parseSingle_85 : decode cX6_parseSingle 85 = .ok (.invokevirtual 47, 3) := by decide +kernel
theorem dX6_parseSingle_88 : decode cX6_parseSingle 88 = .ok (.istore_n 2, 1) := by decide +kernel
theorem dX6_parseSingle_89 : decode cX6_parseSingle 89 = .ok (.aload_n 0, 1) := by decide +kernel
theorem dX6_parseSingle_90 : decode cX6_parseSingle 90 = .ok (.ldc 77, 2) := by decide +kernel
theorem dX6_parseSingle_92 : decode cX6_parseSingle 92 = .ok (.invokevirtual 47, 3) := by decide +kernel
theorem dX6_parseSingle_95 : decode cX6_parseSingle 95 = .ok (.istore_n 3, 1) := by decide +kernel
theorem dX6_parseSingle_96 : decode cX6_parseSingle 96 = .ok (.aload_n 0, 1) := by decide +kernel
theorem dX6_parseSingle_97 : decode cX6_parseSingle 97 = .ok (.iconst 1, 1) := by decide +kernel
theorem dX6_parseSingle_98 : decode cX6_parseSingle 98 = .ok (.iload_n 2, 1) := by decide +kernel
theorem dX6_parseSingle_99 : decode cX6_parseSingle 99 = .ok (.iload_n 3, 1) := by decide +kernel
theorem dX6_parseSingle_100 : decode cX6_parseSingle 100 = .ok (.aload_n 0, 1) := by decide +kernel
theorem dX6_parseSingle_101 : decode cX6_parseSingle 101 = .ok (.invokevirtual 55, 3) := by decide +kernel
theorem dX6_parseSingle_104 : decode cX6_parseSingle 104 = .ok (.invokevirtual 63, 3) := by decide +kernel
theorem dX6_parseSingle_107 : decode cX6_parseSingle 107 = .ok (.return_, 1) := by decide +kernel
set_option maxRecDepth 20000 in
theorem rX6_parseSingle (D : GD) (d : Nat) (a1 : Int32) (M : Mm) (post : Option Value → Mm → Prop) (hL : Lay 1 4 M) 
    (h : (((4 : Int32) ≤ a1 → (((4 : Int32) ≤ a1 → AMi D d mX6_passOneOf [.ref 1, .ref (1000000 + 5)] M (fun x4 M3 => AMi D d mX6_passOneOf [.ref 1, .ref (1000000 + 6)] M3 (fun x10 M9 => AMi D d mX6_passNumber [.ref 1] M9 (fun x16 M15 => AMv D d mX6_make [.ref 1, .int (1 : Int32), .int x4, .int x10, .int x16] M15 (fun M21 => post none M21))))) ∧ (¬ (4 : Int32) ≤ a1 → AMi D d mX6_sees [.ref 1, .int (40 : Int32)] M (fun x28 M27 => ((x28 = 0 → AMi D d mX6_passOneOf [.ref 1, .ref (1000000 + 5)] M27 (fun x35 M34 => AMi D d mX6_passOneOf [.ref 1, .ref (1000000 + 6)] M34 (fun x41 M40 => AMi D d mX6_passNumber [.ref 1] M40 (fun x47 M46 => AMv D d mX6_make [.ref 1, .int (1 : Int32), .int x35, .int x41, .int x47] M46 (fun M52 => post none M52))))) ∧ (¬ x28 = 0 → ∀ M58 : Mm, M58 = sI M27 1 4 ((gI M27 1 4) + (1 : Int32)) → AMv D d mX6_parseEither [.ref 1, .int (a1 + (1 : Int32))] M58 (fun M62 => AMv D d mX6_pass [.ref 1, .ref (1000000 + 4)] M62 (fun M68 => post none M68)))))))) ∧ (¬ (4 : Int32) ≤ a1 → AMi D d mX6_sees [.ref 1, .int (33 : Int32)] M (fun x75 M74 => ((x75 = 0 → (((4 : Int32) ≤ a1 → AMi D d mX6_passOneOf [.ref 1, .ref (1000000 + 5)] M74 (fun x83 M82 => AMi D d mX6_passOneOf [.ref 1, .ref (1000000 + 6)] M82 (fun x89 M88 => AMi D d mX6_passNumber [.ref 1] M88 (fun x95 M94 => AMv D d mX6_make [.ref 1, .int (1 : Int32), .int x83, .int x89, .int x95] M94 (fun M100 => post none M100))))) ∧ (¬ (4 : Int32) ≤ a1 → AMi D d mX6_sees [.ref 1, .int (40 : Int32)] M74 (fun x107 M106 => ((x107 = 0 → AMi D d mX6_passOneOf [.ref 1, .ref (1000000 + 5)] M106 (fun x114 M113 => AMi D d mX6_passOneOf [.ref 1, .ref (1000000 + 6)] M113 (fun x120 M119 => AMi D d mX6_passNumber [.ref 1] M119 (fun x126 M125 => AMv D d mX6_make [.ref 1, .int (1 : Int32), .int x114, .int x120, .int x126] M125 (fun M131 => post none M131))))) ∧ (¬ x107 = 0 → ∀ M137 : Mm, M137 = sI M106 1 4 ((gI M106 1 4) + (1 : Int32)) → AMv D d mX6_parseEither [.ref 1, .int (a1 + (1 : Int32))] M137 (fun M141 => AMv D d mX6_pass [.ref 1, .ref (1000000 + 4)] M141 (fun M147 => post none M147)))))))) ∧ (¬ x75 = 0 → ∀ M153 : Mm, M153 = sI M74 1 4 ((gI M74 1 4) + (1 : Int32)) → AMv D d mX6_parseSingle [.ref 1, .int (a1 + (1 : Int32))] M153 (fun M157 => AMv D d mX6_make [.ref 1, .int (2 : Int32), .int (0 : Int32), .int (0 : Int32), .int (0 : Int32)] M157 (fun M163 => post none M163)))))))) :
    AM D (d + 1) 0 0 mX6_parseSingle [.ref 1, .int a1] M post := by
  refine AM.of (by decide) (Nat.le_of_ble_eq_true rfl) ?_
  show AW D (d + 1) 0 0 mX6_parseSingle 0 0 0 [(0, .ref 1), (1, .int a1)] [] M post
  refine ab_iload_n 1 dX6_parseSingle_0 rfl ?_
  refine ab_iconst (v := 4) dX6_parseSingle_1 (by decide) ?_
  refine ab_icmp_ge (tgt := 42) dX6_parseSingle_2 (by decide) (fun c1 => ?_) (fun c1 => ?_)
  · have h := h.1 c1
    refine ab_iload_n 1 dX6_parseSingle_42 rfl ?_
    refine ab_iconst (v := 4) dX6_parseSingle_43 (by decide) ?_
    refine ab_icmp_ge (tgt := 82) dX6_parseSingle_44 (by decide) (fun c2 => ?_) (fun c2 => ?_)
    · have h := h.1 c2
      refine ab_aload_n 0 dX6_parseSingle_82 rfl ?_
      refine ab_ldcs (j := 5) rfl (by decide) (by decide) dX6_parseSingle_83 ?_
      refine ab_callV (a := 1) (c0 := 6) (d' := d) (mc' := 0) (ms' := 0) (vs := [.ref (1000000 + 5)]) (st := []) dX6_parseSingle_85 ⟨cw_X6_passOneOf, w_404⟩ w_406 w_6 (by decide) (hL.sh 1 rfl (by decide) (by decide)).1 (hL.sh 1 rfl (by decide) (by decide)).2 rfl rfl (Nat.le_of_ble_eq_true rfl) (Nat.le_refl _) (Nat.zero_le _) (Nat.zero_le _) (AM.mono h (fun r M3 ⟨x4, hr5, hc6, h⟩ => ?_))
      subst hr5
      refine ab_rs ?_
      have hm7 : Sm M M3 := (Sm.refl M).trans hc6
      have hl8 := hL.of hm7
      refine ab_istore_n (lv1 := [(2, .int x4), (0, .ref 1), (1, .int a1)]) dX6_parseSingle_88 (by decide) rfl ?_
      refine ab_aload_n 1 dX6_parseSingle_89 rfl ?_
      refine ab_ldcs (j := 6) rfl (by decide) (by decide) dX6_parseSingle_90 ?_
      refine ab_callV (a := 1) (c0 := 6) (d' := d) (mc' := 0) (ms' := 0) (vs := [.ref (1000000 + 6)]) (st := []) dX6_parseSingle_92 ⟨cw_X6_passOneOf, w_404⟩ w_406 w_6 (by decide) (hl8.sh 1 rfl (by decide) (by decide)).1 (hl8.sh 1 rfl (by decide) (by decide)).2 rfl rfl (Nat.le_of_ble_eq_true rfl) (Nat.le_refl _) (Nat.zero_le _) (Nat.zero_le _) (AM.mono h (fun r M9 ⟨x10, hr11, hc12, h⟩ => ?_))
      subst hr11
      refine ab_rs ?_
      have hm13 : Sm M M9 := hm7.trans hc12
      have hl14 := hL.of hm13
      refine ab_istore_n (lv1 := [(3, .int x10), (2, .int x4), (0, .ref 1), (1, .int a1)]) dX6_parseSingle_95 (by decide) rfl ?_
      refine ab_aload_n 2 dX6_parseSingle_96 rfl ?_
      refine ab_iconst (v := 1) dX6_parseSingle_97 (by decide) ?_
      refine ab_iload_n 1 dX6_parseSingle_98 rfl ?_
      refine ab_iload_n 0 dX6_parseSingle_99 rfl ?_
      refine ab_aload_n 2 dX6_parseSingle_100 rfl ?_
      refine ab_callV (a := 1) (c0 := 6) (d' := d) (mc' := 0) (ms' := 0) (vs := []) (st := [.int x10, .int x4, .int (1 : Int32), .ref 1]) dX6_parseSingle_101 ⟨cw_X6_passNumber, w_410⟩ w_412 w_7 (by decide) (hl14.sh 1 rfl (by decide) (by decide)).1 (hl14.sh 1 rfl (by decide) (by decide)).2 rfl rfl (Nat.le_of_ble_eq_true rfl) (Nat.le_refl _) (Nat.zero_le _) (Nat.zero_le _) (AM.mono h (fun r M15 ⟨x16, hr17, hc18, h⟩ => ?_))
      subst hr17
      refine ab_rs ?_
      have hm19 : Sm M M15 := hm13.trans hc18
      have hl20 := hL.of hm19
      refine ab_callV (a := 1) (c0 := 6) (d' := d) (mc' := 0) (ms' := 0) (vs := [.int (1 : Int32), .int x4, .int x10, .int x16]) (st := []) dX6_parseSingle_104 ⟨cw_X6_make, w_430⟩ w_432 w_12 (by decide) (hl20.sh 1 rfl (by decide) (by decide)).1 (hl20.sh 1 rfl (by decide) (by decide)).2 rfl rfl (Nat.le_of_ble_eq_true rfl) (Nat.le_refl _) (Nat.zero_le _) (Nat.zero_le _) (AM.mono h (fun r M21 ⟨hr23, hc24, h⟩ => ?_))
      subst hr23
      refine ab_rv ?_
      have hm25 : Sm M M21 := hm19.trans hc24
      have hl26 := hL.of hm25
      exact ab_vret dX6_parseSingle_107 rfl h
    · have h := h.2 c2
      refine ab_aload_n 0 dX6_parseSingle_47 rfl ?_
      refine ab_bipush (v := 40) dX6_parseSingle_48 (by decide) ?_
      refine ab_callV (a := 1) (c0 := 6) (d' := d) (mc' := 0) (ms' := 0) (vs := [.int (40 : Int32)]) (st := []) dX6_parseSingle_50 ⟨cw_X6_sees, w_346⟩ w_348 w_4 (by decide) (hL.sh 1 rfl (by decide) (by decide)).1 (hL.sh 1 rfl (by decide) (by decide)).2 rfl rfl (Nat.le_of_ble_eq_true rfl) (Nat.le_refl _) (Nat.zero_le _) (Nat.zero_le _) (AM.mono h (fun r M27 ⟨x28, hr29, hc30, h⟩ => ?_))
      subst hr29
      refine ab_rs ?_
      have hm31 : Sm M M27 := (Sm.refl M).trans hc30
      have hl32 := hL.of hm31
      refine ab_if_eq (tgt := 82) dX6_parseSingle_53 (by decide) (fun c33 => ?_) (fun c33 => ?_)
      · have h := h.1 c33
        refine ab_aload_n 0 dX6_parseSingle_82 rfl ?_
        refine ab_ldcs (j := 5) rfl (by decide) (by decide) dX6_parseSingle_83 ?_
        refine ab_callV (a := 1) (c0 := 6) (d' := d) (mc' := 0) (ms' := 0) (vs := [.ref (1000000 + 5)]) (st := []) dX6_parseSingle_85 ⟨cw_X6_passOneOf, w_404⟩ w_406 w_6 (by decide) (hl32.sh 1 rfl (by decide) (by decide)).1 (hl32.sh 1 rfl (by decide) (by decide)).2 rfl rfl (Nat.le_of_ble_eq_true rfl) (Nat.le_refl _) (Nat.zero_le _) (Nat.zero_le _) (AM.mono h (fun r M34 ⟨x35, hr36, hc37, h⟩ => ?_))
        subst hr36
        refine ab_rs ?_
        have hm38 : Sm M M34 := hm31.trans hc37
        have hl39 := hL.of hm38
        refine ab_istore_n (lv1 := [(2, .int x35), (0, .ref 1), (1, .int a1)]) dX6_parseSingle_88 (by decide) rfl ?_
        refine ab_aload_n 1 dX6_parseSingle_89 rfl ?_
        refine ab_ldcs (j := 6) rfl (by decide) (by decide) dX6_parseSingle_90 ?_
        refine ab_callV (a := 1) (c0 := 6) (d' := d) (mc' := 0) (ms' := 0) (vs := [.ref (1000000 + 6)]) (st := []) dX6_parseSingle_92 ⟨cw_X6_passOneOf, w_404⟩ w_406 w_6 (by decide) (hl39.sh 1 rfl (by decide) (by decide)).1 (hl39.sh 1 rfl (by decide) (by decide)).2 rfl rfl (Nat.le_of_ble_eq_true rfl) (Nat.le_refl _) (Nat.zero_le _) (Nat.zero_le _) (AM.mono h (fun r M40 ⟨x41, hr42, hc43, h⟩ => ?_))
        subst hr42
        refine ab_rs ?_
        have hm44 : Sm M M40 := hm38.trans hc43
        have hl45 := hL.of hm44
        refine ab_istore_n (lv1 := [(3, .int x41), (2, .int x35), (0, .ref 1), (1, .int a1)]) dX6_parseSingle_95 (by decide) rfl ?_
        refine ab_aload_n 2 dX6_parseSingle_96 rfl ?_
        refine ab_iconst (v := 1) dX6_parseSingle_97 (by decide) ?_
        refine ab_iload_n 1 dX6_parseSingle_98 rfl ?_
        refine ab_iload_n 0 dX6_parseSingle_99 rfl ?_
        refine ab_aload_n 2 dX6_parseSingle_100 rfl ?_
        refine ab_callV (a := 1) (c0 := 6) (d' := d) (mc' := 0) (ms' := 0) (vs := []) (st := [.int x41, .int x35, .int (1 : Int32), .ref 1]) dX6_parseSingle_101 ⟨cw_X6_passNumber, w_410⟩ w_412 w_7 (by decide) (hl45.sh 1 rfl (by decide) (by decide)).1 (hl45.sh 1 rfl (by decide) (by decide)).2 rfl rfl (Nat.le_of_ble_eq_true rfl) (Nat.le_refl _) (Nat.zero_le _) (Nat.zero_le _) (AM.mono h (fun r M46 ⟨x47, hr48, hc49, h⟩ => ?_))
        subst hr48
        refine ab_rs ?_
        have hm50 : Sm M M46 := hm44.trans hc49
        have hl51 := hL.of hm50
        refine ab_callV (a := 1) (c0 := 6) (d' := d) (mc' := 0) (ms' := 0) (vs := [.int (1 : Int32), .int x35, .int x41, .int x47]) (st := []) dX6_parseSingle_104 ⟨cw_X6_make, w_430⟩ w_432 w_12 (by decide) (hl51.sh 1 rfl (by decide) (by decide)).1 (hl51.sh 1 rfl (by decide) (by decide)).2 rfl rfl (Nat.le_of_ble_eq_true rfl) (Nat.le_refl _) (Nat.zero_le _) (Nat.zero_le _) (AM.mono h (fun r M52 ⟨hr54, hc55, h⟩ => ?_))
        subst hr54
        refine ab_rv ?_
        have hm56 : Sm M M52 := hm50.trans hc55
        have hl57 := hL.of hm56
        exact ab_vret dX6_parseSingle_107 rfl h
      · have h := h.2 c33
        refine ab_aload_n 0 dX6_parseSingle_56 rfl ?_
        refine ab_dup dX6_parseSingle_57 rfl ?_
        refine ab_getI dX6_parseSingle_58 fs_6_25_6 rfl (hl32.sh 1 rfl (by decide) (by decide)).1 (hl32.sh 1 rfl (by decide) (by decide)).2 ?_
        refine ab_iconst (v := 1) dX6_parseSingle_61 (by decide) ?_
        refine ab_iadd dX6_parseSingle_62 ?_
        refine ab_putI dX6_parseSingle_63 fs_6_25_6 rfl rfl (hl32.sh 1 rfl (by decide) (by decide)).1 (hl32.sh 1 rfl (by decide) (by decide)).2 ?_
        refine ab_nameM (fun M58 hM58 => ?_)
        have h := h M58 hM58
        have hs61 : Sm M27 M58 := hM58 ▸ (Sm.refl _).i
        have hm59 : Sm M M58 := hm31.trans hs61
        have hl60 := hL.of hm59
        refine ab_aload_n 0 dX6_parseSingle_66 rfl ?_
        refine ab_iload_n 1 dX6_parseSingle_67 rfl ?_
        refine ab_iconst (v := 1) dX6_parseSingle_68 (by decide) ?_
        refine ab_iadd dX6_parseSingle_69 ?_
        refine ab_callV (a := 1) (c0 := 6) (d' := d) (mc' := 0) (ms' := 0) (vs := [.int (a1 + (1 : Int32))]) (st := []) dX6_parseSingle_70 ⟨cw_X6_parseEither, w_418⟩ w_420 w_9 (by decide) (hl60.sh 1 rfl (by decide) (by decide)).1 (hl60.sh 1 rfl (by decide) (by decide)).2 rfl rfl (Nat.le_of_ble_eq_true rfl) (Nat.le_refl _) (Nat.zero_le _) (Nat.zero_le _) (AM.mono h (fun r M62 ⟨hr64, hc65, h⟩ => ?_))
        subst hr64
        refine ab_rv ?_
        have hm66 : Sm M M62 := hm59.trans hc65
        have hl67 := hL.of hm66
        refine ab_aload_n 0 dX6_parseSingle_73 rfl ?_
        refine ab_ldcs (j := 4) rfl (by decide) (by decide) dX6_parseSingle_74 ?_
        refine ab_callV (a := 1) (c0 := 6) (d' := d) (mc' := 0) (ms' := 0) (vs := [.ref (1000000 + 4)]) (st := []) dX6_parseSingle_76 ⟨cw_X6_pass, w_351⟩ w_353 w_5 (by decide) (hl67.sh 1 rfl (by decide) (by decide)).1 (hl67.sh 1 rfl (by decide) (by decide)).2 rfl rfl (Nat.le_of_ble_eq_true rfl) (Nat.le_refl _) (Nat.zero_le _) (Nat.zero_le _) (AM.mono h (fun r M68 ⟨hr70, hc71, h⟩ => ?_))
        subst hr70
        refine ab_rv ?_
        have hm72 : Sm M M68 := hm66.trans hc71
        have hl73 := hL.of hm72
        refine ab_goto (tgt := 107) dX6_parseSingle_79 (by decide) ?_
        exact ab_vret dX6_parseSingle_107 rfl h
  · have h := h.2 c1
    refine ab_aload_n 0 dX6_parseSingle_5 rfl ?_
    refine ab_bipush (v := 33) dX6_parseSingle_6 (by decide) ?_
    refine ab_callV (a := 1) (c0 := 6) (d' := d) (mc' := 0) (ms' := 0) (vs := [.int (33 : Int32)]) (st := []) dX6_parseSingle_8 ⟨cw_X6_sees, w_346⟩ w_348 w_4 (by decide) (hL.sh 1 rfl (by decide) (by decide)).1 (hL.sh 1 rfl (by decide) (by decide)).2 rfl rfl (Nat.le_of_ble_eq_true rfl) (Nat.le_refl _) (Nat.zero_le _) (Nat.zero_le _) (AM.mono h (fun r M74 ⟨x75, hr76, hc77, h⟩ => ?_))
    subst hr76
    refine ab_rs ?_
    have hm78 : Sm M M74 := (Sm.refl M).trans hc77
    have hl79 := hL.of hm78
    refine ab_if_eq (tgt := 42) dX6_parseSingle_11 (by decide) (fun c80 => ?_) (fun c80 => ?_)
    · have h := h.1 c80
      refine ab_iload_n 1 dX6_parseSingle_42 rfl ?_
      refine ab_iconst (v := 4) dX6_parseSingle_43 (by decide) ?_
      refine ab_icmp_ge (tgt := 82) dX6_parseSingle_44 (by decide) (fun c81 => ?_) (fun c81 => ?_)
      · have h := h.1 c81
        refine ab_aload_n 0 dX6_parseSingle_82 rfl ?_
        refine ab_ldcs (j := 5) rfl (by decide) (by decide) dX6_parseSingle_83 ?_
        refine ab_callV (a := 1) (c0 := 6) (d' := d) (mc' := 0) (ms' := 0) (vs := [.ref (1000000 + 5)]) (st := []) dX6_parseSingle_85 ⟨cw_X6_passOneOf, w_404⟩ w_406 w_6 (by decide) (hl79.sh 1 rfl (by decide) (by decide)).1 (hl79.sh 1 rfl (by decide) (by decide)).2 rfl rfl (Nat.le_of_ble_eq_true rfl) (Nat.le_refl _) (Nat.zero_le _) (Nat.zero_le _) (AM.mono h (fun r M82 ⟨x83, hr84, hc85, h⟩ => ?_))
        subst hr84
        refine ab_rs ?_
        have hm86 : Sm M M82 := hm78.trans hc85
        have hl87 := hL.of hm86
        refine ab_istore_n (lv1 := [(2, .int x83), (0, .ref 1), (1, .int a1)]) dX6_parseSingle_88 (by decide) rfl ?_
        refine ab_aload_n 1 dX6_parseSingle_89 rfl ?_
        refine ab_ldcs (j := 6) rfl (by decide) (by decide) dX6_parseSingle_90 ?_
        refine ab_callV (a := 1) (c0 := 6) (d' := d) (mc' := 0) (ms' := 0) (vs := [.ref (1000000 + 6)]) (st := []) dX6_parseSingle_92 ⟨cw_X6_passOneOf, w_404⟩ w_406 w_6 (by decide) (hl87.sh 1 rfl (by decide) (by decide)).1 (hl87.sh 1 rfl (by decide) (by decide)).2 rfl rfl (Nat.le_of_ble_eq_true rfl) (Nat.le_refl _) (Nat.zero_le _) (Nat.zero_le _) (AM.mono h (fun r M88 ⟨x89, hr90, hc91, h⟩ => ?_))
        subst hr90
        refine ab_rs ?_
        have hm92 : Sm M M88 := hm86.trans hc91
        have hl93 := hL.of hm92
        refine ab_istore_n (lv1 := [(3, .int x89), (2, .int x83), (0, .ref 1), (1, .int a1)]) dX6_parseSingle_95 (by decide) rfl ?_
        refine ab_aload_n 2 dX6_parseSingle_96 rfl ?_
        refine ab_iconst (v := 1) dX6_parseSingle_97 (by decide) ?_
        refine ab_iload_n 1 dX6_parseSingle_98 rfl ?_
        refine ab_iload_n 0 dX6_parseSingle_99 rfl ?_
        refine ab_aload_n 2 dX6_parseSingle_100 rfl ?_
        refine ab_callV (a := 1) (c0 := 6) (d' := d) (mc' := 0) (ms' := 0) (vs := []) (st := [.int x89, .int x83, .int (1 : Int32), .ref 1]) dX6_parseSingle_101 ⟨cw_X6_passNumber, w_410⟩ w_412 w_7 (by decide) (hl93.sh 1 rfl (by decide) (by decide)).1 (hl93.sh 1 rfl (by decide) (by decide)).2 rfl rfl (Nat.le_of_ble_eq_true rfl) (Nat.le_refl _) (Nat.zero_le _) (Nat.zero_le _) (AM.mono h (fun r M94 ⟨x95, hr96, hc97, h⟩ => ?_))
        subst hr96
        refine ab_rs ?_
        have hm98 : Sm M M94 := hm92.trans hc97
        have hl99 := hL.of hm98
        refine ab_callV (a := 1) (c0 := 6) (d' := d) (mc' := 0) (ms' := 0) (vs := [.int (1 : Int32), .int x83, .int x89, .int x95]) (st := []) dX6_parseSingle_104 ⟨cw_X6_make, w_430⟩ w_432 w_12 (by decide) (hl99.sh 1 rfl (by decide) (by decide)).1 (hl99.sh 1 rfl (by decide) (by decide)).2 rfl rfl (Nat.le_of_ble_eq_true rfl) (Nat.le_refl _) (Nat.zero_le _) (Nat.zero_le _) (AM.mono h (fun r M100 ⟨hr102, hc103, h⟩ => ?_))
        subst hr102
        refine ab_rv ?_
        have hm104 : Sm M M100 := hm98.trans hc103
        have hl105 := hL.of hm104
        exact ab_vret dX6_parseSingle_107 rfl h
      · have h := h.2 c81
        refine ab_aload_n 0 dX6_parseSingle_47 rfl ?_
        refine ab_bipush (v := 40) dX6_parseSingle_48 (by decide) ?_
        refine ab_callV (a := 1) (c0 := 6) (d' := d) (mc' := 0) (ms' := 0) (vs := [.int (40 : Int32)]) (st := []) dX6_parseSingle_50 ⟨cw_X6_sees, w_346⟩ w_348 w_4 (by decide) (hl79.sh 1 rfl (by decide) (by decide)).1 (hl79.sh 1 rfl (by decide) (by decide)).2 rfl rfl (Nat.le_of_ble_eq_true rfl) (Nat.le_refl _) (Nat.zero_le _) (Nat.zero_le _) (AM.mono h (fun r M106 ⟨x107, hr108, hc109, h⟩ => ?_))
        subst hr108
        refine ab_rs ?_
        have hm110 : Sm M M106 := hm78.trans hc109
        have hl111 := hL.of hm110
        refine ab_if_eq (tgt := 82) dX6_parseSingle_53 (by decide) (fun c112 => ?_) (fun c112 => ?_)
        · have h := h.1 c112
          refine ab_aload_n 0 dX6_parseSingle_82 rfl ?_
          refine ab_ldcs (j := 5) rfl (by decide) (by decide) dX6_parseSingle_83 ?_
          refine ab_callV (a := 1) (c0 := 6) (d' := d) (mc' := 0) (ms' := 0) (vs := [.ref (1000000 + 5)]) (st := []) dX6_parseSingle_85 ⟨cw_X6_passOneOf, w_404⟩ w_406 w_6 (by decide) (hl111.sh 1 rfl (by decide) (by decide)).1 (hl111.sh 1 rfl (by decide) (by decide)).2 rfl rfl (Nat.le_of_ble_eq_true rfl) (Nat.le_refl _) (Nat.zero_le _) (Nat.zero_le _) (AM.mono h (fun r M113 ⟨x114, hr115, hc116, h⟩ => ?_))
          subst hr115
          refine ab_rs ?_
          have hm117 : Sm M M113 := hm110.trans hc116
          have hl118 := hL.of hm117
          refine ab_istore_n (lv1 := [(2, .int x114), (0, .ref 1), (1, .int a1)]) dX6_parseSingle_88 (by decide) rfl ?_
          refine ab_aload_n 1 dX6_parseSingle_89 rfl ?_
          refine ab_ldcs (j := 6) rfl (by decide) (by decide) dX6_parseSingle_90 ?_
          refine ab_callV (a := 1) (c0 := 6) (d' := d) (mc' := 0) (ms' := 0) (vs := [.ref (1000000 + 6)]) (st := []) dX6_parseSingle_92 ⟨cw_X6_passOneOf, w_404⟩ w_406 w_6 (by decide) (hl118.sh 1 rfl (by decide) (by decide)).1 (hl118.sh 1 rfl (by decide) (by decide)).2 rfl rfl (Nat.le_of_ble_eq_true rfl) (Nat.le_refl _) (Nat.zero_le _) (Nat.zero_le _) (AM.mono h (fun r M119 ⟨x120, hr121, hc122, h⟩ => ?_))
          subst hr121
          refine ab_rs ?_
          have hm123 : Sm M M119 := hm117.trans hc122
          have hl124 := hL.of hm123
          refine ab_istore_n (lv1 := [(3, .int x120), (2, .int x114), (0, .ref 1), (1, .int a1)]) dX6_parseSingle_95 (by decide) rfl ?_
          refine ab_aload_n 2 dX6_parseSingle_96 rfl ?_
          refine ab_iconst (v := 1) dX6_parseSingle_97 (by decide) ?_
          refine ab_iload_n 1 dX6_parseSingle_98 rfl ?_
          refine ab_iload_n 0 dX6_parseSingle_99 rfl ?_
          refine ab_aload_n 2 dX6_parseSingle_100 rfl ?_
          refine ab_callV (a := 1) (c0 := 6) (d' := d) (mc' := 0) (ms' := 0) (vs := []) (st := [.int x120, .int x114, .int (1 : Int32), .ref 1]) dX6_parseSingle_101 ⟨cw_X6_passNumber, w_410⟩ w_412 w_7 (by decide) (hl124.sh 1 rfl (by decide) (by decide)).1 (hl124.sh 1 rfl (by decide) (by decide)).2 rfl rfl (Nat.le_of_ble_eq_true rfl) (Nat.le_refl _) (Nat.zero_le _) (Nat.zero_le _) (AM.mono h (fun r M125 ⟨x126, hr127, hc128, h⟩ => ?_))
          subst hr127
          refine ab_rs ?_
          have hm129 : Sm M M125 := hm123.trans hc128
          have hl130 := hL.of hm129
          refine ab_callV (a := 1) (c0 := 6) (d' := d) (mc' := 0) (ms' := 0) (vs := [.int (1 : Int32), .int x114, .int x120, .int x126]) (st := []) dX6_parseSingle_104 ⟨cw_X6_make, w_430⟩ w_432 w_12 (by decide) (hl130.sh 1 rfl (by decide) (by decide)).1 (hl130.sh 1 rfl (by decide) (by decide)).2 rfl rfl (Nat.le_of_ble_eq_true rfl) (Nat.le_refl _) (Nat.zero_le _) (Nat.zero_le _) (AM.mono h (fun r M131 ⟨hr133, hc134, h⟩ => ?_))
          subst hr133
          refine ab_rv ?_
          have hm135 : Sm M M131 := hm129.trans hc134
          have hl136 := hL.of hm135
          exact ab_vret dX6_parseSingle_107 rfl h
        · have h := h.2 c112
          refine ab_aload_n 0 dX6_parseSingle_56 rfl ?_
          refine ab_dup dX6_parseSingle_57 rfl ?_
          refine ab_getI dX6_parseSingle_58 fs_6_25_6 rfl (hl111.sh 1 rfl (by decide) (by decide)).1 (hl111.sh 1 rfl (by decide) (by decide)).2 ?_
          refine ab_iconst (v := 1) dX6_parseSingle_61 (by decide) ?_
          refine ab_iadd dX6_parseSingle_62 ?_
          refine ab_putI dX6_parseSingle_63 fs_6_25_6 rfl rfl (hl111.sh 1 rfl (by decide) (by decide)).1 (hl111.sh 1 rfl (by decide) (by decide)).2 ?_
          refine ab_nameM (fun M137 hM137 => ?_)
          have h := h M137 hM137
          have hs140 : Sm M106 M137 := hM137 ▸ (Sm.refl _).i
          have hm138 : Sm M M137 := hm110.trans hs140
          have hl139 := hL.of hm138
          refine ab_aload_n 0 dX6_parseSingle_66 rfl ?_
          refine ab_iload_n 1 dX6_parseSingle_67 rfl ?_
          refine ab_iconst (v := 1) dX6_parseSingle_68 (by decide) ?_
          refine ab_iadd dX6_parseSingle_69 ?_
          refine ab_callV (a := 1) (c0 := 6) (d' := d) (mc' := 0) (ms' := 0) (vs := [.int (a1 + (1 : Int32))]) (st := []) dX6_parseSingle_70 ⟨cw_X6_parseEither, w_418⟩ w_420 w_9 (by decide) (hl139.sh 1 rfl (by decide) (by decide)).1 (hl139.sh 1 rfl (by decide) (by decide)).2 rfl rfl (Nat.le_of_ble_eq_true rfl) (Nat.le_refl _) (Nat.zero_le _) (Nat.zero_le _) (AM.mono h (fun r M141 ⟨hr143, hc144, h⟩ => ?_))
          subst hr143
          refine ab_rv ?_
          have hm145 : Sm M M141 := hm138.trans hc144
          have hl146 := hL.of hm145
          refine ab_aload_n 0 dX6_parseSingle_73 rfl ?_
          refine ab_ldcs (j := 4) rfl (by decide) (by decide) dX6_parseSingle_74 ?_
          refine ab_callV (a := 1) (c0 := 6) (d' := d) (mc' := 0) (ms' := 0) (vs := [.ref (1000000 + 4)]) (st := []) dX6_parseSingle_76 ⟨cw_X6_pass, w_351⟩ w_353 w_5 (by decide) (hl146.sh 1 rfl (by decide) (by decide)).1 (hl146.sh 1 rfl (by decide) (by decide)).2 rfl rfl (Nat.le_of_ble_eq_true rfl) (Nat.le_refl _) (Nat.zero_le _) (Nat.zero_le _) (AM.mono h (fun r M147 ⟨hr149, hc150, h⟩ => ?_))
          subst hr149
          refine ab_rv ?_
          have hm151 : Sm M M147 := hm145.trans hc150
          have hl152 := hL.of hm151
          refine ab_goto (tgt := 107) dX6_parseSingle_79 (by decide) ?_
          exact ab_vret dX6_parseSingle_107 rfl h
    · have h := h.2 c80
      refine ab_aload_n 0 dX6_parseSingle_14 rfl ?_
      refine ab_dup dX6_parseSingle_15 rfl ?_
      refine ab_getI dX6_parseSingle_16 fs_6_25_6 rfl (hl79.sh 1 rfl (by decide) (by decide)).1 (hl79.sh 1 rfl (by decide) (by decide)).2 ?_
      refine ab_iconst (v := 1) dX6_parseSingle_19 (by decide) ?_
      refine ab_iadd dX6_parseSingle_20 ?_
      refine ab_putI dX6_parseSingle_21 fs_6_25_6 rfl rfl (hl79.sh 1 rfl (by decide) (by decide)).1 (hl79.sh 1 rfl (by decide) (by decide)).2 ?_
      refine ab_nameM (fun M153 hM153 => ?_)
      have h := h M153 hM153
      have hs156 : Sm M74 M153 := hM153 ▸ (Sm.refl _).i
      have hm154 : Sm M M153 := hm78.trans hs156
      have hl155 := hL.of hm154
      refine ab_aload_n 0 dX6_parseSingle_24 rfl ?_
      refine ab_iload_n 1 dX6_parseSingle_25 rfl ?_
      refine ab_iconst (v := 1) dX6_parseSingle_26 (by decide) ?_
      refine ab_iadd dX6_parseSingle_27 ?_
      refine ab_callV (a := 1) (c0 := 6) (d' := d) (mc' := 0) (ms' := 0) (vs := [.int (a1 + (1 : Int32))]) (st := []) dX6_parseSingle_28 ⟨cw_X6_parseSingle, w_426⟩ w_428 w_11 (by decide) (hl155.sh 1 rfl (by decide) (by decide)).1 (hl155.sh 1 rfl (by decide) (by decide)).2 rfl rfl (Nat.le_of_ble_eq_true rfl) (Nat.le_refl _) (Nat.zero_le _) (Nat.zero_le _) (AM.mono h (fun r M157 ⟨hr159, hc160, h⟩ => ?_))
      subst hr159
      refine ab_rv ?_
      have hm161 : Sm M M157 := hm154.trans hc160
      have hl162 := hL.of hm161
      refine ab_aload_n 0 dX6_parseSingle_31 rfl ?_
      refine ab_iconst (v := 2) dX6_parseSingle_32 (by decide) ?_
      refine ab_iconst (v := 0) dX6_parseSingle_33 (by decide) ?_
      refine ab_iconst (v := 0) dX6_parseSingle_34 (by decide) ?_
      refine ab_iconst (v := 0) dX6_parseSingle_35 (by decide) ?_
      refine ab_callV (a := 1) (c0 := 6) (d' := d) (mc' := 0) (ms' := 0) (vs := [.int (2 : Int32), .int (0 : Int32), .int (0 : Int32), .int (0 : Int32)]) (st := []) dX6_parseSingle_36 ⟨cw_X6_make, w_430⟩ w_432 w_12 (by decide) (hl162.sh 1 rfl (by decide) (by decide)).1 (hl162.sh 1 rfl (by decide) (by decide)).2 rfl rfl (Nat.le_of_ble_eq_true rfl) (Nat.le_refl _) (Nat.zero_le _) (Nat.zero_le _) (AM.mono h (fun r M163 ⟨hr165, hc166, h⟩ => ?_))
      subst hr165
      refine ab_rv ?_
      have hm167 : Sm M M163 := hm161.trans hc166
      have hl168 := hL.of hm167
      refine ab_goto (tgt := 107) dX6_parseSingle_39 (by decide) ?_
      exact ab_vret dX6_parseSingle_107 rfl h
theorem dX6_sees_0 : decode cX6_sees 0 = .ok (.aload_n 0, 1) := by decide +kernel
theorem dX6_sees_1 : decode cX6_sees 1 = .ok (.getfield 28, 3) := by decide +kernel
theorem dX6_sees_4 : decode cX6_sees 4 = .ok (.ifCond .ne 31, 3) := by decide +kernel
theorem dX6_sees_7 : decode cX6_sees 7 = .ok (.aload_n 0, 1) := by decide +kernel
theorem dX6_sees_8 : decode cX6_sees 8 = .ok (.getfield 25, 3) := by decide +kernel
theorem dX6_sees_11 : decode cX6_sees 11 = .ok (.aload_n 0, 1) := by decide +kernel
theorem dX6_sees_12 : decode cX6_sees 12 = .ok (.getfield 18, 3) := by decide +kernel
theorem dX6_sees_15 : decode cX6_sees 15 = .ok (.if_icmp .ge 20, 3) := by decide +kernel
theorem dX6_sees_18 : decode cX6_sees 18 = .ok (.aload_n 0, 1) := by decide +kernel
theorem dX6_sees_19 : decode cX6_sees 19 = .ok (.getfield 9, 3) := by decide +kernel
theorem dX6_sees_22 : decode cX6_sees 22 = .ok (.aload_n 0, 1) := by decide +kernel
theorem dX6_sees_23 : decode cX6_sees 23 = .ok (.getfield 25, 3) := by decide +kernel
theorem dX6_sees_26 : decode cX6_sees 26 = .ok (.iaload, 1) := by decide +kernel
theorem dX6_sees_27 : decode cX6_sees 27 = .ok (.iload_n 1, 1) := by decide +kernel
theorem dX6_sees_28 : decode cX6_sees 28 = .ok (.if_icmp .ne 7, 3) := by decide +kernel
theorem dX6_sees_31 : decode cX6_sees 31 = .ok (.iconst 1, 1) := by decide +kernel
theorem dX6_sees_32 : decode cX6_sees 32 = .ok (.goto 4, 3) := by decide +kernel
theorem dX6_sees_35 : decode cX6_sees 35 = .ok (.iconst 0, 1) := by decide +kernel
theorem dX6_sees_36 : decode cX6_sees 36 = .ok (.ireturn, 1) := by decide +kernel
set_option maxRecDepth 20000 in
theorem rX6_sees (D : GD) (d : Nat) (a1 : Int32) (M : Mm) (post : Option Value → Mm → Prop) (hL : Lay 1 4 M) 
    (h : ((¬ (gI M 1 5) = 0 → post (some (.int (0 : Int32))) M) ∧ ((gI M 1 5) = 0 → (((gI M 1 2) ≤ (gI M 1 4) → post (some (.int (0 : Int32))) M) ∧ (¬ (gI M 1 2) ≤ (gI M 1 4) → vp_in (gI M 1 4) 100 ∧ ((¬ (gI M 2 ((gI M 1 4).toNatClampNeg)) = a1 → post (some (.int (0 : Int32))) M) ∧ ((gI M 2 ((gI M 1 4).toNatClampNeg)) = a1 → post (some (.int (1 : Int32))) M))))))) :
    AM D d 0 0 mX6_sees [.ref 1, .int a1] M post := by
  refine AM.of (by decide) (Nat.le_of_ble_eq_true rfl) ?_
  show AW D d 0 0 mX6_sees 0 0 0 [(0, .ref 1), (1, .int a1)] [] M post
  refine ab_aload_n 0 dX6_sees_0 rfl ?_
  refine ab_getI dX6_sees_1 fs_6_28_6 rfl (hL.sh 1 rfl (by decide) (by decide)).1 (hL.sh 1 rfl (by decide) (by decide)).2 ?_
  refine ab_if_ne (tgt := 35) dX6_sees_4 (by decide) (fun c1 => ?_) (fun c1 => ?_)
  · have h := h.1 c1
    refine ab_iconst (v := 0) dX6_sees_35 (by decide) ?_
    exact ab_zret dX6_sees_36 rfl rfl h
  · have h := h.2 c1
    refine ab_aload_n 0 dX6_sees_7 rfl ?_
    refine ab_getI dX6_sees_8 fs_6_25_6 rfl (hL.sh 1 rfl (by decide) (by decide)).1 (hL.sh 1 rfl (by decide) (by decide)).2 ?_
    refine ab_aload_n 0 dX6_sees_11 rfl ?_
    refine ab_getI dX6_sees_12 fs_6_18_6 rfl (hL.sh 1 rfl (by decide) (by decide)).1 (hL.sh 1 rfl (by decide) (by decide)).2 ?_
    refine ab_icmp_ge (tgt := 35) dX6_sees_15 (by decide) (fun c2 => ?_) (fun c2 => ?_)
    · have h := h.1 c2
      refine ab_iconst (v := 0) dX6_sees_35 (by decide) ?_
      exact ab_zret dX6_sees_36 rfl rfl h
    · have h := h.2 c2
      refine ab_aload_n 0 dX6_sees_18 rfl ?_
      refine ab_getP (r := 2) dX6_sees_19 fs_6_9_6 rfl (hL.sh 1 rfl (by decide) (by decide)).1 (hL.sh 1 rfl (by decide) (by decide)).2 (hL.pt 13 rfl (by decide) (by decide)) ?_
      refine ab_aload_n 0 dX6_sees_22 rfl ?_
      refine ab_getI dX6_sees_23 fs_6_25_6 rfl (hL.sh 1 rfl (by decide) (by decide)).1 (hL.sh 1 rfl (by decide) (by decide)).2 ?_
      have hb3 := h.1
      have h := h.2
      refine ab_ialdj (j := (gI M 1 4).toNatClampNeg) dX6_sees_26 (hL.sh 2 rfl (by decide) (by decide)) hb3 rfl ?_
      refine ab_iload_n 1 dX6_sees_27 rfl ?_
      refine ab_icmp_ne (tgt := 35) dX6_sees_28 (by decide) (fun c4 => ?_) (fun c4 => ?_)
      · have h := h.1 c4
        refine ab_iconst (v := 0) dX6_sees_35 (by decide) ?_
        exact ab_zret dX6_sees_36 rfl rfl h
      · have h := h.2 c4
        refine ab_iconst (v := 1) dX6_sees_31 (by decide) ?_
        refine ab_goto (tgt := 36) dX6_sees_32 (by decide) ?_
        exact ab_zret dX6_sees_36 rfl rfl h
theorem dX6_passNumber_0 : decode cX6_passNumber 0 = .ok (.aload_n 0, 1) := by decide +kernel
theorem dX6_passNumber_1 : decode cX6_passNumber 1 = .ok (.getfield 25, 3) := by decide +kernel
theorem dX6_passNumber_4 : decode cX6_passNumber 4 = .ok (.istore_n 1, 1) := by decide +kernel
theorem dX6_passNumber_5 : decode cX6_passNumber 5 = .ok (.iconst 0, 1) := by decide +kernel
theorem dX6_passNumber_6 : decode cX6_passNumber 6 = .ok (.istore_n 2, 1) := by decide +kernel
theorem dX6_passNumber_7 : decode cX6_passNumber 7 = .ok (.iconst 0, 1) := by decide +kernel
theorem dX6_passNumber_8 : decode cX6_passNumber 8 = .ok (.istore_n 3, 1) := by decide +kernel
theorem dX6_passNumber_9 : decode cX6_passNumber 9 = .ok (.iload_n 3, 1) := by decide +kernel
theorem dX6_passNumber_10 : decode cX6_passNumber 10 = .ok (.iconst 2, 1) := by decide +kernel
theorem dX6_passNumber_11 : decode cX6_passNumber 11 = .ok (.if_icmp .ge 44, 3) := by decide +kernel
theorem dX6_passNumber_14 : decode cX6_passNumber 14 = .ok (.aload_n 0, 1) := by decide +kernel
theorem dX6_passNumber_15 : decode cX6_passNumber 15 = .ok (.invokevirtual 87, 3) := by decide +kernel
theorem dX6_passNumber_18 : decode cX6_passNumber 18 = .ok (.ifCond .eq 37, 3) := by decide +kernel
theorem dX6_passNumber_21 : decode cX6_passNumber 21 = .ok (.iload_n 2, 1) := by decide +kernel
theorem dX6_passNumber_22 : decode cX6_passNumber 22 = .ok (.bipush 10, 2) := by decide +kernel
theorem dX6_passNumber_24 : decode cX6_passNumber 24 = .ok (.imul, 1) := by decide +kernel
theorem dX6_passNumber_25 : decode cX6_passNumber 25 = .ok (.aload_n 0, 1) := by decide +kernel
theorem dX6_passNumber_26 : decode cX6_passNumber 26 = .ok (.getfield 9, 3) := by decide +kernel
theorem dX6_passNumber_29 : decode cX6_passNumber 29 = .ok (.aload_n 0, 1) := by decide +kernel
theorem dX6_passNumber_30 : decode cX6_passNumber 30 = .ok (.getfield 25, 3) := by decide +kernel
theorem dX6_passNumber_33 : decode cX6_passNumber 33 = .ok (.iaload, 1) := by decide +kernel
theorem dX6_passNumber_34 : decode cX6_passNumber 34 = .ok (.bipush 48, 2) := by decide +kernel
theorem dX6_passNumber_36 : decode cX6_passNumber 36 = .ok (.isub, 1) := by decide +kernel
theorem dX6_passNumber_37 : decode cX6_passNumber 37 = .ok (.iadd, 1) := by decide +kernel
theorem dX6_passNumber_38 : decode cX6_passNumber 38 = .ok (.istore_n 2, 1) := by decide +kernel
theorem dX6_passNumber_39 : decode cX6_passNumber 39 = .ok (.aload_n 0, 1) := by decide +kernel
theorem dX6_passNumber_40 : decode cX6_passNumber 40 = .ok (.dup, 1) := by decide +kernel
theorem dX6_passNumber_41 : decode cX6_passNumber 41 = .ok (.getfield 25, 3) := by decide +kernel
theorem dX6_passNumber_44 : decode cX6_passNumber 44 = .ok (.iconst 1, 1) := by decide +kernel
theorem dX6_passNumber_45 : decode cX6_passNumber 45 = .ok (.iadd, 1) := by decide +kernel
theorem dX6_passNumber_46 : decode cX6_passNumber 46 = .ok (.putfield 25, 3) := by decide +kernel
theorem dX6_passNumber_49 : decode cX6_passNumber 49 = .ok (.iinc 3 1, 3) := by decide +kernel
theorem dX6_passNumber_52 : decode cX6_passNumber 52 = .ok (.goto (-43), 3) := by decide +kernel
theorem dX6_passNumber_55 : decode cX6_passNumber 55 = .ok (.aload_n 0, 1) := by decide +kernel
theorem dX6_passNumber_56 : decode cX6_passNumber 56 = .ok (.aload_n 0, 1) := by decide +kernel
theorem dX6_passNumber_57 : decode cX6_passNumber 57 = .ok (.getfield 28, 3) := by decide +kernel
theorem dX6_passNumber_60 : decode cX6_passNumber 60 = .ok (.ifCond .ne 11, 3) := by decide +kernel
theorem dX6_passNumber_63 : decode cX6_passNumber 63 = .ok (.aload_n 0, 1) := by decide +kernel
theorem dX6_passNumber_64 : decode cX6_passNumber 64 = .ok (.getfield 25, 3) := by decide +kernel
theorem dX6_passNumber_67 : decode cX6_passNumber 67 = .ok (.iload_n 1, 1) := by decide +kernel
theorem dX6_passNumber_68 : decode cX6_passNumber 68 = .ok (.if_icmp .ne 7, 3) := by decide +kernel
theorem dX6_passNumber_71 : decode cX6_passNumber 71 = .ok (.iconst 1, 1) := by decide +kernel
theorem dX6_passNumber_72 : decode cX6_passNumber 72 = .ok (.goto 4, 3) := by decide +kernel
theorem dX6_passNumber_75 : decode cX6_passNumber 75 = .ok (.iconst 0, 1) := by decide +kernel
theorem dX6_passNumber_76 : decode cX6_passNumber 76 = .ok (.putfield 28, 3) := by decide +kernel
theorem dX6_passNumber_79 : decode cX6_passNumber 79 = .ok (.iload_n 2, 1) := by decide +kernel
theorem dX6_passNumber_80 : decode cX6_passNumber 80 = .ok (.ireturn, 1) := by decide +kernel
def LX6_passNumber_9 (D : GD) (d : Nat) (v1 : Int32) (v2 : Int32) (v3 : Int32) (M : Mm) (post : Option Value → Mm → Prop) : Prop := AW D (d + 1) 0 0 mX6_passNumber 0 0 9 [(0, .ref 1), (1, .int v1), (2, .int v2), (3, .int v3)] [] M post
set_option maxRecDepth 20000 in
theorem rX6_passNumber (D : GD) (d : Nat)  (M : Mm) (post : Option Value → Mm → Prop) (hL : Lay 1 4 M) 
    (h : ∀ x1 : Int32, x1 = (gI M 1 4) → LX6_passNumber_9 D d x1 (0 : Int32) (0 : Int32) M post) :
    AM D (d + 1) 0 0 mX6_passNumber [.ref 1] M post := by
  refine AM.of (by decide) (Nat.le_of_ble_eq_true rfl) ?_
  show AW D (d + 1) 0 0 mX6_passNumber 0 0 0 [(0, .ref 1)] [] M post
  refine ab_aload_n 0 dX6_passNumber_0 rfl ?_
  refine ab_getI dX6_passNumber_1 fs_6_25_6 rfl (hL.sh 1 rfl (by decide) (by decide)).1 (hL.sh 1 rfl (by decide) (by decide)).2 ?_
  refine ab_topi (fun x1 hx1 => ?_)
  have h := h x1 hx1
  refine ab_istore_n (lv1 := [(1, .int x1), (0, .ref 1)]) dX6_passNumber_4 (by decide) rfl ?_
  refine ab_iconst (v := 0) dX6_passNumber_5 (by decide) ?_
  refine ab_istore_n (lv1 := [(2, .int (0 : Int32)), (1, .int x1), (0, .ref 1)]) dX6_passNumber_6 (by decide) rfl ?_
  refine ab_iconst (v := 0) dX6_passNumber_7 (by decide) ?_
  refine ab_istore_n (lv1 := [(3, .int (0 : Int32)), (2, .int (0 : Int32)), (1, .int x1), (0, .ref 1)]) dX6_passNumber_8 (by decide) rfl ?_
  exact ab_sub [3, 2, 1, 0] rfl h
set_option maxRecDepth 20000 in
theorem rX6_passNumber_9 (D : GD) (d : Nat)  (v1 : Int32) (v2 : Int32) (v3 : Int32) (M : Mm) (post : Option Value → Mm → Prop) (hL : Lay 1 4 M) 
    (h : (((2 : Int32) ≤ v3 → ((¬ (gI M 1 5) = 0 → ∀ M3 : Mm, M3 = sI M 1 5 (1 : Int32) → post (some (.int v2)) M3) ∧ ((gI M 1 5) = 0 → ((¬ (gI M 1 4) = v1 → ∀ M8 : Mm, M8 = sI M 1 5 (0 : Int32) → post (some (.int v2)) M8) ∧ ((gI M 1 4) = v1 → ∀ M12 : Mm, M12 = sI M 1 5 (1 : Int32) → post (some (.int v2)) M12))))) ∧ (¬ (2 : Int32) ≤ v3 → AMi D d mX6_seesFigure [.ref 1] M (fun x17 M16 => ((x17 = 0 → ((¬ (gI M16 1 5) = 0 → ∀ M24 : Mm, M24 = sI M16 1 5 (1 : Int32) → post (some (.int v2)) M24) ∧ ((gI M16 1 5) = 0 → ((¬ (gI M16 1 4) = v1 → ∀ M29 : Mm, M29 = sI M16 1 5 (0 : Int32) → post (some (.int v2)) M29) ∧ ((gI M16 1 4) = v1 → ∀ M33 : Mm, M33 = sI M16 1 5 (1 : Int32) → post (some (.int v2)) M33))))) ∧ (¬ x17 = 0 → vp_in (gI M16 1 4) 100 ∧ ∀ x38 : Int32, x38 = ((v2 * (10 : Int32)) + ((gI M16 2 ((gI M16 1 4).toNatClampNeg)) - (48 : Int32))) → ∀ M39 : Mm, M39 = sI M16 1 4 ((gI M16 1 4) + (1 : Int32)) → ∀ x43 : Int32, x43 = v3 + (1 : Int32) → LX6_passNumber_9 D d v1 x38 x43 M39 post)))))) :
    LX6_passNumber_9 D d v1 v2 v3 M post := by
  show AW D (d + 1) 0 0 mX6_passNumber 0 0 9 [(0, .ref 1), (1, .int v1), (2, .int v2), (3, .int v3)] [] M post
  refine ab_iload_n 3 dX6_passNumber_9 rfl ?_
  refine ab_iconst (v := 2) dX6_passNumber_10 (by decide) ?_
  refine ab_icmp_ge (tgt := 55) dX6_passNumber_11 (by decide) (fun c1 => ?_) (fun c1 => ?_)
  · have h := h.1 c1
    refine ab_aload_n 0 dX6_passNumber_55 rfl ?_
    refine ab_aload_n 0 dX6_passNumber_56 rfl ?_
    refine ab_getI dX6_passNumber_57 fs_6_28_6 rfl (hL.sh 1 rfl (by decide) (by decide)).1 (hL.sh 1 rfl (by decide) (by decide)).2 ?_
    refine ab_if_ne (tgt := 71) dX6_passNumber_60 (by decide) (fun c2 => ?_) (fun c2 => ?_)
    · have h := h.1 c2
      refine ab_iconst (v := 1) dX6_passNumber_71 (by decide) ?_
      refine ab_goto (tgt := 76) dX6_passNumber_72 (by decide) ?_
      refine ab_putZ dX6_passNumber_76 fs_6_28_6 rfl rfl (hL.sh 1 rfl (by decide) (by decide)).1 (hL.sh 1 rfl (by decide) (by decide)).2 (by decide) ?_
      refine ab_nameM (fun M3 hM3 => ?_)
      have h := h M3 hM3
      have hs6 : Sm M M3 := hM3 ▸ (Sm.refl _).i
      have hm4 : Sm M M3 := (Sm.refl M).trans hs6
      have hl5 := hL.of hm4
      refine ab_iload_n 2 dX6_passNumber_79 rfl ?_
      exact ab_iret dX6_passNumber_80 rfl h
    · have h := h.2 c2
      refine ab_aload_n 0 dX6_passNumber_63 rfl ?_
      refine ab_getI dX6_passNumber_64 fs_6_25_6 rfl (hL.sh 1 rfl (by decide) (by decide)).1 (hL.sh 1 rfl (by decide) (by decide)).2 ?_
      refine ab_iload_n 1 dX6_passNumber_67 rfl ?_
      refine ab_icmp_ne (tgt := 75) dX6_passNumber_68 (by decide) (fun c7 => ?_) (fun c7 => ?_)
      · have h := h.1 c7
        refine ab_iconst (v := 0) dX6_passNumber_75 (by decide) ?_
        refine ab_putZ dX6_passNumber_76 fs_6_28_6 rfl rfl (hL.sh 1 rfl (by decide) (by decide)).1 (hL.sh 1 rfl (by decide) (by decide)).2 (by decide) ?_
        refine ab_nameM (fun M8 hM8 => ?_)
        have h := h M8 hM8
        have hs11 : Sm M M8 := hM8 ▸ (Sm.refl _).i
        have hm9 : Sm M M8 := (Sm.refl M).trans hs11
        have hl10 := hL.of hm9
        refine ab_iload_n 2 dX6_passNumber_79 rfl ?_
        exact ab_iret dX6_passNumber_80 rfl h
      · have h := h.2 c7
        refine ab_iconst (v := 1) dX6_passNumber_71 (by decide) ?_
        refine ab_goto (tgt := 76) dX6_passNumber_72 (by decide) ?_
        refine ab_putZ dX6_passNumber_76 fs_6_28_6 rfl rfl (hL.sh 1 rfl (by decide) (by decide)).1 (hL.sh 1 rfl (by decide) (by decide)).2 (by decide) ?_
        refine ab_nameM (fun M12 hM12 => ?_)
        have h := h M12 hM12
        have hs15 : Sm M M12 := hM12 ▸ (Sm.refl _).i
        have hm13 : Sm M M12 := (Sm.refl M).trans hs15
        have hl14 := hL.of hm13
        refine ab_iload_n 2 dX6_passNumber_79 rfl ?_
        exact ab_iret dX6_passNumber_80 rfl h
  · have h := h.2 c1
    refine ab_aload_n 0 dX6_passNumber_14 rfl ?_
    refine ab_callV (a := 1) (c0 := 6) (d' := d) (mc' := 0) (ms' := 0) (vs := []) (st := []) dX6_passNumber_15 ⟨cw_X6_seesFigure, w_414⟩ w_416 w_8 (by decide) (hL.sh 1 rfl (by decide) (by decide)).1 (hL.sh 1 rfl (by decide) (by decide)).2 rfl rfl (Nat.le_of_ble_eq_true rfl) (Nat.le_refl _) (Nat.zero_le _) (Nat.zero_le _) (AM.mono h (fun r M16 ⟨x17, hr18, hc19, h⟩ => ?_))
    subst hr18
    refine ab_rs ?_
    have hm20 : Sm M M16 := (Sm.refl M).trans hc19
    have hl21 := hL.of hm20
    refine ab_if_eq (tgt := 55) dX6_passNumber_18 (by decide) (fun c22 => ?_) (fun c22 => ?_)
    · have h := h.1 c22
      refine ab_aload_n 0 dX6_passNumber_55 rfl ?_
      refine ab_aload_n 0 dX6_passNumber_56 rfl ?_
      refine ab_getI dX6_passNumber_57 fs_6_28_6 rfl (hl21.sh 1 rfl (by decide) (by decide)).1 (hl21.sh 1 rfl (by decide) (by decide)).2 ?_
      refine ab_if_ne (tgt := 71) dX6_passNumber_60 (by decide) (fun c23 => ?_) (fun c23 => ?_)
      · have h := h.1 c23
        refine ab_iconst (v := 1) dX6_passNumber_71 (by decide) ?_
        refine ab_goto (tgt := 76) dX6_passNumber_72 (by decide) ?_
        refine ab_putZ dX6_passNumber_76 fs_6_28_6 rfl rfl (hl21.sh 1 rfl (by decide) (by decide)).1 (hl21.sh 1 rfl (by decide) (by decide)).2 (by decide) ?_
        refine ab_nameM (fun M24 hM24 => ?_)
        have h := h M24 hM24
        have hs27 : Sm M16 M24 := hM24 ▸ (Sm.refl _).i
        have hm25 : Sm M M24 := hm20.trans hs27
        have hl26 := hL.of hm25
        refine ab_iload_n 2 dX6_passNumber_79 rfl ?_
        exact ab_iret dX6_passNumber_80 rfl h
      · have h := h.2 c23
        refine ab_aload_n 0 dX6_passNumber_63 rfl ?_
        refine ab_getI dX6_passNumber_64 fs_6_25_6 rfl (hl21.sh 1 rfl (by decide) (by decide)).1 (hl21.sh 1 rfl (by decide) (by decide)).2 ?_
        refine ab_iload_n 1 dX6_passNumber_67 rfl ?_
        refine ab_icmp_ne (tgt := 75) dX6_passNumber_68 (by decide) (fun c28 => ?_) (fun c28 => ?_)
        · have h := h.1 c28
          refine ab_iconst (v := 0) dX6_passNumber_75 (by decide) ?_
          refine ab_putZ dX6_passNumber_76 fs_6_28_6 rfl rfl (hl21.sh 1 rfl (by decide) (by decide)).1 (hl21.sh 1 rfl (by decide) (by decide)).2 (by decide) ?_
          refine ab_nameM (fun M29 hM29 => ?_)
          have h := h M29 hM29
          have hs32 : Sm M16 M29 := hM29 ▸ (Sm.refl _).i
          have hm30 : Sm M M29 := hm20.trans hs32
          have hl31 := hL.of hm30
          refine ab_iload_n 2 dX6_passNumber_79 rfl ?_
          exact ab_iret dX6_passNumber_80 rfl h
        · have h := h.2 c28
          refine ab_iconst (v := 1) dX6_passNumber_71 (by decide) ?_
          refine ab_goto (tgt := 76) dX6_passNumber_72 (by decide) ?_
          refine ab_putZ dX6_passNumber_76 fs_6_28_6 rfl rfl (hl21.sh 1 rfl (by decide) (by decide)).1 (hl21.sh 1 rfl (by decide) (by decide)).2 (by decide) ?_
          refine ab_nameM (fun M33 hM33 => ?_)
          have h := h M33 hM33
          have hs36 : Sm M16 M33 := hM33 ▸ (Sm.refl _).i
          have hm34 : Sm M M33 := hm20.trans hs36
          have hl35 := hL.of hm34
          refine ab_iload_n 2 dX6_passNumber_79 rfl ?_
          exact ab_iret dX6_passNumber_80 rfl h
    · have h := h.2 c22
      refine ab_iload_n 2 dX6_passNumber_21 rfl ?_
      refine ab_bipush (v := 10) dX6_passNumber_22 (by decide) ?_
      refine ab_imul dX6_passNumber_24 ?_
      refine ab_aload_n 0 dX6_passNumber_25 rfl ?_
      refine ab_getP (r := 2) dX6_passNumber_26 fs_6_9_6 rfl (hl21.sh 1 rfl (by decide) (by decide)).1 (hl21.sh 1 rfl (by decide) (by decide)).2 (hl21.pt 13 rfl (by decide) (by decide)) ?_
      refine ab_aload_n 0 dX6_passNumber_29 rfl ?_
      refine ab_getI dX6_passNumber_30 fs_6_25_6 rfl (hl21.sh 1 rfl (by decide) (by decide)).1 (hl21.sh 1 rfl (by decide) (by decide)).2 ?_
      have hb37 := h.1
      have h := h.2
      refine ab_ialdj (j := (gI M16 1 4).toNatClampNeg) dX6_passNumber_33 (hl21.sh 2 rfl (by decide) (by decide)) hb37 rfl ?_
      refine ab_bipush (v := 48) dX6_passNumber_34 (by decide) ?_
      refine ab_isub dX6_passNumber_36 ?_
      refine ab_iadd dX6_passNumber_37 ?_
      refine ab_topi (fun x38 hx38 => ?_)
      have h := h x38 hx38
      refine ab_istore_n (lv1 := [(2, .int x38), (0, .ref 1), (1, .int v1), (3, .int v3)]) dX6_passNumber_38 (by decide) rfl ?_
      refine ab_aload_n 1 dX6_passNumber_39 rfl ?_
      refine ab_dup dX6_passNumber_40 rfl ?_
      refine ab_getI dX6_passNumber_41 fs_6_25_6 rfl (hl21.sh 1 rfl (by decide) (by decide)).1 (hl21.sh 1 rfl (by decide) (by decide)).2 ?_
      refine ab_iconst (v := 1) dX6_passNumber_44 (by decide) ?_
      refine ab_iadd dX6_passNumber_45 ?_
      refine ab_putI dX6_passNumber_46 fs_6_25_6 rfl rfl (hl21.sh 1 rfl (by decide) (by decide)).1 (hl21.sh 1 rfl (by decide) (by decide)).2 ?_
      refine ab_nameM (fun M39 hM39 => ?_)
      have h := h M39 hM39
      have hs42 : Sm M16 M39 := hM39 ▸ (Sm.refl _).i
      have hm40 : Sm M M39 := hm20.trans hs42
      have hl41 := hL.of hm40
      obtain ⟨x43, hx43⟩ : ∃ y : Int32, y = v3 + (1 : Int32) := ⟨_, rfl⟩
      have h := h x43 hx43
      refine ab_iinc (v := x43) 3 (lv1 := [(3, .int x43), (2, .int x38), (0, .ref 1), (1, .int v1)]) dX6_passNumber_49 rfl (by rw [hx43]; rfl) (by decide) rfl ?_
      refine ab_goto (tgt := 9) dX6_passNumber_52 (by decide) ?_
      exact ab_sub [2, 3, 1, 0] rfl h
theorem dX6_seesFigure_0 : decode cX6_seesFigure 0 = .ok (.aload_n 0, 1) := by decide +kernel
theorem dX6_seesFigure_1 : decode cX6_seesFigure 1 = .ok (.getfield 28, 3) := by decide +kernel
theorem dX6_seesFigure_4 : decode cX6_seesFigure 4 = .ok (.ifCond .ne 46, 3) := by decide +kernel
theorem dX6_seesFigure_7 : decode cX6_seesFigure 7 = .ok (.aload_n 0, 1) := by decide +kernel
theorem dX6_seesFigure_8 : decode cX6_seesFigure 8 = .ok (.getfield 25, 3) := by decide +kernel
theorem dX6_seesFigure_11 : decode cX6_seesFigure 11 = .ok (.aload_n 0, 1) := by decide +kernel
theorem dX6_seesFigure_12 : decode cX6_seesFigure 12 = .ok (.getfield 18, 3) := by decide +kernel
theorem dX6_seesFigure_15 : decode cX6_seesFigure 15 = .ok (.if_icmp .ge 35, 3) := by decide +kernel
theorem dX6_seesFigure_18 : decode cX6_seesFigure 18 = .ok (.aload_n 0, 1) := by decide +kernel
theorem dX6_seesFigure_19 : decode cX6_seesFigure 19 = .ok (.getfield 9, 3) := by decide +kernel
theorem dX6_seesFigure_22 : decode cX6_seesFigure 22 = .ok (.aload_n 0, 1) := by decide +kernel
theorem dX6_seesFigure_23 : decode cX6_seesFigure 23 = .ok (.getfield 25, 3) := by decide +kernel
theorem dX6_seesFigure_26 : decode cX6_seesFigure 26 = .ok (.iaload, 1) := by decide +kernel
theorem dX6_seesFigure_27 : decode cX6_seesFigure 27 = .ok (.bipush 48, 2) := by decide +kernel
theorem dX6_seesFigure_29 : decode cX6_seesFigure 29 = .ok (.if_icmp .lt 21, 3) := by decide +kernel
theorem dX6_seesFigure_32 : decode cX6_seesFigure 32 = .ok (.aload_n 0, 1) := by decide +kernel
theorem dX6_seesFigure_33 : decode cX6_seesFigure 33 = .ok (.getfield 9, 3) := by decide +kernel
theorem dX6_seesFigure_36 : decode cX6_seesFigure 36 = .ok (.aload_n 0, 1) := by decide +kernel
theorem dX6_seesFigure_37 : decode cX6_seesFigure 37 = .ok (.getfield 25, 3) := by decide +kernel
theorem dX6_seesFigure_40 : decode cX6_seesFigure 40 = .ok (.iaload, 1) := by decide +kernel
theorem dX6_seesFigure_41 : decode cX6_seesFigure 41 = .ok (.bipush 57, 2) := by decide +kernel
theorem dX6_seesFigure_43 : decode cX6_seesFigure 43 = .ok (.if_icmp .gt 7, 3) := by decide +kernel
theorem dX6_seesFigure_46 : decode cX6_seesFigure 46 = .ok (.iconst 1, 1) := by decide +kernel
theorem dX6_seesFigure_47 : decode cX6_seesFigure 47 = .ok (.goto 4, 3) := by decide +kernel
theorem dX6_seesFigure_50 : decode cX6_seesFigure 50 = .ok (.iconst 0, 1) := by decide +kernel
theorem dX6_seesFigure_51 : decode cX6_seesFigure 51 = .ok (.ireturn, 1) := by decide +kernel
set_option maxRecDepth 20000 in
theorem rX6_seesFigure (D : GD) (d : Nat)  (M : Mm) (post : Option Value → Mm → Prop) (hL : Lay 1 4 M) 
    (h : ((¬ (gI M 1 5) = 0 → post (some (.int (0 : Int32))) M) ∧ ((gI M 1 5) = 0 → (((gI M 1 2) ≤ (gI M 1 4) → post (some (.int (0 : Int32))) M) ∧ (¬ (gI M 1 2) ≤ (gI M 1 4) → vp_in (gI M 1 4) 100 ∧ (((gI M 2 ((gI M 1 4).toNatClampNeg)) < (48 : Int32) → post (some (.int (0 : Int32))) M) ∧ (¬ (gI M 2 ((gI M 1 4).toNatClampNeg)) < (48 : Int32) → (((57 : Int32) < (gI M 2 ((gI M 1 4).toNatClampNeg)) → post (some (.int (0 : Int32))) M) ∧ (¬ (57 : Int32) < (gI M 2 ((gI M 1 4).toNatClampNeg)) → post (some (.int (1 : Int32))) M))))))))) :
    AM D d 0 0 mX6_seesFigure [.ref 1] M post := by
  refine AM.of (by decide) (Nat.le_of_ble_eq_true rfl) ?_
  show AW D d 0 0 mX6_seesFigure 0 0 0 [(0, .ref 1)] [] M post
  refine ab_aload_n 0 dX6_seesFigure_0 rfl ?_
  refine ab_getI dX6_seesFigure_1 fs_6_28_6 rfl (hL.sh 1 rfl (by decide) (by decide)).1 (hL.sh 1 rfl (by decide) (by decide)).2 ?_
  refine ab_if_ne (tgt := 50) dX6_seesFigure_4 (by decide) (fun c1 => ?_) (fun c1 => ?_)
  · have h := h.1 c1
    refine ab_iconst (v := 0) dX6_seesFigure_50 (by decide) ?_
    exact ab_zret dX6_seesFigure_51 rfl rfl h
  · have h := h.2 c1
    refine ab_aload_n 0 dX6_seesFigure_7 rfl ?_
    refine ab_getI dX6_seesFigure_8 fs_6_25_6 rfl (hL.sh 1 rfl (by decide) (by decide)).1 (hL.sh 1 rfl (by decide) (by decide)).2 ?_
    refine ab_aload_n 0 dX6_seesFigure_11 rfl ?_
    refine ab_getI dX6_seesFigure_12 fs_6_18_6 rfl (hL.sh 1 rfl (by decide) (by decide)).1 (hL.sh 1 rfl (by decide) (by decide)).2 ?_
    refine ab_icmp_ge (tgt := 50) dX6_seesFigure_15 (by decide) (fun c2 => ?_) (fun c2 => ?_)
    · have h := h.1 c2
      refine ab_iconst (v := 0) dX6_seesFigure_50 (by decide) ?_
      exact ab_zret dX6_seesFigure_51 rfl rfl h
    · have h := h.2 c2
      refine ab_aload_n 0 dX6_seesFigure_18 rfl ?_
      refine ab_getP (r := 2) dX6_seesFigure_19 fs_6_9_6 rfl (hL.sh 1 rfl (by decide) (by decide)).1 (hL.sh 1 rfl (by decide) (by decide)).2 (hL.pt 13 rfl (by decide) (by decide)) ?_
      refine ab_aload_n 0 dX6_seesFigure_22 rfl ?_
      refine ab_getI dX6_seesFigure_23 fs_6_25_6 rfl (hL.sh 1 rfl (by decide) (by decide)).1 (hL.sh 1 rfl (by decide) (by decide)).2 ?_
      have hb3 := h.1
      have h := h.2
      refine ab_ialdj (j := (gI M 1 4).toNatClampNeg) dX6_seesFigure_26 (hL.sh 2 rfl (by decide) (by decide)) hb3 rfl ?_
      refine ab_bipush (v := 48) dX6_seesFigure_27 (by decide) ?_
      refine ab_icmp_lt (tgt := 50) dX6_seesFigure_29 (by decide) (fun c4 => ?_) (fun c4 => ?_)
      · have h := h.1 c4
        refine ab_iconst (v := 0) dX6_seesFigure_50 (by decide) ?_
        exact ab_zret dX6_seesFigure_51 rfl rfl h
      · have h := h.2 c4
        refine ab_aload_n 0 dX6_seesFigure_32 rfl ?_
        refine ab_getP (r := 2) dX6_seesFigure_33 fs_6_9_6 rfl (hL.sh 1 rfl (by decide) (by decide)).1 (hL.sh 1 rfl (by decide) (by decide)).2 (hL.pt 13 rfl (by decide) (by decide)) ?_
        refine ab_aload_n 0 dX6_seesFigure_36 rfl ?_
        refine ab_getI dX6_seesFigure_37 fs_6_25_6 rfl (hL.sh 1 rfl (by decide) (by decide)).1 (hL.sh 1 rfl (by decide) (by decide)).2 ?_
        refine ab_ialdj (j := (gI M 1 4).toNatClampNeg) dX6_seesFigure_40 (hL.sh 2 rfl (by decide) (by decide)) hb3 rfl ?_
        refine ab_bipush (v := 57) dX6_seesFigure_41 (by decide) ?_
        refine ab_icmp_gt (tgt := 50) dX6_seesFigure_43 (by decide) (fun c5 => ?_) (fun c5 => ?_)
        · have h := h.1 c5
          refine ab_iconst (v := 0) dX6_seesFigure_50 (by decide) ?_
          exact ab_zret dX6_seesFigure_51 rfl rfl h
        · have h := h.2 c5
          refine ab_iconst (v := 1) dX6_seesFigure_46 (by decide) ?_
          refine ab_goto (tgt := 51) dX6_seesFigure_47 (by decide) ?_
          exact ab_zret dX6_seesFigure_51 rfl rfl h
theorem dX6_make_0 : decode cX6_make 0 = .ok (.aload_n 0, 1) := by decide +kernel
theorem dX6_make_1 : decode cX6_make 1 = .ok (.getfield 22, 3) := by decide +kernel
theorem dX6_make_4 : decode cX6_make 4 = .ok (.bipush 100, 2) := by decide +kernel
theorem dX6_make_6 : decode cX6_make 6 = .ok (.if_icmp .ge 37, 3) := by decide +kernel
theorem dX6_make_9 : decode cX6_make 9 = .ok (.aload_n 0, 1) := by decide +kernel
theorem dX6_make_10 : decode cX6_make 10 = .ok (.getfield 15, 3) := by decide +kernel
theorem dX6_make_13 : decode cX6_make 13 = .ok (.aload_n 0, 1) := by decide +kernel
theorem dX6_make_14 : decode cX6_make 14 = .ok (.getfield 22, 3) := by decide +kernel
theorem dX6_make_17 : decode cX6_make 17 = .ok (.iload_n 1, 1) := by decide +kernel
theorem dX6_make_18 : decode cX6_make 18 = .ok (.iload_n 2, 1) := by decide +kernel
theorem dX6_make_19 : decode cX6_make 19 = .ok (.iconst 3, 1) := by decide +kernel
theorem dX6_make_20 : decode cX6_make 20 = .ok (.ishl, 1) := by decide +kernel
theorem dX6_make_21 : decode cX6_make 21 = .ok (.ior, 1) := by decide +kernel
theorem dX6_make_22 : decode cX6_make 22 = .ok (.iload_n 3, 1) := by decide +kernel
theorem dX6_make_23 : decode cX6_make 23 = .ok (.iconst 5, 1) := by decide +kernel
theorem dX6_make_24 : decode cX6_make 24 = .ok (.ishl, 1) := by decide +kernel
theorem dX6_make_25 : decode cX6_make 25 = .ok (.ior, 1) := by decide +kernel
theorem dX6_make_26 : decode cX6_make 26 = .ok (.iload 4, 2) := by decide +kernel
theorem dX6_make_28 : decode cX6_make 28 = .ok (.bipush 7, 2) := by decide +kernel
theorem dX6_make_30 : decode cX6_make 30 = .ok (.ishl, 1) := by decide +kernel
theorem dX6_make_31 : decode cX6_make 31 = .ok (.ior, 1) := by decide +kernel
theorem dX6_make_32 : decode cX6_make 32 = .ok (.iastore, 1) := by decide +kernel
theorem dX6_make_33 : decode cX6_make 33 = .ok (.aload_n 0, 1) := by decide +kernel
theorem dX6_make_34 : decode cX6_make 34 = .ok (.dup, 1) := by decide +kernel
theorem dX6_make_35 : decode cX6_make 35 = .ok (.getfield 22, 3) := by decide +kernel
theorem dX6_make_38 : decode cX6_make 38 = .ok (.iconst 1, 1) := by decide +kernel
theorem dX6_make_39 : decode cX6_make 39 = .ok (.iadd, 1) := by decide +kernel
theorem dX6_make_40 : decode cX6_make 40 = .ok (.putfield 22, 3) := by decide +kernel
theorem dX6_make_43 : decode cX6_make 43 = .ok (.return_, 1) := by decide +kernel
set_option maxRecDepth 20000 in
theorem rX6_make (D : GD) (d : Nat) (a1 : Int32) (a2 : Int32) (a3 : Int32) (a4 : Int32) (M : Mm) (post : Option Value → Mm → Prop) (hL : Lay 1 4 M) 
    (h : (((100 : Int32) ≤ (gI M 1 3) → post none M) ∧ (¬ (100 : Int32) ≤ (gI M 1 3) → vp_in (gI M 1 3) 100 ∧ ∀ M3 : Mm, M3 = sI M 3 ((gI M 1 3).toNatClampNeg) (((a1 ||| (a2 <<< ((3 : Int32) &&& 31))) ||| (a3 <<< ((5 : Int32) &&& 31))) ||| (a4 <<< ((7 : Int32) &&& 31))) → ∀ M7 : Mm, M7 = sI M3 1 3 ((gI M3 1 3) + (1 : Int32)) → post none M7))) :
    AM D d 0 0 mX6_make [.ref 1, .int a1, .int a2, .int a3, .int a4] M post := by
  refine AM.of (by decide) (Nat.le_of_ble_eq_true rfl) ?_
  show AW D d 0 0 mX6_make 0 0 0 [(0, .ref 1), (1, .int a1), (2, .int a2), (3, .int a3), (4, .int a4)] [] M post
  refine ab_aload_n 0 dX6_make_0 rfl ?_
  refine ab_getI dX6_make_1 fs_6_22_6 rfl (hL.sh 1 rfl (by decide) (by decide)).1 (hL.sh 1 rfl (by decide) (by decide)).2 ?_
  refine ab_bipush (v := 100) dX6_make_4 (by decide) ?_
  refine ab_icmp_ge (tgt := 43) dX6_make_6 (by decide) (fun c1 => ?_) (fun c1 => ?_)
  · have h := h.1 c1
    exact ab_vret dX6_make_43 rfl h
  · have h := h.2 c1
    refine ab_aload_n 0 dX6_make_9 rfl ?_
    refine ab_getP (r := 3) dX6_make_10 fs_6_15_6 rfl (hL.sh 1 rfl (by decide) (by decide)).1 (hL.sh 1 rfl (by decide) (by decide)).2 (hL.pt 14 rfl (by decide) (by decide)) ?_
    refine ab_aload_n 0 dX6_make_13 rfl ?_
    refine ab_getI dX6_make_14 fs_6_22_6 rfl (hL.sh 1 rfl (by decide) (by decide)).1 (hL.sh 1 rfl (by decide) (by decide)).2 ?_
    refine ab_iload_n 1 dX6_make_17 rfl ?_
    refine ab_iload_n 2 dX6_make_18 rfl ?_
    refine ab_iconst (v := 3) dX6_make_19 (by decide) ?_
    refine ab_ishl dX6_make_20 ?_
    refine ab_ior dX6_make_21 ?_
    refine ab_iload_n 3 dX6_make_22 rfl ?_
    refine ab_iconst (v := 5) dX6_make_23 (by decide) ?_
    refine ab_ishl dX6_make_24 ?_
    refine ab_ior dX6_make_25 ?_
    refine ab_iload 4 dX6_make_26 rfl ?_
    refine ab_bipush (v := 7) dX6_make_28 (by decide) ?_
    refine ab_ishl dX6_make_30 ?_
    refine ab_ior dX6_make_31 ?_
    have hb2 := h.1
    have h := h.2
    refine ab_iastj (j := (gI M 1 3).toNatClampNeg) dX6_make_32 (hL.sh 3 rfl (by decide) (by decide)) hb2 rfl ?_
    refine ab_nameM (fun M3 hM3 => ?_)
    have h := h M3 hM3
    have hs6 : Sm M M3 := hM3 ▸ (Sm.refl _).i
    have hm4 : Sm M M3 := (Sm.refl M).trans hs6
    have hl5 := hL.of hm4
    refine ab_aload_n 0 dX6_make_33 rfl ?_
    refine ab_dup dX6_make_34 rfl ?_
    refine ab_getI dX6_make_35 fs_6_22_6 rfl (hl5.sh 1 rfl (by decide) (by decide)).1 (hl5.sh 1 rfl (by decide) (by decide)).2 ?_
    refine ab_iconst (v := 1) dX6_make_38 (by decide) ?_
    refine ab_iadd dX6_make_39 ?_
    refine ab_putI dX6_make_40 fs_6_22_6 rfl rfl (hl5.sh 1 rfl (by decide) (by decide)).1 (hl5.sh 1 rfl (by decide) (by decide)).2 ?_
    refine ab_nameM (fun M7 hM7 => ?_)
    have h := h M7 hM7
    have hs10 : Sm M3 M7 := hM7 ▸ (Sm.refl _).i
    have hm8 : Sm M M7 := hm4.trans hs10
    have hl9 := hL.of hm8
    exact ab_vret dX6_make_43 rfl h
