theorem dX6_addByte_0 : decode cX6_addByte 0 = .ok (.aload_n 0, 1) := by decide +kernel
theorem dX6_addByte_1 : decode cX6_addByte 1 = .ok (.getfield 18, 3) := by decide +kernel
theorem dX6_addByte_4 : decode cX6_addByte 4 = .ok (.bipush 100, 2) := by decide +kernel
theorem dX6_addByte_6 : decode cX6_addByte 6 = .ok (.if_icmp .ge 23, 3) := by decide +kernel
theorem dX6_addByte_9 : decode cX6_addByte 9 = .ok (.aload_n 0, 1) := by decide +kernel
theorem dX6_addByte_10 : decode cX6_addByte 10 = .ok (.getfield 9, 3) := by decide +kernel
theorem dX6_addByte_13 : decode cX6_addByte 13 = .ok (.aload_n 0, 1) := by decide +kernel
theorem dX6_addByte_14 : decode cX6_addByte 14 = .ok (.getfield 18, 3) := by decide +kernel
theorem dX6_addByte_17 : decode cX6_addByte 17 = .ok (.iload_n 1, 1) := by decide +kernel
theorem dX6_addByte_18 : decode cX6_addByte 18 = .ok (.iastore, 1) := by decide +kernel
theorem dX6_addByte_19 : decode cX6_addByte 19 = .ok (.aload_n 0, 1) := by decide +kernel
theorem dX6_addByte_20 : decode cX6_addByte 20 = .ok (.dup, 1) := by decide +kernel
theorem dX6_addByte_21 : decode cX6_addByte 21 = .ok (.getfield 18, 3) := by decide +kernel
theorem dX6_addByte_24 : decode cX6_addByte 24 = .ok (.iconst 1, 1) := by decide +kernel
theorem dX6_addByte_25 : decode cX6_addByte 25 = .ok (.iadd, 1) := by decide +kernel
theorem dX6_addByte_26 : decode cX6_addByte 26 = .ok (.putfield 18, 3) := by decide +kernel
theorem dX6_addByte_29 : decode cX6_addByte 29 = .ok (.return_, 1) := by decide +kernel
set_option maxRecDepth 20000 in
theorem rX6_addByte (D : GD) (d : Nat) (a1 : Int32) (M : Mm) (post : Option Value → Mm → Prop) (hL : Lay 1 4 M) 
    (h : (((100 : Int32) ≤ (gI M 1 2) → post none M) ∧ (¬ (100 : Int32) ≤ (gI M 1 2) → vp_in (gI M 1 2) 100 ∧ ∀ M3 : Mm, M3 = sI M 2 ((gI M 1 2).toNatClampNeg) a1 → ∀ M7 : Mm, M7 = sI M3 1 2 ((gI M3 1 2) + (1 : Int32)) → post none M7))) :
    AM D d 0 0 mX6_addByte [.ref 1, .int a1] M post := by
  refine AM.of (by decide) (Nat.le_of_ble_eq_true rfl) ?_
  show AW D d 0 0 mX6_addByte 0 0 0 [(0, .ref 1), (1, .int a1)] [] M post
  refine ab_aload_n 0 dX6_addByte_0 rfl ?_
  refine ab_getI dX6_addByte_1 fs_6_18_6 rfl (hL.sh 1 rfl (by decide) (by decide)).1 (hL.sh 1 rfl (by decide) (by decide)).2 ?_
  refine ab_bipush (v := 100) dX6_addByte_4 (by decide) ?_
  refine ab_icmp_ge (tgt := 29) dX6_addByte_6 (by decide) (fun c1 => ?_) (fun c1 => ?_)
  · have h := h.1 c1
    exact ab_vret dX6_addByte_29 rfl h
  · have h := h.2 c1
    refine ab_aload_n 0 dX6_addByte_9 rfl ?_
    refine ab_getP (r := 2) dX6_addByte_10 fs_6_9_6 rfl (hL.sh 1 rfl (by decide) (by decide)).1 (hL.sh 1 rfl (by decide) (by decide)).2 (hL.pt 13 rfl (by decide) (by decide)) ?_
    refine ab_aload_n 0 dX6_addByte_13 rfl ?_
    refine ab_getI dX6_addByte_14 fs_6_18_6 rfl (hL.sh 1 rfl (by decide) (by decide)).1 (hL.sh 1 rfl (by decide) (by decide)).2 ?_
    refine ab_iload_n 1 dX6_addByte_17 rfl ?_
    have hb2 := h.1
    have h := h.2
    refine ab_iastj (j := (gI M 1 2).toNatClampNeg) dX6_addByte_18 (hL.sh 2 rfl (by decide) (by decide)) hb2 rfl ?_
    refine ab_nameM (fun M3 hM3 => ?_)
    have h := h M3 hM3
    have hs6 : Sm M M3 := hM3 ▸ (Sm.refl _).i
    have hm4 : Sm M M3 := (Sm.refl M).trans hs6
    have hl5 := hL.of hm4
    refine ab_aload_n 0 dX6_addByte_19 rfl ?_
    refine ab_dup dX6_addByte_20 rfl ?_
    refine ab_getI dX6_addByte_21 fs_6_18_6 rfl (hl5.sh 1 rfl (by decide) (by decide)).1 (hl5.sh 1 rfl (by decide) (by decide)).2 ?_
    refine ab_iconst (v := 1) dX6_addByte_24 (by decide) ?_
    refine ab_iadd dX6_addByte_25 ?_
    refine ab_putI dX6_addByte_26 fs_6_18_6 rfl rfl (hl5.sh 1 rfl (by decide) (by decide)).1 (hl5.sh 1 rfl (by decide) (by decide)).2 ?_
    refine ab_nameM (fun M7 hM7 => ?_)
    have h := h M7 hM7
    have hs10 : Sm M3 M7 := hM7 ▸ (Sm.refl _).i
    have hm8 : Sm M M7 := hm4.trans hs10
    have hl9 := hL.of hm8
    exact ab_vret dX6_addByte_29 rfl h
theorem dX6_parses_0 : decode cX6_parses 0 = .ok (.aload_n 0, 1) := by decide +kernel
theorem dX6_parses_1 : decode cX6_parses 1 = .ok (.iconst 0, 1) := by decide +kernel
theorem dX6_parses_2 : decode cX6_parses 2 = .ok (.putfield 25, 3) := by decide +kernel
theorem dX6_parses_5 : decode cX6_parses 5 = .ok (.aload_n 0, 1) := by decide +kernel
theorem dX6_parses_6 : decode cX6_parses 6 = .ok (.iconst 0, 1) := by decide +kernel
theorem dX6_parses_7 : decode cX6_parses 7 = .ok (.putfield 22, 3) := by decide +kernel
theorem dX6_parses_10 : decode cX6_parses 10 = .ok (.aload_n 0, 1) := by decide +kernel
theorem dX6_parses_11 : decode cX6_parses 11 = .ok (.iconst 0, 1) := by decide +kernel
theorem dX6_parses_12 : decode cX6_parses 12 = .ok (.putfield 28, 3) := by decide +kernel
theorem dX6_parses_15 : decode cX6_parses 15 = .ok (.aload_n 0, 1) := by decide +kernel
theorem dX6_parses_16 : decode cX6_parses 16 = .ok (.invokevirtual 32, 3) := by decide +kernel
theorem dX6_parses_19 : decode cX6_parses 19 = .ok (.iconst 1, 1) := by decide +kernel
theorem dX6_parses_20 : decode cX6_parses 20 = .ok (.istore_n 1, 1) := by decide +kernel
theorem dX6_parses_21 : decode cX6_parses 21 = .ok (.iload_n 1, 1) := by decide +kernel
theorem dX6_parses_22 : decode cX6_parses 22 = .ok (.bipush 8, 2) := by decide +kernel
theorem dX6_parses_24 : decode cX6_parses 24 = .ok (.if_icmp .ge 32, 3) := by decide +kernel
theorem dX6_parses_27 : decode cX6_parses 27 = .ok (.aload_n 0, 1) := by decide +kernel
theorem dX6_parses_28 : decode cX6_parses 28 = .ok (.bipush 59, 2) := by decide +kernel
theorem dX6_parses_30 : decode cX6_parses 30 = .ok (.invokevirtual 35, 3) := by decide +kernel
theorem dX6_parses_33 : decode cX6_parses 33 = .ok (.ifCond .eq 23, 3) := by decide +kernel
theorem dX6_parses_36 : decode cX6_parses 36 = .ok (.aload_n 0, 1) := by decide +kernel
theorem dX6_parses_37 : decode cX6_parses 37 = .ok (.dup, 1) := by decide +kernel
theorem dX6_parses_38 : decode cX6_parses 38 = .ok (.getfield 25, 3) := by decide +kernel
theorem dX6_parses_41 : decode cX6_parses 41 = .ok (.iconst 1, 1) := by decide +kernel
theorem dX6_parses_42 : decode cX6_parses 42 = .ok (.iadd, 1) := by decide +kernel
theorem dX6_parses_43 : decode cX6_parses 43 = .ok (.putfield 25, 3) := by decide +kernel
theorem dX6_parses_46 : decode cX6_parses 46 = .ok (.aload_n 0, 1) := by decide +kernel
theorem dX6_parses_47 : decode cX6_parses 47 = .ok (.invokevirtual 32, 3) := by decide +kernel
theorem dX6_parses_50 : decode cX6_parses 50 = .ok (.iinc 1 1, 3) := by decide +kernel
theorem dX6_parses_53 : decode cX6_parses 53 = .ok (.goto (-32), 3) := by decide +kernel
theorem dX6_parses_56 : decode cX6_parses 56 = .ok (.aload_n 0, 1) := by decide +kernel
theorem dX6_parses_57 : decode cX6_parses 57 = .ok (.getfield 28, 3) := by decide +kernel
theorem dX6_parses_60 : decode cX6_parses 60 = .ok (.ifCond .ne 18, 3) := by decide +kernel
theorem dX6_parses_63 : decode cX6_parses 63 = .ok (.aload_n 0, 1) := by decide +kernel
theorem dX6_parses_64 : decode cX6_parses 64 = .ok (.getfield 25, 3) := by decide +kernel
theorem dX6_parses_67 : decode cX6_parses 67 = .ok (.aload_n 0, 1) := by decide +kernel
theorem dX6_parses_68 : decode cX6_parses 68 = .ok (.getfield 18, 3) := by decide +kernel
theorem dX6_parses_71 : decode cX6_parses 71 = .ok (.if_icmp .ne 7, 3) := by decide +kernel
theorem dX6_parses_74 : decode cX6_parses 74 = .ok (.iconst 1, 1) := by decide +kernel
theorem dX6_parses_75 : decode cX6_parses 75 = .ok (.goto 4, 3) := by decide +kernel
theorem dX6_parses_78 : decode cX6_parses 78 = .ok (.iconst 0, 1) := by decide +kernel
theorem dX6_parses_79 : decode cX6_parses 79 = .ok (.ireturn, 1) := by decide +kernel
def LX6_parses_21 (D : GD) (d : Nat) (v1 : Int32) (M : Mm) (post : Option Value → Mm → Prop) : Prop := AW D (d + 1) 0 0 mX6_parses 0 0 21 [(0, .ref 1), (1, .int v1)] [] M post
set_option maxRecDepth 20000 in
theorem rX6_parses (D : GD) (d : Nat)  (M : Mm) (post : Option Value → Mm → Prop) (hL : Lay 1 4 M) 
    (h : ∀ M1 : Mm, M1 = sI M 1 4 (0 : Int32) → ∀ M5 : Mm, M5 = sI M1 1 3 (0 : Int32) → ∀ M9 : Mm, M9 = sI M5 1 5 (0 : Int32) → AMv D d mX6_parseClause [.ref 1] M9 (fun M13 => LX6_parses_21 D d (1 : Int32) M13 post)) :
    AM D (d + 1) 0 0 mX6_parses [.ref 1] M post := by
  refine AM.of (by decide) (Nat.le_of_ble_eq_true rfl) ?_
  show AW D (d + 1) 0 0 mX6_parses 0 0 0 [(0, .ref 1)] [] M post
  refine ab_aload_n 0 dX6_parses_0 rfl ?_
  refine ab_iconst (v := 0) dX6_parses_1 (by decide) ?_
  refine ab_putI dX6_parses_2 fs_6_25_6 rfl rfl (hL.sh 1 rfl (by decide) (by decide)).1 (hL.sh 1 rfl (by decide) (by decide)).2 ?_
  refine ab_nameM (fun M1 hM1 => ?_)
  have h := h M1 hM1
  have hs4 : Sm M M1 := hM1 ▸ (Sm.refl _).i
  have hm2 : Sm M M1 := (Sm.refl M).trans hs4
  have hl3 := hL.of hm2
  refine ab_aload_n 0 dX6_parses_5 rfl ?_
  refine ab_iconst (v := 0) dX6_parses_6 (by decide) ?_
  refine ab_putI dX6_parses_7 fs_6_22_6 rfl rfl (hl3.sh 1 rfl (by decide) (by decide)).1 (hl3.sh 1 rfl (by decide) (by decide)).2 ?_
  refine ab_nameM (fun M5 hM5 => ?_)
  have h := h M5 hM5
  have hs8 : Sm M1 M5 := hM5 ▸ (Sm.refl _).i
  have hm6 : Sm M M5 := hm2.trans hs8
  have hl7 := hL.of hm6
  refine ab_aload_n 0 dX6_parses_10 rfl ?_
  refine ab_iconst (v := 0) dX6_parses_11 (by decide) ?_
  refine ab_putZ dX6_parses_12 fs_6_28_6 rfl rfl (hl7.sh 1 rfl (by decide) (by decide)).1 (hl7.sh 1 rfl (by decide) (by decide)).2 (by decide) ?_
  refine ab_nameM (fun M9 hM9 => ?_)
  have h := h M9 hM9
  have hs12 : Sm M5 M9 := hM9 ▸ (Sm.refl _).i
  have hm10 : Sm M M9 := hm6.trans hs12
  have hl11 := hL.of hm10
  refine ab_aload_n 0 dX6_parses_15 rfl ?_
  refine ab_callV (a := 1) (c0 := 6) (d' := d) (mc' := 0) (ms' := 0) (vs := []) (st := []) dX6_parses_16 ⟨cw_X6_parseClause, w_342⟩ w_344 w_3 (by decide) (hl11.sh 1 rfl (by decide) (by decide)).1 (hl11.sh 1 rfl (by decide) (by decide)).2 rfl rfl (Nat.le_of_ble_eq_true rfl) (Nat.le_refl _) (Nat.zero_le _) (Nat.zero_le _) (AM.mono h (fun r M13 ⟨hr15, hc16, h⟩ => ?_))
  subst hr15
  refine ab_rv ?_
  have hm17 : Sm M M13 := hm10.trans hc16
  have hl18 := hL.of hm17
  refine ab_iconst (v := 1) dX6_parses_19 (by decide) ?_
  refine ab_istore_n (lv1 := [(1, .int (1 : Int32)), (0, .ref 1)]) dX6_parses_20 (by decide) rfl ?_
  exact ab_sub [1, 0] rfl h
set_option maxRecDepth 20000 in
theorem rX6_parses_21 (D : GD) (d : Nat)  (v1 : Int32) (M : Mm) (post : Option Value → Mm → Prop) (hL : Lay 1 4 M) 
    (h : (((8 : Int32) ≤ v1 → ((¬ (gI M 1 5) = 0 → post (some (.int (0 : Int32))) M) ∧ ((gI M 1 5) = 0 → ((¬ (gI M 1 4) = (gI M 1 2) → post (some (.int (0 : Int32))) M) ∧ ((gI M 1 4) = (gI M 1 2) → post (some (.int (1 : Int32))) M))))) ∧ (¬ (8 : Int32) ≤ v1 → AMi D d mX6_sees [.ref 1, .int (59 : Int32)] M (fun x5 M4 => ((x5 = 0 → ((¬ (gI M4 1 5) = 0 → post (some (.int (0 : Int32))) M4) ∧ ((gI M4 1 5) = 0 → ((¬ (gI M4 1 4) = (gI M4 1 2) → post (some (.int (0 : Int32))) M4) ∧ ((gI M4 1 4) = (gI M4 1 2) → post (some (.int (1 : Int32))) M4))))) ∧ (¬ x5 = 0 → ∀ M13 : Mm, M13 = sI M4 1 4 ((gI M4 1 4) + (1 : Int32)) → AMv D d mX6_parseClause [.ref 1] M13 (fun M17 => ∀ x23 : Int32, x23 = v1 + (1 : Int32) → LX6_parses_21 D d x23 M17 post))))))) :
    LX6_parses_21 D d v1 M post := by
  show AW D (d + 1) 0 0 mX6_parses 0 0 21 [(0, .ref 1), (1, .int v1)] [] M post
  refine ab_iload_n 1 dX6_parses_21 rfl ?_
  refine ab_bipush (v := 8) dX6_parses_22 (by decide) ?_
  refine ab_icmp_ge (tgt := 56) dX6_parses_24 (by decide) (fun c1 => ?_) (fun c1 => ?_)
  · have h := h.1 c1
    refine ab_aload_n 0 dX6_parses_56 rfl ?_
    refine ab_getI dX6_parses_57 fs_6_28_6 rfl (hL.sh 1 rfl (by decide) (by decide)).1 (hL.sh 1 rfl (by decide) (by decide)).2 ?_
    refine ab_if_ne (tgt := 78) dX6_parses_60 (by decide) (fun c2 => ?_) (fun c2 => ?_)
    · have h := h.1 c2
      refine ab_iconst (v := 0) dX6_parses_78 (by decide) ?_
      exact ab_zret dX6_parses_79 rfl rfl h
    · have h := h.2 c2
      refine ab_aload_n 0 dX6_parses_63 rfl ?_
      refine ab_getI dX6_parses_64 fs_6_25_6 rfl (hL.sh 1 rfl (by decide) (by decide)).1 (hL.sh 1 rfl (by decide) (by decide)).2 ?_
      refine ab_aload_n 0 dX6_parses_67 rfl ?_
      refine ab_getI dX6_parses_68 fs_6_18_6 rfl (hL.sh 1 rfl (by decide) (by decide)).1 (hL.sh 1 rfl (by decide) (by decide)).2 ?_
      refine ab_icmp_ne (tgt := 78) dX6_parses_71 (by decide) (fun c3 => ?_) (fun c3 => ?_)
      · have h := h.1 c3
        refine ab_iconst (v := 0) dX6_parses_78 (by decide) ?_
        exact ab_zret dX6_parses_79 rfl rfl h
      · have h := h.2 c3
        refine ab_iconst (v := 1) dX6_parses_74 (by decide) ?_
        refine ab_goto (tgt := 79) dX6_parses_75 (by decide) ?_
        exact ab_zret dX6_parses_79 rfl rfl h
  · have h := h.2 c1
    refine ab_aload_n 0 dX6_parses_27 rfl ?_
    refine ab_bipush (v := 59) dX6_parses_28 (by decide) ?_
    refine ab_callV (a := 1) (c0 := 6) (d' := d) (mc' := 0) (ms' := 0) (vs := [.int (59 : Int32)]) (st := []) dX6_parses_30 ⟨cw_X6_sees, w_346⟩ w_348 w_4 (by decide) (hL.sh 1 rfl (by decide) (by decide)).1 (hL.sh 1 rfl (by decide) (by decide)).2 rfl rfl (Nat.le_of_ble_eq_true rfl) (Nat.le_refl _) (Nat.zero_le _) (Nat.zero_le _) (AM.mono h (fun r M4 ⟨x5, hr6, hc7, h⟩ => ?_))
    subst hr6
    refine ab_rs ?_
    have hm8 : Sm M M4 := (Sm.refl M).trans hc7
    have hl9 := hL.of hm8
    refine ab_if_eq (tgt := 56) dX6_parses_33 (by decide) (fun c10 => ?_) (fun c10 => ?_)
    · have h := h.1 c10
      refine ab_aload_n 0 dX6_parses_56 rfl ?_
      refine ab_getI dX6_parses_57 fs_6_28_6 rfl (hl9.sh 1 rfl (by decide) (by decide)).1 (hl9.sh 1 rfl (by decide) (by decide)).2 ?_
      refine ab_if_ne (tgt := 78) dX6_parses_60 (by decide) (fun c11 => ?_) (fun c11 => ?_)
      · have h := h.1 c11
        refine ab_iconst (v := 0) dX6_parses_78 (by decide) ?_
        exact ab_zret dX6_parses_79 rfl rfl h
      · have h := h.2 c11
        refine ab_aload_n 0 dX6_parses_63 rfl ?_
        refine ab_getI dX6_parses_64 fs_6_25_6 rfl (hl9.sh 1 rfl (by decide) (by decide)).1 (hl9.sh 1 rfl (by decide) (by decide)).2 ?_
        refine ab_aload_n 0 dX6_parses_67 rfl ?_
        refine ab_getI dX6_parses_68 fs_6_18_6 rfl (hl9.sh 1 rfl (by decide) (by decide)).1 (hl9.sh 1 rfl (by decide) (by decide)).2 ?_
        refine ab_icmp_ne (tgt := 78) dX6_parses_71 (by decide) (fun c12 => ?_) (fun c12 => ?_)
        · have h := h.1 c12
          refine ab_iconst (v := 0) dX6_parses_78 (by decide) ?_
          exact ab_zret dX6_parses_79 rfl rfl h
        · have h := h.2 c12
          refine ab_iconst (v := 1) dX6_parses_74 (by decide) ?_
          refine ab_goto (tgt := 79) dX6_parses_75 (by decide) ?_
          exact ab_zret dX6_parses_79 rfl rfl h
    · have h := h.2 c10
      refine ab_aload_n 0 dX6_parses_36 rfl ?_
      refine ab_dup dX6_parses_37 rfl ?_
      refine ab_getI dX6_parses_38 fs_6_25_6 rfl (hl9.sh 1 rfl (by decide) (by decide)).1 (hl9.sh 1 rfl (by decide) (by decide)).2 ?_
      refine ab_iconst (v := 1) dX6_parses_41 (by decide) ?_
      refine ab_iadd dX6_parses_42 ?_
      refine ab_putI dX6_parses_43 fs_6_25_6 rfl rfl (hl9.sh 1 rfl (by decide) (by decide)).1 (hl9.sh 1 rfl (by decide) (by decide)).2 ?_
      refine ab_nameM (fun M13 hM13 => ?_)
      have h := h M13 hM13
      have hs16 : Sm M4 M13 := hM13 ▸ (Sm.refl _).i
      have hm14 : Sm M M13 := hm8.trans hs16
      have hl15 := hL.of hm14
      refine ab_aload_n 0 dX6_parses_46 rfl ?_
      refine ab_callV (a := 1) (c0 := 6) (d' := d) (mc' := 0) (ms' := 0) (vs := []) (st := []) dX6_parses_47 ⟨cw_X6_parseClause, w_342⟩ w_344 w_3 (by decide) (hl15.sh 1 rfl (by decide) (by decide)).1 (hl15.sh 1 rfl (by decide) (by decide)).2 rfl rfl (Nat.le_of_ble_eq_true rfl) (Nat.le_refl _) (Nat.zero_le _) (Nat.zero_le _) (AM.mono h (fun r M17 ⟨hr19, hc20, h⟩ => ?_))
      subst hr19
      refine ab_rv ?_
      have hm21 : Sm M M17 := hm14.trans hc20
      have hl22 := hL.of hm21
      obtain ⟨x23, hx23⟩ : ∃ y : Int32, y = v1 + (1 : Int32) := ⟨_, rfl⟩
      have h := h x23 hx23
      refine ab_iinc (v := x23) 1 (lv1 := [(1, .int x23), (0, .ref 1)]) dX6_parses_50 rfl (by rw [hx23]; rfl) (by decide) rfl ?_
      refine ab_goto (tgt := 21) dX6_parses_53 (by decide) ?_
      exact ab_sub [1, 0] rfl h
theorem dX6_parseEither_0 : decode cX6_parseEither 0 = .ok (.aload_n 0, 1) := by decide +kernel
theorem dX6_parseEither_1 : decode cX6_parseEither 1 = .ok (.iload_n 1, 1) := by decide +kernel
theorem dX6_parseEither_2 : decode cX6_parseEither 2 = .ok (.invokevirtual 67, 3) := by decide +kernel
theorem dX6_parseEither_5 : decode cX6_parseEither 5 = .ok (.iconst 0, 1) := by decide +kernel
theorem dX6_parseEither_6 : decode cX6_parseEither 6 = .ok (.istore_n 2, 1) := by decide +kernel
theorem dX6_parseEither_7 : decode cX6_parseEither 7 = .ok (.iload_n 2, 1) := by decide +kernel
theorem dX6_parseEither_8 : decode cX6_parseEither 8 = .ok (.bipush 100, 2) := by decide +kernel
theorem dX6_parseEither_10 : decode cX6_parseEither 10 = .ok (.if_icmp .ge 41, 3) := by decide +kernel
theorem dX6_parseEither_13 : decode cX6_parseEither 13 = .ok (.aload_n 0, 1) := by decide +kernel
theorem dX6_parseEither_14 : decode cX6_parseEither 14 = .ok (.bipush 124, 2) := by decide +kernel
theorem dX6_parseEither_16 : decode cX6_parseEither 16 = .ok (.invokevirtual 35, 3) := by decide +kernel
theorem dX6_parseEither_19 : decode cX6_parseEither 19 = .ok (.ifCond .eq 32, 3) := by decide +kernel
theorem dX6_parseEither_22 : decode cX6_parseEither 22 = .ok (.aload_n 0, 1) := by decide +kernel
theorem dX6_parseEither_23 : decode cX6_parseEither 23 = .ok (.dup, 1) := by decide +kernel
theorem dX6_parseEither_24 : decode cX6_parseEither 24 = .ok (.getfield 25, 3) := by decide +kernel
theorem dX6_parseEither_27 : decode cX6_parseEither 27 = .ok (.iconst 1, 1) := by decide +kernel
theorem dX6_parseEither_28 : decode cX6_parseEither 28 = .ok (.iadd, 1) := by decide +kernel
theorem dX6_parseEither_29 : decode cX6_parseEither 29 = .ok (.putfield 25, 3) := by decide +kernel
theorem dX6_parseEither_32 : decode cX6_parseEither 32 = .ok (.aload_n 0, 1) := by decide +kernel
theorem dX6_parseEither_33 : decode cX6_parseEither 33 = .ok (.iload_n 1, 1) := by decide +kernel
theorem dX6_parseEither_34 : decode cX6_parseEither 34 = .ok (.invokevirtual 67, 3) := by decide +kernel
theorem dX6_parseEither_37 : decode cX6_parseEither 37 = .ok (.aload_n 0, 1) := by decide +kernel
theorem dX6_parseEither_38 : decode cX6_parseEither 38 = .ok (.iconst 4, 1) := by decide +kernel
theorem dX6_parseEither_39 : decode cX6_parseEither 39 = .ok (.iconst 0, 1) := by decide +kernel
theorem dX6_parseEither_40 : decode cX6_parseEither 40 = .ok (.iconst 0, 1) := by decide +kernel
theorem dX6_parseEither_41 : decode cX6_parseEither 41 = .ok (.iconst 0, 1) := by decide +kernel
theorem dX6_parseEither_42 : decode cX6_parseEither 42 = .ok (.invokevirtual 63, 3) := by decide +kernel
theorem dX6_parseEither_45 : decode cX6_parseEither 45 = .ok (.iinc 2 1, 3) := by decide +kernel
theorem dX6_parseEither_48 : decode cX6_parseEither 48 = .ok (.goto (-41), 3) := by decide +kernel
theorem dX6_parseEither_51 : decode cX6_parseEither 51 = .ok (.return_, 1) := by decide +kernel
def LX6_parseEither_7 (D : GD) (d : Nat) (v1 : Int32) (v2 : Int32) (M : Mm) (post : Option Value → Mm → Prop) : Prop := AW D (d + 1) 0 0 mX6_parseEither 0 0 7 [(0, .ref 1), (1, .int v1), (2, .int v2)] [] M post
set_option maxRecDepth 20000 in
theorem rX6_parseEither (D : GD) (d : Nat) (a1 : Int32) (M : Mm) (post : Option Value → Mm → Prop) (hL : Lay 1 4 M) 
    (h : AMv D d mX6_parseBoth [.ref 1, .int a1] M (fun M1 => LX6_parseEither_7 D d a1 (0 : Int32) M1 post)) :
    AM D (d + 1) 0 0 mX6_parseEither [.ref 1, .int a1] M post := by
  refine AM.of (by decide) (Nat.le_of_ble_eq_true rfl) ?_
  show AW D (d + 1) 0 0 mX6_parseEither 0 0 0 [(0, .ref 1), (1, .int a1)] [] M post
  refine ab_aload_n 0 dX6_parseEither_0 rfl ?_
  refine ab_iload_n 1 dX6_parseEither_1 rfl ?_
  refine ab_callV (a := 1) (c0 := 6) (d' := d) (mc' := 0) (ms' := 0) (vs := [.int a1]) (st := []) dX6_parseEither_2 ⟨cw_X6_parseBoth, w_422⟩ w_424 w_10 (by decide) (hL.sh 1 rfl (by decide) (by decide)).1 (hL.sh 1 rfl (by decide) (by decide)).2 rfl rfl (Nat.le_of_ble_eq_true rfl) (Nat.le_refl _) (Nat.zero_le _) (Nat.zero_le _) (AM.mono h (fun r M1 ⟨hr3, hc4, h⟩ => ?_))
  subst hr3
  refine ab_rv ?_
  have hm5 : Sm M M1 := (Sm.refl M).trans hc4
  have hl6 := hL.of hm5
  refine ab_iconst (v := 0) dX6_parseEither_5 (by decide) ?_
  refine ab_istore_n (lv1 := [(2, .int (0 : Int32)), (0, .ref 1), (1, .int a1)]) dX6_parseEither_6 (by decide) rfl ?_
  exact ab_sub [1, 2, 0] rfl h
set_option maxRecDepth 20000 in
theorem rX6_parseEither_7 (D : GD) (d : Nat)  (v1 : Int32) (v2 : Int32) (M : Mm) (post : Option Value → Mm → Prop) (hL : Lay 1 4 M) 
    (h : (((100 : Int32) ≤ v2 → post none M) ∧ (¬ (100 : Int32) ≤ v2 → AMi D d mX6_sees [.ref 1, .int (124 : Int32)] M (fun x3 M2 => ((x3 = 0 → post none M2) ∧ (¬ x3 = 0 → ∀ M9 : Mm, M9 = sI M2 1 4 ((gI M2 1 4) + (1 : Int32)) → AMv D d mX6_parseBoth [.ref 1, .int v1] M9 (fun M13 => AMv D d mX6_make [.ref 1, .int (4 : Int32), .int (0 : Int32), .int (0 : Int32), .int (0 : Int32)] M13 (fun M19 => ∀ x25 : Int32, x25 = v2 + (1 : Int32) → LX6_parseEither_7 D d v1 x25 M19 post)))))))) :
    LX6_parseEither_7 D d v1 v2 M post := by
  show AW D (d + 1) 0 0 mX6_parseEither 0 0 7 [(0, .ref 1), (1, .int v1), (2, .int v2)] [] M post
  refine ab_iload_n 2 dX6_parseEither_7 rfl ?_
  refine ab_bipush (v := 100) dX6_parseEither_8 (by decide) ?_
  refine ab_icmp_ge (tgt := 51) dX6_parseEither_10 (by decide) (fun c1 => ?_) (fun c1 => ?_)
  · have h := h.1 c1
    exact ab_vret dX6_parseEither_51 rfl h
  · have h := h.2 c1
    refine ab_aload_n 0 dX6_parseEither_13 rfl ?_
    refine ab_bipush (v := 124) dX6_parseEither_14 (by decide) ?_
    refine ab_callV (a := 1) (c0 := 6) (d' := d) (mc' := 0) (ms' := 0) (vs := [.int (124 : Int32)]) (st := []) dX6_parseEither_16 ⟨cw_X6_sees, w_346⟩ w_348 w_4 (by decide) (hL.sh 1 rfl (by decide) (by decide)).1 (hL.sh 1 rfl (by decide) (by decide)).2 rfl rfl (Nat.le_of_ble_eq_true rfl) (Nat.le_refl _) (Nat.zero_le _) (Nat.zero_le _) (AM.mono h (fun r M2 ⟨x3, hr4, hc5, h⟩ => ?_))
    subst hr4
    refine ab_rs ?_
    have hm6 : Sm M M2 := (Sm.refl M).trans hc5
    have hl7 := hL.of hm6
    refine ab_if_eq (tgt := 51) dX6_parseEither_19 (by decide) (fun c8 => ?_) (fun c8 => ?_)
    · have h := h.1 c8
      exact ab_vret dX6_parseEither_51 rfl h
    · have h := h.2 c8
      refine ab_aload_n 0 dX6_parseEither_22 rfl ?_
      refine ab_dup dX6_parseEither_23 rfl ?_
      refine ab_getI dX6_parseEither_24 fs_6_25_6 rfl (hl7.sh 1 rfl (by decide) (by decide)).1 (hl7.sh 1 rfl (by decide) (by decide)).2 ?_
      refine ab_iconst (v := 1) dX6_parseEither_27 (by decide) ?_
      refine ab_iadd dX6_parseEither_28 ?_
      refine ab_putI dX6_parseEither_29 fs_6_25_6 rfl rfl (hl7.sh 1 rfl (by decide) (by decide)).1 (hl7.sh 1 rfl (by decide) (by decide)).2 ?_
      refine ab_nameM (fun M9 hM9 => ?_)
      have h := h M9 hM9
      have hs12 : Sm M2 M9 := hM9 ▸ (Sm.refl _).i
      have hm10 : Sm M M9 := hm6.trans hs12
      have hl11 := hL.of hm10
      refine ab_aload_n 0 dX6_parseEither_32 rfl ?_
      refine ab_iload_n 1 dX6_parseEither_33 rfl ?_
      refine ab_callV (a := 1) (c0 := 6) (d' := d) (mc' := 0) (ms' := 0) (vs := [.int v1]) (st := []) dX6_parseEither_34 ⟨cw_X6_parseBoth, w_422⟩ w_424 w_10 (by decide) (hl11.sh 1 rfl (by decide) (by decide)).1 (hl11.sh 1 rfl (by decide) (by decide)).2 rfl rfl (Nat.le_of_ble_eq_true rfl) (Nat.le_refl _) (Nat.zero_le _) (Nat.zero_le _) (AM.mono h (fun r M13 ⟨hr15, hc16, h⟩ => ?_))
      subst hr15
      refine ab_rv ?_
      have hm17 : Sm M M13 := hm10.trans hc16
      have hl18 := hL.of hm17
      refine ab_aload_n 0 dX6_parseEither_37 rfl ?_
      refine ab_iconst (v := 4) dX6_parseEither_38 (by decide) ?_
      refine ab_iconst (v := 0) dX6_parseEither_39 (by decide) ?_
      refine ab_iconst (v := 0) dX6_parseEither_40 (by decide) ?_
      refine ab_iconst (v := 0) dX6_parseEither_41 (by decide) ?_
      refine ab_callV (a := 1) (c0 := 6) (d' := d) (mc' := 0) (ms' := 0) (vs := [.int (4 : Int32), .int (0 : Int32), .int (0 : Int32), .int (0 : Int32)]) (st := []) dX6_parseEither_42 ⟨cw_X6_make, w_430⟩ w_432 w_12 (by decide) (hl18.sh 1 rfl (by decide) (by decide)).1 (hl18.sh 1 rfl (by decide) (by decide)).2 rfl rfl (Nat.le_of_ble_eq_true rfl) (Nat.le_refl _) (Nat.zero_le _) (Nat.zero_le _) (AM.mono h (fun r M19 ⟨hr21, hc22, h⟩ => ?_))
      subst hr21
      refine ab_rv ?_
      have hm23 : Sm M M19 := hm17.trans hc22
      have hl24 := hL.of hm23
      obtain ⟨x25, hx25⟩ : ∃ y : Int32, y = v2 + (1 : Int32) := ⟨_, rfl⟩
      have h := h x25 hx25
      refine ab_iinc (v := x25) 2 (lv1 := [(2, .int x25), (0, .ref 1), (1, .int v1)]) dX6_parseEither_45 rfl (by rw [hx25]; rfl) (by decide) rfl ?_
      refine ab_goto (tgt := 7) dX6_parseEither_48 (by decide) ?_
      exact ab_sub [1, 2, 0] rfl h
theorem dX6_parseBoth_0 : decode cX6_parseBoth 0 = .ok (.aload_n 0, 1) := by decide +kernel
theorem dX6_parseBoth_1 : decode cX6_parseBoth 1 = .ok (.iload_n 1, 1) := by decide +kernel
theorem dX6_parseBoth_2 : decode cX6_parseBoth 2 = .ok (.invokevirtual 70, 3) := by decide +kernel
theorem dX6_parseBoth_5 : decode cX6_parseBoth 5 = .ok (.iconst 0, 1) := by decide +kernel
theorem dX6_parseBoth_6 : decode cX6_parseBoth 6 = .ok (.istore_n 2, 1) := by decide +kernel
theorem dX6_parseBoth_7 : decode cX6_parseBoth 7 = .ok (.iload_n 2, 1) := by decide +kernel
theorem dX6_parseBoth_8 : decode cX6_parseBoth 8 = .ok (.bipush 100, 2) := by decide +kernel
theorem dX6_parseBoth_10 : decode cX6_parseBoth 10 = .ok (.if_icmp .ge 41, 3) := by decide +kernel
theorem dX6_parseBoth_13 : decode cX6_parseBoth 13 = .ok (.aload_n 0, 1) := by decide +kernel
theorem dX6_parseBoth_14 : decode cX6_parseBoth 14 = .ok (.bipush 38, 2) := by decide +kernel
theorem dX6_parseBoth_16 : decode cX6_parseBoth 16 = .ok (.invokevirtual 35, 3) := by decide +kernel
theorem dX6_parseBoth_19 : decode cX6_parseBoth 19 = .ok (.ifCond .eq 32, 3) := by decide +kernel
theorem dX6_parseBoth_22 : decode cX6_parseBoth 22 = .ok (.aload_n 0, 1) := by decide +kernel
theorem dX6_parseBoth_23 : decode cX6_parseBoth 23 = .ok (.dup, 1) := by decide +kernel
theorem dX6_parseBoth_24 : decode cX6_parseBoth 24 = .ok (.getfield 25, 3) := by decide +kernel
theorem dX6_parseBoth_27 : decode cX6_parseBoth 27 = .ok (.iconst 1, 1) := by decide +kernel
theorem dX6_parseBoth_28 : decode cX6_parseBoth 28 = .ok (.iadd, 1) := by decide +kernel
theorem dX6_parseBoth_29 : decode cX6_parseBoth 29 = .ok (.putfield 25, 3) := by decide +kernel
theorem dX6_parseBoth_32 : decode cX6_parseBoth 32 = .ok (.aload_n 0, 1) := by decide +kernel
theorem dX6_parseBoth_33 : decode cX6_parseBoth 33 = .ok (.iload_n 1, 1) := by decide +kernel
theorem dX6_parseBoth_34 : decode cX6_parseBoth 34 = .ok (.invokevirtual 70, 3) := by decide +kernel
theorem dX6_parseBoth_37 : decode cX6_parseBoth 37 = .ok (.aload_n 0, 1) := by decide +kernel
theorem dX6_parseBoth_38 : decode cX6_parseBoth 38 = .ok (.iconst 3, 1) := by decide +kernel
theorem dX6_parseBoth_39 : decode cX6_parseBoth 39 = .ok (.iconst 0, 1) := by decide +kernel
theorem dX6_parseBoth_40 : decode cX6_parseBoth 40 = .ok (.iconst 0, 1) := by decide +kernel
theorem dX6_parseBoth_41 : decode cX6_parseBoth 41 = .ok (.iconst 0, 1) := by decide +kernel
theorem dX6_parseBoth_42 : decode cX6_parseBoth 42 = .ok (.invokevirtual 63, 3) := by decide +kernel
theorem dX6_parseBoth_45 : decode cX6_parseBoth 45 = .ok (.iinc 2 1, 3) := by decide +kernel
theorem dX6_parseBoth_48 : decode cX6_parseBoth 48 = .ok (.goto (-41), 3) := by decide +kernel
theorem dX6_parseBoth_51 : decode cX6_parseBoth 51 = .ok (.return_, 1) := by decide +kernel
def LX6_parseBoth_7 (D : GD) (d : Nat) (v1 : Int32) (v2 : Int32) (M : Mm) (post : Option Value → Mm → Prop) : Prop := AW D (d + 1) 0 0 mX6_parseBoth 0 0 7 [(0, .ref 1), (1, .int v1), (2, .int v2)] [] M post
set_option maxRecDepth 20000 in
theorem rX6_parseBoth (D : GD) (d : Nat) (a1 : Int32) (M : Mm) (post : Option Value → Mm → Prop) (hL : Lay 1 4 M) 
    (h : AMv D d mX6_parseSingle [.ref 1, .int a1] M (fun M1 => LX6_parseBoth_7 D d a1 (0 : Int32) M1 post)) :
    AM D (d + 1) 0 0 mX6_parseBoth [.ref 1, .int a1] M post := by
  refine AM.of (by decide) (Nat.le_of_ble_eq_true rfl) ?_
  show AW D (d + 1) 0 0 mX6_parseBoth 0 0 0 [(0, .ref 1), (1, .int a1)] [] M post
  refine ab_aload_n 0 dX6_parseBoth_0 rfl ?_
  refine ab_iload_n 1 dX6_parseBoth_1 rfl ?_
  refine ab_callV (a := 1) (c0 := 6) (d' := d) (mc' := 0) (ms' := 0) (vs := [.int a1]) (st := []) dX6_parseBoth_2 ⟨cw_X6_parseSingle, w_426⟩ w_428 w_11 (by decide) (hL.sh 1 rfl (by decide) (by decide)).1 (hL.sh 1 rfl (by decide) (by decide)).2 rfl rfl (Nat.le_of_ble_eq_true rfl) (Nat.le_refl _) (Nat.zero_le _) (Nat.zero_le _) (AM.mono h (fun r M1 ⟨hr3, hc4, h⟩ => ?_))
  subst hr3
  refine ab_rv ?_
  have hm5 : Sm M M1 := (Sm.refl M).trans hc4
  have hl6 := hL.of hm5
  refine ab_iconst (v := 0) dX6_parseBoth_5 (by decide) ?_
  refine ab_istore_n (lv1 := [(2, .int (0 : Int32)), (0, .ref 1), (1, .int a1)]) dX6_parseBoth_6 (by decide) rfl ?_
  exact ab_sub [1, 2, 0] rfl h
set_option maxRecDepth 20000 in
theorem rX6_parseBoth_7 (D : GD) (d : Nat)  (v1 : Int32) (v2 : Int32) (M : Mm) (post : Option Value → Mm → Prop) (hL : Lay 1 4 M) 
    (h : (((100 : Int32) ≤ v2 → post none M) ∧ (¬ (100 : Int32) ≤ v2 → AMi D d mX6_sees [.ref 1, .int (38 : Int32)] M (fun x3 M2 => ((x3 = 0 → post none M2) ∧ (¬ x3 = 0 → ∀ M9 : Mm, M9 = sI M2 1 4 ((gI M2 1 4) + (1 : Int32)) → AMv D d mX6_parseSingle [.ref 1, .int v1] M9 (fun M13 => AMv D d mX6_make [.ref 1, .int (3 : Int32), .int (0 : Int32), .int (0 : Int32), .int (0 : Int32)] M13 (fun M19 => ∀ x25 : Int32, x25 = v2 + (1 : Int32) → LX6_parseBoth_7 D d v1 x25 M19 post)))))))) :
    LX6_parseBoth_7 D d v1 v2 M post := by
  show AW D (d + 1) 0 0 mX6_parseBoth 0 0 7 [(0, .ref 1), (1, .int v1), (2, .int v2)] [] M post
  refine ab_iload_n 2 dX6_parseBoth_7 rfl ?_
  refine ab_bipush (v := 100) dX6_parseBoth_8 (by decide) ?_
  refine ab_icmp_ge (tgt := 51) dX6_parseBoth_10 (by decide) (fun c1 => ?_) (fun c1 => ?_)
  · have h := h.1 c1
    exact ab_vret dX6_parseBoth_51 rfl h
  · have h := h.2 c1
    refine ab_aload_n 0 dX6_parseBoth_13 rfl ?_
    refine ab_bipush (v := 38) dX6_parseBoth_14 (by decide) ?_
    refine ab_callV (a := 1) (c0 := 6) (d' := d) (mc' := 0) (ms' := 0) (vs := [.int (38 : Int32)]) (st := []) dX6_parseBoth_16 ⟨cw_X6_sees, w_346⟩ w_348 w_4 (by decide) (hL.sh 1 rfl (by decide) (by decide)).1 (hL.sh 1 rfl (by decide) (by decide)).2 rfl rfl (Nat.le_of_ble_eq_true rfl) (Nat.le_refl _) (Nat.zero_le _) (Nat.zero_le _) (AM.mono h (fun r M2 ⟨x3, hr4, hc5, h⟩ => ?_))
    subst hr4
    refine ab_rs ?_
    have hm6 : Sm M M2 := (Sm.refl M).trans hc5
    have hl7 := hL.of hm6
    refine ab_if_eq (tgt := 51) dX6_parseBoth_19 (by decide) (fun c8 => ?_) (fun c8 => ?_)
    · have h := h.1 c8
      exact ab_vret dX6_parseBoth_51 rfl h
    · have h := h.2 c8
      refine ab_aload_n 0 dX6_parseBoth_22 rfl ?_
      refine ab_dup dX6_parseBoth_23 rfl ?_
      refine ab_getI dX6_parseBoth_24 fs_6_25_6 rfl (hl7.sh 1 rfl (by decide) (by decide)).1 (hl7.sh 1 rfl (by decide) (by decide)).2 ?_
      refine ab_iconst (v := 1) dX6_parseBoth_27 (by decide) ?_
      refine ab_iadd dX6_parseBoth_28 ?_
      refine ab_putI dX6_parseBoth_29 fs_6_25_6 rfl rfl (hl7.sh 1 rfl (by decide) (by decide)).1 (hl7.sh 1 rfl (by decide) (by decide)).2 ?_
      refine ab_nameM (fun M9 hM9 => ?_)
      have h := h M9 hM9
      have hs12 : Sm M2 M9 := hM9 ▸ (Sm.refl _).i
      have hm10 : Sm M M9 := hm6.trans hs12
      have hl11 := hL.of hm10
      refine ab_aload_n 0 dX6_parseBoth_32 rfl ?_
      refine ab_iload_n 1 dX6_parseBoth_33 rfl ?_
      refine ab_callV (a := 1) (c0 := 6) (d' := d) (mc' := 0) (ms' := 0) (vs := [.int v1]) (st := []) dX6_parseBoth_34 ⟨cw_X6_parseSingle, w_426⟩ w_428 w_11 (by decide) (hl11.sh 1 rfl (by decide) (by decide)).1 (hl11.sh 1 rfl (by decide) (by decide)).2 rfl rfl (Nat.le_of_ble_eq_true rfl) (Nat.le_refl _) (Nat.zero_le _) (Nat.zero_le _) (AM.mono h (fun r M13 ⟨hr15, hc16, h⟩ => ?_))
      subst hr15
      refine ab_rv ?_
      have hm17 : Sm M M13 := hm10.trans hc16
      have hl18 := hL.of hm17
      refine ab_aload_n 0 dX6_parseBoth_37 rfl ?_
      refine ab_iconst (v := 3) dX6_parseBoth_38 (by decide) ?_
      refine ab_iconst (v := 0) dX6_parseBoth_39 (by decide) ?_
      refine ab_iconst (v := 0) dX6_parseBoth_40 (by decide) ?_
      refine ab_iconst (v := 0) dX6_parseBoth_41 (by decide) ?_
      refine ab_callV (a := 1) (c0 := 6) (d' := d) (mc' := 0) (ms' := 0) (vs := [.int (3 : Int32), .int (0 : Int32), .int (0 : Int32), .int (0 : Int32)]) (st := []) dX6_parseBoth_42 ⟨cw_X6_make, w_430⟩ w_432 w_12 (by decide) (hl18.sh 1 rfl (by decide) (by decide)).1 (hl18.sh 1 rfl (by decide) (by decide)).2 rfl rfl (Nat.le_of_ble_eq_true rfl) (Nat.le_refl _) (Nat.zero_le _) (Nat.zero_le _) (AM.mono h (fun r M19 ⟨hr21, hc22, h⟩ => ?_))
      subst hr21
      refine ab_rv ?_
      have hm23 : Sm M M19 := hm17.trans hc22
      have hl24 := hL.of hm23
      obtain ⟨x25, hx25⟩ : ∃ y : Int32, y = v2 + (1 : Int32) := ⟨_, rfl⟩
      have h := h x25 hx25
      refine ab_iinc (v := x25) 2 (lv1 := [(2, .int x25), (0, .ref 1), (1, .int v1)]) dX6_parseBoth_45 rfl (by rw [hx25]; rfl) (by decide) rfl ?_
      refine ab_goto (tgt := 7) dX6_parseBoth_48 (by decide) ?_
      exact ab_sub [1, 2, 0] rfl h
theorem dX6_sees_0 : decode cX6_sees 0 = .ok (.aload_n 0, 1) := by decide +kernel
theorem dX6_sees_1 : decode cX6_sees 1 = .ok (.getfield 28, 3) := by decide +kernel
theorem dX6_sees_4 : decode cX6_sees 4 = .ok (.ifCond .ne 31, 3) := by decide +kernel
theorem dX6_sees_7 : decode cX6_sees 7 = .ok (.aload_n 0, 1) := by decide +kernel
theorem dX6_sees_8 : decode cX6_sees 8 = .ok (.getfield 25, 3) := by decide +kernel
theorem dX6_sees_11 : decode cX6_sees 11 = .ok (.aload_n 0, 1) := by decide +kernel
theorem dX6_sees_12 : decode cX6_sees 12 = .ok (.getfield 18, 3) := by decide +kernel
theorem dX6_sees_15 : decode cX6_sees 15 = .ok (.if_icmp .ge 20, 3) := by decide +kernel
theorem dX6_sees_18 : decode cX6_sees 18 = .ok (.aload_n 0, 1) := by decide +kernel
theorem dX6_sees_19 : decode cX6_sees 19 = .ok (.getfield 9, 3) := by decide +kernel
theorem dX6_sees_22 : decode cX6_sees 22 = .ok (.aload_n 0, 1) := by decide +kernel
theorem dX6_sees_23 : decode cX6_sees 23 = .ok (.getfield 25, 3) := by decide +kernel
theorem dX6_sees_26 : decode cX6_sees 26 = .ok (.iaload, 1) := by decide +kernel
theorem dX6_sees_27 : decode cX6_sees 27 = .ok (.iload_n 1, 1) := by decide +kernel
theorem dX6_sees_28 : decode cX6_sees 28 = .ok (.if_icmp .ne 7, 3) := by decide +kernel
theorem dX6_sees_31 : decode cX6_sees 31 = .ok (.iconst 1, 1) := by decide +kernel
theorem dX6_sees_32 : decode cX6_sees 32 = .ok (.goto 4, 3) := by decide +kernel
theorem dX6_sees_35 : decode cX6_sees 35 = .ok (.iconst 0, 1) := by decide +kernel
theorem dX6_sees_36 : decode cX6_sees 36 = .ok (.ireturn, 1) := by decide +kernel
set_option maxRecDepth 20000 in
theorem rX6_sees (D : GD) (d : Nat) (a1 : Int32) (M : Mm) (post : Option Value → Mm → Prop) (hL : Lay 1 4 M) 
    (h : ((¬ (gI M 1 5) = 0 → post (some (.int (0 : Int32))) M) ∧ ((gI M 1 5) = 0 → (((gI M 1 2) ≤ (gI M 1 4) → post (some (.int (0 : Int32))) M) ∧ (¬ (gI M 1 2) ≤ (gI M 1 4) → vp_in (gI M 1 4) 100 ∧ ((¬ (gI M 2 ((gI M 1 4).toNatClampNeg)) = a1 → post (some (.int (0 : Int32))) M) ∧ ((gI M 2 ((gI M 1 4).toNatClampNeg)) = a1 → post (some (.int (1 : Int32))) M))))))) :
    AM D d 0 0 mX6_sees [.ref 1, .int a1] M post := by
  refine AM.of (by decide) (Nat.le_of_ble_eq_true rfl) ?_
  show AW D d 0 0 mX6_sees 0 0 0 [(0, .ref 1), (1, .int a1)] [] M post
  refine ab_aload_n 0 dX6_sees_0 rfl ?_
  refine ab_getI dX6_sees_1 fs_6_28_6 rfl (hL.sh 1 rfl (by decide) (by decide)).1 (hL.sh 1 rfl (by decide) (by decide)).2 ?_
  refine ab_if_ne (tgt := 35) dX6_sees_4 (by decide) (fun c1 => ?_) (fun c1 => ?_)
  · have h := h.1 c1
    refine ab_iconst (v := 0) dX6_sees_35 (by decide) ?_
    exact ab_zret dX6_sees_36 rfl rfl h
  · have h := h.2 c1
    refine ab_aload_n 0 dX6_sees_7 rfl ?_
    refine ab_getI dX6_sees_8 fs_6_25_6 rfl (hL.sh 1 rfl (by decide) (by decide)).1 (hL.sh 1 rfl (by decide) (by decide)).2 ?_
    refine ab_aload_n 0 dX6_sees_11 rfl ?_
    refine ab_getI dX6_sees_12 fs_6_18_6 rfl (hL.sh 1 rfl (by decide) (by decide)).1 (hL.sh 1 rfl (by decide) (by decide)).2 ?_
    refine ab_icmp_ge (tgt := 35) dX6_sees_15 (by decide) (fun c2 => ?_) (fun c2 => ?_)
    · have h := h.1 c2
      refine ab_iconst (v := 0) dX6_sees_35 (by decide) ?_
      exact ab_zret dX6_sees_36 rfl rfl h
    · have h := h.2 c2
      refine ab_aload_n 0 dX6_sees_18 rfl ?_
      refine ab_getP (r := 2) dX6_sees_19 fs_6_9_6 rfl (hL.sh 1 rfl (by decide) (by decide)).1 (hL.sh 1 rfl (by decide) (by decide)).2 (hL.pt 13 rfl (by decide) (by decide)) ?_
      refine ab_aload_n 0 dX6_sees_22 rfl ?_
      refine ab_getI dX6_sees_23 fs_6_25_6 rfl (hL.sh 1 rfl (by decide) (by decide)).1 (hL.sh 1 rfl (by decide) (by decide)).2 ?_
      have hb3 := h.1
      have h := h.2
      refine ab_ialdj (j := (gI M 1 4).toNatClampNeg) dX6_sees_26 (hL.sh 2 rfl (by decide) (by decide)) hb3 rfl ?_
      refine ab_iload_n 1 dX6_sees_27 rfl ?_
      refine ab_icmp_ne (tgt := 35) dX6_sees_28 (by decide) (fun c4 => ?_) (fun c4 => ?_)
      · have h := h.1 c4
        refine ab_iconst (v := 0) dX6_sees_35 (by decide) ?_
        exact ab_zret dX6_sees_36 rfl rfl h
      · have h := h.2 c4
        refine ab_iconst (v := 1) dX6_sees_31 (by decide) ?_
        refine ab_goto (tgt := 36) dX6_sees_32 (by decide) ?_
        exact ab_zret dX6_sees_36 rfl rfl h
theorem dX6_passNumber_0 : decode cX6_passNumber 0 = .ok (.aload_n 0, 1) := by decide +kernel
theorem dX6_passNumber_1 : decode cX6_passNumber 1 = .ok (.getfield 25, 3) := by decide +kernel
theorem dX6_passNumber_4 : decode cX6_passNumber 4 = .ok (.istore_n 1, 1) := by decide +kernel
theorem dX6_passNumber_5 : decode cX6_passNumber 5 = .ok (.iconst 0, 1) := by decide +kernel
theorem dX6_passNumber_6 : decode cX6_passNumber 6 = .ok (.istore_n 2, 1) := by decide +kernel
theorem dX6_passNumber_7 : decode cX6_passNumber 7 = .ok (.iconst 0, 1) := by decide +kernel
theorem dX6_passNumber_8 : decode cX6_passNumber 8 = .ok (.istore_n 3, 1) := by decide +kernel
theorem dX6_passNumber_9 : decode cX6_passNumber 9 = .ok (.iload_n 3, 1) := by decide +kernel
theorem dX6_passNumber_10 : decode cX6_passNumber 10 = .ok (.iconst 2, 1) := by decide +kernel
theorem dX6_passNumber_11 : decode cX6_passNumber 11 = .ok (.if_icmp .ge 44, 3) := by decide +kernel
theorem dX6_passNumber_14 : decode cX6_passNumber 14 = .ok (.aload_n 0, 1) := by decide +kernel
theorem dX6_passNumber_15 : decode cX6_passNumber 15 = .ok (.invokevirtual 87, 3) := by decide +kernel
theorem dX6_passNumber_18 : decode cX6_passNumber 18 = .ok (.ifCond .eq 37, 3) := by decide +kernel
theorem dX6_passNumber_21 : decode cX6_passNumber 21 = .ok (.iload_n 2, 1) := by decide +kernel
theorem dX6_passNumber_22 : decode cX6_passNumber 22 = .ok (.bipush 10, 2) := by decide +kernel
theorem dX6_passNumber_24 : decode cX6_passNumber 24 = .ok (.imul, 1) := by decide +kernel
theorem dX6_passNumber_25 : decode cX6_passNumber 25 = .ok (.aload_n 0, 1) := by decide +kernel
theorem dX6_passNumber_26 : decode cX6_passNumber 26 = .ok (.getfield 9, 3) := by decide +kernel
theorem dX6_passNumber_29 : decode cX6_passNumber 29 = .ok (.aload_n 0, 1) := by decide +kernel
theorem dX6_passNumber_30 : decode cX6_passNumber 30 = .ok (.getfield 25, 3) := by decide +kernel
theorem dX6_passNumber_33 : decode cX6_passNumber 33 = .ok (.iaload, 1) := by decide +kernel
theorem dX6_passNumber_34 : decode cX6_passNumber 34 = .ok (.bipush 48, 2) := by decide +kernel
theorem dX6_passNumber_36 : decode cX6_passNumber 36 = .ok (.isub, 1) := by decide +kernel
theorem dX6_passNumber_37 : decode cX6_passNumber 37 = .ok (.iadd, 1) := by decide +kernel
theorem dX6_passNumber_38 : decode cX6_passNumber 38 = .ok (.istore_n 2, 1) := by decide +kernel
theorem dX6_passNumber_39 : decode cX6_passNumber 39 = .ok (.aload_n 0, 1) := by decide +kernel
theorem dX6_passNumber_40 : decode cX6_passNumber 40 = .ok (.dup, 1) := by decide +kernel
theorem dX6_passNumber_41 : decode cX6_passNumber 41 = .ok (.getfield 25, 3) := by decide +kernel
theorem dX6_passNumber_44 : decode cX6_passNumber 44 = .ok (.iconst 1, 1) := by decide +kernel
theorem dX6_passNumber_45 : decode cX6_passNumber 45 = .ok (.iadd, 1) := by decide +kernel
theorem dX6_passNumber_46 : decode cX6_passNumber 46 = .ok (.putfield 25, 3) := by decide +kernel
theorem dX6_passNumber_49 : decode cX6_passNumber 49 = .ok (.iinc 3 1, 3) := by decide +kernel
theorem dX6_passNumber_52 : decode cX6_passNumber 52 = .ok (.goto (-43), 3) := by decide +kernel
theorem dX6_passNumber_55 : decode cX6_passNumber 55 = .ok (.aload_n 0, 1) := by decide +kernel
theorem dX6_passNumber_56 : decode cX6_passNumber 56 = .ok (.aload_n 0, 1) := by decide +kernel
theorem dX6_passNumber_57 : decode cX6_passNumber 57 = .ok (.getfield 28, 3) := by decide +kernel
theorem dX6_passNumber_60 : decode cX6_passNumber 60 = .ok (.ifCond .ne 11, 3) := by decide +kernel
theorem dX6_passNumber_63 : decode cX6_passNumber 63 = .ok (.aload_n 0, 1) := by decide +kernel
theorem dX6_passNumber_64 : decode cX6_passNumber 64 = .ok (.getfield 25, 3) := by decide +kernel
theorem dX6_passNumber_67 : decode cX6_passNumber 67 = .ok (.iload_n 1, 1) := by decide +kernel
theorem dX6_passNumber_68 : decode cX6_passNumber 68 = .ok (.if_icmp .ne 7, 3) := by decide +kernel
theorem dX6_passNumber_71 : decode cX6_passNumber 71 = .ok (.iconst 1, 1) := by decide +kernel
theorem dX6_passNumber_72 : decode cX6_passNumber 72 = .ok (.goto 4, 3) := by decide +kernel
theorem dX6_passNumber_75 : decode cX6_passNumber 75 = .ok (.iconst 0, 1) := by decide +kernel
theorem dX6_passNumber_76 : decode cX6_passNumber 76 = .ok (.putfield 28, 3) := by decide +kernel
theorem dX6_passNumber_79 : decode cX6_passNumber 79 = .ok (.iload_n 2, 1) := by decide +kernel
theorem dX6_passNumber_80 : decode cX6_passNumber 80 = .ok (.ireturn, 1) := by decide +kernel
def LX6_passNumber_9 (D : GD) (d : Nat) (v1 : Int32) (v2 : Int32) (v3 : Int32) (M : Mm) (post : Option Value → Mm → Prop) : Prop := AW D (d + 1) 0 0 mX6_passNumber 0 0 9 [(0, .ref 1), (1, .int v1), (2, .int v2), (3, .int v3)] [] M post
set_option maxRecDepth 20000 in
theorem rX6_passNumber (D : GD) (d : Nat)  (M : Mm) (post : Option Value → Mm → Prop) (hL : Lay 1 4 M) 
    (h : ∀ x1 : Int32, x1 = (gI M 1 4) → LX6_passNumber_9 D d x1 (0 : Int32) (0 : Int32) M post) :
    AM D (d + 1) 0 0 mX6_passNumber [.ref 1] M post := by
  refine AM.of (by decide) (Nat.le_of_ble_eq_true rfl) ?_
  show AW D (d + 1) 0 0 mX6_passNumber 0 0 0 [(0, .ref 1)] [] M post
  refine ab_aload_n 0 dX6_passNumber_0 rfl ?_
  refine ab_getI dX6_passNumber_1 fs_6_25_6 rfl (hL.sh 1 rfl (by decide) (by decide)).1 (hL.sh 1 rfl (by decide) (by decide)).2 ?_
  refine ab_topi (fun x1 hx1 => ?_)
  have h := h x1 hx1
  refine ab_istore_n (lv1 := [(1, .int x1), (0, .ref 1)]) dX6_passNumber_4 (by decide) rfl ?_
  refine ab_iconst (v := 0) dX6_passNumber_5 (by decide) ?_
  refine ab_istore_n (lv1 := [(2, .int (0 : Int32)), (1, .int x1), (0, .ref 1)]) dX6_passNumber_6 (by decide) rfl ?_
  refine ab_iconst (v := 0) dX6_passNumber_7 (by decide) ?_
  refine ab_istore_n (lv1 := [(3, .int (0 : Int32)), (2, .int (0 : Int32)), (1, .int x1), (0, .ref 1)]) dX6_passNumber_8 (by decide) rfl ?_
  exact ab_sub [3, 2, 1, 0] rfl h
set_option maxRecDepth 20000 in
theorem rX6_passNumber_9 (D : GD) (d : Nat)  (v1 : Int32) (v2 : Int32) (v3 : Int32) (M : Mm) (post : Option Value → Mm → Prop) (hL : Lay 1 4 M) 
    (h : (((2 : Int32) ≤ v3 → ((¬ (gI M 1 5) = 0 → ∀ M3 : Mm, M3 = sI M 1 5 (1 : Int32) → post (some (.int v2)) M3) ∧ ((gI M 1 5) = 0 → ((¬ (gI M 1 4) = v1 → ∀ M8 : Mm, M8 = sI M 1 5 (0 : Int32) → post (some (.int v2)) M8) ∧ ((gI M 1 4) = v1 → ∀ M12 : Mm, M12 = sI M 1 5 (1 : Int32) → post (some (.int v2)) M12))))) ∧ (¬ (2 : Int32) ≤ v3 → AMi D d mX6_seesFigure [.ref 1] M (fun x17 M16 => ((x17 = 0 → ((¬ (gI M16 1 5) = 0 → ∀ M24 : Mm, M24 = sI M16 1 5 (1 : Int32) → post (some (.int v2)) M24) ∧ ((gI M16 1 5) = 0 → ((¬ (gI M16 1 4) = v1 → ∀ M29 : Mm, M29 = sI M16 1 5 (0 : Int32) → post (some (.int v2)) M29) ∧ ((gI M16 1 4) = v1 → ∀ M33 : Mm, M33 = sI M16 1 5 (1 : Int32) → post (some (.int v2)) M33))))) ∧ (¬ x17 = 0 → vp_in (gI M16 1 4) 100 ∧ ∀ x38 : Int32, x38 = ((v2 * (10 : Int32)) + ((gI M16 2 ((gI M16 1 4).toNatClampNeg)) - (48 : Int32))) → ∀ M39 : Mm, M39 = sI M16 1 4 ((gI M16 1 4) + (1 : Int32)) → ∀ x43 : Int32, x43 = v3 + (1 : Int32) → LX6_passNumber_9 D d v1 x38 x43 M39 post)))))) :
    LX6_passNumber_9 D d v1 v2 v3 M post := by
  show AW D (d + 1) 0 0 mX6_passNumber 0 0 9 [(0, .ref 1), (1, .int v1), (2, .int v2), (3, .int v3)] [] M post
  refine ab_iload_n 3 dX6_passNumber_9 rfl ?_
  refine ab_iconst (v := 2) dX6_passNumber_10 (by decide) ?_
  refine ab_icmp_ge (tgt := 55) dX6_passNumber_11 (by decide) (fun c1 => ?_) (fun c1 => ?_)
  · have h := h.1 c1
    refine ab_aload_n 0 dX6_passNumber_55 rfl ?_
    refine ab_aload_n 0 dX6_passNumber_56 rfl ?_
    refine ab_getI dX6_passNumber_57 fs_6_28_6 rfl (hL.sh 1 rfl (by decide) (by decide)).1 (hL.sh 1 rfl (by decide) (by decide)).2 ?_
    refine ab_if_ne (tgt := 71) dX6_passNumber_60 (by decide) (fun c2 => ?_) (fun c2 => ?_)
    · have h := h.1 c2
      refine ab_iconst (v := 1) dX6_passNumber_71 (by decide) ?_
      refine ab_goto (tgt := 76) dX6_passNumber_72 (by decide) ?_
      refine ab_putZ dX6_passNumber_76 fs_6_28_6 rfl rfl (hL.sh 1 rfl (by decide) (by decide)).1 (hL.sh 1 rfl (by decide) (by decide)).2 (by decide) ?_
      refine ab_nameM (fun M3 hM3 => ?_)
      have h := h M3 hM3
      have hs6 : Sm M M3 := hM3 ▸ (Sm.refl _).i
      have hm4 : Sm M M3 := (Sm.refl M).trans hs6
      have hl5 := hL.of hm4
      refine ab_iload_n 2 dX6_passNumber_79 rfl ?_
      exact ab_iret dX6_passNumber_80 rfl h
    · have h := h.2 c2
      refine ab_aload_n 0 dX6_passNumber_63 rfl ?_
      refine ab_getI dX6_passNumber_64 fs_6_25_6 rfl (hL.sh 1 rfl (by decide) (by decide)).1 (hL.sh 1 rfl (by decide) (by decide)).2 ?_
      refine ab_iload_n 1 dX6_passNumber_67 rfl ?_
      refine ab_icmp_ne (tgt := 75) dX6_passNumber_68 (by decide) (fun c7 => ?_) (fun c7 => ?_)
      · have h := h.1 c7
        refine ab_iconst (v := 0) dX6_passNumber_75 (by decide) ?_
        refine ab_putZ dX6_passNumber_76 fs_6_28_6 rfl rfl (hL.sh 1 rfl (by decide) (by decide)).1 (hL.sh 1 rfl (by decide) (by decide)).2 (by decide) ?_
        refine ab_nameM (fun M8 hM8 => ?_)
        have h := h M8 hM8
        have hs11 : Sm M M8 := hM8 ▸ (Sm.refl _).i
        have hm9 : Sm M M8 := (Sm.refl M).trans hs11
        have hl10 := hL.of hm9
        refine ab_iload_n 2 dX6_passNumber_79 rfl ?_
        exact ab_iret dX6_passNumber_80 rfl h
      · have h := h.2 c7
        refine ab_iconst (v := 1) dX6_passNumber_71 (by decide) ?_
        refine ab_goto (tgt := 76) dX6_passNumber_72 (by decide) ?_
        refine ab_putZ dX6_passNumber_76 fs_6_28_6 rfl rfl (hL.sh 1 rfl (by decide) (by decide)).1 (hL.sh 1 rfl (by decide) (by decide)).2 (by decide) ?_
        refine ab_nameM (fun M12 hM12 => ?_)
        have h := h M12 hM12
        have hs15 : Sm M M12 := hM12 ▸ (Sm.refl _).i
        have hm13 : Sm M M12 := (Sm.refl M).trans hs15
        have hl14 := hL.of hm13
        refine ab_iload_n 2 dX6_passNumber_79 rfl ?_
        exact ab_iret dX6_passNumber_80 rfl h
  · have h := h.2 c1
    refine ab_aload_n 0 dX6_passNumber_14 rfl ?_
    refine ab_callV (a := 1) (c0 := 6) (d' := d) (mc' := 0) (ms' := 0) (vs := []) (st := []) dX6_passNumber_15 ⟨cw_X6_seesFigure, w_414⟩ w_416 w_8 (by decide) (hL.sh 1 rfl (by decide) (by decide)).1 (hL.sh 1 rfl (by decide) (by decide)).2 rfl rfl (Nat.le_of_ble_eq_true rfl) (Nat.le_refl _) (Nat.zero_le _) (Nat.zero_le _) (AM.mono h (fun r M16 ⟨x17, hr18, hc19, h⟩ => ?_))
    subst hr18
    refine ab_rs ?_
    have hm20 : Sm M M16 := (Sm.refl M).trans hc19
    have hl21 := hL.of hm20
    refine ab_if_eq (tgt := 55) dX6_passNumber_18 (by decide) (fun c22 => ?_) (fun c22 => ?_)
    · have h := h.1 c22
      refine ab_aload_n 0 dX6_passNumber_55 rfl ?_
      refine ab_aload_n 0 dX6_passNumber_56 rfl ?_
      refine ab_getI dX6_passNumber_57 fs_6_28_6 rfl (hl21.sh 1 rfl (by decide) (by decide)).1 (hl21.sh 1 rfl (by decide) (by decide)).2 ?_
      refine ab_if_ne (tgt := 71) dX6_passNumber_60 (by decide) (fun c23 => ?_) (fun c23 => ?_)
      · have h := h.1 c23
        refine ab_iconst (v := 1) dX6_passNumber_71 (by decide) ?_
        refine ab_goto (tgt := 76) dX6_passNumber_72 (by decide) ?_
        refine ab_putZ dX6_passNumber_76 fs_6_28_6 rfl rfl (hl21.sh 1 rfl (by decide) (by decide)).1 (hl21.sh 1 rfl (by decide) (by decide)).2 (by decide) ?_
        refine ab_nameM (fun M24 hM24 => ?_)
        have h := h M24 hM24
        have hs27 : Sm M16 M24 := hM24 ▸ (Sm.refl _).i
        have hm25 : Sm M M24 := hm20.trans hs27
        have hl26 := hL.of hm25
        refine ab_iload_n 2 dX6_passNumber_79 rfl ?_
        exact ab_iret dX6_passNumber_80 rfl h
      · have h := h.2 c23
        refine ab_aload_n 0 dX6_passNumber_63 rfl ?_
        refine ab_getI dX6_passNumber_64 fs_6_25_6 rfl (hl21.sh 1 rfl (by decide) (by decide)).1 (hl21.sh 1 rfl (by decide) (by decide)).2 ?_
        refine ab_iload_n 1 dX6_passNumber_67 rfl ?_
        refine ab_icmp_ne (tgt := 75) dX6_passNumber_68 (by decide) (fun c28 => ?_) (fun c28 => ?_)
        · have h := h.1 c28
          refine ab_iconst (v := 0) dX6_passNumber_75 (by decide) ?_
          refine ab_putZ dX6_passNumber_76 fs_6_28_6 rfl rfl (hl21.sh 1 rfl (by decide) (by decide)).1 (hl21.sh 1 rfl (by decide) (by decide)).2 (by decide) ?_
          refine ab_nameM (fun M29 hM29 => ?_)
          have h := h M29 hM29
          have hs32 : Sm M16 M29 := hM29 ▸ (Sm.refl _).i
          have hm30 : Sm M M29 := hm20.trans hs32
          have hl31 := hL.of hm30
          refine ab_iload_n 2 dX6_passNumber_79 rfl ?_
          exact ab_iret dX6_passNumber_80 rfl h
        · have h := h.2 c28
          refine ab_iconst (v := 1) dX6_passNumber_71 (by decide) ?_
          refine ab_goto (tgt := 76) dX6_passNumber_72 (by decide) ?_
          refine ab_putZ dX6_passNumber_76 fs_6_28_6 rfl rfl (hl21.sh 1 rfl (by decide) (by decide)).1 (hl21.sh 1 rfl (by decide) (by decide)).2 (by decide) ?_
          refine ab_nameM (fun M33 hM33 => ?_)
          have h := h M33 hM33
          have hs36 : Sm M16 M33 := hM33 ▸ (Sm.refl _).i
          have hm34 : Sm M M33 := hm20.trans hs36
          have hl35 := hL.of hm34
          refine ab_iload_n 2 dX6_passNumber_79 rfl ?_
          exact ab_iret dX6_passNumber_80 rfl h
    · have h := h.2 c22
      refine ab_iload_n 2 dX6_passNumber_21 rfl ?_
      refine ab_bipush (v := 10) dX6_passNumber_22 (by decide) ?_
      refine ab_imul dX6_passNumber_24 ?_
      refine ab_aload_n 0 dX6_passNumber_25 rfl ?_
      refine ab_getP (r := 2) dX6_passNumber_26 fs_6_9_6 rfl (hl21.sh 1 rfl (by decide) (by decide)).1 (hl21.sh 1 rfl (by decide) (by decide)).2 (hl21.pt 13 rfl (by decide) (by decide)) ?_
      refine ab_aload_n 0 dX6_passNumber_29 rfl ?_
      refine ab_getI dX6_passNumber_30 fs_6_25_6 rfl (hl21.sh 1 rfl (by decide) (by decide)).1 (hl21.sh 1 rfl (by decide) (by decide)).2 ?_
      have hb37 := h.1
      have h := h.2
      refine ab_ialdj (j := (gI M16 1 4).toNatClampNeg) dX6_passNumber_33 (hl21.sh 2 rfl (by decide) (by decide)) hb37 rfl ?_
      refine ab_bipush (v := 48) dX6_passNumber_34 (by decide) ?_
      refine ab_isub dX6_passNumber_36 ?_
      refine ab_iadd dX6_passNumber_37 ?_
      refine ab_topi (fun x38 hx38 => ?_)
      have h := h x38 hx38
      refine ab_istore_n (lv1 := [(2, .int x38), (0, .ref 1), (1, .int v1), (3, .int v3)]) dX6_passNumber_38 (by decide) rfl ?_
      refine ab_aload_n 1 dX6_passNumber_39 rfl ?_
      refine ab_dup dX6_passNumber_40 rfl ?_
      refine ab_getI dX6_passNumber_41 fs_6_25_6 rfl (hl21.sh 1 rfl (by decide) (by decide)).1 (hl21.sh 1 rfl (by decide) (by decide)).2 ?_
      refine ab_iconst (v := 1) dX6_passNumber_44 (by decide) ?_
      refine ab_iadd dX6_passNumber_45 ?_
      refine ab_putI dX6_passNumber_46 fs_6_25_6 rfl rfl (hl21.sh 1 rfl (by decide) (by decide)).1 (hl21.sh 1 rfl (by decide) (by decide)).2 ?_
      refine ab_nameM (fun M39 hM39 => ?_)
      have h := h M39 hM39
      have hs42 : Sm M16 M39 := hM39 ▸ (Sm.refl _).i
      have hm40 : Sm M M39 := hm20.trans hs42
      have hl41 := hL.of hm40
      obtain ⟨x43, hx43⟩ : ∃ y : Int32, y = v3 + (1 : Int32) := ⟨_, rfl⟩
      have h := h x43 hx43
      refine ab_iinc (v := x43) 3 (lv1 := [(3, .int x43), (2, .int x38), (0, .ref 1), (1, .int v1)]) dX6_passNumber_49 rfl (by rw [hx43]; rfl) (by decide) rfl ?_
      refine ab_goto (tgt := 9) dX6_passNumber_52 (by decide) ?_
      exact ab_sub [2, 3, 1, 0] rfl h
theorem dX6_seesFigure_0 : decode cX6_seesFigure 0 = .ok (.aload_n 0, 1) := by decide +kernel
theorem dX6_seesFigure_1 : decode cX6_seesFigure 1 = .ok (.getfield 28, 3) := by decide +kernel
theorem dX6_seesFigure_4 : decode cX6_seesFigure 4 = .ok (.ifCond .ne 46, 3) := by decide +kernel
theorem dX6_seesFigure_7 : decode cX6_seesFigure 7 = .ok (.aload_n 0, 1) := by decide +kernel
theorem dX6_seesFigure_8 : decode cX6_seesFigure 8 = .ok (.getfield 25, 3) := by decide +kernel
theorem dX6_seesFigure_11 : decode cX6_seesFigure 11 = .ok (.aload_n 0, 1) := by decide +kernel
theorem dX6_seesFigure_12 : decode cX6_seesFigure 12 = .ok (.getfield 18, 3) := by decide +kernel
theorem dX6_seesFigure_15 : decode cX6_seesFigure 15 = .ok (.if_icmp .ge 35, 3) := by decide +kernel
theorem dX6_seesFigure_18 : decode cX6_seesFigure 18 = .ok (.aload_n 0, 1) := by decide +kernel
theorem dX6_seesFigure_19 : decode cX6_seesFigure 19 = .ok (.getfield 9, 3) := by decide +kernel
theorem dX6_seesFigure_22 : decode cX6_seesFigure 22 = .ok (.aload_n 0, 1) := by decide +kernel
theorem dX6_seesFigure_23 : decode cX6_seesFigure 23 = .ok (.getfield 25, 3) := by decide +kernel
theorem dX6_seesFigure_26 : decode cX6_seesFigure 26 = .ok (.iaload, 1) := by decide +kernel
theorem dX6_seesFigure_27 : decode cX6_seesFigure 27 = .ok (.bipush 48, 2) := by decide +kernel
theorem dX6_seesFigure_29 : decode cX6_seesFigure 29 = .ok (.if_icmp .lt 21, 3) := by decide +kernel
theorem dX6_seesFigure_32 : decode cX6_seesFigure 32 = .ok (.aload_n 0, 1) := by decide +kernel
theorem dX6_seesFigure_33 : decode cX6_seesFigure 33 = .ok (.getfield 9, 3) := by decide +kernel
theorem dX6_seesFigure_36 : decode cX6_seesFigure 36 = .ok (.aload_n 0, 1) := by decide +kernel
theorem dX6_seesFigure_37 : decode cX6_seesFigure 37 = .ok (.getfield 25, 3) := by decide +kernel
theorem dX6_seesFigure_40 : decode cX6_seesFigure 40 = .ok (.iaload, 1) := by decide +kernel
theorem dX6_seesFigure_41 : decode cX6_seesFigure 41 = .ok (.bipush 57, 2) := by decide +kernel
theorem dX6_seesFigure_43 : decode cX6_seesFigure 43 = .ok (.if_icmp .gt 7, 3) := by decide +kernel
theorem dX6_seesFigure_46 : decode cX6_seesFigure 46 = .ok (.iconst 1, 1) := by decide +kernel
theorem dX6_seesFigure_47 : decode cX6_seesFigure 47 = .ok (.goto 4, 3) := by decide +kernel
theorem dX6_seesFigure_50 : decode cX6_seesFigure 50 = .ok (.iconst 0, 1) := by decide +kernel
theorem dX6_seesFigure_51 : decode cX6_seesFigure 51 = .ok (.ireturn, 1) := by decide +kernel
set_option maxRecDepth 20000 in
theorem rX6_seesFigure (D : GD) (d : Nat)  (M : Mm) (post : Option Value → Mm → Prop) (hL : Lay 1 4 M) 
    (h : ((¬ (gI M 1 5) = 0 → post (some (.int (0 : Int32))) M) ∧ ((gI M 1 5) = 0 → (((gI M 1 2) ≤ (gI M 1 4) → post (some (.int (0 : Int32))) M) ∧ (¬ (gI M 1 2) ≤ (gI M 1 4) → vp_in (gI M 1 4) 100 ∧ (((gI M 2 ((gI M 1 4).toNatClampNeg)) < (48 : Int32) → post (some (.int (0 : Int32))) M) ∧ (¬ (gI M 2 ((gI M 1 4).toNatClampNeg)) < (48 : Int32) → (((57 : Int32) < (gI M 2 ((gI M 1 4).toNatClampNeg)) → post (some (.int (0 : Int32))) M) ∧ (¬ (57 : Int32) < (gI M 2 ((gI M 1 4).toNatClampNeg)) → post (some (.int (1 : Int32))) M))))))))) :
    AM D d 0 0 mX6_seesFigure [.ref 1] M post := by
  refine AM.of (by decide) (Nat.le_of_ble_eq_true rfl) ?_
  show AW D d 0 0 mX6_seesFigure 0 0 0 [(0, .ref 1)] [] M post
  refine ab_aload_n 0 dX6_seesFigure_0 rfl ?_
  refine ab_getI dX6_seesFigure_1 fs_6_28_6 rfl (hL.sh 1 rfl (by decide) (by decide)).1 (hL.sh 1 rfl (by decide) (by decide)).2 ?_
  refine ab_if_ne (tgt := 50) dX6_seesFigure_4 (by decide) (fun c1 => ?_) (fun c1 => ?_)
  · have h := h.1 c1
    refine ab_iconst (v := 0) dX6_seesFigure_50 (by decide) ?_
    exact ab_zret dX6_seesFigure_51 rfl rfl h
  · have h := h.2 c1
    refine ab_aload_n 0 dX6_seesFigure_7 rfl ?_
    refine ab_getI dX6_seesFigure_8 fs_6_25_6 rfl (hL.sh 1 rfl (by decide) (by decide)).1 (hL.sh 1 rfl (by decide) (by decide)).2 ?_
    refine ab_aload_n 0 dX6_seesFigure_11 rfl ?_
    refine ab_getI dX6_seesFigure_12 fs_6_18_6 rfl (hL.sh 1 rfl (by decide) (by decide)).1 (hL.sh 1 rfl (by decide) (by decide)).2 ?_
    refine ab_icmp_ge (tgt := 50) dX6_seesFigure_15 (by decide) (fun c2 => ?_) (fun c2 => ?_)
    · have h := h.1 c2
      refine ab_iconst (v := 0) dX6_seesFigure_50 (by decide) ?_
      exact ab_zret dX6_seesFigure_51 rfl rfl h
    · have h := h.2 c2
      refine ab_aload_n 0 dX6_seesFigure_18 rfl ?_
      refine ab_getP (r := 2) dX6_seesFigure_19 fs_6_9_6 rfl (hL.sh 1 rfl (by decide) (by decide)).1 (hL.sh 1 rfl (by decide) (by decide)).2 (hL.pt 13 rfl (by decide) (by decide)) ?_
      refine ab_aload_n 0 dX6_seesFigure_22 rfl ?_
      refine ab_getI dX6_seesFigure_23 fs_6_25_6 rfl (hL.sh 1 rfl (by decide) (by decide)).1 (hL.sh 1 rfl (by decide) (by decide)).2 ?_
      have hb3 := h.1
      have h := h.2
      refine ab_ialdj (j := (gI M 1 4).toNatClampNeg) dX6_seesFigure_26 (hL.sh 2 rfl (by decide) (by decide)) hb3 rfl ?_
      refine ab_bipush (v := 48) dX6_seesFigure_27 (by decide) ?_
      refine ab_icmp_lt (tgt := 50) dX6_seesFigure_29 (by decide) (fun c4 => ?_) (fun c4 => ?_)
      · have h := h.1 c4
        refine ab_iconst (v := 0) dX6_seesFigure_50 (by decide) ?_
        exact ab_zret dX6_seesFigure_51 rfl rfl h
      · have h := h.2 c4
        refine ab_aload_n 0 dX6_seesFigure_32 rfl ?_
        refine ab_getP (r := 2) dX6_seesFigure_33 fs_6_9_6 rfl (hL.sh 1 rfl (by decide) (by decide)).1 (hL.sh 1 rfl (by decide) (by decide)).2 (hL.pt 13 rfl (by decide) (by decide)) ?_
        refine ab_aload_n 0 dX6_seesFigure_36 rfl ?_
        refine ab_getI dX6_seesFigure_37 fs_6_25_6 rfl (hL.sh 1 rfl (by decide) (by decide)).1 (hL.sh 1 rfl (by decide) (by decide)).2 ?_
        refine ab_ialdj (j := (gI M 1 4).toNatClampNeg) dX6_seesFigure_40 (hL.sh 2 rfl (by decide) (by decide)) hb3 rfl ?_
        refine ab_bipush (v := 57) dX6_seesFigure_41 (by decide) ?_
        refine ab_icmp_gt (tgt := 50) dX6_seesFigure_43 (by decide) (fun c5 => ?_) (fun c5 => ?_)
        · have h := h.1 c5
          refine ab_iconst (v := 0) dX6_seesFigure_50 (by decide) ?_
          exact ab_zret dX6_seesFigure_51 rfl rfl h
        · have h := h.2 c5
          refine ab_iconst (v := 1) dX6_seesFigure_46 (by decide) ?_
          refine ab_goto (tgt := 51) dX6_seesFigure_47 (by decide) ?_
          exact ab_zret dX6_seesFigure_51 rfl rfl h
theorem dX6_make_0 : decode cX6_make 0 = .ok (.aload_n 0, 1) := by decide +kernel
theorem dX6_make_1 : decode cX6_make 1 = .ok (.getfield 22, 3) := by decide +kernel
theorem dX6_make_4 : decode cX6_make 4 = .ok (.bipush 100, 2) := by decide +kernel
theorem dX6_make_6 : decode cX6_make 6 = .ok (.if_icmp .ge 37, 3) := by decide +kernel
theorem dX6_make_9 : decode cX6_make 9 = .ok (.aload_n 0, 1) := by decide +kernel
theorem dX6_make_10 : decode cX6_make 10 = .ok (.getfield 15, 3) := by decide +kernel
theorem dX6_make_13 : decode cX6_make 13 = .ok (.aload_n 0, 1) := by decide +kernel
theorem dX6_make_14 : decode cX6_make 14 = .ok (.getfield 22, 3) := by decide +kernel
theorem dX6_make_17 : decode cX6_make 17 = .ok (.iload_n 1, 1) := by decide +kernel
theorem dX6_make_18 : decode cX6_make 18 = .ok (.iload_n 2, 1) := by decide +kernel
theorem dX6_make_19 : decode cX6_make 19 = .ok (.iconst 3, 1) := by decide +kernel
theorem dX6_make_20 : decode cX6_make 20 = .ok (.ishl, 1) := by decide +kernel
theorem dX6_make_21 : decode cX6_make 21 = .ok (.ior, 1) := by decide +kernel
theorem dX6_make_22 : decode cX6_make 22 = .ok (.iload_n 3, 1) := by decide +kernel
theorem dX6_make_23 : decode cX6_make 23 = .ok (.iconst 5, 1) := by decide +kernel
theorem dX6_make_24 : decode cX6_make 24 = .ok (.ishl, 1) := by decide +kernel
theorem dX6_make_25 : decode cX6_make 25 = .ok (.ior, 1) := by decide +kernel
theorem dX6_make_26 : decode cX6_make 26 = .ok (.iload 4, 2) := by decide +kernel
theorem dX6_make_28 : decode cX6_make 28 = .ok (.bipush 7, 2) := by decide +kernel
theorem dX6_make_30 : decode cX6_make 30 = .ok (.ishl, 1) := by decide +kernel
theorem dX6_make_31 : decode cX6_make 31 = .ok (.ior, 1) := by decide +kernel
theorem dX6_make_32 : decode cX6_make 32 = .ok (.iastore, 1) := by decide +kernel
theorem dX6_make_33 : decode cX6_make 33 = .ok (.aload_n 0, 1) := by decide +kernel
theorem dX6_make_34 : decode cX6_make 34 = .ok (.dup, 1) := by decide +kernel
theorem dX6_make_35 : decode cX6_make 35 = .ok (.getfield 22, 3) := by decide +kernel
theorem dX6_make_38 : decode cX6_make 38 = .ok (.iconst 1, 1) := by decide +kernel
theorem dX6_make_39 : decode cX6_make 39 = .ok (.iadd, 1) := by decide +kernel
theorem dX6_make_40 : decode cX6_make 40 = .ok (.putfield 22, 3) := by decide +kernel
theorem dX6_make_43 : decode cX6_make 43 = .ok (.return_, 1) := by decide +kernel
set_option maxRecDepth 20000 in
theorem rX6_make (D : GD) (d : Nat) (a1 : Int32) (a2 : Int32) (a3 : Int32) (a4 : Int32) (M : Mm) (post : Option Value → Mm → Prop) (hL : Lay 1 4 M) 
    (h : (((100 : Int32) ≤ (gI M 1 3) → post none M) ∧ (¬ (100 : Int32) ≤ (gI M 1 3) → vp_in (gI M 1 3) 100 ∧ ∀ M3 : Mm, M3 = sI M 3 ((gI M 1 3).toNatClampNeg) (((a1 ||| (a2 <<< ((3 : Int32) &&& 31))) ||| (a3 <<< ((5 : Int32) &&& 31))) ||| (a4 <<< ((7 : Int32) &&& 31))) → ∀ M7 : Mm, M7 = sI M3 1 3 ((gI M3 1 3) + (1 : Int32)) → post none M7))) :
    AM D d 0 0 mX6_make [.ref 1, .int a1, .int a2, .int a3, .int a4] M post := by
  refine AM.of (by decide) (Nat.le_of_ble_eq_true rfl) ?_
  show AW D d 0 0 mX6_make 0 0 0 [(0, .ref 1), (1, .int a1), (2, .int a2), (3, .int a3), (4, .int a4)] [] M post
  refine ab_aload_n 0 dX6_make_0 rfl ?_
  refine ab_getI dX6_make_1 fs_6_22_6 rfl (hL.sh 1 rfl (by decide) (by decide)).1 (hL.sh 1 rfl (by decide) (by decide)).2 ?_
  refine ab_bipush (v := 100) dX6_make_4 (by decide) ?_
  refine ab_icmp_ge (tgt := 43) dX6_make_6 (by decide) (fun c1 => ?_) (fun c1 => ?_)
  · have h := h.1 c1
    exact ab_vret dX6_make_43 rfl h
  · have h := h.2 c1
    refine ab_aload_n 0 dX6_make_9 rfl ?_
    refine ab_getP (r := 3) dX6_make_10 fs_6_15_6 rfl (hL.sh 1 rfl (by decide) (by decide)).1 (hL.sh 1 rfl (by decide) (by decide)).2 (hL.pt 14 rfl (by decide) (by decide)) ?_
    refine ab_aload_n 0 dX6_make_13 rfl ?_
    refine ab_getI dX6_make_14 fs_6_22_6 rfl (hL.sh 1 rfl (by decide) (by decide)).1 (hL.sh 1 rfl (by decide) (by decide)).2 ?_
    refine ab_iload_n 1 dX6_make_17 rfl ?_
    refine ab_iload_n 2 dX6_make_18 rfl ?_
    refine ab_iconst (v := 3) dX6_make_19 (by decide) ?_
    refine ab_ishl dX6_make_20 ?_
    refine ab_ior dX6_make_21 ?_
    refine ab_iload_n 3 dX6_make_22 rfl ?_
    refine ab_iconst (v := 5) dX6_make_23 (by decide) ?_
    refine ab_ishl dX6_make_24 ?_
    refine ab_ior dX6_make_25 ?_
    refine ab_iload 4 dX6_make_26 rfl ?_
    refine ab_bipush (v := 7) dX6_make_28 (by decide) ?_
    refine ab_ishl dX6_make_30 ?_
    refine ab_ior dX6_make_31 ?_
    have hb2 := h.1
    have h := h.2
    refine ab_iastj (j := (gI M 1 3).toNatClampNeg) dX6_make_32 (hL.sh 3 rfl (by decide) (by decide)) hb2 rfl ?_
    refine ab_nameM (fun M3 hM3 => ?_)
    have h := h M3 hM3
    have hs6 : Sm M M3 := hM3 ▸ (Sm.refl _).i
    have hm4 : Sm M M3 := (Sm.refl M).trans hs6
    have hl5 := hL.of hm4
    refine ab_aload_n 0 dX6_make_33 rfl ?_
    refine ab_dup dX6_make_34 rfl ?_
    refine ab_getI dX6_make_35 fs_6_22_6 rfl (hl5.sh 1 rfl (by decide) (by decide)).1 (hl5.sh 1 rfl (by decide) (by decide)).2 ?_
    refine ab_iconst (v := 1) dX6_make_38 (by decide) ?_
    refine ab_iadd dX6_make_39 ?_
    refine ab_putI dX6_make_40 fs_6_22_6 rfl rfl (hl5.sh 1 rfl (by decide) (by decide)).1 (hl5.sh 1 rfl (by decide) (by decide)).2 ?_
    refine ab_nameM (fun M7 hM7 => ?_)
    have h := h M7 hM7
    have hs10 : Sm M3 M7 := hM7 ▸ (Sm.refl _).i
    have hm8 : Sm M M7 := hm4.trans hs10
    have hl9 := hL.of hm8
    exact ab_vret dX6_make_43 rfl h
