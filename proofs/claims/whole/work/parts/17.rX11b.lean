theorem dX11_order_0 : decode cX11_order 0 = .ok (.iload_n 1, 1) := by decide +kernel
theorem dX11_order_1 : decode cX11_order 1 = .ok (.iconst (-1), 1) := by decide +kernel
theorem dX11_order_2 : decode cX11_order 2 = .ok (.if_icmp .lt 8, 3) := by decide +kernel
theorem dX11_order_5 : decode cX11_order 5 = .ok (.iload_n 1, 1) := by decide +kernel
theorem dX11_order_6 : decode cX11_order 6 = .ok (.iconst 5, 1) := by decide +kernel
theorem dX11_order_7 : decode cX11_order 7 = .ok (.if_icmp .lt 6, 3) := by decide +kernel
theorem dX11_order_10 : decode cX11_order 10 = .ok (.ldc 238, 2) := by decide +kernel
theorem dX11_order_12 : decode cX11_order 12 = .ok (.ireturn, 1) := by decide +kernel
theorem dX11_order_13 : decode cX11_order 13 = .ok (.aload_n 0, 1) := by decide +kernel
theorem dX11_order_14 : decode cX11_order 14 = .ok (.getfield 53, 3) := by decide +kernel
theorem dX11_order_17 : decode cX11_order 17 = .ok (.invokevirtual 239, 3) := by decide +kernel
theorem dX11_order_20 : decode cX11_order 20 = .ok (.ifCond .ne 6, 3) := by decide +kernel
theorem dX11_order_23 : decode cX11_order 23 = .ok (.ldc 242, 2) := by decide +kernel
theorem dX11_order_25 : decode cX11_order 25 = .ok (.ireturn, 1) := by decide +kernel
theorem dX11_order_26 : decode cX11_order 26 = .ok (.aload_n 0, 1) := by decide +kernel
theorem dX11_order_27 : decode cX11_order 27 = .ok (.getfield 53, 3) := by decide +kernel
theorem dX11_order_30 : decode cX11_order 30 = .ok (.aload_n 0, 1) := by decide +kernel
theorem dX11_order_31 : decode cX11_order 31 = .ok (.getfield 39, 3) := by decide +kernel
theorem dX11_order_34 : decode cX11_order 34 = .ok (.invokevirtual 255, 3) := by decide +kernel
theorem dX11_order_37 : decode cX11_order 37 = .ok (.iload_n 1, 1) := by decide +kernel
theorem dX11_order_38 : decode cX11_order 38 = .ok (.ifCond .ge 13, 3) := by decide +kernel
theorem dX11_order_41 : decode cX11_order 41 = .ok (.aload_n 0, 1) := by decide +kernel
theorem dX11_order_42 : decode cX11_order 42 = .ok (.getfield 53, 3) := by decide +kernel
theorem dX11_order_45 : decode cX11_order 45 = .ok (.getfield 259, 3) := by decide +kernel
theorem dX11_order_48 : decode cX11_order 48 = .ok (.goto 19, 3) := by decide +kernel
theorem dX11_order_51 : decode cX11_order 51 = .ok (.aload_n 0, 1) := by decide +kernel
theorem dX11_order_52 : decode cX11_order 52 = .ok (.getfield 53, 3) := by decide +kernel
theorem dX11_order_55 : decode cX11_order 55 = .ok (.getfield 262, 3) := by decide +kernel
theorem dX11_order_58 : decode cX11_order 58 = .ok (.getstatic 265, 3) := by decide +kernel
theorem dX11_order_61 : decode cX11_order 61 = .ok (.iload_n 1, 1) := by decide +kernel
theorem dX11_order_62 : decode cX11_order 62 = .ok (.iaload, 1) := by decide +kernel
theorem dX11_order_63 : decode cX11_order 63 = .ok (.idiv, 1) := by decide +kernel
theorem dX11_order_64 : decode cX11_order 64 = .ok (.bipush 10, 2) := by decide +kernel
theorem dX11_order_66 : decode cX11_order 66 = .ok (.irem, 1) := by decide +kernel
theorem dX11_order_67 : decode cX11_order 67 = .ok (.ireturn, 1) := by decide +kernel
set_option maxRecDepth 20000 in
theorem rX11_order (D : GD) (d : Nat) (a1 : Int32) (M : Mm) (post : Option Value → Mm → Prop) (hL : Lay 0 62 M) 
    (h : ((a1 < (-1 : Int32) → post (some (.int (-1000001 : Int32))) M) ∧ (¬ a1 < (-1 : Int32) → ((a1 < (5 : Int32) → AMi D d mX7_isManned [.ref 29] M (fun x4 M3 => ((¬ x4 = 0 → AMv D d mX7_seekOrder [.ref 29, .ref 13] M3 (fun M10 => ((0 ≤ a1 → vp_in a1 5 ∧ (¬ (tens.getD a1.toNatClampNeg 0) = 0) ∧ post (some (.int (((gI M10 29 4) / (tens.getD a1.toNatClampNeg 0)) - ((gI M10 29 4) / (tens.getD a1.toNatClampNeg 0)) / (10 : Int32) * (10 : Int32)))) M10) ∧ (¬ 0 ≤ a1 → post (some (.int (gI M10 29 3))) M10)))) ∧ (x4 = 0 → post (some (.int (-1000002 : Int32))) M3)))) ∧ (¬ a1 < (5 : Int32) → post (some (.int (-1000001 : Int32))) M))))) :
    AM D (d + 1) 0 0 mX11_order [.ref 0, .int a1] M post := by
  refine AM.of (by decide) (Nat.le_of_ble_eq_true rfl) ?_
  show AW D (d + 1) 0 0 mX11_order 0 0 0 [(0, .ref 0), (1, .int a1)] [] M post
  refine ab_iload_n 1 dX11_order_0 rfl ?_
  refine ab_iconst (v := (-1)) dX11_order_1 (by decide) ?_
  refine ab_icmp_lt (tgt := 10) dX11_order_2 (by decide) (fun c1 => ?_) (fun c1 => ?_)
  · have h := h.1 c1
    refine ab_ldc dX11_order_10 w_776 ?_
    exact ab_iret dX11_order_12 rfl h
  · have h := h.2 c1
    refine ab_iload_n 1 dX11_order_5 rfl ?_
    refine ab_iconst (v := 5) dX11_order_6 (by decide) ?_
    refine ab_icmp_lt (tgt := 13) dX11_order_7 (by decide) (fun c2 => ?_) (fun c2 => ?_)
    · have h := h.1 c2
      refine ab_aload_n 0 dX11_order_13 rfl ?_
      refine ab_getP (r := 29) dX11_order_14 fs_11_53_11 rfl (hL.sh 0 rfl (by decide) (by decide)).1 (hL.sh 0 rfl (by decide) (by decide)).2 (hL.pt 5 rfl (by decide) (by decide)) ?_
      refine ab_callV (a := 29) (c0 := 7) (d' := d) (mc' := 0) (ms' := 0) (vs := []) (st := []) dX11_order_17 ⟨cw_X7_isManned, w_777⟩ w_778 w_779 (by decide) (hL.sh 29 rfl (by decide) (by decide)).1 (hL.sh 29 rfl (by decide) (by decide)).2 rfl rfl (Nat.le_of_ble_eq_true rfl) (Nat.le_refl _) (Nat.zero_le _) (Nat.zero_le _) (AM.mono h (fun r M3 ⟨x4, hr5, hc6, h⟩ => ?_))
      subst hr5
      refine ab_rs ?_
      have hm7 : Sm M M3 := (Sm.refl M).trans hc6
      have hl8 := hL.of hm7
      refine ab_if_ne (tgt := 26) dX11_order_20 (by decide) (fun c9 => ?_) (fun c9 => ?_)
      · have h := h.1 c9
        refine ab_aload_n 0 dX11_order_26 rfl ?_
        refine ab_getP (r := 29) dX11_order_27 fs_11_53_11 rfl (hl8.sh 0 rfl (by decide) (by decide)).1 (hl8.sh 0 rfl (by decide) (by decide)).2 (hl8.pt 5 rfl (by decide) (by decide)) ?_
        refine ab_aload_n 0 dX11_order_30 rfl ?_
        refine ab_getP (r := 13) dX11_order_31 fs_11_39_11 rfl (hl8.sh 0 rfl (by decide) (by decide)).1 (hl8.sh 0 rfl (by decide) (by decide)).2 (hl8.pt 3 rfl (by decide) (by decide)) ?_
        refine ab_callV (a := 29) (c0 := 7) (d' := d) (mc' := 0) (ms' := 0) (vs := [.ref 13]) (st := []) dX11_order_34 ⟨cw_X7_seekOrder, w_814⟩ w_815 w_816 (by decide) (hl8.sh 29 rfl (by decide) (by decide)).1 (hl8.sh 29 rfl (by decide) (by decide)).2 rfl rfl (Nat.le_of_ble_eq_true rfl) (Nat.le_refl _) (Nat.zero_le _) (Nat.zero_le _) (AM.mono h (fun r M10 ⟨hr12, hc13, h⟩ => ?_))
        subst hr12
        refine ab_rv ?_
        have hm14 : Sm M M10 := hm7.trans hc13
        have hl15 := hL.of hm14
        refine ab_iload_n 1 dX11_order_37 rfl ?_
        refine ab_if_ge (tgt := 51) dX11_order_38 (by decide) (fun c16 => ?_) (fun c16 => ?_)
        · have h := h.1 c16
          refine ab_aload_n 0 dX11_order_51 rfl ?_
          refine ab_getP (r := 29) dX11_order_52 fs_11_53_11 rfl (hl15.sh 0 rfl (by decide) (by decide)).1 (hl15.sh 0 rfl (by decide) (by decide)).2 (hl15.pt 5 rfl (by decide) (by decide)) ?_
          refine ab_getI dX11_order_55 fs_11_262_7 rfl (hl15.sh 29 rfl (by decide) (by decide)).1 (hl15.sh 29 rfl (by decide) (by decide)).2 ?_
          refine ab_tensr dX11_order_58 w_824 ?_
          refine ab_iload_n 1 dX11_order_61 rfl ?_
          have hb17 := h.1
          have h := h.2
          refine ab_tensl dX11_order_62 hb17 ?_
          have hn18 := h.1
          have h := h.2
          refine ab_idiv dX11_order_63 hn18 ?_
          refine ab_bipush (v := 10) dX11_order_64 (by decide) ?_
          refine ab_irem dX11_order_66 (by decide) ?_
          exact ab_iret dX11_order_67 rfl h
        · have h := h.2 c16
          refine ab_aload_n 0 dX11_order_41 rfl ?_
          refine ab_getP (r := 29) dX11_order_42 fs_11_53_11 rfl (hl15.sh 0 rfl (by decide) (by decide)).1 (hl15.sh 0 rfl (by decide) (by decide)).2 (hl15.pt 5 rfl (by decide) (by decide)) ?_
          refine ab_getI dX11_order_45 fs_11_259_7 rfl (hl15.sh 29 rfl (by decide) (by decide)).1 (hl15.sh 29 rfl (by decide) (by decide)).2 ?_
          refine ab_goto (tgt := 67) dX11_order_48 (by decide) ?_
          exact ab_iret dX11_order_67 rfl h
      · have h := h.2 c9
        refine ab_ldc dX11_order_23 w_781 ?_
        exact ab_iret dX11_order_25 rfl h
    · have h := h.2 c2
      refine ab_ldc dX11_order_10 w_776 ?_
      exact ab_iret dX11_order_12 rfl h
theorem dX11_judge_0 : decode cX11_judge 0 = .ok (.iload_n 1, 1) := by decide +kernel
theorem dX11_judge_1 : decode cX11_judge 1 = .ok (.invokestatic 268, 3) := by decide +kernel
theorem dX11_judge_4 : decode cX11_judge 4 = .ok (.ifCond .ne 5, 3) := by decide +kernel
theorem dX11_judge_7 : decode cX11_judge 7 = .ok (.iconst (-1), 1) := by decide +kernel
theorem dX11_judge_8 : decode cX11_judge 8 = .ok (.ireturn, 1) := by decide +kernel
theorem dX11_judge_9 : decode cX11_judge 9 = .ok (.aload_n 0, 1) := by decide +kernel
theorem dX11_judge_10 : decode cX11_judge 10 = .ok (.getfield 74, 3) := by decide +kernel
theorem dX11_judge_13 : decode cX11_judge 13 = .ok (.iload_n 1, 1) := by decide +kernel
theorem dX11_judge_14 : decode cX11_judge 14 = .ok (.iaload, 1) := by decide +kernel
theorem dX11_judge_15 : decode cX11_judge 15 = .ok (.iconst (-1), 1) := by decide +kernel
theorem dX11_judge_16 : decode cX11_judge 16 = .ok (.if_icmp .ne 7, 3) := by decide +kernel
theorem dX11_judge_19 : decode cX11_judge 19 = .ok (.sipush 1000, 3) := by decide +kernel
theorem dX11_judge_22 : decode cX11_judge 22 = .ok (.ireturn, 1) := by decide +kernel
theorem dX11_judge_23 : decode cX11_judge 23 = .ok (.aload_n 0, 1) := by decide +kernel
theorem dX11_judge_24 : decode cX11_judge 24 = .ok (.getfield 74, 3) := by decide +kernel
theorem dX11_judge_27 : decode cX11_judge 27 = .ok (.iload_n 1, 1) := by decide +kernel
theorem dX11_judge_28 : decode cX11_judge 28 = .ok (.iaload, 1) := by decide +kernel
theorem dX11_judge_29 : decode cX11_judge 29 = .ok (.ifCond .ne 22, 3) := by decide +kernel
theorem dX11_judge_32 : decode cX11_judge 32 = .ok (.aload_n 0, 1) := by decide +kernel
theorem dX11_judge_33 : decode cX11_judge 33 = .ok (.getfield 82, 3) := by decide +kernel
theorem dX11_judge_36 : decode cX11_judge 36 = .ok (.iload_n 1, 1) := by decide +kernel
theorem dX11_judge_37 : decode cX11_judge 37 = .ok (.aaload, 1) := by decide +kernel
theorem dX11_judge_38 : decode cX11_judge 38 = .ok (.aload_n 0, 1) := by decide +kernel
theorem dX11_judge_39 : decode cX11_judge 39 = .ok (.getfield 77, 3) := by decide +kernel
theorem dX11_judge_42 : decode cX11_judge 42 = .ok (.iload_n 1, 1) := by decide +kernel
theorem dX11_judge_43 : decode cX11_judge 43 = .ok (.iaload, 1) := by decide +kernel
theorem dX11_judge_44 : decode cX11_judge 44 = .ok (.iload_n 2, 1) := by decide +kernel
theorem dX11_judge_45 : decode cX11_judge 45 = .ok (.invokestatic 271, 3) := by decide +kernel
theorem dX11_judge_48 : decode cX11_judge 48 = .ok (.goto 5, 3) := by decide +kernel
theorem dX11_judge_51 : decode cX11_judge 51 = .ok (.bipush (-12), 2) := by decide +kernel
theorem dX11_judge_53 : decode cX11_judge 53 = .ok (.ireturn, 1) := by decide +kernel
set_option maxRecDepth 20000 in
theorem rX11_judge (D : GD) (d : Nat) (a1 : Int32) (a2 : Int32) (M : Mm) (post : Option Value → Mm → Prop) (hL : Lay 0 62 M) 
    (h : AMi D d mX11_isTape [.int a1] M (fun x2 M1 => ((¬ x2 = 0 → vp_in a1 6 ∧ ((¬ (gI M1 53 a1.toNatClampNeg) = (-1 : Int32) → ((¬ (gI M1 53 a1.toNatClampNeg) = 0 → post (some (.int (-12 : Int32))) M1) ∧ ((gI M1 53 a1.toNatClampNeg) = 0 → AMi D d mX7_judged [.ref (56 + a1.toNatClampNeg), .int (gI M1 54 a1.toNatClampNeg), .int a2] M1 (fun x12 M11 => post (some (.int x12)) M11)))) ∧ ((gI M1 53 a1.toNatClampNeg) = (-1 : Int32) → post (some (.int (1000 : Int32))) M1))) ∧ (x2 = 0 → post (some (.int (-1 : Int32))) M1)))) :
    AM D (d + 1) 0 0 mX11_judge [.ref 0, .int a1, .int a2] M post := by
  refine AM.of (by decide) (Nat.le_of_ble_eq_true rfl) ?_
  show AW D (d + 1) 0 0 mX11_judge 0 0 0 [(0, .ref 0), (1, .int a1), (2, .int a2)] [] M post
  refine ab_iload_n 1 dX11_judge_0 rfl ?_
  refine ab_callS (d' := d) (mc' := 0) (ms' := 0) (vs := [.int a1]) (st := []) dX11_judge_1 ⟨cw_X11_isTape, w_829⟩ w_830 rfl rfl (Nat.le_of_ble_eq_true rfl) (Nat.le_refl _) (Nat.zero_le _) (Nat.zero_le _) (AM.mono h (fun r M1 ⟨x2, hr3, hc4, h⟩ => ?_))
  subst hr3
  refine ab_rs ?_
  have hm5 : Sm M M1 := (Sm.refl M).trans hc4
  have hl6 := hL.of hm5
  refine ab_if_ne (tgt := 9) dX11_judge_4 (by decide) (fun c7 => ?_) (fun c7 => ?_)
  · have h := h.1 c7
    refine ab_aload_n 0 dX11_judge_9 rfl ?_
    refine ab_getP (r := 53) dX11_judge_10 fs_11_74_11 rfl (hl6.sh 0 rfl (by decide) (by decide)).1 (hl6.sh 0 rfl (by decide) (by decide)).2 (hl6.pt 10 rfl (by decide) (by decide)) ?_
    refine ab_iload_n 1 dX11_judge_13 rfl ?_
    have hb8 := h.1
    have h := h.2
    refine ab_ialdj (j := a1.toNatClampNeg) dX11_judge_14 (hl6.sh 53 rfl (by decide) (by decide)) hb8 rfl ?_
    refine ab_iconst (v := (-1)) dX11_judge_15 (by decide) ?_
    refine ab_icmp_ne (tgt := 23) dX11_judge_16 (by decide) (fun c9 => ?_) (fun c9 => ?_)
    · have h := h.1 c9
      refine ab_aload_n 0 dX11_judge_23 rfl ?_
      refine ab_getP (r := 53) dX11_judge_24 fs_11_74_11 rfl (hl6.sh 0 rfl (by decide) (by decide)).1 (hl6.sh 0 rfl (by decide) (by decide)).2 (hl6.pt 10 rfl (by decide) (by decide)) ?_
      refine ab_iload_n 1 dX11_judge_27 rfl ?_
      refine ab_ialdj (j := a1.toNatClampNeg) dX11_judge_28 (hl6.sh 53 rfl (by decide) (by decide)) hb8 rfl ?_
      refine ab_if_ne (tgt := 51) dX11_judge_29 (by decide) (fun c10 => ?_) (fun c10 => ?_)
      · have h := h.1 c10
        refine ab_bipush (v := (-12)) dX11_judge_51 (by decide) ?_
        exact ab_iret dX11_judge_53 rfl h
      · have h := h.2 c10
        refine ab_aload_n 0 dX11_judge_32 rfl ?_
        refine ab_getP (r := 55) dX11_judge_33 fs_11_82_11 rfl (hl6.sh 0 rfl (by decide) (by decide)).1 (hl6.sh 0 rfl (by decide) (by decide)).2 (hl6.pt 12 rfl (by decide) (by decide)) ?_
        refine ab_iload_n 1 dX11_judge_36 rfl ?_
        refine ab_aald5j (j := a1.toNatClampNeg) (r := 56 + a1.toNatClampNeg) dX11_judge_37 (hl6.sh 55 rfl (by decide) (by decide)) hb8 rfl (row_55 hl6 (by decide) (by decide) (vin_lt hb8)).1 ?_
        refine ab_aload_n 0 dX11_judge_38 rfl ?_
        refine ab_getP (r := 54) dX11_judge_39 fs_11_77_11 rfl (hl6.sh 0 rfl (by decide) (by decide)).1 (hl6.sh 0 rfl (by decide) (by decide)).2 (hl6.pt 11 rfl (by decide) (by decide)) ?_
        refine ab_iload_n 1 dX11_judge_42 rfl ?_
        refine ab_ialdj (j := a1.toNatClampNeg) dX11_judge_43 (hl6.sh 54 rfl (by decide) (by decide)) hb8 rfl ?_
        refine ab_iload_n 2 dX11_judge_44 rfl ?_
        refine ab_callS (d' := d) (mc' := 0) (ms' := 0) (vs := [.ref (56 + a1.toNatClampNeg), .int (gI M1 54 a1.toNatClampNeg), .int a2]) (st := []) dX11_judge_45 ⟨cw_X7_judged, w_832⟩ w_833 rfl rfl (Nat.le_of_ble_eq_true rfl) (Nat.le_refl _) (Nat.zero_le _) (Nat.zero_le _) (AM.mono h (fun r M11 ⟨x12, hr13, hc14, h⟩ => ?_))
        subst hr13
        refine ab_rs ?_
        have hm15 : Sm M M11 := hm5.trans hc14
        have hl16 := hL.of hm15
        refine ab_goto (tgt := 53) dX11_judge_48 (by decide) ?_
        exact ab_iret dX11_judge_53 rfl h
    · have h := h.2 c9
      refine ab_sipush (v := 1000) dX11_judge_19 (by decide) ?_
      exact ab_iret dX11_judge_22 rfl h
  · have h := h.2 c7
    refine ab_iconst (v := (-1)) dX11_judge_7 (by decide) ?_
    exact ab_iret dX11_judge_8 rfl h
theorem dX11_image_0 : decode cX11_image 0 = .ok (.aload_n 0, 1) := by decide +kernel
theorem dX11_image_1 : decode cX11_image 1 = .ok (.iconst 1, 1) := by decide +kernel
theorem dX11_image_2 : decode cX11_image 2 = .ok (.putfield 61, 3) := by decide +kernel
theorem dX11_image_5 : decode cX11_image 5 = .ok (.aload_n 0, 1) := by decide +kernel
theorem dX11_image_6 : decode cX11_image 6 = .ok (.getfield 39, 3) := by decide +kernel
theorem dX11_image_9 : decode cX11_image 9 = .ok (.getfield 95, 3) := by decide +kernel
theorem dX11_image_12 : decode cX11_image 12 = .ok (.iconst 0, 1) := by decide +kernel
theorem dX11_image_13 : decode cX11_image 13 = .ok (.aload_n 0, 1) := by decide +kernel
theorem dX11_image_14 : decode cX11_image 14 = .ok (.getfield 65, 3) := by decide +kernel
theorem dX11_image_17 : decode cX11_image 17 = .ok (.iconst 0, 1) := by decide +kernel
theorem dX11_image_18 : decode cX11_image 18 = .ok (.aload_n 0, 1) := by decide +kernel
theorem dX11_image_19 : decode cX11_image 19 = .ok (.getfield 65, 3) := by decide +kernel
theorem dX11_image_22 : decode cX11_image 22 = .ok (.arraylength, 1) := by decide +kernel
theorem dX11_image_23 : decode cX11_image 23 = .ok (.invokestatic 121, 3) := by decide +kernel
theorem dX11_image_26 : decode cX11_image 26 = .ok (.aload_n 0, 1) := by decide +kernel
theorem dX11_image_27 : decode cX11_image 27 = .ok (.getfield 53, 3) := by decide +kernel
theorem dX11_image_30 : decode cX11_image 30 = .ok (.getfield 232, 3) := by decide +kernel
theorem dX11_image_33 : decode cX11_image 33 = .ok (.aload_n 0, 1) := by decide +kernel
theorem dX11_image_34 : decode cX11_image 34 = .ok (.getfield 71, 3) := by decide +kernel
theorem dX11_image_37 : decode cX11_image 37 = .ok (.invokestatic 275, 3) := by decide +kernel
theorem dX11_image_40 : decode cX11_image 40 = .ok (.aload_n 0, 1) := by decide +kernel
theorem dX11_image_41 : decode cX11_image 41 = .ok (.getfield 68, 3) := by decide +kernel
theorem dX11_image_44 : decode cX11_image 44 = .ok (.aload_n 0, 1) := by decide +kernel
theorem dX11_image_45 : decode cX11_image 45 = .ok (.getfield 46, 3) := by decide +kernel
theorem dX11_image_48 : decode cX11_image 48 = .ok (.invokevirtual 279, 3) := by decide +kernel
theorem dX11_image_51 : decode cX11_image 51 = .ok (.aload_n 0, 1) := by decide +kernel
theorem dX11_image_52 : decode cX11_image 52 = .ok (.getfield 46, 3) := by decide +kernel
theorem dX11_image_55 : decode cX11_image 55 = .ok (.getfield 212, 3) := by decide +kernel
theorem dX11_image_58 : decode cX11_image 58 = .ok (.ireturn, 1) := by decide +kernel
set_option maxRecDepth 20000 in
theorem rX11_image (D : GD) (d : Nat)  (M : Mm) (post : Option Value → Mm → Prop) (hL : Lay 0 62 M) 
    (h : ∀ M1 : Mm, M1 = sI M 0 9 (1 : Int32) → ∀ M5 : Mm, M5 = rI M1 47 (va_cpy (gI M1 14) (gI M1 47) 0 0 9) → AMv D d mX11_copyMembers [.ref 30, .ref 52] M5 (fun M9 => AMv D d mX1_copyFrom [.ref 48, .ref 25] M9 (fun M15 => post (some (.int (gI M15 25 2))) M15))) :
    AM D (d + 1) 0 0 mX11_image [.ref 0] M post := by
  refine AM.of (by decide) (Nat.le_of_ble_eq_true rfl) ?_
  show AW D (d + 1) 0 0 mX11_image 0 0 0 [(0, .ref 0)] [] M post
  refine ab_aload_n 0 dX11_image_0 rfl ?_
  refine ab_iconst (v := 1) dX11_image_1 (by decide) ?_
  refine ab_putZ dX11_image_2 fs_11_61_11 rfl rfl (hL.sh 0 rfl (by decide) (by decide)).1 (hL.sh 0 rfl (by decide) (by decide)).2 (by decide) ?_
  refine ab_nameM (fun M1 hM1 => ?_)
  have h := h M1 hM1
  have hs4 : Sm M M1 := hM1 ▸ (Sm.refl _).i
  have hm2 : Sm M M1 := (Sm.refl M).trans hs4
  have hl3 := hL.of hm2
  refine ab_aload_n 0 dX11_image_5 rfl ?_
  refine ab_getP (r := 13) dX11_image_6 fs_11_39_11 rfl (hl3.sh 0 rfl (by decide) (by decide)).1 (hl3.sh 0 rfl (by decide) (by decide)).2 (hl3.pt 3 rfl (by decide) (by decide)) ?_
  refine ab_getP (r := 14) dX11_image_9 fs_11_95_0 rfl (hl3.sh 13 rfl (by decide) (by decide)).1 (hl3.sh 13 rfl (by decide) (by decide)).2 (hl3.pt 22 rfl (by decide) (by decide)) ?_
  refine ab_iconst (v := 0) dX11_image_12 (by decide) ?_
  refine ab_aload_n 0 dX11_image_13 rfl ?_
  refine ab_getP (r := 47) dX11_image_14 fs_11_65_11 rfl (hl3.sh 0 rfl (by decide) (by decide)).1 (hl3.sh 0 rfl (by decide) (by decide)).2 (hl3.pt 7 rfl (by decide) (by decide)) ?_
  refine ab_iconst (v := 0) dX11_image_17 (by decide) ?_
  refine ab_aload_n 0 dX11_image_18 rfl ?_
  refine ab_getP (r := 47) dX11_image_19 fs_11_65_11 rfl (hl3.sh 0 rfl (by decide) (by decide)).1 (hl3.sh 0 rfl (by decide) (by decide)).2 (hl3.pt 7 rfl (by decide) (by decide)) ?_
  refine ab_alenv (t := 1) (n := 9) (v := 9) dX11_image_22 (hl3.sh 47 rfl (by decide) (by decide)) (by decide) (by decide) rfl ?_
  refine ab_acopyI (st := []) dX11_image_23 w_437 w_439 w_438 w_91 (hl3.sh 14 rfl (by decide) (by decide)) (hl3.sh 47 rfl (by decide) (by decide)) (by decide) (by decide) (by decide) (by decide) (by decide) (Nat.le_of_ble_eq_true rfl) (Nat.succ_le_succ (Nat.zero_le _)) ?_
  refine ab_nameM (fun M5 hM5 => ?_)
  have h := h M5 hM5
  have hs8 : Sm M1 M5 := hM5 ▸ (Sm.refl _).ri
  have hm6 : Sm M M5 := hm2.trans hs8
  have hl7 := hL.of hm6
  refine ab_aload_n 0 dX11_image_26 rfl ?_
  refine ab_getP (r := 29) dX11_image_27 fs_11_53_11 rfl (hl7.sh 0 rfl (by decide) (by decide)).1 (hl7.sh 0 rfl (by decide) (by decide)).2 (hl7.pt 5 rfl (by decide) (by decide)) ?_
  refine ab_getP (r := 30) dX11_image_30 fs_11_232_7 rfl (hl7.sh 29 rfl (by decide) (by decide)).1 (hl7.sh 29 rfl (by decide) (by decide)).2 (hl7.pt 36 rfl (by decide) (by decide)) ?_
  refine ab_aload_n 0 dX11_image_33 rfl ?_
  refine ab_getP (r := 52) dX11_image_34 fs_11_71_11 rfl (hl7.sh 0 rfl (by decide) (by decide)).1 (hl7.sh 0 rfl (by decide) (by decide)).2 (hl7.pt 9 rfl (by decide) (by decide)) ?_
  refine ab_callS (d' := d) (mc' := 0) (ms' := 0) (vs := [.ref 30, .ref 52]) (st := []) dX11_image_37 ⟨cw_X11_copyMembers, w_840⟩ w_841 rfl rfl (Nat.le_of_ble_eq_true rfl) (Nat.le_refl _) (Nat.zero_le _) (Nat.zero_le _) (AM.mono h (fun r M9 ⟨hr11, hc12, h⟩ => ?_))
  subst hr11
  refine ab_rv ?_
  have hm13 : Sm M M9 := hm6.trans hc12
  have hl14 := hL.of hm13
  refine ab_aload_n 0 dX11_image_40 rfl ?_
  refine ab_getP (r := 48) dX11_image_41 fs_11_68_11 rfl (hl14.sh 0 rfl (by decide) (by decide)).1 (hl14.sh 0 rfl (by decide) (by decide)).2 (hl14.pt 8 rfl (by decide) (by decide)) ?_
  refine ab_aload_n 0 dX11_image_44 rfl ?_
  refine ab_getP (r := 25) dX11_image_45 fs_11_46_11 rfl (hl14.sh 0 rfl (by decide) (by decide)).1 (hl14.sh 0 rfl (by decide) (by decide)).2 (hl14.pt 4 rfl (by decide) (by decide)) ?_
  refine ab_callV (a := 48) (c0 := 1) (d' := d) (mc' := 0) (ms' := 0) (vs := [.ref 25]) (st := []) dX11_image_48 ⟨cw_X1_copyFrom, w_843⟩ w_844 w_845 (by decide) (hl14.sh 48 rfl (by decide) (by decide)).1 (hl14.sh 48 rfl (by decide) (by decide)).2 rfl rfl (Nat.le_of_ble_eq_true rfl) (Nat.le_refl _) (Nat.zero_le _) (Nat.zero_le _) (AM.mono h (fun r M15 ⟨hr17, hc18, h⟩ => ?_))
  subst hr17
  refine ab_rv ?_
  have hm19 : Sm M M15 := hm13.trans hc18
  have hl20 := hL.of hm19
  refine ab_aload_n 0 dX11_image_51 rfl ?_
  refine ab_getP (r := 25) dX11_image_52 fs_11_46_11 rfl (hl20.sh 0 rfl (by decide) (by decide)).1 (hl20.sh 0 rfl (by decide) (by decide)).2 (hl20.pt 4 rfl (by decide) (by decide)) ?_
  refine ab_getI dX11_image_55 fs_11_212_1 rfl (hl20.sh 25 rfl (by decide) (by decide)).1 (hl20.sh 25 rfl (by decide) (by decide)).2 ?_
  exact ab_iret dX11_image_58 rfl h
theorem dX11_undo_0 : decode cX11_undo 0 = .ok (.aload_n 0, 1) := by decide +kernel
theorem dX11_undo_1 : decode cX11_undo 1 = .ok (.getfield 61, 3) := by decide +kernel
theorem dX11_undo_4 : decode cX11_undo 4 = .ok (.ifCond .ne 6, 3) := by decide +kernel
theorem dX11_undo_7 : decode cX11_undo 7 = .ok (.bipush (-3), 2) := by decide +kernel
theorem dX11_undo_9 : decode cX11_undo 9 = .ok (.ireturn, 1) := by decide +kernel
theorem dX11_undo_10 : decode cX11_undo 10 = .ok (.aload_n 0, 1) := by decide +kernel
theorem dX11_undo_11 : decode cX11_undo 11 = .ok (.getfield 65, 3) := by decide +kernel
theorem dX11_undo_14 : decode cX11_undo 14 = .ok (.iconst 0, 1) := by decide +kernel
theorem dX11_undo_15 : decode cX11_undo 15 = .ok (.aload_n 0, 1) := by decide +kernel
theorem dX11_undo_16 : decode cX11_undo 16 = .ok (.getfield 39, 3) := by decide +kernel
theorem dX11_undo_19 : decode cX11_undo 19 = .ok (.getfield 95, 3) := by decide +kernel
theorem dX11_undo_22 : decode cX11_undo 22 = .ok (.iconst 0, 1) := by decide +kernel
theorem dX11_undo_23 : decode cX11_undo 23 = .ok (.aload_n 0, 1) := by decide +kernel
theorem dX11_undo_24 : decode cX11_undo 24 = .ok (.getfield 65, 3) := by decide +kernel
theorem dX11_undo_27 : decode cX11_undo 27 = .ok (.arraylength, 1) := by decide +kernel
theorem dX11_undo_28 : decode cX11_undo 28 = .ok (.invokestatic 121, 3) := by decide +kernel
theorem dX11_undo_31 : decode cX11_undo 31 = .ok (.aload_n 0, 1) := by decide +kernel
theorem dX11_undo_32 : decode cX11_undo 32 = .ok (.getfield 39, 3) := by decide +kernel
theorem dX11_undo_35 : decode cX11_undo 35 = .ok (.invokevirtual 98, 3) := by decide +kernel
theorem dX11_undo_38 : decode cX11_undo 38 = .ok (.aload_n 0, 1) := by decide +kernel
theorem dX11_undo_39 : decode cX11_undo 39 = .ok (.getfield 71, 3) := by decide +kernel
theorem dX11_undo_42 : decode cX11_undo 42 = .ok (.aload_n 0, 1) := by decide +kernel
theorem dX11_undo_43 : decode cX11_undo 43 = .ok (.getfield 53, 3) := by decide +kernel
theorem dX11_undo_46 : decode cX11_undo 46 = .ok (.getfield 232, 3) := by decide +kernel
theorem dX11_undo_49 : decode cX11_undo 49 = .ok (.invokestatic 275, 3) := by decide +kernel
theorem dX11_undo_52 : decode cX11_undo 52 = .ok (.aload_n 0, 1) := by decide +kernel
theorem dX11_undo_53 : decode cX11_undo 53 = .ok (.getfield 46, 3) := by decide +kernel
theorem dX11_undo_56 : decode cX11_undo 56 = .ok (.aload_n 0, 1) := by decide +kernel
theorem dX11_undo_57 : decode cX11_undo 57 = .ok (.getfield 68, 3) := by decide +kernel
theorem dX11_undo_60 : decode cX11_undo 60 = .ok (.invokevirtual 279, 3) := by decide +kernel
theorem dX11_undo_63 : decode cX11_undo 63 = .ok (.aload_n 0, 1) := by decide +kernel
theorem dX11_undo_64 : decode cX11_undo 64 = .ok (.getfield 46, 3) := by decide +kernel
theorem dX11_undo_67 : decode cX11_undo 67 = .ok (.getfield 212, 3) := by decide +kernel
theorem dX11_undo_70 : decode cX11_undo 70 = .ok (.ireturn, 1) := by decide +kernel
set_option maxRecDepth 20000 in
theorem rX11_undo (D : GD) (d : Nat)  (M : Mm) (post : Option Value → Mm → Prop) (hL : Lay 0 62 M) 
    (h : ((¬ (gI M 0 9) = 0 → ∀ M2 : Mm, M2 = rI M 14 (va_cpy (gI M 47) (gI M 14) 0 0 9) → AMv D d mX0_settleMixes [.ref 13] M2 (fun M6 => AMv D d mX11_copyMembers [.ref 52, .ref 30] M6 (fun M12 => AMv D d mX1_copyFrom [.ref 25, .ref 48] M12 (fun M18 => post (some (.int (gI M18 25 2))) M18)))) ∧ ((gI M 0 9) = 0 → post (some (.int (-3 : Int32))) M))) :
    AM D (d + 1) 0 0 mX11_undo [.ref 0] M post := by
  refine AM.of (by decide) (Nat.le_of_ble_eq_true rfl) ?_
  show AW D (d + 1) 0 0 mX11_undo 0 0 0 [(0, .ref 0)] [] M post
  refine ab_aload_n 0 dX11_undo_0 rfl ?_
  refine ab_getI dX11_undo_1 fs_11_61_11 rfl (hL.sh 0 rfl (by decide) (by decide)).1 (hL.sh 0 rfl (by decide) (by decide)).2 ?_
  refine ab_if_ne (tgt := 10) dX11_undo_4 (by decide) (fun c1 => ?_) (fun c1 => ?_)
  · have h := h.1 c1
    refine ab_aload_n 0 dX11_undo_10 rfl ?_
    refine ab_getP (r := 47) dX11_undo_11 fs_11_65_11 rfl (hL.sh 0 rfl (by decide) (by decide)).1 (hL.sh 0 rfl (by decide) (by decide)).2 (hL.pt 7 rfl (by decide) (by decide)) ?_
    refine ab_iconst (v := 0) dX11_undo_14 (by decide) ?_
    refine ab_aload_n 0 dX11_undo_15 rfl ?_
    refine ab_getP (r := 13) dX11_undo_16 fs_11_39_11 rfl (hL.sh 0 rfl (by decide) (by decide)).1 (hL.sh 0 rfl (by decide) (by decide)).2 (hL.pt 3 rfl (by decide) (by decide)) ?_
    refine ab_getP (r := 14) dX11_undo_19 fs_11_95_0 rfl (hL.sh 13 rfl (by decide) (by decide)).1 (hL.sh 13 rfl (by decide) (by decide)).2 (hL.pt 22 rfl (by decide) (by decide)) ?_
    refine ab_iconst (v := 0) dX11_undo_22 (by decide) ?_
    refine ab_aload_n 0 dX11_undo_23 rfl ?_
    refine ab_getP (r := 47) dX11_undo_24 fs_11_65_11 rfl (hL.sh 0 rfl (by decide) (by decide)).1 (hL.sh 0 rfl (by decide) (by decide)).2 (hL.pt 7 rfl (by decide) (by decide)) ?_
    refine ab_alenv (t := 1) (n := 9) (v := 9) dX11_undo_27 (hL.sh 47 rfl (by decide) (by decide)) (by decide) (by decide) rfl ?_
    refine ab_acopyI (st := []) dX11_undo_28 w_437 w_439 w_438 w_91 (hL.sh 47 rfl (by decide) (by decide)) (hL.sh 14 rfl (by decide) (by decide)) (by decide) (by decide) (by decide) (by decide) (by decide) (Nat.le_of_ble_eq_true rfl) (Nat.succ_le_succ (Nat.zero_le _)) ?_
    refine ab_nameM (fun M2 hM2 => ?_)
    have h := h M2 hM2
    have hs5 : Sm M M2 := hM2 ▸ (Sm.refl _).ri
    have hm3 : Sm M M2 := (Sm.refl M).trans hs5
    have hl4 := hL.of hm3
    refine ab_aload_n 0 dX11_undo_31 rfl ?_
    refine ab_getP (r := 13) dX11_undo_32 fs_11_39_11 rfl (hl4.sh 0 rfl (by decide) (by decide)).1 (hl4.sh 0 rfl (by decide) (by decide)).2 (hl4.pt 3 rfl (by decide) (by decide)) ?_
    refine ab_callV (a := 13) (c0 := 0) (d' := d) (mc' := 0) (ms' := 0) (vs := []) (st := []) dX11_undo_35 ⟨cw_X0_settleMixes, w_321⟩ w_153 w_154 (by decide) (hl4.sh 13 rfl (by decide) (by decide)).1 (hl4.sh 13 rfl (by decide) (by decide)).2 rfl rfl (Nat.le_of_ble_eq_true rfl) (Nat.le_refl _) (Nat.zero_le _) (Nat.zero_le _) (AM.mono h (fun r M6 ⟨hr8, hc9, h⟩ => ?_))
    subst hr8
    refine ab_rv ?_
    have hm10 : Sm M M6 := hm3.trans hc9
    have hl11 := hL.of hm10
    refine ab_aload_n 0 dX11_undo_38 rfl ?_
    refine ab_getP (r := 52) dX11_undo_39 fs_11_71_11 rfl (hl11.sh 0 rfl (by decide) (by decide)).1 (hl11.sh 0 rfl (by decide) (by decide)).2 (hl11.pt 9 rfl (by decide) (by decide)) ?_
    refine ab_aload_n 0 dX11_undo_42 rfl ?_
    refine ab_getP (r := 29) dX11_undo_43 fs_11_53_11 rfl (hl11.sh 0 rfl (by decide) (by decide)).1 (hl11.sh 0 rfl (by decide) (by decide)).2 (hl11.pt 5 rfl (by decide) (by decide)) ?_
    refine ab_getP (r := 30) dX11_undo_46 fs_11_232_7 rfl (hl11.sh 29 rfl (by decide) (by decide)).1 (hl11.sh 29 rfl (by decide) (by decide)).2 (hl11.pt 36 rfl (by decide) (by decide)) ?_
    refine ab_callS (d' := d) (mc' := 0) (ms' := 0) (vs := [.ref 52, .ref 30]) (st := []) dX11_undo_49 ⟨cw_X11_copyMembers, w_840⟩ w_841 rfl rfl (Nat.le_of_ble_eq_true rfl) (Nat.le_refl _) (Nat.zero_le _) (Nat.zero_le _) (AM.mono h (fun r M12 ⟨hr14, hc15, h⟩ => ?_))
    subst hr14
    refine ab_rv ?_
    have hm16 : Sm M M12 := hm10.trans hc15
    have hl17 := hL.of hm16
    refine ab_aload_n 0 dX11_undo_52 rfl ?_
    refine ab_getP (r := 25) dX11_undo_53 fs_11_46_11 rfl (hl17.sh 0 rfl (by decide) (by decide)).1 (hl17.sh 0 rfl (by decide) (by decide)).2 (hl17.pt 4 rfl (by decide) (by decide)) ?_
    refine ab_aload_n 0 dX11_undo_56 rfl ?_
    refine ab_getP (r := 48) dX11_undo_57 fs_11_68_11 rfl (hl17.sh 0 rfl (by decide) (by decide)).1 (hl17.sh 0 rfl (by decide) (by decide)).2 (hl17.pt 8 rfl (by decide) (by decide)) ?_
    refine ab_callV (a := 25) (c0 := 1) (d' := d) (mc' := 0) (ms' := 0) (vs := [.ref 48]) (st := []) dX11_undo_60 ⟨cw_X1_copyFrom, w_843⟩ w_844 w_845 (by decide) (hl17.sh 25 rfl (by decide) (by decide)).1 (hl17.sh 25 rfl (by decide) (by decide)).2 rfl rfl (Nat.le_of_ble_eq_true rfl) (Nat.le_refl _) (Nat.zero_le _) (Nat.zero_le _) (AM.mono h (fun r M18 ⟨hr20, hc21, h⟩ => ?_))
    subst hr20
    refine ab_rv ?_
    have hm22 : Sm M M18 := hm16.trans hc21
    have hl23 := hL.of hm22
    refine ab_aload_n 0 dX11_undo_63 rfl ?_
    refine ab_getP (r := 25) dX11_undo_64 fs_11_46_11 rfl (hl23.sh 0 rfl (by decide) (by decide)).1 (hl23.sh 0 rfl (by decide) (by decide)).2 (hl23.pt 4 rfl (by decide) (by decide)) ?_
    refine ab_getI dX11_undo_67 fs_11_212_1 rfl (hl23.sh 25 rfl (by decide) (by decide)).1 (hl23.sh 25 rfl (by decide) (by decide)).2 ?_
    exact ab_iret dX11_undo_70 rfl h
  · have h := h.2 c1
    refine ab_bipush (v := (-3)) dX11_undo_7 (by decide) ?_
    exact ab_iret dX11_undo_9 rfl h
theorem dX11_act_0 : decode cX11_act 0 = .ok (.aload_n 0, 1) := by decide +kernel
theorem dX11_act_1 : decode cX11_act 1 = .ok (.getfield 57, 3) := by decide +kernel
theorem dX11_act_4 : decode cX11_act 4 = .ok (.iconst 0, 1) := by decide +kernel
theorem dX11_act_5 : decode cX11_act 5 = .ok (.iconst 0, 1) := by decide +kernel
theorem dX11_act_6 : decode cX11_act 6 = .ok (.iastore, 1) := by decide +kernel
theorem dX11_act_7 : decode cX11_act 7 = .ok (.aload_n 0, 1) := by decide +kernel
theorem dX11_act_8 : decode cX11_act 8 = .ok (.iload_n 1, 1) := by decide +kernel
theorem dX11_act_9 : decode cX11_act 9 = .ok (.invokevirtual 131, 3) := by decide +kernel
theorem dX11_act_12 : decode cX11_act 12 = .ok (.astore 4, 2) := by decide +kernel
theorem dX11_act_14 : decode cX11_act 14 = .ok (.aload 4, 2) := by decide +kernel
theorem dX11_act_16 : decode cX11_act 16 = .ok (.ifnonnull 5, 3) := by decide +kernel
theorem dX11_act_19 : decode cX11_act 19 = .ok (.iconst 0, 1) := by decide +kernel
theorem dX11_act_20 : decode cX11_act 20 = .ok (.ireturn, 1) := by decide +kernel
theorem dX11_act_21 : decode cX11_act 21 = .ok (.iload_n 2, 1) := by decide +kernel
theorem dX11_act_22 : decode cX11_act 22 = .ok (.tableswitch 47 0 2 #[26, 33, 40], 26) := by decide +kernel
theorem dX11_act_48 : decode cX11_act 48 = .ok (.aload 4, 2) := by decide +kernel
theorem dX11_act_50 : decode cX11_act 50 = .ok (.iload_n 3, 1) := by decide +kernel
theorem dX11_act_51 : decode cX11_act 51 = .ok (.invokevirtual 283, 3) := by decide +kernel
theorem dX11_act_54 : decode cX11_act 54 = .ok (.ireturn, 1) := by decide +kernel
theorem dX11_act_55 : decode cX11_act 55 = .ok (.aload 4, 2) := by decide +kernel
theorem dX11_act_57 : decode cX11_act 57 = .ok (.iload_n 3, 1) := by decide +kernel
theorem dX11_act_58 : decode cX11_act 58 = .ok (.invokevirtual 286, 3) := by decide +kernel
theorem dX11_act_61 : decode cX11_act 61 = .ok (.ireturn, 1) := by decide +kernel
theorem dX11_act_62 : decode cX11_act 62 = .ok (.aload 4, 2) := by decide +kernel
theorem dX11_act_64 : decode cX11_act 64 = .ok (.iload_n 3, 1) := by decide +kernel
theorem dX11_act_65 : decode cX11_act 65 = .ok (.invokevirtual 289, 3) := by decide +kernel
theorem dX11_act_68 : decode cX11_act 68 = .ok (.ireturn, 1) := by decide +kernel
theorem dX11_act_69 : decode cX11_act 69 = .ok (.iconst 0, 1) := by decide +kernel
theorem dX11_act_70 : decode cX11_act 70 = .ok (.ireturn, 1) := by decide +kernel
set_option maxRecDepth 20000 in
theorem rX11_act (D : GD) (d : Nat) (a1 : Int32) (a2 : Int32) (a3 : Int32) (M : Mm) (post : Option Value → Mm → Prop) (hL : Lay 0 62 M) 
    (h : ∀ M1 : Mm, M1 = sI M 46 0 (0 : Int32) → AMq D d mX11_playerOrNull [.ref 0, .int a1] M1 (fun x6 M5 => ((∀ p12 : Nat, x6 = some p12 → ((a2 = (0 : Int32) → ∃ k14 j15 : Nat, Pl M5 p12 k14 j15 ∧ AMi D d (vm_looks k14) [.ref p12, .int a3] M5 (fun x18 M17 => post (some (.int x18)) M17)) ∧ ((a2 = (1 : Int32) → ∃ k25 j26 : Nat, Pl M5 p12 k25 j26 ∧ AMi D d (vm_goes k25) [.ref p12, .int a3] M5 (fun x29 M28 => post (some (.int x29)) M28)) ∧ ((a2 = (2 : Int32) → ∃ k36 j37 : Nat, Pl M5 p12 k36 j37 ∧ AMi D d (vm_tells k36) [.ref p12, .int a3] M5 (fun x40 M39 => post (some (.int x40)) M39)) ∧ ((¬ a2 = (0 : Int32) → ¬ a2 = (1 : Int32) → ¬ a2 = (2 : Int32) → post (some (.int (0 : Int32))) M5)))))) ∧ (x6 = none → post (some (.int (0 : Int32))) M5)))) :
    AM D (d + 1) 0 0 mX11_act [.ref 0, .int a1, .int a2, .int a3] M post := by
  refine AM.of (by decide) (Nat.le_of_ble_eq_true rfl) ?_
  show AW D (d + 1) 0 0 mX11_act 0 0 0 [(0, .ref 0), (1, .int a1), (2, .int a2), (3, .int a3)] [] M post
  refine ab_aload_n 0 dX11_act_0 rfl ?_
  refine ab_getP (r := 46) dX11_act_1 fs_11_57_11 rfl (hL.sh 0 rfl (by decide) (by decide)).1 (hL.sh 0 rfl (by decide) (by decide)).2 (hL.pt 6 rfl (by decide) (by decide)) ?_
  refine ab_iconst (v := 0) dX11_act_4 (by decide) ?_
  refine ab_iconst (v := 0) dX11_act_5 (by decide) ?_
  refine ab_iastj (j := 0) dX11_act_6 (hL.sh 46 rfl (by decide) (by decide)) (vin (by decide)) (by decide) ?_
  refine ab_nameM (fun M1 hM1 => ?_)
  have h := h M1 hM1
  have hs4 : Sm M M1 := hM1 ▸ (Sm.refl _).i
  have hm2 : Sm M M1 := (Sm.refl M).trans hs4
  have hl3 := hL.of hm2
  refine ab_aload_n 0 dX11_act_7 rfl ?_
  refine ab_iload_n 1 dX11_act_8 rfl ?_
  refine ab_callV (a := 0) (c0 := 11) (d' := d) (mc' := 0) (ms' := 0) (vs := [.int a1]) (st := []) dX11_act_9 ⟨cw_X11_playerOrNull, w_570⟩ w_572 w_14 (by decide) (hl3.sh 0 rfl (by decide) (by decide)).1 (hl3.sh 0 rfl (by decide) (by decide)).2 rfl rfl (Nat.le_of_ble_eq_true rfl) (Nat.le_refl _) (Nat.zero_le _) (Nat.zero_le _) (AM.mono h (fun r M5 ⟨x6, hr7, hc8, h⟩ => ?_))
  subst hr7
  refine ab_rs ?_
  have hm9 : Sm M M5 := hm2.trans hc8
  have hl10 := hL.of hm9
  refine ab_astoreq (lv1 := [(4, va_rf x6), (0, .ref 0), (1, .int a1), (2, .int a2), (3, .int a3)]) dX11_act_12 (by decide) rfl ?_
  refine ab_aloadq 0 dX11_act_14 rfl ?_
  refine ab_ifnonnull (tgt := 21) dX11_act_16 (by decide) (fun p12 c11 => ?_) (fun c11 => ?_)
  · have h := h.1 p12 c11
    rw [c11]
    refine ab_iload_n 3 dX11_act_21 rfl ?_
    by_cases c13 : a2 = (0 : Int32)
    · have h := h.1 c13
      refine ab_tableIn (off := (26)) (tgt := 48) dX11_act_22 (by rw [c13]; decide) (by rw [c13]; decide) (by rw [c13]; decide) (by decide) ?_
      refine ab_aload 0 dX11_act_48 rfl ?_
      refine ab_iload_n 4 dX11_act_50 rfl ?_
      obtain ⟨k14, j15, hp16, h⟩ := h
      refine vc_11_283 (d' := d) (vs := [.int a3]) (st := []) rfl hp16.2.1 dX11_act_51 hp16.1 rfl rfl (Nat.le_of_ble_eq_true rfl) (Nat.le_refl _) (AM.mono h (fun r M17 ⟨x18, hr19, hc20, h⟩ => ?_))
      subst hr19
      refine ab_rs ?_
      have hm21 : Sm M M17 := hm9.trans hc20
      have hl22 := hL.of hm21
      have hp23 := hp16.of hc20
      exact ab_iret dX11_act_54 rfl h
    · have h := h.2
      by_cases c24 : a2 = (1 : Int32)
      · have h := h.1 c24
        refine ab_tableIn (off := (33)) (tgt := 55) dX11_act_22 (by rw [c24]; decide) (by rw [c24]; decide) (by rw [c24]; decide) (by decide) ?_
        refine ab_aload 0 dX11_act_55 rfl ?_
        refine ab_iload_n 4 dX11_act_57 rfl ?_
        obtain ⟨k25, j26, hp27, h⟩ := h
        refine vc_11_286 (d' := d) (vs := [.int a3]) (st := []) rfl hp27.2.1 dX11_act_58 hp27.1 rfl rfl (Nat.le_of_ble_eq_true rfl) (Nat.le_refl _) (AM.mono h (fun r M28 ⟨x29, hr30, hc31, h⟩ => ?_))
        subst hr30
        refine ab_rs ?_
        have hm32 : Sm M M28 := hm9.trans hc31
        have hl33 := hL.of hm32
        have hp34 := hp27.of hc31
        exact ab_iret dX11_act_61 rfl h
      · have h := h.2
        by_cases c35 : a2 = (2 : Int32)
        · have h := h.1 c35
          refine ab_tableIn (off := (40)) (tgt := 62) dX11_act_22 (by rw [c35]; decide) (by rw [c35]; decide) (by rw [c35]; decide) (by decide) ?_
          refine ab_aload 0 dX11_act_62 rfl ?_
          refine ab_iload_n 4 dX11_act_64 rfl ?_
          obtain ⟨k36, j37, hp38, h⟩ := h
          refine vc_11_289 (d' := d) (vs := [.int a3]) (st := []) rfl hp38.2.1 dX11_act_65 hp38.1 rfl rfl (Nat.le_of_ble_eq_true rfl) (Nat.le_refl _) (AM.mono h (fun r M39 ⟨x40, hr41, hc42, h⟩ => ?_))
          subst hr41
          refine ab_rs ?_
          have hm43 : Sm M M39 := hm9.trans hc42
          have hl44 := hL.of hm43
          have hp45 := hp38.of hc42
          exact ab_iret dX11_act_68 rfl h
        · have h := h.2
          have h := h c13 c24 c35
          refine ab_tableOut (tgt := 69) dX11_act_22 (by have e0 := lv_neT (a := 0) c13 (by decide); have e1 := lv_neT (a := 1) c24 (by decide); have e2 := lv_neT (a := 2) c35 (by decide); omega) (by decide) ?_
          refine ab_iconst (v := 0) dX11_act_69 (by decide) ?_
          exact ab_iret dX11_act_70 rfl h
  · have h := h.2 c11
    refine ab_iconst (v := 0) dX11_act_19 (by decide) ?_
    exact ab_iret dX11_act_20 rfl h
theorem dX11_trace_0 : decode cX11_trace 0 = .ok (.iload_n 1, 1) := by decide +kernel
theorem dX11_trace_1 : decode cX11_trace 1 = .ok (.ifCond .lt 30, 3) := by decide +kernel
theorem dX11_trace_4 : decode cX11_trace 4 = .ok (.iload_n 1, 1) := by decide +kernel
theorem dX11_trace_5 : decode cX11_trace 5 = .ok (.bipush 20, 2) := by decide +kernel
theorem dX11_trace_7 : decode cX11_trace 7 = .ok (.if_icmp .ge 24, 3) := by decide +kernel
theorem dX11_trace_10 : decode cX11_trace 10 = .ok (.iload_n 1, 1) := by decide +kernel
theorem dX11_trace_11 : decode cX11_trace 11 = .ok (.aload_n 0, 1) := by decide +kernel
theorem dX11_trace_12 : decode cX11_trace 12 = .ok (.getfield 57, 3) := by decide +kernel
theorem dX11_trace_15 : decode cX11_trace 15 = .ok (.iconst 0, 1) := by decide +kernel
theorem dX11_trace_16 : decode cX11_trace 16 = .ok (.iaload, 1) := by decide +kernel
theorem dX11_trace_17 : decode cX11_trace 17 = .ok (.if_icmp .ge 14, 3) := by decide +kernel
theorem dX11_trace_20 : decode cX11_trace 20 = .ok (.aload_n 0, 1) := by decide +kernel
theorem dX11_trace_21 : decode cX11_trace 21 = .ok (.getfield 57, 3) := by decide +kernel
theorem dX11_trace_24 : decode cX11_trace 24 = .ok (.iconst 1, 1) := by decide +kernel
theorem dX11_trace_25 : decode cX11_trace 25 = .ok (.iload_n 1, 1) := by decide +kernel
theorem dX11_trace_26 : decode cX11_trace 26 = .ok (.iadd, 1) := by decide +kernel
theorem dX11_trace_27 : decode cX11_trace 27 = .ok (.iaload, 1) := by decide +kernel
theorem dX11_trace_28 : decode cX11_trace 28 = .ok (.goto 4, 3) := by decide +kernel
theorem dX11_trace_31 : decode cX11_trace 31 = .ok (.iconst (-1), 1) := by decide +kernel
theorem dX11_trace_32 : decode cX11_trace 32 = .ok (.ireturn, 1) := by decide +kernel
set_option maxRecDepth 20000 in
theorem rX11_trace (D : GD) (d : Nat) (a1 : Int32) (M : Mm) (post : Option Value → Mm → Prop) (hL : Lay 0 62 M) 
    (h : ((a1 < 0 → post (some (.int (-1 : Int32))) M) ∧ (¬ a1 < 0 → (((20 : Int32) ≤ a1 → post (some (.int (-1 : Int32))) M) ∧ (¬ (20 : Int32) ≤ a1 → (((gI M 46 0) ≤ a1 → post (some (.int (-1 : Int32))) M) ∧ (¬ (gI M 46 0) ≤ a1 → vp_in ((1 : Int32) + a1) 21 ∧ post (some (.int (gI M 46 (((1 : Int32) + a1).toNatClampNeg)))) M))))))) :
    AM D d 0 0 mX11_trace [.ref 0, .int a1] M post := by
  refine AM.of (by decide) (Nat.le_of_ble_eq_true rfl) ?_
  show AW D d 0 0 mX11_trace 0 0 0 [(0, .ref 0), (1, .int a1)] [] M post
  refine ab_iload_n 1 dX11_trace_0 rfl ?_
  refine ab_if_lt (tgt := 31) dX11_trace_1 (by decide) (fun c1 => ?_) (fun c1 => ?_)
  · have h := h.1 c1
    refine ab_iconst (v := (-1)) dX11_trace_31 (by decide) ?_
    exact ab_iret dX11_trace_32 rfl h
  · have h := h.2 c1
    refine ab_iload_n 1 dX11_trace_4 rfl ?_
    refine ab_bipush (v := 20) dX11_trace_5 (by decide) ?_
    refine ab_icmp_ge (tgt := 31) dX11_trace_7 (by decide) (fun c2 => ?_) (fun c2 => ?_)
    · have h := h.1 c2
      refine ab_iconst (v := (-1)) dX11_trace_31 (by decide) ?_
      exact ab_iret dX11_trace_32 rfl h
    · have h := h.2 c2
      refine ab_iload_n 1 dX11_trace_10 rfl ?_
      refine ab_aload_n 0 dX11_trace_11 rfl ?_
      refine ab_getP (r := 46) dX11_trace_12 fs_11_57_11 rfl (hL.sh 0 rfl (by decide) (by decide)).1 (hL.sh 0 rfl (by decide) (by decide)).2 (hL.pt 6 rfl (by decide) (by decide)) ?_
      refine ab_iconst (v := 0) dX11_trace_15 (by decide) ?_
      refine ab_ialdj (j := 0) dX11_trace_16 (hL.sh 46 rfl (by decide) (by decide)) (vin (by decide)) (by decide) ?_
      refine ab_icmp_ge (tgt := 31) dX11_trace_17 (by decide) (fun c3 => ?_) (fun c3 => ?_)
      · have h := h.1 c3
        refine ab_iconst (v := (-1)) dX11_trace_31 (by decide) ?_
        exact ab_iret dX11_trace_32 rfl h
      · have h := h.2 c3
        refine ab_aload_n 0 dX11_trace_20 rfl ?_
        refine ab_getP (r := 46) dX11_trace_21 fs_11_57_11 rfl (hL.sh 0 rfl (by decide) (by decide)).1 (hL.sh 0 rfl (by decide) (by decide)).2 (hL.pt 6 rfl (by decide) (by decide)) ?_
        refine ab_iconst (v := 1) dX11_trace_24 (by decide) ?_
        refine ab_iload_n 1 dX11_trace_25 rfl ?_
        refine ab_iadd dX11_trace_26 ?_
        have hb4 := h.1
        have h := h.2
        refine ab_ialdj (j := ((1 : Int32) + a1).toNatClampNeg) dX11_trace_27 (hL.sh 46 rfl (by decide) (by decide)) hb4 rfl ?_
        refine ab_goto (tgt := 32) dX11_trace_28 (by decide) ?_
        exact ab_iret dX11_trace_32 rfl h
theorem dX11_taken_0 : decode cX11_taken 0 = .ok (.iload_n 2, 1) := by decide +kernel
theorem dX11_taken_1 : decode cX11_taken 1 = .ok (.ifCond .lt 9, 3) := by decide +kernel
theorem dX11_taken_4 : decode cX11_taken 4 = .ok (.iload_n 2, 1) := by decide +kernel
theorem dX11_taken_5 : decode cX11_taken 5 = .ok (.bipush 7, 2) := by decide +kernel
theorem dX11_taken_7 : decode cX11_taken 7 = .ok (.if_icmp .lt 6, 3) := by decide +kernel
theorem dX11_taken_10 : decode cX11_taken 10 = .ok (.bipush (-2), 2) := by decide +kernel
theorem dX11_taken_12 : decode cX11_taken 12 = .ok (.ireturn, 1) := by decide +kernel
theorem dX11_taken_13 : decode cX11_taken 13 = .ok (.aload_n 0, 1) := by decide +kernel
theorem dX11_taken_14 : decode cX11_taken 14 = .ok (.iload_n 1, 1) := by decide +kernel
theorem dX11_taken_15 : decode cX11_taken 15 = .ok (.invokevirtual 131, 3) := by decide +kernel
theorem dX11_taken_18 : decode cX11_taken 18 = .ok (.astore_n 3, 1) := by decide +kernel
theorem dX11_taken_19 : decode cX11_taken 19 = .ok (.aload_n 3, 1) := by decide +kernel
theorem dX11_taken_20 : decode cX11_taken 20 = .ok (.ifnonnull 6, 3) := by decide +kernel
theorem dX11_taken_23 : decode cX11_taken 23 = .ok (.bipush (-11), 2) := by decide +kernel
theorem dX11_taken_25 : decode cX11_taken 25 = .ok (.ireturn, 1) := by decide +kernel
theorem dX11_taken_26 : decode cX11_taken 26 = .ok (.aload_n 3, 1) := by decide +kernel
theorem dX11_taken_27 : decode cX11_taken 27 = .ok (.iload_n 2, 1) := by decide +kernel
theorem dX11_taken_28 : decode cX11_taken 28 = .ok (.invokestatic 292, 3) := by decide +kernel
theorem dX11_taken_31 : decode cX11_taken 31 = .ok (.ifCond .eq 10, 3) := by decide +kernel
theorem dX11_taken_34 : decode cX11_taken 34 = .ok (.aload_n 3, 1) := by decide +kernel
theorem dX11_taken_35 : decode cX11_taken 35 = .ok (.getfield 135, 3) := by decide +kernel
theorem dX11_taken_38 : decode cX11_taken 38 = .ok (.goto 5, 3) := by decide +kernel
theorem dX11_taken_41 : decode cX11_taken 41 = .ok (.bipush (-12), 2) := by decide +kernel
theorem dX11_taken_43 : decode cX11_taken 43 = .ok (.ireturn, 1) := by decide +kernel
set_option maxRecDepth 20000 in
theorem rX11_taken (D : GD) (d : Nat) (a1 : Int32) (a2 : Int32) (M : Mm) (post : Option Value → Mm → Prop) (hL : Lay 0 62 M) 
    (h : ((a2 < 0 → post (some (.int (-2 : Int32))) M) ∧ (¬ a2 < 0 → ((a2 < (7 : Int32) → AMq D d mX11_playerOrNull [.ref 0, .int a1] M (fun x4 M3 => ((∀ p10 : Nat, x4 = some p10 → AMi D d mX11_isOfKind [.ref p10, .int a2] M3 (fun x12 M11 => ((x12 = 0 → post (some (.int (-12 : Int32))) M11) ∧ (¬ x12 = 0 → ∃ k18 j19 : Nat, Pl M11 p10 k18 j19 ∧ post (some (.int (gI M11 p10 0))) M11)))) ∧ (x4 = none → post (some (.int (-11 : Int32))) M3)))) ∧ (¬ a2 < (7 : Int32) → post (some (.int (-2 : Int32))) M))))) :
    AM D (d + 1) 0 0 mX11_taken [.ref 0, .int a1, .int a2] M post := by
  refine AM.of (by decide) (Nat.le_of_ble_eq_true rfl) ?_
  show AW D (d + 1) 0 0 mX11_taken 0 0 0 [(0, .ref 0), (1, .int a1), (2, .int a2)] [] M post
  refine ab_iload_n 2 dX11_taken_0 rfl ?_
  refine ab_if_lt (tgt := 10) dX11_taken_1 (by decide) (fun c1 => ?_) (fun c1 => ?_)
  · have h := h.1 c1
    refine ab_bipush (v := (-2)) dX11_taken_10 (by decide) ?_
    exact ab_iret dX11_taken_12 rfl h
  · have h := h.2 c1
    refine ab_iload_n 2 dX11_taken_4 rfl ?_
    refine ab_bipush (v := 7) dX11_taken_5 (by decide) ?_
    refine ab_icmp_lt (tgt := 13) dX11_taken_7 (by decide) (fun c2 => ?_) (fun c2 => ?_)
    · have h := h.1 c2
      refine ab_aload_n 0 dX11_taken_13 rfl ?_
      refine ab_iload_n 1 dX11_taken_14 rfl ?_
      refine ab_callV (a := 0) (c0 := 11) (d' := d) (mc' := 0) (ms' := 0) (vs := [.int a1]) (st := []) dX11_taken_15 ⟨cw_X11_playerOrNull, w_570⟩ w_572 w_14 (by decide) (hL.sh 0 rfl (by decide) (by decide)).1 (hL.sh 0 rfl (by decide) (by decide)).2 rfl rfl (Nat.le_of_ble_eq_true rfl) (Nat.le_refl _) (Nat.zero_le _) (Nat.zero_le _) (AM.mono h (fun r M3 ⟨x4, hr5, hc6, h⟩ => ?_))
      subst hr5
      refine ab_rs ?_
      have hm7 : Sm M M3 := (Sm.refl M).trans hc6
      have hl8 := hL.of hm7
      refine ab_astoreq_n (lv1 := [(3, va_rf x4), (0, .ref 0), (1, .int a1), (2, .int a2)]) dX11_taken_18 (by decide) rfl ?_
      refine ab_aloadq_n 0 dX11_taken_19 rfl ?_
      refine ab_ifnonnull (tgt := 26) dX11_taken_20 (by decide) (fun p10 c9 => ?_) (fun c9 => ?_)
      · have h := h.1 p10 c9
        rw [c9]
        refine ab_aload_n 0 dX11_taken_26 rfl ?_
        refine ab_iload_n 3 dX11_taken_27 rfl ?_
        refine ab_callS (d' := d) (mc' := 0) (ms' := 0) (vs := [.ref p10, .int a2]) (st := []) dX11_taken_28 ⟨cw_X11_isOfKind, w_957⟩ w_958 rfl rfl (Nat.le_of_ble_eq_true rfl) (Nat.le_refl _) (Nat.zero_le _) (Nat.zero_le _) (AM.mono h (fun r M11 ⟨x12, hr13, hc14, h⟩ => ?_))
        subst hr13
        refine ab_rs ?_
        have hm15 : Sm M M11 := hm7.trans hc14
        have hl16 := hL.of hm15
        refine ab_if_eq (tgt := 41) dX11_taken_31 (by decide) (fun c17 => ?_) (fun c17 => ?_)
        · have h := h.1 c17
          refine ab_bipush (v := (-12)) dX11_taken_41 (by decide) ?_
          exact ab_iret dX11_taken_43 rfl h
        · have h := h.2 c17
          refine ab_aload_n 0 dX11_taken_34 rfl ?_
          obtain ⟨k18, j19, hp20, h⟩ := h
          refine ab_getI dX11_taken_35 (pf_11_135 hp20.2.1).1 (pf_11_135 hp20.2.1).2 hp20.1.1 hp20.1.2 ?_
          refine ab_goto (tgt := 43) dX11_taken_38 (by decide) ?_
          exact ab_iret dX11_taken_43 rfl h
      · have h := h.2 c9
        refine ab_bipush (v := (-11)) dX11_taken_23 (by decide) ?_
        exact ab_iret dX11_taken_25 rfl h
    · have h := h.2 c2
      refine ab_bipush (v := (-2)) dX11_taken_10 (by decide) ?_
      exact ab_iret dX11_taken_12 rfl h
theorem dX11_count_0 : decode cX11_count 0 = .ok (.iload_n 1, 1) := by decide +kernel
theorem dX11_count_1 : decode cX11_count 1 = .ok (.tableswitch 68 0 4 #[35, 40, 45, 53, 61], 35) := by decide +kernel
theorem dX11_count_36 : decode cX11_count 36 = .ok (.aload_n 0, 1) := by decide +kernel
theorem dX11_count_37 : decode cX11_count 37 = .ok (.getfield 33, 3) := by decide +kernel
theorem dX11_count_40 : decode cX11_count 40 = .ok (.ireturn, 1) := by decide +kernel
theorem dX11_count_41 : decode cX11_count 41 = .ok (.aload_n 0, 1) := by decide +kernel
theorem dX11_count_42 : decode cX11_count 42 = .ok (.getfield 23, 3) := by decide +kernel
theorem dX11_count_45 : decode cX11_count 45 = .ok (.ireturn, 1) := by decide +kernel
theorem dX11_count_46 : decode cX11_count 46 = .ok (.aload_n 0, 1) := by decide +kernel
theorem dX11_count_47 : decode cX11_count 47 = .ok (.getfield 46, 3) := by decide +kernel
theorem dX11_count_50 : decode cX11_count 50 = .ok (.getfield 212, 3) := by decide +kernel
theorem dX11_count_53 : decode cX11_count 53 = .ok (.ireturn, 1) := by decide +kernel
theorem dX11_count_54 : decode cX11_count 54 = .ok (.aload_n 0, 1) := by decide +kernel
theorem dX11_count_55 : decode cX11_count 55 = .ok (.getfield 12, 3) := by decide +kernel
theorem dX11_count_58 : decode cX11_count 58 = .ok (.getfield 101, 3) := by decide +kernel
theorem dX11_count_61 : decode cX11_count 61 = .ok (.ireturn, 1) := by decide +kernel
theorem dX11_count_62 : decode cX11_count 62 = .ok (.aload_n 0, 1) := by decide +kernel
theorem dX11_count_63 : decode cX11_count 63 = .ok (.getfield 57, 3) := by decide +kernel
theorem dX11_count_66 : decode cX11_count 66 = .ok (.iconst 0, 1) := by decide +kernel
theorem dX11_count_67 : decode cX11_count 67 = .ok (.iaload, 1) := by decide +kernel
theorem dX11_count_68 : decode cX11_count 68 = .ok (.ireturn, 1) := by decide +kernel
theorem dX11_count_69 : decode cX11_count 69 = .ok (.bipush (-2), 2) := by decide +kernel
theorem dX11_count_71 : decode cX11_count 71 = .ok (.ireturn, 1) := by decide +kernel
set_option maxRecDepth 20000 in
theorem rX11_count (D : GD) (d : Nat) (a1 : Int32) (M : Mm) (post : Option Value → Mm → Prop) (hL : Lay 0 62 M) 
    (h : ((a1 = (0 : Int32) → post (some (.int (gI M 0 4))) M) ∧ ((a1 = (1 : Int32) → post (some (.int (gI M 0 2))) M) ∧ ((a1 = (2 : Int32) → post (some (.int (gI M 25 2))) M) ∧ ((a1 = (3 : Int32) → post (some (.int (gI M 1 2))) M) ∧ ((a1 = (4 : Int32) → post (some (.int (gI M 46 0))) M) ∧ ((¬ a1 = (0 : Int32) → ¬ a1 = (1 : Int32) → ¬ a1 = (2 : Int32) → ¬ a1 = (3 : Int32) → ¬ a1 = (4 : Int32) → post (some (.int (-2 : Int32))) M)))))))) :
    AM D d 0 0 mX11_count [.ref 0, .int a1] M post := by
  refine AM.of (by decide) (Nat.le_of_ble_eq_true rfl) ?_
  show AW D d 0 0 mX11_count 0 0 0 [(0, .ref 0), (1, .int a1)] [] M post
  refine ab_iload_n 1 dX11_count_0 rfl ?_
  by_cases c1 : a1 = (0 : Int32)
  · have h := h.1 c1
    refine ab_tableIn (off := (35)) (tgt := 36) dX11_count_1 (by rw [c1]; decide) (by rw [c1]; decide) (by rw [c1]; decide) (by decide) ?_
    refine ab_aload_n 0 dX11_count_36 rfl ?_
    refine ab_getI dX11_count_37 fs_11_33_11 rfl (hL.sh 0 rfl (by decide) (by decide)).1 (hL.sh 0 rfl (by decide) (by decide)).2 ?_
    exact ab_iret dX11_count_40 rfl h
  · have h := h.2
    by_cases c2 : a1 = (1 : Int32)
    · have h := h.1 c2
      refine ab_tableIn (off := (40)) (tgt := 41) dX11_count_1 (by rw [c2]; decide) (by rw [c2]; decide) (by rw [c2]; decide) (by decide) ?_
      refine ab_aload_n 0 dX11_count_41 rfl ?_
      refine ab_getI dX11_count_42 fs_11_23_11 rfl (hL.sh 0 rfl (by decide) (by decide)).1 (hL.sh 0 rfl (by decide) (by decide)).2 ?_
      exact ab_iret dX11_count_45 rfl h
    · have h := h.2
      by_cases c3 : a1 = (2 : Int32)
      · have h := h.1 c3
        refine ab_tableIn (off := (45)) (tgt := 46) dX11_count_1 (by rw [c3]; decide) (by rw [c3]; decide) (by rw [c3]; decide) (by decide) ?_
        refine ab_aload_n 0 dX11_count_46 rfl ?_
        refine ab_getP (r := 25) dX11_count_47 fs_11_46_11 rfl (hL.sh 0 rfl (by decide) (by decide)).1 (hL.sh 0 rfl (by decide) (by decide)).2 (hL.pt 4 rfl (by decide) (by decide)) ?_
        refine ab_getI dX11_count_50 fs_11_212_1 rfl (hL.sh 25 rfl (by decide) (by decide)).1 (hL.sh 25 rfl (by decide) (by decide)).2 ?_
        exact ab_iret dX11_count_53 rfl h
      · have h := h.2
        by_cases c4 : a1 = (3 : Int32)
        · have h := h.1 c4
          refine ab_tableIn (off := (53)) (tgt := 54) dX11_count_1 (by rw [c4]; decide) (by rw [c4]; decide) (by rw [c4]; decide) (by decide) ?_
          refine ab_aload_n 0 dX11_count_54 rfl ?_
          refine ab_getP (r := 1) dX11_count_55 fs_11_12_11 rfl (hL.sh 0 rfl (by decide) (by decide)).1 (hL.sh 0 rfl (by decide) (by decide)).2 (hL.pt 0 rfl (by decide) (by decide)) ?_
          refine ab_getI dX11_count_58 fs_11_101_6 rfl (hL.sh 1 rfl (by decide) (by decide)).1 (hL.sh 1 rfl (by decide) (by decide)).2 ?_
          exact ab_iret dX11_count_61 rfl h
        · have h := h.2
          by_cases c5 : a1 = (4 : Int32)
          · have h := h.1 c5
            refine ab_tableIn (off := (61)) (tgt := 62) dX11_count_1 (by rw [c5]; decide) (by rw [c5]; decide) (by rw [c5]; decide) (by decide) ?_
            refine ab_aload_n 0 dX11_count_62 rfl ?_
            refine ab_getP (r := 46) dX11_count_63 fs_11_57_11 rfl (hL.sh 0 rfl (by decide) (by decide)).1 (hL.sh 0 rfl (by decide) (by decide)).2 (hL.pt 6 rfl (by decide) (by decide)) ?_
            refine ab_iconst (v := 0) dX11_count_66 (by decide) ?_
            refine ab_ialdj (j := 0) dX11_count_67 (hL.sh 46 rfl (by decide) (by decide)) (vin (by decide)) (by decide) ?_
            exact ab_iret dX11_count_68 rfl h
          · have h := h.2
            have h := h c1 c2 c3 c4 c5
            refine ab_tableOut (tgt := 69) dX11_count_1 (by have e0 := lv_neT (a := 0) c1 (by decide); have e1 := lv_neT (a := 1) c2 (by decide); have e2 := lv_neT (a := 2) c3 (by decide); have e3 := lv_neT (a := 3) c4 (by decide); have e4 := lv_neT (a := 4) c5 (by decide); omega) (by decide) ?_
            refine ab_bipush (v := (-2)) dX11_count_69 (by decide) ?_
            exact ab_iret dX11_count_71 rfl h
theorem dX11_tape_0 : decode cX11_tape 0 = .ok (.iload_n 1, 1) := by decide +kernel
theorem dX11_tape_1 : decode cX11_tape 1 = .ok (.invokestatic 268, 3) := by decide +kernel
theorem dX11_tape_4 : decode cX11_tape 4 = .ok (.ifCond .ne 5, 3) := by decide +kernel
theorem dX11_tape_7 : decode cX11_tape 7 = .ok (.iconst (-1), 1) := by decide +kernel
theorem dX11_tape_8 : decode cX11_tape 8 = .ok (.ireturn, 1) := by decide +kernel
theorem dX11_tape_9 : decode cX11_tape 9 = .ok (.iload_n 2, 1) := by decide +kernel
theorem dX11_tape_10 : decode cX11_tape 10 = .ok (.iconst (-1), 1) := by decide +kernel
theorem dX11_tape_11 : decode cX11_tape 11 = .ok (.if_icmp .ne 19, 3) := by decide +kernel
theorem dX11_tape_14 : decode cX11_tape 14 = .ok (.aload_n 0, 1) := by decide +kernel
theorem dX11_tape_15 : decode cX11_tape 15 = .ok (.getfield 74, 3) := by decide +kernel
theorem dX11_tape_18 : decode cX11_tape 18 = .ok (.iload_n 1, 1) := by decide +kernel
theorem dX11_tape_19 : decode cX11_tape 19 = .ok (.iconst (-1), 1) := by decide +kernel
theorem dX11_tape_20 : decode cX11_tape 20 = .ok (.iastore, 1) := by decide +kernel
theorem dX11_tape_21 : decode cX11_tape 21 = .ok (.aload_n 0, 1) := by decide +kernel
theorem dX11_tape_22 : decode cX11_tape 22 = .ok (.getfield 77, 3) := by decide +kernel
theorem dX11_tape_25 : decode cX11_tape 25 = .ok (.iload_n 1, 1) := by decide +kernel
theorem dX11_tape_26 : decode cX11_tape 26 = .ok (.iconst 0, 1) := by decide +kernel
theorem dX11_tape_27 : decode cX11_tape 27 = .ok (.iastore, 1) := by decide +kernel
theorem dX11_tape_28 : decode cX11_tape 28 = .ok (.iconst 1, 1) := by decide +kernel
theorem dX11_tape_29 : decode cX11_tape 29 = .ok (.ireturn, 1) := by decide +kernel
theorem dX11_tape_30 : decode cX11_tape 30 = .ok (.iload_n 2, 1) := by decide +kernel
theorem dX11_tape_31 : decode cX11_tape 31 = .ok (.ifCond .lt 14, 3) := by decide +kernel
theorem dX11_tape_34 : decode cX11_tape 34 = .ok (.iload_n 2, 1) := by decide +kernel
theorem dX11_tape_35 : decode cX11_tape 35 = .ok (.iconst 5, 1) := by decide +kernel
theorem dX11_tape_36 : decode cX11_tape 36 = .ok (.if_icmp .ge 9, 3) := by decide +kernel
theorem dX11_tape_39 : decode cX11_tape 39 = .ok (.iload_n 3, 1) := by decide +kernel
theorem dX11_tape_40 : decode cX11_tape 40 = .ok (.bipush 60, 2) := by decide +kernel
theorem dX11_tape_42 : decode cX11_tape 42 = .ok (.if_icmp .le 6, 3) := by decide +kernel
theorem dX11_tape_45 : decode cX11_tape 45 = .ok (.bipush (-2), 2) := by decide +kernel
theorem dX11_tape_47 : decode cX11_tape 47 = .ok (.ireturn, 1) := by decide +kernel
theorem dX11_tape_48 : decode cX11_tape 48 = .ok (.iload_n 3, 1) := by decide +kernel
theorem dX11_tape_49 : decode cX11_tape 49 = .ok (.ifCond .ge 6, 3) := by decide +kernel
theorem dX11_tape_52 : decode cX11_tape 52 = .ok (.bipush (-14), 2) := by decide +kernel
theorem dX11_tape_54 : decode cX11_tape 54 = .ok (.ireturn, 1) := by decide +kernel
theorem dX11_tape_55 : decode cX11_tape 55 = .ok (.aload_n 0, 1) := by decide +kernel
theorem dX11_tape_56 : decode cX11_tape 56 = .ok (.getfield 74, 3) := by decide +kernel
theorem dX11_tape_59 : decode cX11_tape 59 = .ok (.iload_n 1, 1) := by decide +kernel
theorem dX11_tape_60 : decode cX11_tape 60 = .ok (.iload_n 2, 1) := by decide +kernel
theorem dX11_tape_61 : decode cX11_tape 61 = .ok (.iastore, 1) := by decide +kernel
theorem dX11_tape_62 : decode cX11_tape 62 = .ok (.aload_n 0, 1) := by decide +kernel
theorem dX11_tape_63 : decode cX11_tape 63 = .ok (.getfield 77, 3) := by decide +kernel
theorem dX11_tape_66 : decode cX11_tape 66 = .ok (.iload_n 1, 1) := by decide +kernel
theorem dX11_tape_67 : decode cX11_tape 67 = .ok (.iload_n 3, 1) := by decide +kernel
theorem dX11_tape_68 : decode cX11_tape 68 = .ok (.iastore, 1) := by decide +kernel
theorem dX11_tape_69 : decode cX11_tape 69 = .ok (.aload_n 0, 1) := by decide +kernel
theorem dX11_tape_70 : decode cX11_tape 70 = .ok (.getfield 82, 3) := by decide +kernel
theorem dX11_tape_73 : decode cX11_tape 73 = .ok (.iload_n 1, 1) := by decide +kernel
theorem dX11_tape_74 : decode cX11_tape 74 = .ok (.aaload, 1) := by decide +kernel
theorem dX11_tape_75 : decode cX11_tape 75 = .ok (.lconst 0, 1) := by decide +kernel
theorem dX11_tape_76 : decode cX11_tape 76 = .ok (.invokestatic 296, 3) := by decide +kernel
theorem dX11_tape_79 : decode cX11_tape 79 = .ok (.iconst 1, 1) := by decide +kernel
theorem dX11_tape_80 : decode cX11_tape 80 = .ok (.ireturn, 1) := by decide +kernel
set_option maxRecDepth 20000 in
theorem rX11_tape (D : GD) (d : Nat) (a1 : Int32) (a2 : Int32) (a3 : Int32) (M : Mm) (post : Option Value → Mm → Prop) (hL : Lay 0 62 M) 
    (h : AMi D d mX11_isTape [.int a1] M (fun x2 M1 => ((¬ x2 = 0 → ((¬ a2 = (-1 : Int32) → ((a2 < 0 → post (some (.int (-2 : Int32))) M1) ∧ (¬ a2 < 0 → (((5 : Int32) ≤ a2 → post (some (.int (-2 : Int32))) M1) ∧ (¬ (5 : Int32) ≤ a2 → ((a3 ≤ (60 : Int32) → ((0 ≤ a3 → vp_in a1 6 ∧ ∀ M14 : Mm, M14 = sI M1 53 a1.toNatClampNeg a2 → ∀ M18 : Mm, M18 = sI M14 54 a1.toNatClampNeg a3 → AMv D d mJ7_fill_d0a16 [.ref (56 + a1.toNatClampNeg), .long (0 : Int64)] M18 (fun M22 => post (some (.int (1 : Int32))) M22)) ∧ (¬ 0 ≤ a3 → post (some (.int (-14 : Int32))) M1))) ∧ (¬ a3 ≤ (60 : Int32) → post (some (.int (-2 : Int32))) M1))))))) ∧ (a2 = (-1 : Int32) → vp_in a1 6 ∧ ∀ M29 : Mm, M29 = sI M1 53 a1.toNatClampNeg (-1 : Int32) → ∀ M33 : Mm, M33 = sI M29 54 a1.toNatClampNeg (0 : Int32) → post (some (.int (1 : Int32))) M33))) ∧ (x2 = 0 → post (some (.int (-1 : Int32))) M1)))) :
    AM D (d + 1) 0 0 mX11_tape [.ref 0, .int a1, .int a2, .int a3] M post := by
  refine AM.of (by decide) (Nat.le_of_ble_eq_true rfl) ?_
  show AW D (d + 1) 0 0 mX11_tape 0 0 0 [(0, .ref 0), (1, .int a1), (2, .int a2), (3, .int a3)] [] M post
  refine ab_iload_n 1 dX11_tape_0 rfl ?_
  refine ab_callS (d' := d) (mc' := 0) (ms' := 0) (vs := [.int a1]) (st := []) dX11_tape_1 ⟨cw_X11_isTape, w_829⟩ w_830 rfl rfl (Nat.le_of_ble_eq_true rfl) (Nat.le_refl _) (Nat.zero_le _) (Nat.zero_le _) (AM.mono h (fun r M1 ⟨x2, hr3, hc4, h⟩ => ?_))
  subst hr3
  refine ab_rs ?_
  have hm5 : Sm M M1 := (Sm.refl M).trans hc4
  have hl6 := hL.of hm5
  refine ab_if_ne (tgt := 9) dX11_tape_4 (by decide) (fun c7 => ?_) (fun c7 => ?_)
  · have h := h.1 c7
    refine ab_iload_n 2 dX11_tape_9 rfl ?_
    refine ab_iconst (v := (-1)) dX11_tape_10 (by decide) ?_
    refine ab_icmp_ne (tgt := 30) dX11_tape_11 (by decide) (fun c8 => ?_) (fun c8 => ?_)
    · have h := h.1 c8
      refine ab_iload_n 2 dX11_tape_30 rfl ?_
      refine ab_if_lt (tgt := 45) dX11_tape_31 (by decide) (fun c9 => ?_) (fun c9 => ?_)
      · have h := h.1 c9
        refine ab_bipush (v := (-2)) dX11_tape_45 (by decide) ?_
        exact ab_iret dX11_tape_47 rfl h
      · have h := h.2 c9
        refine ab_iload_n 2 dX11_tape_34 rfl ?_
        refine ab_iconst (v := 5) dX11_tape_35 (by decide) ?_
        refine ab_icmp_ge (tgt := 45) dX11_tape_36 (by decide) (fun c10 => ?_) (fun c10 => ?_)
        · have h := h.1 c10
          refine ab_bipush (v := (-2)) dX11_tape_45 (by decide) ?_
          exact ab_iret dX11_tape_47 rfl h
        · have h := h.2 c10
          refine ab_iload_n 3 dX11_tape_39 rfl ?_
          refine ab_bipush (v := 60) dX11_tape_40 (by decide) ?_
          refine ab_icmp_le (tgt := 48) dX11_tape_42 (by decide) (fun c11 => ?_) (fun c11 => ?_)
          · have h := h.1 c11
            refine ab_iload_n 3 dX11_tape_48 rfl ?_
            refine ab_if_ge (tgt := 55) dX11_tape_49 (by decide) (fun c12 => ?_) (fun c12 => ?_)
            · have h := h.1 c12
              refine ab_aload_n 0 dX11_tape_55 rfl ?_
              refine ab_getP (r := 53) dX11_tape_56 fs_11_74_11 rfl (hl6.sh 0 rfl (by decide) (by decide)).1 (hl6.sh 0 rfl (by decide) (by decide)).2 (hl6.pt 10 rfl (by decide) (by decide)) ?_
              refine ab_iload_n 1 dX11_tape_59 rfl ?_
              refine ab_iload_n 2 dX11_tape_60 rfl ?_
              have hb13 := h.1
              have h := h.2
              refine ab_iastj (j := a1.toNatClampNeg) dX11_tape_61 (hl6.sh 53 rfl (by decide) (by decide)) hb13 rfl ?_
              refine ab_nameM (fun M14 hM14 => ?_)
              have h := h M14 hM14
              have hs17 : Sm M1 M14 := hM14 ▸ (Sm.refl _).i
              have hm15 : Sm M M14 := hm5.trans hs17
              have hl16 := hL.of hm15
              refine ab_aload_n 0 dX11_tape_62 rfl ?_
              refine ab_getP (r := 54) dX11_tape_63 fs_11_77_11 rfl (hl16.sh 0 rfl (by decide) (by decide)).1 (hl16.sh 0 rfl (by decide) (by decide)).2 (hl16.pt 11 rfl (by decide) (by decide)) ?_
              refine ab_iload_n 1 dX11_tape_66 rfl ?_
              refine ab_iload_n 3 dX11_tape_67 rfl ?_
              refine ab_iastj (j := a1.toNatClampNeg) dX11_tape_68 (hl16.sh 54 rfl (by decide) (by decide)) hb13 rfl ?_
              refine ab_nameM (fun M18 hM18 => ?_)
              have h := h M18 hM18
              have hs21 : Sm M14 M18 := hM18 ▸ (Sm.refl _).i
              have hm19 : Sm M M18 := hm15.trans hs21
              have hl20 := hL.of hm19
              refine ab_aload_n 0 dX11_tape_69 rfl ?_
              refine ab_getP (r := 55) dX11_tape_70 fs_11_82_11 rfl (hl20.sh 0 rfl (by decide) (by decide)).1 (hl20.sh 0 rfl (by decide) (by decide)).2 (hl20.pt 12 rfl (by decide) (by decide)) ?_
              refine ab_iload_n 1 dX11_tape_73 rfl ?_
              refine ab_aald5j (j := a1.toNatClampNeg) (r := 56 + a1.toNatClampNeg) dX11_tape_74 (hl20.sh 55 rfl (by decide) (by decide)) hb13 rfl (row_55 hl20 (by decide) (by decide) (vin_lt hb13)).1 ?_
              refine ab_lconst (v := 0) dX11_tape_75 (by decide) ?_
              refine ab_callS (d' := d) (mc' := 0) (ms' := 0) (vs := [.ref (56 + a1.toNatClampNeg), .long (0 : Int64)]) (st := []) dX11_tape_76 ⟨cw_J7_fill_d0a16, w_968⟩ w_969 rfl rfl (Nat.le_of_ble_eq_true rfl) (Nat.le_refl _) (Nat.zero_le _) (Nat.zero_le _) (AM.mono h (fun r M22 ⟨hr24, hc25, h⟩ => ?_))
              subst hr24
              refine ab_rv ?_
              have hm26 : Sm M M22 := hm19.trans hc25
              have hl27 := hL.of hm26
              refine ab_iconst (v := 1) dX11_tape_79 (by decide) ?_
              exact ab_iret dX11_tape_80 rfl h
            · have h := h.2 c12
              refine ab_bipush (v := (-14)) dX11_tape_52 (by decide) ?_
              exact ab_iret dX11_tape_54 rfl h
          · have h := h.2 c11
            refine ab_bipush (v := (-2)) dX11_tape_45 (by decide) ?_
            exact ab_iret dX11_tape_47 rfl h
    · have h := h.2 c8
      refine ab_aload_n 0 dX11_tape_14 rfl ?_
      refine ab_getP (r := 53) dX11_tape_15 fs_11_74_11 rfl (hl6.sh 0 rfl (by decide) (by decide)).1 (hl6.sh 0 rfl (by decide) (by decide)).2 (hl6.pt 10 rfl (by decide) (by decide)) ?_
      refine ab_iload_n 1 dX11_tape_18 rfl ?_
      refine ab_iconst (v := (-1)) dX11_tape_19 (by decide) ?_
      have hb28 := h.1
      have h := h.2
      refine ab_iastj (j := a1.toNatClampNeg) dX11_tape_20 (hl6.sh 53 rfl (by decide) (by decide)) hb28 rfl ?_
      refine ab_nameM (fun M29 hM29 => ?_)
      have h := h M29 hM29
      have hs32 : Sm M1 M29 := hM29 ▸ (Sm.refl _).i
      have hm30 : Sm M M29 := hm5.trans hs32
      have hl31 := hL.of hm30
      refine ab_aload_n 0 dX11_tape_21 rfl ?_
      refine ab_getP (r := 54) dX11_tape_22 fs_11_77_11 rfl (hl31.sh 0 rfl (by decide) (by decide)).1 (hl31.sh 0 rfl (by decide) (by decide)).2 (hl31.pt 11 rfl (by decide) (by decide)) ?_
      refine ab_iload_n 1 dX11_tape_25 rfl ?_
      refine ab_iconst (v := 0) dX11_tape_26 (by decide) ?_
      refine ab_iastj (j := a1.toNatClampNeg) dX11_tape_27 (hl31.sh 54 rfl (by decide) (by decide)) hb28 rfl ?_
      refine ab_nameM (fun M33 hM33 => ?_)
      have h := h M33 hM33
      have hs36 : Sm M29 M33 := hM33 ▸ (Sm.refl _).i
      have hm34 : Sm M M33 := hm30.trans hs36
      have hl35 := hL.of hm34
      refine ab_iconst (v := 1) dX11_tape_28 (by decide) ?_
      exact ab_iret dX11_tape_29 rfl h
  · have h := h.2 c7
    refine ab_iconst (v := (-1)) dX11_tape_7 (by decide) ?_
    exact ab_iret dX11_tape_8 rfl h
theorem dX11_item_0 : decode cX11_item 0 = .ok (.iload_n 1, 1) := by decide +kernel
theorem dX11_item_1 : decode cX11_item 1 = .ok (.invokestatic 268, 3) := by decide +kernel
theorem dX11_item_4 : decode cX11_item 4 = .ok (.ifCond .ne 5, 3) := by decide +kernel
theorem dX11_item_7 : decode cX11_item 7 = .ok (.iconst (-1), 1) := by decide +kernel
theorem dX11_item_8 : decode cX11_item 8 = .ok (.ireturn, 1) := by decide +kernel
theorem dX11_item_9 : decode cX11_item 9 = .ok (.aload_n 0, 1) := by decide +kernel
theorem dX11_item_10 : decode cX11_item 10 = .ok (.getfield 74, 3) := by decide +kernel
theorem dX11_item_13 : decode cX11_item 13 = .ok (.iload_n 1, 1) := by decide +kernel
theorem dX11_item_14 : decode cX11_item 14 = .ok (.iaload, 1) := by decide +kernel
theorem dX11_item_15 : decode cX11_item 15 = .ok (.iconst (-1), 1) := by decide +kernel
theorem dX11_item_16 : decode cX11_item 16 = .ok (.if_icmp .ne 6, 3) := by decide +kernel
theorem dX11_item_19 : decode cX11_item 19 = .ok (.bipush (-11), 2) := by decide +kernel
theorem dX11_item_21 : decode cX11_item 21 = .ok (.ireturn, 1) := by decide +kernel
theorem dX11_item_22 : decode cX11_item 22 = .ok (.iload_n 2, 1) := by decide +kernel
theorem dX11_item_23 : decode cX11_item 23 = .ok (.ifCond .lt 13, 3) := by decide +kernel
theorem dX11_item_26 : decode cX11_item 26 = .ok (.iload_n 2, 1) := by decide +kernel
theorem dX11_item_27 : decode cX11_item 27 = .ok (.aload_n 0, 1) := by decide +kernel
theorem dX11_item_28 : decode cX11_item 28 = .ok (.getfield 77, 3) := by decide +kernel
theorem dX11_item_31 : decode cX11_item 31 = .ok (.iload_n 1, 1) := by decide +kernel
theorem dX11_item_32 : decode cX11_item 32 = .ok (.iaload, 1) := by decide +kernel
theorem dX11_item_33 : decode cX11_item 33 = .ok (.if_icmp .lt 6, 3) := by decide +kernel
theorem dX11_item_36 : decode cX11_item 36 = .ok (.bipush (-13), 2) := by decide +kernel
theorem dX11_item_38 : decode cX11_item 38 = .ok (.ireturn, 1) := by decide +kernel
theorem dX11_item_39 : decode cX11_item 39 = .ok (.aload_n 0, 1) := by decide +kernel
theorem dX11_item_40 : decode cX11_item 40 = .ok (.getfield 82, 3) := by decide +kernel
theorem dX11_item_43 : decode cX11_item 43 = .ok (.iload_n 1, 1) := by decide +kernel
theorem dX11_item_44 : decode cX11_item 44 = .ok (.aaload, 1) := by decide +kernel
theorem dX11_item_45 : decode cX11_item 45 = .ok (.iload_n 2, 1) := by decide +kernel
theorem dX11_item_46 : decode cX11_item 46 = .ok (.aload_n 0, 1) := by decide +kernel
theorem dX11_item_47 : decode cX11_item 47 = .ok (.getfield 74, 3) := by decide +kernel
theorem dX11_item_50 : decode cX11_item 50 = .ok (.iload_n 1, 1) := by decide +kernel
theorem dX11_item_51 : decode cX11_item 51 = .ok (.iaload, 1) := by decide +kernel
theorem dX11_item_52 : decode cX11_item 52 = .ok (.lload_n 3, 1) := by decide +kernel
theorem dX11_item_53 : decode cX11_item 53 = .ok (.invokestatic 299, 3) := by decide +kernel
theorem dX11_item_56 : decode cX11_item 56 = .ok (.lastore, 1) := by decide +kernel
theorem dX11_item_57 : decode cX11_item 57 = .ok (.iconst 1, 1) := by decide +kernel
theorem dX11_item_58 : decode cX11_item 58 = .ok (.ireturn, 1) := by decide +kernel
set_option maxRecDepth 20000 in
theorem rX11_item (D : GD) (d : Nat) (a1 : Int32) (a2 : Int32) (a3 : Int64) (M : Mm) (post : Option Value → Mm → Prop) (hL : Lay 0 62 M) 
    (h : AMi D d mX11_isTape [.int a1] M (fun x2 M1 => ((¬ x2 = 0 → vp_in a1 6 ∧ ((¬ (gI M1 53 a1.toNatClampNeg) = (-1 : Int32) → ((a2 < 0 → post (some (.int (-13 : Int32))) M1) ∧ (¬ a2 < 0 → ((a2 < (gI M1 54 a1.toNatClampNeg) → AMl D d mX11_lowestBits [.int (gI M1 53 a1.toNatClampNeg), .long a3] M1 (fun x13 M12 => vp_in a2 60 ∧ ∀ M19 : Mm, M19 = sL M12 (56 + a1.toNatClampNeg) a2.toNatClampNeg x13 → post (some (.int (1 : Int32))) M19)) ∧ (¬ a2 < (gI M1 54 a1.toNatClampNeg) → post (some (.int (-13 : Int32))) M1))))) ∧ ((gI M1 53 a1.toNatClampNeg) = (-1 : Int32) → post (some (.int (-11 : Int32))) M1))) ∧ (x2 = 0 → post (some (.int (-1 : Int32))) M1)))) :
    AM D (d + 1) 0 0 mX11_item [.ref 0, .int a1, .int a2, .long a3] M post := by
  refine AM.of (by decide) (Nat.le_of_ble_eq_true rfl) ?_
  show AW D (d + 1) 0 0 mX11_item 0 0 0 [(0, .ref 0), (1, .int a1), (2, .int a2), (3, .long a3)] [] M post
  refine ab_iload_n 1 dX11_item_0 rfl ?_
  refine ab_callS (d' := d) (mc' := 0) (ms' := 0) (vs := [.int a1]) (st := []) dX11_item_1 ⟨cw_X11_isTape, w_829⟩ w_830 rfl rfl (Nat.le_of_ble_eq_true rfl) (Nat.le_refl _) (Nat.zero_le _) (Nat.zero_le _) (AM.mono h (fun r M1 ⟨x2, hr3, hc4, h⟩ => ?_))
  subst hr3
  refine ab_rs ?_
  have hm5 : Sm M M1 := (Sm.refl M).trans hc4
  have hl6 := hL.of hm5
  refine ab_if_ne (tgt := 9) dX11_item_4 (by decide) (fun c7 => ?_) (fun c7 => ?_)
  · have h := h.1 c7
    refine ab_aload_n 0 dX11_item_9 rfl ?_
    refine ab_getP (r := 53) dX11_item_10 fs_11_74_11 rfl (hl6.sh 0 rfl (by decide) (by decide)).1 (hl6.sh 0 rfl (by decide) (by decide)).2 (hl6.pt 10 rfl (by decide) (by decide)) ?_
    refine ab_iload_n 1 dX11_item_13 rfl ?_
    have hb8 := h.1
    have h := h.2
    refine ab_ialdj (j := a1.toNatClampNeg) dX11_item_14 (hl6.sh 53 rfl (by decide) (by decide)) hb8 rfl ?_
    refine ab_iconst (v := (-1)) dX11_item_15 (by decide) ?_
    refine ab_icmp_ne (tgt := 22) dX11_item_16 (by decide) (fun c9 => ?_) (fun c9 => ?_)
    · have h := h.1 c9
      refine ab_iload_n 2 dX11_item_22 rfl ?_
      refine ab_if_lt (tgt := 36) dX11_item_23 (by decide) (fun c10 => ?_) (fun c10 => ?_)
      · have h := h.1 c10
        refine ab_bipush (v := (-13)) dX11_item_36 (by decide) ?_
        exact ab_iret dX11_item_38 rfl h
      · have h := h.2 c10
        refine ab_iload_n 2 dX11_item_26 rfl ?_
        refine ab_aload_n 0 dX11_item_27 rfl ?_
        refine ab_getP (r := 54) dX11_item_28 fs_11_77_11 rfl (hl6.sh 0 rfl (by decide) (by decide)).1 (hl6.sh 0 rfl (by decide) (by decide)).2 (hl6.pt 11 rfl (by decide) (by decide)) ?_
        refine ab_iload_n 1 dX11_item_31 rfl ?_
        refine ab_ialdj (j := a1.toNatClampNeg) dX11_item_32 (hl6.sh 54 rfl (by decide) (by decide)) hb8 rfl ?_
        refine ab_icmp_lt (tgt := 39) dX11_item_33 (by decide) (fun c11 => ?_) (fun c11 => ?_)
        · have h := h.1 c11
          refine ab_aload_n 0 dX11_item_39 rfl ?_
          refine ab_getP (r := 55) dX11_item_40 fs_11_82_11 rfl (hl6.sh 0 rfl (by decide) (by decide)).1 (hl6.sh 0 rfl (by decide) (by decide)).2 (hl6.pt 12 rfl (by decide) (by decide)) ?_
          refine ab_iload_n 1 dX11_item_43 rfl ?_
          refine ab_aald5j (j := a1.toNatClampNeg) (r := 56 + a1.toNatClampNeg) dX11_item_44 (hl6.sh 55 rfl (by decide) (by decide)) hb8 rfl (row_55 hl6 (by decide) (by decide) (vin_lt hb8)).1 ?_
          refine ab_iload_n 2 dX11_item_45 rfl ?_
          refine ab_aload_n 0 dX11_item_46 rfl ?_
          refine ab_getP (r := 53) dX11_item_47 fs_11_74_11 rfl (hl6.sh 0 rfl (by decide) (by decide)).1 (hl6.sh 0 rfl (by decide) (by decide)).2 (hl6.pt 10 rfl (by decide) (by decide)) ?_
          refine ab_iload_n 1 dX11_item_50 rfl ?_
          refine ab_ialdj (j := a1.toNatClampNeg) dX11_item_51 (hl6.sh 53 rfl (by decide) (by decide)) hb8 rfl ?_
          refine ab_lload_n 3 dX11_item_52 rfl ?_
          refine ab_callS (d' := d) (mc' := 0) (ms' := 0) (vs := [.int (gI M1 53 a1.toNatClampNeg), .long a3]) (st := [.int a2, .ref (56 + a1.toNatClampNeg)]) dX11_item_53 ⟨cw_X11_lowestBits, w_975⟩ w_976 rfl rfl (Nat.le_of_ble_eq_true rfl) (Nat.le_refl _) (Nat.zero_le _) (Nat.zero_le _) (AM.mono h (fun r M12 ⟨x13, hr14, hc15, h⟩ => ?_))
          subst hr14
          refine ab_rs ?_
          have hm16 : Sm M M12 := hm5.trans hc15
          have hl17 := hL.of hm16
          have hb18 := h.1
          have h := h.2
          refine ab_lastj (j := a2.toNatClampNeg) dX11_item_56 (row_55 hl17 (by decide) (by decide) (vin_lt hb8)).2 hb18 rfl ?_
          refine ab_nameM (fun M19 hM19 => ?_)
          have h := h M19 hM19
          have hs22 : Sm M12 M19 := hM19 ▸ (Sm.refl _).l
          have hm20 : Sm M M19 := hm16.trans hs22
          have hl21 := hL.of hm20
          refine ab_iconst (v := 1) dX11_item_57 (by decide) ?_
          exact ab_iret dX11_item_58 rfl h
        · have h := h.2 c11
          refine ab_bipush (v := (-13)) dX11_item_36 (by decide) ?_
          exact ab_iret dX11_item_38 rfl h
    · have h := h.2 c9
      refine ab_bipush (v := (-11)) dX11_item_19 (by decide) ?_
      exact ab_iret dX11_item_21 rfl h
  · have h := h.2 c7
    refine ab_iconst (v := (-1)) dX11_item_7 (by decide) ?_
    exact ab_iret dX11_item_8 rfl h
theorem dX11_read_0 : decode cX11_read 0 = .ok (.iload_n 1, 1) := by decide +kernel
theorem dX11_read_1 : decode cX11_read 1 = .ok (.invokestatic 268, 3) := by decide +kernel
theorem dX11_read_4 : decode cX11_read 4 = .ok (.ifCond .eq 17, 3) := by decide +kernel
theorem dX11_read_7 : decode cX11_read 7 = .ok (.iload_n 2, 1) := by decide +kernel
theorem dX11_read_8 : decode cX11_read 8 = .ok (.ifCond .lt 13, 3) := by decide +kernel
theorem dX11_read_11 : decode cX11_read 11 = .ok (.iload_n 2, 1) := by decide +kernel
theorem dX11_read_12 : decode cX11_read 12 = .ok (.aload_n 0, 1) := by decide +kernel
theorem dX11_read_13 : decode cX11_read 13 = .ok (.getfield 77, 3) := by decide +kernel
theorem dX11_read_16 : decode cX11_read 16 = .ok (.iload_n 1, 1) := by decide +kernel
theorem dX11_read_17 : decode cX11_read 17 = .ok (.iaload, 1) := by decide +kernel
theorem dX11_read_18 : decode cX11_read 18 = .ok (.if_icmp .lt 7, 3) := by decide +kernel
theorem dX11_read_21 : decode cX11_read 21 = .ok (.ldc2_w 196, 3) := by decide +kernel
theorem dX11_read_24 : decode cX11_read 24 = .ok (.lreturn, 1) := by decide +kernel
theorem dX11_read_25 : decode cX11_read 25 = .ok (.aload_n 0, 1) := by decide +kernel
theorem dX11_read_26 : decode cX11_read 26 = .ok (.getfield 82, 3) := by decide +kernel
theorem dX11_read_29 : decode cX11_read 29 = .ok (.iload_n 1, 1) := by decide +kernel
theorem dX11_read_30 : decode cX11_read 30 = .ok (.aaload, 1) := by decide +kernel
theorem dX11_read_31 : decode cX11_read 31 = .ok (.iload_n 2, 1) := by decide +kernel
theorem dX11_read_32 : decode cX11_read 32 = .ok (.laload, 1) := by decide +kernel
theorem dX11_read_33 : decode cX11_read 33 = .ok (.lreturn, 1) := by decide +kernel
set_option maxRecDepth 20000 in
theorem rX11_read (D : GD) (d : Nat) (a1 : Int32) (a2 : Int32) (M : Mm) (post : Option Value → Mm → Prop) (hL : Lay 0 62 M) 
    (h : AMi D d mX11_isTape [.int a1] M (fun x2 M1 => ((x2 = 0 → post (some (.long (-9223372036854775808 : Int64))) M1) ∧ (¬ x2 = 0 → ((a2 < 0 → post (some (.long (-9223372036854775808 : Int64))) M1) ∧ (¬ a2 < 0 → vp_in a1 6 ∧ ((a2 < (gI M1 54 a1.toNatClampNeg) → vp_in a2 60 ∧ post (some (.long (gL M1 (56 + a1.toNatClampNeg) a2.toNatClampNeg))) M1) ∧ (¬ a2 < (gI M1 54 a1.toNatClampNeg) → post (some (.long (-9223372036854775808 : Int64))) M1)))))))) :
    AM D (d + 1) 0 0 mX11_read [.ref 0, .int a1, .int a2] M post := by
  refine AM.of (by decide) (Nat.le_of_ble_eq_true rfl) ?_
  show AW D (d + 1) 0 0 mX11_read 0 0 0 [(0, .ref 0), (1, .int a1), (2, .int a2)] [] M post
  refine ab_iload_n 1 dX11_read_0 rfl ?_
  refine ab_callS (d' := d) (mc' := 0) (ms' := 0) (vs := [.int a1]) (st := []) dX11_read_1 ⟨cw_X11_isTape, w_829⟩ w_830 rfl rfl (Nat.le_of_ble_eq_true rfl) (Nat.le_refl _) (Nat.zero_le _) (Nat.zero_le _) (AM.mono h (fun r M1 ⟨x2, hr3, hc4, h⟩ => ?_))
  subst hr3
  refine ab_rs ?_
  have hm5 : Sm M M1 := (Sm.refl M).trans hc4
  have hl6 := hL.of hm5
  refine ab_if_eq (tgt := 21) dX11_read_4 (by decide) (fun c7 => ?_) (fun c7 => ?_)
  · have h := h.1 c7
    refine ab_ldc2 dX11_read_21 w_681 ?_
    exact ab_lret dX11_read_24 rfl h
  · have h := h.2 c7
    refine ab_iload_n 2 dX11_read_7 rfl ?_
    refine ab_if_lt (tgt := 21) dX11_read_8 (by decide) (fun c8 => ?_) (fun c8 => ?_)
    · have h := h.1 c8
      refine ab_ldc2 dX11_read_21 w_681 ?_
      exact ab_lret dX11_read_24 rfl h
    · have h := h.2 c8
      refine ab_iload_n 2 dX11_read_11 rfl ?_
      refine ab_aload_n 0 dX11_read_12 rfl ?_
      refine ab_getP (r := 54) dX11_read_13 fs_11_77_11 rfl (hl6.sh 0 rfl (by decide) (by decide)).1 (hl6.sh 0 rfl (by decide) (by decide)).2 (hl6.pt 11 rfl (by decide) (by decide)) ?_
      refine ab_iload_n 1 dX11_read_16 rfl ?_
      have hb9 := h.1
      have h := h.2
      refine ab_ialdj (j := a1.toNatClampNeg) dX11_read_17 (hl6.sh 54 rfl (by decide) (by decide)) hb9 rfl ?_
      refine ab_icmp_lt (tgt := 25) dX11_read_18 (by decide) (fun c10 => ?_) (fun c10 => ?_)
      · have h := h.1 c10
        refine ab_aload_n 0 dX11_read_25 rfl ?_
        refine ab_getP (r := 55) dX11_read_26 fs_11_82_11 rfl (hl6.sh 0 rfl (by decide) (by decide)).1 (hl6.sh 0 rfl (by decide) (by decide)).2 (hl6.pt 12 rfl (by decide) (by decide)) ?_
        refine ab_iload_n 1 dX11_read_29 rfl ?_
        refine ab_aald5j (j := a1.toNatClampNeg) (r := 56 + a1.toNatClampNeg) dX11_read_30 (hl6.sh 55 rfl (by decide) (by decide)) hb9 rfl (row_55 hl6 (by decide) (by decide) (vin_lt hb9)).1 ?_
        refine ab_iload_n 2 dX11_read_31 rfl ?_
        have hb11 := h.1
        have h := h.2
        refine ab_laldj (j := a2.toNatClampNeg) dX11_read_32 (row_55 hl6 (by decide) (by decide) (vin_lt hb9)).2 hb11 rfl ?_
        exact ab_lret dX11_read_33 rfl h
      · have h := h.2 c10
        refine ab_ldc2 dX11_read_21 w_681 ?_
        exact ab_lret dX11_read_24 rfl h
theorem dX11_shift_0 : decode cX11_shift 0 = .ok (.iload_n 1, 1) := by decide +kernel
theorem dX11_shift_1 : decode cX11_shift 1 = .ok (.invokestatic 268, 3) := by decide +kernel
theorem dX11_shift_4 : decode cX11_shift 4 = .ok (.ifCond .eq 10, 3) := by decide +kernel
theorem dX11_shift_7 : decode cX11_shift 7 = .ok (.iload_n 3, 1) := by decide +kernel
theorem dX11_shift_8 : decode cX11_shift 8 = .ok (.invokestatic 268, 3) := by decide +kernel
theorem dX11_shift_11 : decode cX11_shift 11 = .ok (.ifCond .ne 5, 3) := by decide +kernel
theorem dX11_shift_14 : decode cX11_shift 14 = .ok (.iconst (-1), 1) := by decide +kernel
theorem dX11_shift_15 : decode cX11_shift 15 = .ok (.ireturn, 1) := by decide +kernel
theorem dX11_shift_16 : decode cX11_shift 16 = .ok (.aload_n 0, 1) := by decide +kernel
theorem dX11_shift_17 : decode cX11_shift 17 = .ok (.getfield 74, 3) := by decide +kernel
theorem dX11_shift_20 : decode cX11_shift 20 = .ok (.iload_n 1, 1) := by decide +kernel
theorem dX11_shift_21 : decode cX11_shift 21 = .ok (.iaload, 1) := by decide +kernel
theorem dX11_shift_22 : decode cX11_shift 22 = .ok (.iconst (-1), 1) := by decide +kernel
theorem dX11_shift_23 : decode cX11_shift 23 = .ok (.if_icmp .eq 13, 3) := by decide +kernel
theorem dX11_shift_26 : decode cX11_shift 26 = .ok (.aload_n 0, 1) := by decide +kernel
theorem dX11_shift_27 : decode cX11_shift 27 = .ok (.getfield 74, 3) := by decide +kernel
theorem dX11_shift_30 : decode cX11_shift 30 = .ok (.iload_n 3, 1) := by decide +kernel
theorem dX11_shift_31 : decode cX11_shift 31 = .ok (.iaload, 1) := by decide +kernel
theorem dX11_shift_32 : decode cX11_shift 32 = .ok (.iconst (-1), 1) := by decide +kernel
theorem dX11_shift_33 : decode cX11_shift 33 = .ok (.if_icmp .ne 6, 3) := by decide +kernel
theorem dX11_shift_36 : decode cX11_shift 36 = .ok (.bipush (-11), 2) := by decide +kernel
theorem dX11_shift_38 : decode cX11_shift 38 = .ok (.ireturn, 1) := by decide +kernel
theorem dX11_shift_39 : decode cX11_shift 39 = .ok (.aload_n 0, 1) := by decide +kernel
theorem dX11_shift_40 : decode cX11_shift 40 = .ok (.getfield 74, 3) := by decide +kernel
theorem dX11_shift_43 : decode cX11_shift 43 = .ok (.iload_n 1, 1) := by decide +kernel
theorem dX11_shift_44 : decode cX11_shift 44 = .ok (.iaload, 1) := by decide +kernel
theorem dX11_shift_45 : decode cX11_shift 45 = .ok (.aload_n 0, 1) := by decide +kernel
theorem dX11_shift_46 : decode cX11_shift 46 = .ok (.getfield 74, 3) := by decide +kernel
theorem dX11_shift_49 : decode cX11_shift 49 = .ok (.iload_n 3, 1) := by decide +kernel
theorem dX11_shift_50 : decode cX11_shift 50 = .ok (.iaload, 1) := by decide +kernel
theorem dX11_shift_51 : decode cX11_shift 51 = .ok (.if_icmp .eq 6, 3) := by decide +kernel
theorem dX11_shift_54 : decode cX11_shift 54 = .ok (.bipush (-12), 2) := by decide +kernel
theorem dX11_shift_56 : decode cX11_shift 56 = .ok (.ireturn, 1) := by decide +kernel
theorem dX11_shift_57 : decode cX11_shift 57 = .ok (.iload_n 2, 1) := by decide +kernel
theorem dX11_shift_58 : decode cX11_shift 58 = .ok (.iload 5, 2) := by decide +kernel
theorem dX11_shift_60 : decode cX11_shift 60 = .ok (.aload_n 0, 1) := by decide +kernel
theorem dX11_shift_61 : decode cX11_shift 61 = .ok (.getfield 77, 3) := by decide +kernel
theorem dX11_shift_64 : decode cX11_shift 64 = .ok (.iload_n 1, 1) := by decide +kernel
theorem dX11_shift_65 : decode cX11_shift 65 = .ok (.iaload, 1) := by decide +kernel
theorem dX11_shift_66 : decode cX11_shift 66 = .ok (.invokestatic 303, 3) := by decide +kernel
theorem dX11_shift_69 : decode cX11_shift 69 = .ok (.ifCond .eq 19, 3) := by decide +kernel
theorem dX11_shift_72 : decode cX11_shift 72 = .ok (.iload 4, 2) := by decide +kernel
theorem dX11_shift_74 : decode cX11_shift 74 = .ok (.iload 5, 2) := by decide +kernel
theorem dX11_shift_76 : decode cX11_shift 76 = .ok (.aload_n 0, 1) := by decide +kernel
theorem dX11_shift_77 : decode cX11_shift 77 = .ok (.getfield 77, 3) := by decide +kernel
theorem dX11_shift_80 : decode cX11_shift 80 = .ok (.iload_n 3, 1) := by decide +kernel
theorem dX11_shift_81 : decode cX11_shift 81 = .ok (.iaload, 1) := by decide +kernel
theorem dX11_shift_82 : decode cX11_shift 82 = .ok (.invokestatic 303, 3) := by decide +kernel
theorem dX11_shift_85 : decode cX11_shift 85 = .ok (.ifCond .ne 6, 3) := by decide +kernel
theorem dX11_shift_88 : decode cX11_shift 88 = .ok (.bipush (-13), 2) := by decide +kernel
theorem dX11_shift_90 : decode cX11_shift 90 = .ok (.ireturn, 1) := by decide +kernel
theorem dX11_shift_91 : decode cX11_shift 91 = .ok (.aload_n 0, 1) := by decide +kernel
theorem dX11_shift_92 : decode cX11_shift 92 = .ok (.getfield 82, 3) := by decide +kernel
theorem dX11_shift_95 : decode cX11_shift 95 = .ok (.iload_n 1, 1) := by decide +kernel
theorem dX11_shift_96 : decode cX11_shift 96 = .ok (.aaload, 1) := by decide +kernel
theorem dX11_shift_97 : decode cX11_shift 97 = .ok (.iload_n 2, 1) := by decide +kernel
theorem dX11_shift_98 : decode cX11_shift 98 = .ok (.aload_n 0, 1) := by decide +kernel
theorem dX11_shift_99 : decode cX11_shift 99 = .ok (.getfield 82, 3) := by decide +kernel
theorem dX11_shift_102 : decode cX11_shift 102 = .ok (.iload_n 3, 1) := by decide +kernel
theorem dX11_shift_103 : decode cX11_shift 103 = .ok (.aaload, 1) := by decide +kernel
theorem dX11_shift_104 : decode cX11_shift 104 = .ok (.iload 4, 2) := by decide +kernel
theorem dX11_shift_106 : decode cX11_shift 106 = .ok (.iload 5, 2) := by decide +kernel
theorem dX11_shift_108 : decode cX11_shift 108 = .ok (.invokestatic 121, 3) := by decide +kernel
theorem dX11_shift_111 : decode cX11_shift 111 = .ok (.iload 5, 2) := by decide +kernel
theorem dX11_shift_113 : decode cX11_shift 113 = .ok (.ireturn, 1) := by decide +kernel
set_option maxRecDepth 20000 in
theorem rX11_shift (D : GD) (d : Nat) (a1 : Int32) (a2 : Int32) (a3 : Int32) (a4 : Int32) (a5 : Int32) (M : Mm) (post : Option Value → Mm → Prop) (hL : Lay 0 62 M) 
    (h : AMi D d mX11_isTape [.int a1] M (fun x2 M1 => ((x2 = 0 → post (some (.int (-1 : Int32))) M1) ∧ (¬ x2 = 0 → AMi D d mX11_isTape [.int a3] M1 (fun x9 M8 => ((¬ x9 = 0 → vp_in a1 6 ∧ (((gI M8 53 a1.toNatClampNeg) = (-1 : Int32) → post (some (.int (-11 : Int32))) M8) ∧ (¬ (gI M8 53 a1.toNatClampNeg) = (-1 : Int32) → vp_in a3 6 ∧ ((¬ (gI M8 53 a3.toNatClampNeg) = (-1 : Int32) → (((gI M8 53 a1.toNatClampNeg) = (gI M8 53 a3.toNatClampNeg) → AMi D d mX11_isStretch [.int a2, .int a5, .int (gI M8 54 a1.toNatClampNeg)] M8 (fun x21 M20 => ((x21 = 0 → post (some (.int (-13 : Int32))) M20) ∧ (¬ x21 = 0 → AMi D d mX11_isStretch [.int a4, .int a5, .int (gI M20 54 a3.toNatClampNeg)] M20 (fun x28 M27 => ((¬ x28 = 0 → (¬ a2 < 0) ∧ (¬ a4 < 0) ∧ (¬ a5 < 0) ∧ (a2.toNatClampNeg + a5.toNatClampNeg ≤ 60) ∧ (a4.toNatClampNeg + a5.toNatClampNeg ≤ 60) ∧ ∀ M39 : Mm, M39 = rL M27 (56 + a3.toNatClampNeg) (va_cpy (gL M27 (56 + a1.toNatClampNeg)) (gL M27 (56 + a3.toNatClampNeg)) a2.toNatClampNeg a4.toNatClampNeg a5.toNatClampNeg) → post (some (.int a5)) M39) ∧ (x28 = 0 → post (some (.int (-13 : Int32))) M27))))))) ∧ (¬ (gI M8 53 a1.toNatClampNeg) = (gI M8 53 a3.toNatClampNeg) → post (some (.int (-12 : Int32))) M8))) ∧ ((gI M8 53 a3.toNatClampNeg) = (-1 : Int32) → post (some (.int (-11 : Int32))) M8))))) ∧ (x9 = 0 → post (some (.int (-1 : Int32))) M8))))))) :
    AM D (d + 1) 0 0 mX11_shift [.ref 0, .int a1, .int a2, .int a3, .int a4, .int a5] M post := by
  refine AM.of (by decide) (Nat.le_of_ble_eq_true rfl) ?_
  show AW D (d + 1) 0 0 mX11_shift 0 0 0 [(0, .ref 0), (1, .int a1), (2, .int a2), (3, .int a3), (4, .int a4), (5, .int a5)] [] M post
  refine ab_iload_n 1 dX11_shift_0 rfl ?_
  refine ab_callS (d' := d) (mc' := 0) (ms' := 0) (vs := [.int a1]) (st := []) dX11_shift_1 ⟨cw_X11_isTape, w_829⟩ w_830 rfl rfl (Nat.le_of_ble_eq_true rfl) (Nat.le_refl _) (Nat.zero_le _) (Nat.zero_le _) (AM.mono h (fun r M1 ⟨x2, hr3, hc4, h⟩ => ?_))
  subst hr3
  refine ab_rs ?_
  have hm5 : Sm M M1 := (Sm.refl M).trans hc4
  have hl6 := hL.of hm5
  refine ab_if_eq (tgt := 14) dX11_shift_4 (by decide) (fun c7 => ?_) (fun c7 => ?_)
  · have h := h.1 c7
    refine ab_iconst (v := (-1)) dX11_shift_14 (by decide) ?_
    exact ab_iret dX11_shift_15 rfl h
  · have h := h.2 c7
    refine ab_iload_n 3 dX11_shift_7 rfl ?_
    refine ab_callS (d' := d) (mc' := 0) (ms' := 0) (vs := [.int a3]) (st := []) dX11_shift_8 ⟨cw_X11_isTape, w_829⟩ w_830 rfl rfl (Nat.le_of_ble_eq_true rfl) (Nat.le_refl _) (Nat.zero_le _) (Nat.zero_le _) (AM.mono h (fun r M8 ⟨x9, hr10, hc11, h⟩ => ?_))
    subst hr10
    refine ab_rs ?_
    have hm12 : Sm M M8 := hm5.trans hc11
    have hl13 := hL.of hm12
    refine ab_if_ne (tgt := 16) dX11_shift_11 (by decide) (fun c14 => ?_) (fun c14 => ?_)
    · have h := h.1 c14
      refine ab_aload_n 0 dX11_shift_16 rfl ?_
      refine ab_getP (r := 53) dX11_shift_17 fs_11_74_11 rfl (hl13.sh 0 rfl (by decide) (by decide)).1 (hl13.sh 0 rfl (by decide) (by decide)).2 (hl13.pt 10 rfl (by decide) (by decide)) ?_
      refine ab_iload_n 1 dX11_shift_20 rfl ?_
      have hb15 := h.1
      have h := h.2
      refine ab_ialdj (j := a1.toNatClampNeg) dX11_shift_21 (hl13.sh 53 rfl (by decide) (by decide)) hb15 rfl ?_
      refine ab_iconst (v := (-1)) dX11_shift_22 (by decide) ?_
      refine ab_icmp_eq (tgt := 36) dX11_shift_23 (by decide) (fun c16 => ?_) (fun c16 => ?_)
      · have h := h.1 c16
        refine ab_bipush (v := (-11)) dX11_shift_36 (by decide) ?_
        exact ab_iret dX11_shift_38 rfl h
      · have h := h.2 c16
        refine ab_aload_n 0 dX11_shift_26 rfl ?_
        refine ab_getP (r := 53) dX11_shift_27 fs_11_74_11 rfl (hl13.sh 0 rfl (by decide) (by decide)).1 (hl13.sh 0 rfl (by decide) (by decide)).2 (hl13.pt 10 rfl (by decide) (by decide)) ?_
        refine ab_iload_n 3 dX11_shift_30 rfl ?_
        have hb17 := h.1
        have h := h.2
        refine ab_ialdj (j := a3.toNatClampNeg) dX11_shift_31 (hl13.sh 53 rfl (by decide) (by decide)) hb17 rfl ?_
        refine ab_iconst (v := (-1)) dX11_shift_32 (by decide) ?_
        refine ab_icmp_ne (tgt := 39) dX11_shift_33 (by decide) (fun c18 => ?_) (fun c18 => ?_)
        · have h := h.1 c18
          refine ab_aload_n 0 dX11_shift_39 rfl ?_
          refine ab_getP (r := 53) dX11_shift_40 fs_11_74_11 rfl (hl13.sh 0 rfl (by decide) (by decide)).1 (hl13.sh 0 rfl (by decide) (by decide)).2 (hl13.pt 10 rfl (by decide) (by decide)) ?_
          refine ab_iload_n 1 dX11_shift_43 rfl ?_
          refine ab_ialdj (j := a1.toNatClampNeg) dX11_shift_44 (hl13.sh 53 rfl (by decide) (by decide)) hb15 rfl ?_
          refine ab_aload_n 0 dX11_shift_45 rfl ?_
          refine ab_getP (r := 53) dX11_shift_46 fs_11_74_11 rfl (hl13.sh 0 rfl (by decide) (by decide)).1 (hl13.sh 0 rfl (by decide) (by decide)).2 (hl13.pt 10 rfl (by decide) (by decide)) ?_
          refine ab_iload_n 3 dX11_shift_49 rfl ?_
          refine ab_ialdj (j := a3.toNatClampNeg) dX11_shift_50 (hl13.sh 53 rfl (by decide) (by decide)) hb17 rfl ?_
          refine ab_icmp_eq (tgt := 57) dX11_shift_51 (by decide) (fun c19 => ?_) (fun c19 => ?_)
          · have h := h.1 c19
            refine ab_iload_n 2 dX11_shift_57 rfl ?_
            refine ab_iload 5 dX11_shift_58 rfl ?_
            refine ab_aload_n 0 dX11_shift_60 rfl ?_
            refine ab_getP (r := 54) dX11_shift_61 fs_11_77_11 rfl (hl13.sh 0 rfl (by decide) (by decide)).1 (hl13.sh 0 rfl (by decide) (by decide)).2 (hl13.pt 11 rfl (by decide) (by decide)) ?_
            refine ab_iload_n 1 dX11_shift_64 rfl ?_
            refine ab_ialdj (j := a1.toNatClampNeg) dX11_shift_65 (hl13.sh 54 rfl (by decide) (by decide)) hb15 rfl ?_
            refine ab_callS (d' := d) (mc' := 0) (ms' := 0) (vs := [.int a2, .int a5, .int (gI M8 54 a1.toNatClampNeg)]) (st := []) dX11_shift_66 ⟨cw_X11_isStretch, w_986⟩ w_987 rfl rfl (Nat.le_of_ble_eq_true rfl) (Nat.le_refl _) (Nat.zero_le _) (Nat.zero_le _) (AM.mono h (fun r M20 ⟨x21, hr22, hc23, h⟩ => ?_))
            subst hr22
            refine ab_rs ?_
            have hm24 : Sm M M20 := hm12.trans hc23
            have hl25 := hL.of hm24
            refine ab_if_eq (tgt := 88) dX11_shift_69 (by decide) (fun c26 => ?_) (fun c26 => ?_)
            · have h := h.1 c26
              refine ab_bipush (v := (-13)) dX11_shift_88 (by decide) ?_
              exact ab_iret dX11_shift_90 rfl h
            · have h := h.2 c26
              refine ab_iload 4 dX11_shift_72 rfl ?_
              refine ab_iload 5 dX11_shift_74 rfl ?_
              refine ab_aload_n 0 dX11_shift_76 rfl ?_
              refine ab_getP (r := 54) dX11_shift_77 fs_11_77_11 rfl (hl25.sh 0 rfl (by decide) (by decide)).1 (hl25.sh 0 rfl (by decide) (by decide)).2 (hl25.pt 11 rfl (by decide) (by decide)) ?_
              refine ab_iload_n 3 dX11_shift_80 rfl ?_
              refine ab_ialdj (j := a3.toNatClampNeg) dX11_shift_81 (hl25.sh 54 rfl (by decide) (by decide)) hb17 rfl ?_
              refine ab_callS (d' := d) (mc' := 0) (ms' := 0) (vs := [.int a4, .int a5, .int (gI M20 54 a3.toNatClampNeg)]) (st := []) dX11_shift_82 ⟨cw_X11_isStretch, w_986⟩ w_987 rfl rfl (Nat.le_of_ble_eq_true rfl) (Nat.le_refl _) (Nat.zero_le _) (Nat.zero_le _) (AM.mono h (fun r M27 ⟨x28, hr29, hc30, h⟩ => ?_))
              subst hr29
              refine ab_rs ?_
              have hm31 : Sm M M27 := hm24.trans hc30
              have hl32 := hL.of hm31
              refine ab_if_ne (tgt := 91) dX11_shift_85 (by decide) (fun c33 => ?_) (fun c33 => ?_)
              · have h := h.1 c33
                refine ab_aload_n 0 dX11_shift_91 rfl ?_
                refine ab_getP (r := 55) dX11_shift_92 fs_11_82_11 rfl (hl32.sh 0 rfl (by decide) (by decide)).1 (hl32.sh 0 rfl (by decide) (by decide)).2 (hl32.pt 12 rfl (by decide) (by decide)) ?_
                refine ab_iload_n 1 dX11_shift_95 rfl ?_
                refine ab_aald5j (j := a1.toNatClampNeg) (r := 56 + a1.toNatClampNeg) dX11_shift_96 (hl32.sh 55 rfl (by decide) (by decide)) hb15 rfl (row_55 hl32 (by decide) (by decide) (vin_lt hb15)).1 ?_
                refine ab_iload_n 2 dX11_shift_97 rfl ?_
                refine ab_aload_n 0 dX11_shift_98 rfl ?_
                refine ab_getP (r := 55) dX11_shift_99 fs_11_82_11 rfl (hl32.sh 0 rfl (by decide) (by decide)).1 (hl32.sh 0 rfl (by decide) (by decide)).2 (hl32.pt 12 rfl (by decide) (by decide)) ?_
                refine ab_iload_n 3 dX11_shift_102 rfl ?_
                refine ab_aald5j (j := a3.toNatClampNeg) (r := 56 + a3.toNatClampNeg) dX11_shift_103 (hl32.sh 55 rfl (by decide) (by decide)) hb17 rfl (row_55 hl32 (by decide) (by decide) (vin_lt hb17)).1 ?_
                refine ab_iload 4 dX11_shift_104 rfl ?_
                refine ab_iload 5 dX11_shift_106 rfl ?_
                have hg34 := h.1
                have h := h.2
                have hg35 := h.1
                have h := h.2
                have hg36 := h.1
                have h := h.2
                have hg37 := h.1
                have h := h.2
                have hg38 := h.1
                have h := h.2
                refine ab_acopyL (st := []) dX11_shift_108 w_437 w_439 w_438 w_91 (row_55 hl32 (by decide) (by decide) (vin_lt hb15)).2 (row_55 hl32 (by decide) (by decide) (vin_lt hb17)).2 hg34 hg35 hg36 hg37 hg38 (Nat.le_of_ble_eq_true rfl) (Nat.succ_le_succ (Nat.zero_le _)) ?_
                refine ab_nameM (fun M39 hM39 => ?_)
                have h := h M39 hM39
                have hs42 : Sm M27 M39 := hM39 ▸ (Sm.refl _).rl
                have hm40 : Sm M M39 := hm31.trans hs42
                have hl41 := hL.of hm40
                refine ab_iload 5 dX11_shift_111 rfl ?_
                exact ab_iret dX11_shift_113 rfl h
              · have h := h.2 c33
                refine ab_bipush (v := (-13)) dX11_shift_88 (by decide) ?_
                exact ab_iret dX11_shift_90 rfl h
          · have h := h.2 c19
            refine ab_bipush (v := (-12)) dX11_shift_54 (by decide) ?_
            exact ab_iret dX11_shift_56 rfl h
        · have h := h.2 c18
          refine ab_bipush (v := (-11)) dX11_shift_36 (by decide) ?_
          exact ab_iret dX11_shift_38 rfl h
    · have h := h.2 c14
      refine ab_iconst (v := (-1)) dX11_shift_14 (by decide) ?_
      exact ab_iret dX11_shift_15 rfl h
theorem dX11_isTape_0 : decode cX11_isTape 0 = .ok (.iload_n 0, 1) := by decide +kernel
theorem dX11_isTape_1 : decode cX11_isTape 1 = .ok (.ifCond .lt 13, 3) := by decide +kernel
theorem dX11_isTape_4 : decode cX11_isTape 4 = .ok (.iload_n 0, 1) := by decide +kernel
theorem dX11_isTape_5 : decode cX11_isTape 5 = .ok (.bipush 6, 2) := by decide +kernel
theorem dX11_isTape_7 : decode cX11_isTape 7 = .ok (.if_icmp .ge 7, 3) := by decide +kernel
theorem dX11_isTape_10 : decode cX11_isTape 10 = .ok (.iconst 1, 1) := by decide +kernel
theorem dX11_isTape_11 : decode cX11_isTape 11 = .ok (.goto 4, 3) := by decide +kernel
theorem dX11_isTape_14 : decode cX11_isTape 14 = .ok (.iconst 0, 1) := by decide +kernel
theorem dX11_isTape_15 : decode cX11_isTape 15 = .ok (.ireturn, 1) := by decide +kernel
set_option maxRecDepth 20000 in
theorem rX11_isTape (D : GD) (d : Nat) (a1 : Int32) (M : Mm) (post : Option Value → Mm → Prop) (hL : Lay 0 62 M) 
    (h : ((a1 < 0 → post (some (.int (0 : Int32))) M) ∧ (¬ a1 < 0 → (((6 : Int32) ≤ a1 → post (some (.int (0 : Int32))) M) ∧ (¬ (6 : Int32) ≤ a1 → post (some (.int (1 : Int32))) M))))) :
    AM D d 0 0 mX11_isTape [.int a1] M post := by
  refine AM.of (by decide) (Nat.le_of_ble_eq_true rfl) ?_
  show AW D d 0 0 mX11_isTape 0 0 0 [(0, .int a1)] [] M post
  refine ab_iload_n 0 dX11_isTape_0 rfl ?_
  refine ab_if_lt (tgt := 14) dX11_isTape_1 (by decide) (fun c1 => ?_) (fun c1 => ?_)
  · have h := h.1 c1
    refine ab_iconst (v := 0) dX11_isTape_14 (by decide) ?_
    exact ab_zret dX11_isTape_15 rfl rfl h
  · have h := h.2 c1
    refine ab_iload_n 0 dX11_isTape_4 rfl ?_
    refine ab_bipush (v := 6) dX11_isTape_5 (by decide) ?_
    refine ab_icmp_ge (tgt := 14) dX11_isTape_7 (by decide) (fun c2 => ?_) (fun c2 => ?_)
    · have h := h.1 c2
      refine ab_iconst (v := 0) dX11_isTape_14 (by decide) ?_
      exact ab_zret dX11_isTape_15 rfl rfl h
    · have h := h.2 c2
      refine ab_iconst (v := 1) dX11_isTape_10 (by decide) ?_
      refine ab_goto (tgt := 15) dX11_isTape_11 (by decide) ?_
      exact ab_zret dX11_isTape_15 rfl rfl h
theorem dX11_isStretch_0 : decode cX11_isStretch 0 = .ok (.iload_n 0, 1) := by decide +kernel
theorem dX11_isStretch_1 : decode cX11_isStretch 1 = .ok (.ifCond .lt 23, 3) := by decide +kernel
theorem dX11_isStretch_4 : decode cX11_isStretch 4 = .ok (.iload_n 1, 1) := by decide +kernel
theorem dX11_isStretch_5 : decode cX11_isStretch 5 = .ok (.ifCond .lt 19, 3) := by decide +kernel
theorem dX11_isStretch_8 : decode cX11_isStretch 8 = .ok (.iload_n 0, 1) := by decide +kernel
theorem dX11_isStretch_9 : decode cX11_isStretch 9 = .ok (.iload_n 2, 1) := by decide +kernel
theorem dX11_isStretch_10 : decode cX11_isStretch 10 = .ok (.if_icmp .gt 14, 3) := by decide +kernel
theorem dX11_isStretch_13 : decode cX11_isStretch 13 = .ok (.iload_n 1, 1) := by decide +kernel
theorem dX11_isStretch_14 : decode cX11_isStretch 14 = .ok (.iload_n 2, 1) := by decide +kernel
theorem dX11_isStretch_15 : decode cX11_isStretch 15 = .ok (.iload_n 0, 1) := by decide +kernel
theorem dX11_isStretch_16 : decode cX11_isStretch 16 = .ok (.isub, 1) := by decide +kernel
theorem dX11_isStretch_17 : decode cX11_isStretch 17 = .ok (.if_icmp .gt 7, 3) := by decide +kernel
theorem dX11_isStretch_20 : decode cX11_isStretch 20 = .ok (.iconst 1, 1) := by decide +kernel
theorem dX11_isStretch_21 : decode cX11_isStretch 21 = .ok (.goto 4, 3) := by decide +kernel
theorem dX11_isStretch_24 : decode cX11_isStretch 24 = .ok (.iconst 0, 1) := by decide +kernel
theorem dX11_isStretch_25 : decode cX11_isStretch 25 = .ok (.ireturn, 1) := by decide +kernel
set_option maxRecDepth 20000 in
theorem rX11_isStretch (D : GD) (d : Nat) (a1 : Int32) (a2 : Int32) (a3 : Int32) (M : Mm) (post : Option Value → Mm → Prop) (hL : Lay 0 62 M) 
    (h : ((a1 < 0 → post (some (.int (0 : Int32))) M) ∧ (¬ a1 < 0 → ((a2 < 0 → post (some (.int (0 : Int32))) M) ∧ (¬ a2 < 0 → ((a3 < a1 → post (some (.int (0 : Int32))) M) ∧ (¬ a3 < a1 → (((a3 - a1) < a2 → post (some (.int (0 : Int32))) M) ∧ (¬ (a3 - a1) < a2 → post (some (.int (1 : Int32))) M))))))))) :
    AM D d 0 0 mX11_isStretch [.int a1, .int a2, .int a3] M post := by
  refine AM.of (by decide) (Nat.le_of_ble_eq_true rfl) ?_
  show AW D d 0 0 mX11_isStretch 0 0 0 [(0, .int a1), (1, .int a2), (2, .int a3)] [] M post
  refine ab_iload_n 0 dX11_isStretch_0 rfl ?_
  refine ab_if_lt (tgt := 24) dX11_isStretch_1 (by decide) (fun c1 => ?_) (fun c1 => ?_)
  · have h := h.1 c1
    refine ab_iconst (v := 0) dX11_isStretch_24 (by decide) ?_
    exact ab_zret dX11_isStretch_25 rfl rfl h
  · have h := h.2 c1
    refine ab_iload_n 1 dX11_isStretch_4 rfl ?_
    refine ab_if_lt (tgt := 24) dX11_isStretch_5 (by decide) (fun c2 => ?_) (fun c2 => ?_)
    · have h := h.1 c2
      refine ab_iconst (v := 0) dX11_isStretch_24 (by decide) ?_
      exact ab_zret dX11_isStretch_25 rfl rfl h
    · have h := h.2 c2
      refine ab_iload_n 0 dX11_isStretch_8 rfl ?_
      refine ab_iload_n 2 dX11_isStretch_9 rfl ?_
      refine ab_icmp_gt (tgt := 24) dX11_isStretch_10 (by decide) (fun c3 => ?_) (fun c3 => ?_)
      · have h := h.1 c3
        refine ab_iconst (v := 0) dX11_isStretch_24 (by decide) ?_
        exact ab_zret dX11_isStretch_25 rfl rfl h
      · have h := h.2 c3
        refine ab_iload_n 1 dX11_isStretch_13 rfl ?_
        refine ab_iload_n 2 dX11_isStretch_14 rfl ?_
        refine ab_iload_n 0 dX11_isStretch_15 rfl ?_
        refine ab_isub dX11_isStretch_16 ?_
        refine ab_icmp_gt (tgt := 24) dX11_isStretch_17 (by decide) (fun c4 => ?_) (fun c4 => ?_)
        · have h := h.1 c4
          refine ab_iconst (v := 0) dX11_isStretch_24 (by decide) ?_
          exact ab_zret dX11_isStretch_25 rfl rfl h
        · have h := h.2 c4
          refine ab_iconst (v := 1) dX11_isStretch_20 (by decide) ?_
          refine ab_goto (tgt := 25) dX11_isStretch_21 (by decide) ?_
          exact ab_zret dX11_isStretch_25 rfl rfl h
theorem dX11_lowestBits_0 : decode cX11_lowestBits 0 = .ok (.iload_n 0, 1) := by decide +kernel
theorem dX11_lowestBits_1 : decode cX11_lowestBits 1 = .ok (.tableswitch 61 0 4 #[35, 40, 45, 61, 49], 35) := by decide +kernel
theorem dX11_lowestBits_36 : decode cX11_lowestBits 36 = .ok (.lload_n 1, 1) := by decide +kernel
theorem dX11_lowestBits_37 : decode cX11_lowestBits 37 = .ok (.l2i, 1) := by decide +kernel
theorem dX11_lowestBits_38 : decode cX11_lowestBits 38 = .ok (.i2b, 1) := by decide +kernel
theorem dX11_lowestBits_39 : decode cX11_lowestBits 39 = .ok (.i2l, 1) := by decide +kernel
theorem dX11_lowestBits_40 : decode cX11_lowestBits 40 = .ok (.lreturn, 1) := by decide +kernel
theorem dX11_lowestBits_41 : decode cX11_lowestBits 41 = .ok (.lload_n 1, 1) := by decide +kernel
theorem dX11_lowestBits_42 : decode cX11_lowestBits 42 = .ok (.l2i, 1) := by decide +kernel
theorem dX11_lowestBits_43 : decode cX11_lowestBits 43 = .ok (.i2s, 1) := by decide +kernel
theorem dX11_lowestBits_44 : decode cX11_lowestBits 44 = .ok (.i2l, 1) := by decide +kernel
theorem dX11_lowestBits_45 : decode cX11_lowestBits 45 = .ok (.lreturn, 1) := by decide +kernel
theorem dX11_lowestBits_46 : decode cX11_lowestBits 46 = .ok (.lload_n 1, 1) := by decide +kernel
theorem dX11_lowestBits_47 : decode cX11_lowestBits 47 = .ok (.l2i, 1) := by decide +kernel
theorem dX11_lowestBits_48 : decode cX11_lowestBits 48 = .ok (.i2l, 1) := by decide +kernel
theorem dX11_lowestBits_49 : decode cX11_lowestBits 49 = .ok (.lreturn, 1) := by decide +kernel
theorem dX11_lowestBits_50 : decode cX11_lowestBits 50 = .ok (.lload_n 1, 1) := by decide +kernel
theorem dX11_lowestBits_51 : decode cX11_lowestBits 51 = .ok (.lconst 0, 1) := by decide +kernel
theorem dX11_lowestBits_52 : decode cX11_lowestBits 52 = .ok (.lcmp, 1) := by decide +kernel
theorem dX11_lowestBits_53 : decode cX11_lowestBits 53 = .ok (.ifCond .eq 7, 3) := by decide +kernel
theorem dX11_lowestBits_56 : decode cX11_lowestBits 56 = .ok (.lconst 1, 1) := by decide +kernel
theorem dX11_lowestBits_57 : decode cX11_lowestBits 57 = .ok (.goto 4, 3) := by decide +kernel
theorem dX11_lowestBits_60 : decode cX11_lowestBits 60 = .ok (.lconst 0, 1) := by decide +kernel
theorem dX11_lowestBits_61 : decode cX11_lowestBits 61 = .ok (.lreturn, 1) := by decide +kernel
theorem dX11_lowestBits_62 : decode cX11_lowestBits 62 = .ok (.lload_n 1, 1) := by decide +kernel
theorem dX11_lowestBits_63 : decode cX11_lowestBits 63 = .ok (.lreturn, 1) := by decide +kernel
set_option maxRecDepth 20000 in
theorem rX11_lowestBits (D : GD) (d : Nat) (a1 : Int32) (a2 : Int64) (M : Mm) (post : Option Value → Mm → Prop) (hL : Lay 0 62 M) 
    (h : ((a1 = (0 : Int32) → post (some (.long ((((a2).toInt32).toInt8.toInt32).toInt64))) M) ∧ ((a1 = (1 : Int32) → post (some (.long ((((a2).toInt32).toInt16.toInt32).toInt64))) M) ∧ ((a1 = (2 : Int32) → post (some (.long (((a2).toInt32).toInt64))) M) ∧ ((a1 = (3 : Int32) → post (some (.long a2)) M) ∧ ((a1 = (4 : Int32) → (((lg_cmp a2 (0 : Int64)) = 0 → post (some (.long (0 : Int64))) M) ∧ (¬ (lg_cmp a2 (0 : Int64)) = 0 → post (some (.long (1 : Int64))) M))) ∧ ((¬ a1 = (0 : Int32) → ¬ a1 = (1 : Int32) → ¬ a1 = (2 : Int32) → ¬ a1 = (3 : Int32) → ¬ a1 = (4 : Int32) → post (some (.long a2)) M)))))))) :
    AM D d 0 0 mX11_lowestBits [.int a1, .long a2] M post := by
  refine AM.of (by decide) (Nat.le_of_ble_eq_true rfl) ?_
  show AW D d 0 0 mX11_lowestBits 0 0 0 [(0, .int a1), (1, .long a2)] [] M post
  refine ab_iload_n 0 dX11_lowestBits_0 rfl ?_
  by_cases c1 : a1 = (0 : Int32)
  · have h := h.1 c1
    refine ab_tableIn (off := (35)) (tgt := 36) dX11_lowestBits_1 (by rw [c1]; decide) (by rw [c1]; decide) (by rw [c1]; decide) (by decide) ?_
    refine ab_lload_n 1 dX11_lowestBits_36 rfl ?_
    refine ab_l2i dX11_lowestBits_37 ?_
    refine ab_i2b dX11_lowestBits_38 ?_
    refine ab_i2l dX11_lowestBits_39 ?_
    exact ab_lret dX11_lowestBits_40 rfl h
  · have h := h.2
    by_cases c2 : a1 = (1 : Int32)
    · have h := h.1 c2
      refine ab_tableIn (off := (40)) (tgt := 41) dX11_lowestBits_1 (by rw [c2]; decide) (by rw [c2]; decide) (by rw [c2]; decide) (by decide) ?_
      refine ab_lload_n 1 dX11_lowestBits_41 rfl ?_
      refine ab_l2i dX11_lowestBits_42 ?_
      refine ab_i2s dX11_lowestBits_43 ?_
      refine ab_i2l dX11_lowestBits_44 ?_
      exact ab_lret dX11_lowestBits_45 rfl h
    · have h := h.2
      by_cases c3 : a1 = (2 : Int32)
      · have h := h.1 c3
        refine ab_tableIn (off := (45)) (tgt := 46) dX11_lowestBits_1 (by rw [c3]; decide) (by rw [c3]; decide) (by rw [c3]; decide) (by decide) ?_
        refine ab_lload_n 1 dX11_lowestBits_46 rfl ?_
        refine ab_l2i dX11_lowestBits_47 ?_
        refine ab_i2l dX11_lowestBits_48 ?_
        exact ab_lret dX11_lowestBits_49 rfl h
      · have h := h.2
        by_cases c4 : a1 = (3 : Int32)
        · have h := h.1 c4
          refine ab_tableIn (off := (61)) (tgt := 62) dX11_lowestBits_1 (by rw [c4]; decide) (by rw [c4]; decide) (by rw [c4]; decide) (by decide) ?_
          refine ab_lload_n 1 dX11_lowestBits_62 rfl ?_
          exact ab_lret dX11_lowestBits_63 rfl h
        · have h := h.2
          by_cases c5 : a1 = (4 : Int32)
          · have h := h.1 c5
            refine ab_tableIn (off := (49)) (tgt := 50) dX11_lowestBits_1 (by rw [c5]; decide) (by rw [c5]; decide) (by rw [c5]; decide) (by decide) ?_
            refine ab_lload_n 1 dX11_lowestBits_50 rfl ?_
            refine ab_lconst (v := 0) dX11_lowestBits_51 (by decide) ?_
            refine ab_lcmp dX11_lowestBits_52 ?_
            refine ab_if_eq (tgt := 60) dX11_lowestBits_53 (by decide) (fun c6 => ?_) (fun c6 => ?_)
            · have h := h.1 c6
              refine ab_lconst (v := 0) dX11_lowestBits_60 (by decide) ?_
              exact ab_lret dX11_lowestBits_61 rfl h
            · have h := h.2 c6
              refine ab_lconst (v := 1) dX11_lowestBits_56 (by decide) ?_
              refine ab_goto (tgt := 61) dX11_lowestBits_57 (by decide) ?_
              exact ab_lret dX11_lowestBits_61 rfl h
          · have h := h.2
            have h := h c1 c2 c3 c4 c5
            refine ab_tableOut (tgt := 62) dX11_lowestBits_1 (by have e0 := lv_neT (a := 0) c1 (by decide); have e1 := lv_neT (a := 1) c2 (by decide); have e2 := lv_neT (a := 2) c3 (by decide); have e3 := lv_neT (a := 3) c4 (by decide); have e4 := lv_neT (a := 4) c5 (by decide); omega) (by decide) ?_
            refine ab_lload_n 1 dX11_lowestBits_62 rfl ?_
            exact ab_lret dX11_lowestBits_63 rfl h
