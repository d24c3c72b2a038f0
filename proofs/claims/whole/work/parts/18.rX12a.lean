theorem dX12_in_0 : decode cX12_in 0 = .ok (.iload_n 1, 1) := by decide +kernel
theorem dX12_in_1 : decode cX12_in 1 = .ok (.iload_n 2, 1) := by decide +kernel
theorem dX12_in_2 : decode cX12_in 2 = .ok (.if_icmp .lt 12, 3) := by decide +kernel
theorem dX12_in_5 : decode cX12_in 5 = .ok (.iload_n 1, 1) := by decide +kernel
theorem dX12_in_6 : decode cX12_in 6 = .ok (.iload_n 3, 1) := by decide +kernel
theorem dX12_in_7 : decode cX12_in 7 = .ok (.if_icmp .gt 7, 3) := by decide +kernel
theorem dX12_in_10 : decode cX12_in 10 = .ok (.iconst 1, 1) := by decide +kernel
theorem dX12_in_11 : decode cX12_in 11 = .ok (.goto 4, 3) := by decide +kernel
theorem dX12_in_14 : decode cX12_in 14 = .ok (.iconst 0, 1) := by decide +kernel
theorem dX12_in_15 : decode cX12_in 15 = .ok (.ireturn, 1) := by decide +kernel
set_option maxRecDepth 20000 in
theorem rX12_in (D : GD) (d : Nat) (a1 : Int32) (a2 : Int32) (a3 : Int32) (M : Mm) (post : Option Value → Mm → Prop) (hL : Lay 62 98 M) 
    (h : ((a1 < a2 → post (some (.int (0 : Int32))) M) ∧ (¬ a1 < a2 → ((a3 < a1 → post (some (.int (0 : Int32))) M) ∧ (¬ a3 < a1 → post (some (.int (1 : Int32))) M))))) :
    AM D d 0 0 mX12_in [.ref 62, .int a1, .int a2, .int a3] M post := by
  refine AM.of (by decide) (Nat.le_of_ble_eq_true rfl) ?_
  show AW D d 0 0 mX12_in 0 0 0 [(0, .ref 62), (1, .int a1), (2, .int a2), (3, .int a3)] [] M post
  refine ab_iload_n 1 dX12_in_0 rfl ?_
  refine ab_iload_n 2 dX12_in_1 rfl ?_
  refine ab_icmp_lt (tgt := 14) dX12_in_2 (by decide) (fun c1 => ?_) (fun c1 => ?_)
  · have h := h.1 c1
    refine ab_iconst (v := 0) dX12_in_14 (by decide) ?_
    exact ab_zret dX12_in_15 rfl rfl h
  · have h := h.2 c1
    refine ab_iload_n 1 dX12_in_5 rfl ?_
    refine ab_iload_n 3 dX12_in_6 rfl ?_
    refine ab_icmp_gt (tgt := 14) dX12_in_7 (by decide) (fun c2 => ?_) (fun c2 => ?_)
    · have h := h.1 c2
      refine ab_iconst (v := 0) dX12_in_14 (by decide) ?_
      exact ab_zret dX12_in_15 rfl rfl h
    · have h := h.2 c2
      refine ab_iconst (v := 1) dX12_in_10 (by decide) ?_
      refine ab_goto (tgt := 15) dX12_in_11 (by decide) ?_
      exact ab_zret dX12_in_15 rfl rfl h
theorem dX12_isSide_0 : decode cX12_isSide 0 = .ok (.aload_n 0, 1) := by decide +kernel
theorem dX12_isSide_1 : decode cX12_isSide 1 = .ok (.iload_n 1, 1) := by decide +kernel
theorem dX12_isSide_2 : decode cX12_isSide 2 = .ok (.iconst 0, 1) := by decide +kernel
theorem dX12_isSide_3 : decode cX12_isSide 3 = .ok (.iconst 2, 1) := by decide +kernel
theorem dX12_isSide_4 : decode cX12_isSide 4 = .ok (.invokevirtual 180, 3) := by decide +kernel
theorem dX12_isSide_7 : decode cX12_isSide 7 = .ok (.ireturn, 1) := by decide +kernel
set_option maxRecDepth 20000 in
theorem rX12_isSide (D : GD) (d : Nat) (a1 : Int32) (M : Mm) (post : Option Value → Mm → Prop) (hL : Lay 62 98 M) 
    (h : AMi D d mX12_in [.ref 62, .int a1, .int (0 : Int32), .int (2 : Int32)] M (fun x2 M1 => (x2 = 0 ∨ x2 = 1) ∧ post (some (.int x2)) M1)) :
    AM D (d + 1) 0 0 mX12_isSide [.ref 62, .int a1] M post := by
  refine AM.of (by decide) (Nat.le_of_ble_eq_true rfl) ?_
  show AW D (d + 1) 0 0 mX12_isSide 0 0 0 [(0, .ref 62), (1, .int a1)] [] M post
  refine ab_aload_n 0 dX12_isSide_0 rfl ?_
  refine ab_iload_n 1 dX12_isSide_1 rfl ?_
  refine ab_iconst (v := 0) dX12_isSide_2 (by decide) ?_
  refine ab_iconst (v := 2) dX12_isSide_3 (by decide) ?_
  refine ab_callV (a := 62) (c0 := 12) (d' := d) (mc' := 0) (ms' := 0) (vs := [.int a1, .int (0 : Int32), .int (2 : Int32)]) (st := []) dX12_isSide_4 ⟨cw_X12_in, w_1170⟩ w_1172 w_23 (by decide) (hL.sh 62 rfl (by decide) (by decide)).1 (hL.sh 62 rfl (by decide) (by decide)).2 rfl rfl (Nat.le_of_ble_eq_true rfl) (Nat.le_refl _) (Nat.zero_le _) (Nat.zero_le _) (AM.mono h (fun r M1 ⟨x2, hr3, hc4, h⟩ => ?_))
  subst hr3
  refine ab_rs ?_
  have hm5 : Sm M M1 := (Sm.refl M).trans hc4
  have hl6 := hL.of hm5
  exact ab_zret dX12_isSide_7 rfl (nar_z h.1) h.2
theorem dX12_table_0 : decode cX12_table 0 = .ok (.aload_n 0, 1) := by decide +kernel
theorem dX12_table_1 : decode cX12_table 1 = .ok (.iload_n 1, 1) := by decide +kernel
theorem dX12_table_2 : decode cX12_table 2 = .ok (.invokevirtual 184, 3) := by decide +kernel
theorem dX12_table_5 : decode cX12_table 5 = .ok (.ifCond .eq 11, 3) := by decide +kernel
theorem dX12_table_8 : decode cX12_table 8 = .ok (.aload_n 0, 1) := by decide +kernel
theorem dX12_table_9 : decode cX12_table 9 = .ok (.iload_n 2, 1) := by decide +kernel
theorem dX12_table_10 : decode cX12_table 10 = .ok (.invokevirtual 184, 3) := by decide +kernel
theorem dX12_table_13 : decode cX12_table 13 = .ok (.ifCond .ne 5, 3) := by decide +kernel
theorem dX12_table_16 : decode cX12_table 16 = .ok (.iconst (-1), 1) := by decide +kernel
theorem dX12_table_17 : decode cX12_table 17 = .ok (.ireturn, 1) := by decide +kernel
theorem dX12_table_18 : decode cX12_table 18 = .ok (.aload_n 0, 1) := by decide +kernel
theorem dX12_table_19 : decode cX12_table 19 = .ok (.iload_n 3, 1) := by decide +kernel
theorem dX12_table_20 : decode cX12_table 20 = .ok (.iconst 0, 1) := by decide +kernel
theorem dX12_table_21 : decode cX12_table 21 = .ok (.bipush 100, 2) := by decide +kernel
theorem dX12_table_23 : decode cX12_table 23 = .ok (.invokevirtual 180, 3) := by decide +kernel
theorem dX12_table_26 : decode cX12_table 26 = .ok (.ifCond .ne 6, 3) := by decide +kernel
theorem dX12_table_29 : decode cX12_table 29 = .ok (.bipush (-2), 2) := by decide +kernel
theorem dX12_table_31 : decode cX12_table 31 = .ok (.ireturn, 1) := by decide +kernel
theorem dX12_table_32 : decode cX12_table 32 = .ok (.aload_n 0, 1) := by decide +kernel
theorem dX12_table_33 : decode cX12_table 33 = .ok (.getfield 7, 3) := by decide +kernel
theorem dX12_table_36 : decode cX12_table 36 = .ok (.iconst 3, 1) := by decide +kernel
theorem dX12_table_37 : decode cX12_table 37 = .ok (.iload_n 1, 1) := by decide +kernel
theorem dX12_table_38 : decode cX12_table 38 = .ok (.imul, 1) := by decide +kernel
theorem dX12_table_39 : decode cX12_table 39 = .ok (.iload_n 2, 1) := by decide +kernel
theorem dX12_table_40 : decode cX12_table 40 = .ok (.iadd, 1) := by decide +kernel
theorem dX12_table_41 : decode cX12_table 41 = .ok (.iaload, 1) := by decide +kernel
theorem dX12_table_42 : decode cX12_table 42 = .ok (.istore 4, 2) := by decide +kernel
theorem dX12_table_44 : decode cX12_table 44 = .ok (.aload_n 0, 1) := by decide +kernel
theorem dX12_table_45 : decode cX12_table 45 = .ok (.getfield 7, 3) := by decide +kernel
theorem dX12_table_48 : decode cX12_table 48 = .ok (.iconst 3, 1) := by decide +kernel
theorem dX12_table_49 : decode cX12_table 49 = .ok (.iload_n 1, 1) := by decide +kernel
theorem dX12_table_50 : decode cX12_table 50 = .ok (.imul, 1) := by decide +kernel
theorem dX12_table_51 : decode cX12_table 51 = .ok (.iload_n 2, 1) := by decide +kernel
theorem dX12_table_52 : decode cX12_table 52 = .ok (.iadd, 1) := by decide +kernel
theorem dX12_table_53 : decode cX12_table 53 = .ok (.iload_n 3, 1) := by decide +kernel
theorem dX12_table_54 : decode cX12_table 54 = .ok (.iastore, 1) := by decide +kernel
theorem dX12_table_55 : decode cX12_table 55 = .ok (.iload 4, 2) := by decide +kernel
theorem dX12_table_57 : decode cX12_table 57 = .ok (.ireturn, 1) := by decide +kernel
set_option maxRecDepth 20000 in
theorem rX12_table (D : GD) (d : Nat) (a1 : Int32) (a2 : Int32) (a3 : Int32) (M : Mm) (post : Option Value → Mm → Prop) (hL : Lay 62 98 M) 
    (h : AMi D d mX12_isSide [.ref 62, .int a1] M (fun x2 M1 => ((x2 = 0 → post (some (.int (-1 : Int32))) M1) ∧ (¬ x2 = 0 → AMi D d mX12_isSide [.ref 62, .int a2] M1 (fun x9 M8 => ((¬ x9 = 0 → AMi D d mX12_in [.ref 62, .int a3, .int (0 : Int32), .int (100 : Int32)] M8 (fun x16 M15 => ((¬ x16 = 0 → vp_in (((3 : Int32) * a1) + a2) 9 ∧ ∀ x23 : Int32, x23 = (gI M15 63 ((((3 : Int32) * a1) + a2).toNatClampNeg)) → ∀ M24 : Mm, M24 = sI M15 63 ((((3 : Int32) * a1) + a2).toNatClampNeg) a3 → post (some (.int x23)) M24) ∧ (x16 = 0 → post (some (.int (-2 : Int32))) M15)))) ∧ (x9 = 0 → post (some (.int (-1 : Int32))) M8))))))) :
    AM D (d + 1) 0 0 mX12_table [.ref 62, .int a1, .int a2, .int a3] M post := by
  refine AM.of (by decide) (Nat.le_of_ble_eq_true rfl) ?_
  show AW D (d + 1) 0 0 mX12_table 0 0 0 [(0, .ref 62), (1, .int a1), (2, .int a2), (3, .int a3)] [] M post
  refine ab_aload_n 0 dX12_table_0 rfl ?_
  refine ab_iload_n 1 dX12_table_1 rfl ?_
  refine ab_callV (a := 62) (c0 := 12) (d' := d) (mc' := 0) (ms' := 0) (vs := [.int a1]) (st := []) dX12_table_2 ⟨cw_X12_isSide, w_1166⟩ w_1168 w_22 (by decide) (hL.sh 62 rfl (by decide) (by decide)).1 (hL.sh 62 rfl (by decide) (by decide)).2 rfl rfl (Nat.le_of_ble_eq_true rfl) (Nat.le_refl _) (Nat.zero_le _) (Nat.zero_le _) (AM.mono h (fun r M1 ⟨x2, hr3, hc4, h⟩ => ?_))
  subst hr3
  refine ab_rs ?_
  have hm5 : Sm M M1 := (Sm.refl M).trans hc4
  have hl6 := hL.of hm5
  refine ab_if_eq (tgt := 16) dX12_table_5 (by decide) (fun c7 => ?_) (fun c7 => ?_)
  · have h := h.1 c7
    refine ab_iconst (v := (-1)) dX12_table_16 (by decide) ?_
    exact ab_iret dX12_table_17 rfl h
  · have h := h.2 c7
    refine ab_aload_n 0 dX12_table_8 rfl ?_
    refine ab_iload_n 2 dX12_table_9 rfl ?_
    refine ab_callV (a := 62) (c0 := 12) (d' := d) (mc' := 0) (ms' := 0) (vs := [.int a2]) (st := []) dX12_table_10 ⟨cw_X12_isSide, w_1166⟩ w_1168 w_22 (by decide) (hl6.sh 62 rfl (by decide) (by decide)).1 (hl6.sh 62 rfl (by decide) (by decide)).2 rfl rfl (Nat.le_of_ble_eq_true rfl) (Nat.le_refl _) (Nat.zero_le _) (Nat.zero_le _) (AM.mono h (fun r M8 ⟨x9, hr10, hc11, h⟩ => ?_))
    subst hr10
    refine ab_rs ?_
    have hm12 : Sm M M8 := hm5.trans hc11
    have hl13 := hL.of hm12
    refine ab_if_ne (tgt := 18) dX12_table_13 (by decide) (fun c14 => ?_) (fun c14 => ?_)
    · have h := h.1 c14
      refine ab_aload_n 0 dX12_table_18 rfl ?_
      refine ab_iload_n 3 dX12_table_19 rfl ?_
      refine ab_iconst (v := 0) dX12_table_20 (by decide) ?_
      refine ab_bipush (v := 100) dX12_table_21 (by decide) ?_
      refine ab_callV (a := 62) (c0 := 12) (d' := d) (mc' := 0) (ms' := 0) (vs := [.int a3, .int (0 : Int32), .int (100 : Int32)]) (st := []) dX12_table_23 ⟨cw_X12_in, w_1170⟩ w_1172 w_23 (by decide) (hl13.sh 62 rfl (by decide) (by decide)).1 (hl13.sh 62 rfl (by decide) (by decide)).2 rfl rfl (Nat.le_of_ble_eq_true rfl) (Nat.le_refl _) (Nat.zero_le _) (Nat.zero_le _) (AM.mono h (fun r M15 ⟨x16, hr17, hc18, h⟩ => ?_))
      subst hr17
      refine ab_rs ?_
      have hm19 : Sm M M15 := hm12.trans hc18
      have hl20 := hL.of hm19
      refine ab_if_ne (tgt := 32) dX12_table_26 (by decide) (fun c21 => ?_) (fun c21 => ?_)
      · have h := h.1 c21
        refine ab_aload_n 0 dX12_table_32 rfl ?_
        refine ab_getP (r := 63) dX12_table_33 fs_12_7_12 rfl (hl20.sh 62 rfl (by decide) (by decide)).1 (hl20.sh 62 rfl (by decide) (by decide)).2 (hl20.pt 61 rfl (by decide) (by decide)) ?_
        refine ab_iconst (v := 3) dX12_table_36 (by decide) ?_
        refine ab_iload_n 1 dX12_table_37 rfl ?_
        refine ab_imul dX12_table_38 ?_
        refine ab_iload_n 2 dX12_table_39 rfl ?_
        refine ab_iadd dX12_table_40 ?_
        have hb22 := h.1
        have h := h.2
        refine ab_ialdj (j := (((3 : Int32) * a1) + a2).toNatClampNeg) dX12_table_41 (hl20.sh 63 rfl (by decide) (by decide)) hb22 rfl ?_
        refine ab_topi (fun x23 hx23 => ?_)
        have h := h x23 hx23
        refine ab_istore (lv1 := [(4, .int x23), (0, .ref 62), (1, .int a1), (2, .int a2), (3, .int a3)]) dX12_table_42 (by decide) rfl ?_
        refine ab_aload_n 1 dX12_table_44 rfl ?_
        refine ab_getP (r := 63) dX12_table_45 fs_12_7_12 rfl (hl20.sh 62 rfl (by decide) (by decide)).1 (hl20.sh 62 rfl (by decide) (by decide)).2 (hl20.pt 61 rfl (by decide) (by decide)) ?_
        refine ab_iconst (v := 3) dX12_table_48 (by decide) ?_
        refine ab_iload_n 2 dX12_table_49 rfl ?_
        refine ab_imul dX12_table_50 ?_
        refine ab_iload_n 3 dX12_table_51 rfl ?_
        refine ab_iadd dX12_table_52 ?_
        refine ab_iload_n 4 dX12_table_53 rfl ?_
        refine ab_iastj (j := (((3 : Int32) * a1) + a2).toNatClampNeg) dX12_table_54 (hl20.sh 63 rfl (by decide) (by decide)) hb22 rfl ?_
        refine ab_nameM (fun M24 hM24 => ?_)
        have h := h M24 hM24
        have hs27 : Sm M15 M24 := hM24 ▸ (Sm.refl _).i
        have hm25 : Sm M M24 := hm19.trans hs27
        have hl26 := hL.of hm25
        refine ab_iload 0 dX12_table_55 rfl ?_
        exact ab_iret dX12_table_57 rfl h
      · have h := h.2 c21
        refine ab_bipush (v := (-2)) dX12_table_29 (by decide) ?_
        exact ab_iret dX12_table_31 rfl h
    · have h := h.2 c14
      refine ab_iconst (v := (-1)) dX12_table_16 (by decide) ?_
      exact ab_iret dX12_table_17 rfl h
theorem dX12_told_0 : decode cX12_told 0 = .ok (.aload_n 0, 1) := by decide +kernel
theorem dX12_told_1 : decode cX12_told 1 = .ok (.iload_n 1, 1) := by decide +kernel
theorem dX12_told_2 : decode cX12_told 2 = .ok (.invokevirtual 184, 3) := by decide +kernel
theorem dX12_told_5 : decode cX12_told 5 = .ok (.ifCond .eq 24, 3) := by decide +kernel
theorem dX12_told_8 : decode cX12_told 8 = .ok (.aload_n 0, 1) := by decide +kernel
theorem dX12_told_9 : decode cX12_told 9 = .ok (.iload_n 2, 1) := by decide +kernel
theorem dX12_told_10 : decode cX12_told 10 = .ok (.invokevirtual 184, 3) := by decide +kernel
theorem dX12_told_13 : decode cX12_told 13 = .ok (.ifCond .eq 16, 3) := by decide +kernel
theorem dX12_told_16 : decode cX12_told 16 = .ok (.aload_n 0, 1) := by decide +kernel
theorem dX12_told_17 : decode cX12_told 17 = .ok (.getfield 7, 3) := by decide +kernel
theorem dX12_told_20 : decode cX12_told 20 = .ok (.iconst 3, 1) := by decide +kernel
theorem dX12_told_21 : decode cX12_told 21 = .ok (.iload_n 1, 1) := by decide +kernel
theorem dX12_told_22 : decode cX12_told 22 = .ok (.imul, 1) := by decide +kernel
theorem dX12_told_23 : decode cX12_told 23 = .ok (.iload_n 2, 1) := by decide +kernel
theorem dX12_told_24 : decode cX12_told 24 = .ok (.iadd, 1) := by decide +kernel
theorem dX12_told_25 : decode cX12_told 25 = .ok (.iaload, 1) := by decide +kernel
theorem dX12_told_26 : decode cX12_told 26 = .ok (.goto 4, 3) := by decide +kernel
theorem dX12_told_29 : decode cX12_told 29 = .ok (.iconst (-1), 1) := by decide +kernel
theorem dX12_told_30 : decode cX12_told 30 = .ok (.ireturn, 1) := by decide +kernel
set_option maxRecDepth 20000 in
theorem rX12_told (D : GD) (d : Nat) (a1 : Int32) (a2 : Int32) (M : Mm) (post : Option Value → Mm → Prop) (hL : Lay 62 98 M) 
    (h : AMi D d mX12_isSide [.ref 62, .int a1] M (fun x2 M1 => ((x2 = 0 → post (some (.int (-1 : Int32))) M1) ∧ (¬ x2 = 0 → AMi D d mX12_isSide [.ref 62, .int a2] M1 (fun x9 M8 => ((x9 = 0 → post (some (.int (-1 : Int32))) M8) ∧ (¬ x9 = 0 → vp_in (((3 : Int32) * a1) + a2) 9 ∧ post (some (.int (gI M8 63 ((((3 : Int32) * a1) + a2).toNatClampNeg)))) M8))))))) :
    AM D (d + 1) 0 0 mX12_told [.ref 62, .int a1, .int a2] M post := by
  refine AM.of (by decide) (Nat.le_of_ble_eq_true rfl) ?_
  show AW D (d + 1) 0 0 mX12_told 0 0 0 [(0, .ref 62), (1, .int a1), (2, .int a2)] [] M post
  refine ab_aload_n 0 dX12_told_0 rfl ?_
  refine ab_iload_n 1 dX12_told_1 rfl ?_
  refine ab_callV (a := 62) (c0 := 12) (d' := d) (mc' := 0) (ms' := 0) (vs := [.int a1]) (st := []) dX12_told_2 ⟨cw_X12_isSide, w_1166⟩ w_1168 w_22 (by decide) (hL.sh 62 rfl (by decide) (by decide)).1 (hL.sh 62 rfl (by decide) (by decide)).2 rfl rfl (Nat.le_of_ble_eq_true rfl) (Nat.le_refl _) (Nat.zero_le _) (Nat.zero_le _) (AM.mono h (fun r M1 ⟨x2, hr3, hc4, h⟩ => ?_))
  subst hr3
  refine ab_rs ?_
  have hm5 : Sm M M1 := (Sm.refl M).trans hc4
  have hl6 := hL.of hm5
  refine ab_if_eq (tgt := 29) dX12_told_5 (by decide) (fun c7 => ?_) (fun c7 => ?_)
  · have h := h.1 c7
    refine ab_iconst (v := (-1)) dX12_told_29 (by decide) ?_
    exact ab_iret dX12_told_30 rfl h
  · have h := h.2 c7
    refine ab_aload_n 0 dX12_told_8 rfl ?_
    refine ab_iload_n 2 dX12_told_9 rfl ?_
    refine ab_callV (a := 62) (c0 := 12) (d' := d) (mc' := 0) (ms' := 0) (vs := [.int a2]) (st := []) dX12_told_10 ⟨cw_X12_isSide, w_1166⟩ w_1168 w_22 (by decide) (hl6.sh 62 rfl (by decide) (by decide)).1 (hl6.sh 62 rfl (by decide) (by decide)).2 rfl rfl (Nat.le_of_ble_eq_true rfl) (Nat.le_refl _) (Nat.zero_le _) (Nat.zero_le _) (AM.mono h (fun r M8 ⟨x9, hr10, hc11, h⟩ => ?_))
    subst hr10
    refine ab_rs ?_
    have hm12 : Sm M M8 := hm5.trans hc11
    have hl13 := hL.of hm12
    refine ab_if_eq (tgt := 29) dX12_told_13 (by decide) (fun c14 => ?_) (fun c14 => ?_)
    · have h := h.1 c14
      refine ab_iconst (v := (-1)) dX12_told_29 (by decide) ?_
      exact ab_iret dX12_told_30 rfl h
    · have h := h.2 c14
      refine ab_aload_n 0 dX12_told_16 rfl ?_
      refine ab_getP (r := 63) dX12_told_17 fs_12_7_12 rfl (hl13.sh 62 rfl (by decide) (by decide)).1 (hl13.sh 62 rfl (by decide) (by decide)).2 (hl13.pt 61 rfl (by decide) (by decide)) ?_
      refine ab_iconst (v := 3) dX12_told_20 (by decide) ?_
      refine ab_iload_n 1 dX12_told_21 rfl ?_
      refine ab_imul dX12_told_22 ?_
      refine ab_iload_n 2 dX12_told_23 rfl ?_
      refine ab_iadd dX12_told_24 ?_
      have hb15 := h.1
      have h := h.2
      refine ab_ialdj (j := (((3 : Int32) * a1) + a2).toNatClampNeg) dX12_told_25 (hl13.sh 63 rfl (by decide) (by decide)) hb15 rfl ?_
      refine ab_goto (tgt := 30) dX12_told_26 (by decide) ?_
      exact ab_iret dX12_told_30 rfl h
theorem dX12_feed_0 : decode cX12_feed 0 = .ok (.aload_n 0, 1) := by decide +kernel
theorem dX12_feed_1 : decode cX12_feed 1 = .ok (.iload_n 2, 1) := by decide +kernel
theorem dX12_feed_2 : decode cX12_feed 2 = .ok (.iconst 0, 1) := by decide +kernel
theorem dX12_feed_3 : decode cX12_feed 3 = .ok (.iconst 4, 1) := by decide +kernel
theorem dX12_feed_4 : decode cX12_feed 4 = .ok (.invokevirtual 180, 3) := by decide +kernel
theorem dX12_feed_7 : decode cX12_feed 7 = .ok (.ifCond .ne 6, 3) := by decide +kernel
theorem dX12_feed_10 : decode cX12_feed 10 = .ok (.bipush (-2), 2) := by decide +kernel
theorem dX12_feed_12 : decode cX12_feed 12 = .ok (.ireturn, 1) := by decide +kernel
theorem dX12_feed_13 : decode cX12_feed 13 = .ok (.aload_n 0, 1) := by decide +kernel
theorem dX12_feed_14 : decode cX12_feed 14 = .ok (.getfield 17, 3) := by decide +kernel
theorem dX12_feed_17 : decode cX12_feed 17 = .ok (.iload_n 2, 1) := by decide +kernel
theorem dX12_feed_18 : decode cX12_feed 18 = .ok (.iadd, 1) := by decide +kernel
theorem dX12_feed_19 : decode cX12_feed 19 = .ok (.bipush 100, 2) := by decide +kernel
theorem dX12_feed_21 : decode cX12_feed 21 = .ok (.if_icmp .le 6, 3) := by decide +kernel
theorem dX12_feed_24 : decode cX12_feed 24 = .ok (.bipush (-4), 2) := by decide +kernel
theorem dX12_feed_26 : decode cX12_feed 26 = .ok (.ireturn, 1) := by decide +kernel
theorem dX12_feed_27 : decode cX12_feed 27 = .ok (.iload_n 2, 1) := by decide +kernel
theorem dX12_feed_28 : decode cX12_feed 28 = .ok (.iconst 1, 1) := by decide +kernel
theorem dX12_feed_29 : decode cX12_feed 29 = .ok (.isub, 1) := by decide +kernel
theorem dX12_feed_30 : decode cX12_feed 30 = .ok (.istore_n 3, 1) := by decide +kernel
theorem dX12_feed_31 : decode cX12_feed 31 = .ok (.iload_n 3, 1) := by decide +kernel
theorem dX12_feed_32 : decode cX12_feed 32 = .ok (.ifCond .lt 35, 3) := by decide +kernel
theorem dX12_feed_35 : decode cX12_feed 35 = .ok (.aload_n 0, 1) := by decide +kernel
theorem dX12_feed_36 : decode cX12_feed 36 = .ok (.getfield 26, 3) := by decide +kernel
theorem dX12_feed_39 : decode cX12_feed 39 = .ok (.aload_n 0, 1) := by decide +kernel
theorem dX12_feed_40 : decode cX12_feed 40 = .ok (.getfield 17, 3) := by decide +kernel
theorem dX12_feed_43 : decode cX12_feed 43 = .ok (.iload_n 1, 1) := by decide +kernel
theorem dX12_feed_44 : decode cX12_feed 44 = .ok (.bipush 8, 2) := by decide +kernel
theorem dX12_feed_46 : decode cX12_feed 46 = .ok (.iload_n 3, 1) := by decide +kernel
theorem dX12_feed_47 : decode cX12_feed 47 = .ok (.imul, 1) := by decide +kernel
theorem dX12_feed_48 : decode cX12_feed 48 = .ok (.ishr, 1) := by decide +kernel
theorem dX12_feed_49 : decode cX12_feed 49 = .ok (.i2b, 1) := by decide +kernel
theorem dX12_feed_50 : decode cX12_feed 50 = .ok (.iastore, 1) := by decide +kernel
theorem dX12_feed_51 : decode cX12_feed 51 = .ok (.aload_n 0, 1) := by decide +kernel
theorem dX12_feed_52 : decode cX12_feed 52 = .ok (.dup, 1) := by decide +kernel
theorem dX12_feed_53 : decode cX12_feed 53 = .ok (.getfield 17, 3) := by decide +kernel
theorem dX12_feed_56 : decode cX12_feed 56 = .ok (.iconst 1, 1) := by decide +kernel
theorem dX12_feed_57 : decode cX12_feed 57 = .ok (.iadd, 1) := by decide +kernel
theorem dX12_feed_58 : decode cX12_feed 58 = .ok (.putfield 17, 3) := by decide +kernel
theorem dX12_feed_61 : decode cX12_feed 61 = .ok (.iinc 3 (-1), 3) := by decide +kernel
theorem dX12_feed_64 : decode cX12_feed 64 = .ok (.goto (-33), 3) := by decide +kernel
theorem dX12_feed_67 : decode cX12_feed 67 = .ok (.aload_n 0, 1) := by decide +kernel
theorem dX12_feed_68 : decode cX12_feed 68 = .ok (.getfield 17, 3) := by decide +kernel
theorem dX12_feed_71 : decode cX12_feed 71 = .ok (.ireturn, 1) := by decide +kernel
def LX12_feed_31 (D : GD) (d : Nat) (v1 : Int32) (v3 : Int32) (M : Mm) (post : Option Value → Mm → Prop) : Prop := AW D (d + 1) 0 0 mX12_feed 0 0 31 [(0, .ref 62), (1, .int v1), (3, .int v3)] [] M post
set_option maxRecDepth 20000 in
theorem rX12_feed (D : GD) (d : Nat) (a1 : Int32) (a2 : Int32) (M : Mm) (post : Option Value → Mm → Prop) (hL : Lay 62 98 M) 
    (h : AMi D d mX12_in [.ref 62, .int a2, .int (0 : Int32), .int (4 : Int32)] M (fun x2 M1 => ((¬ x2 = 0 → ((((gI M1 62 2) + a2) ≤ (100 : Int32) → ∀ x9 : Int32, x9 = (a2 - (1 : Int32)) → LX12_feed_31 D d a1 x9 M1 post) ∧ (¬ ((gI M1 62 2) + a2) ≤ (100 : Int32) → post (some (.int (-4 : Int32))) M1))) ∧ (x2 = 0 → post (some (.int (-2 : Int32))) M1)))) :
    AM D (d + 1) 0 0 mX12_feed [.ref 62, .int a1, .int a2] M post := by
  refine AM.of (by decide) (Nat.le_of_ble_eq_true rfl) ?_
  show AW D (d + 1) 0 0 mX12_feed 0 0 0 [(0, .ref 62), (1, .int a1), (2, .int a2)] [] M post
  refine ab_aload_n 0 dX12_feed_0 rfl ?_
  refine ab_iload_n 2 dX12_feed_1 rfl ?_
  refine ab_iconst (v := 0) dX12_feed_2 (by decide) ?_
  refine ab_iconst (v := 4) dX12_feed_3 (by decide) ?_
  refine ab_callV (a := 62) (c0 := 12) (d' := d) (mc' := 0) (ms' := 0) (vs := [.int a2, .int (0 : Int32), .int (4 : Int32)]) (st := []) dX12_feed_4 ⟨cw_X12_in, w_1170⟩ w_1172 w_23 (by decide) (hL.sh 62 rfl (by decide) (by decide)).1 (hL.sh 62 rfl (by decide) (by decide)).2 rfl rfl (Nat.le_of_ble_eq_true rfl) (Nat.le_refl _) (Nat.zero_le _) (Nat.zero_le _) (AM.mono h (fun r M1 ⟨x2, hr3, hc4, h⟩ => ?_))
  subst hr3
  refine ab_rs ?_
  have hm5 : Sm M M1 := (Sm.refl M).trans hc4
  have hl6 := hL.of hm5
  refine ab_if_ne (tgt := 13) dX12_feed_7 (by decide) (fun c7 => ?_) (fun c7 => ?_)
  · have h := h.1 c7
    refine ab_aload_n 0 dX12_feed_13 rfl ?_
    refine ab_getI dX12_feed_14 fs_12_17_12 rfl (hl6.sh 62 rfl (by decide) (by decide)).1 (hl6.sh 62 rfl (by decide) (by decide)).2 ?_
    refine ab_iload_n 2 dX12_feed_17 rfl ?_
    refine ab_iadd dX12_feed_18 ?_
    refine ab_bipush (v := 100) dX12_feed_19 (by decide) ?_
    refine ab_icmp_le (tgt := 27) dX12_feed_21 (by decide) (fun c8 => ?_) (fun c8 => ?_)
    · have h := h.1 c8
      refine ab_iload_n 2 dX12_feed_27 rfl ?_
      refine ab_iconst (v := 1) dX12_feed_28 (by decide) ?_
      refine ab_isub dX12_feed_29 ?_
      refine ab_topi (fun x9 hx9 => ?_)
      have h := h x9 hx9
      refine ab_istore_n (lv1 := [(3, .int x9), (0, .ref 62), (1, .int a1), (2, .int a2)]) dX12_feed_30 (by decide) rfl ?_
      exact ab_sub [1, 2, 0] rfl h
    · have h := h.2 c8
      refine ab_bipush (v := (-4)) dX12_feed_24 (by decide) ?_
      exact ab_iret dX12_feed_26 rfl h
  · have h := h.2 c7
    refine ab_bipush (v := (-2)) dX12_feed_10 (by decide) ?_
    exact ab_iret dX12_feed_12 rfl h
set_option maxRecDepth 20000 in
theorem rX12_feed_31 (D : GD) (d : Nat)  (v1 : Int32) (v3 : Int32) (M : Mm) (post : Option Value → Mm → Prop) (hL : Lay 62 98 M) 
    (h : ((v3 < 0 → post (some (.int (gI M 62 2))) M) ∧ (¬ v3 < 0 → vp_in (gI M 62 2) 100 ∧ ∀ M3 : Mm, M3 = sI M 64 ((gI M 62 2).toNatClampNeg) (((v1 >>> (((8 : Int32) * v3) &&& 31))).toInt8.toInt32) → ∀ M7 : Mm, M7 = sI M3 62 2 ((gI M3 62 2) + (1 : Int32)) → ∀ x11 : Int32, x11 = v3 + (-1 : Int32) → LX12_feed_31 D d v1 x11 M7 post))) :
    LX12_feed_31 D d v1 v3 M post := by
  show AW D (d + 1) 0 0 mX12_feed 0 0 31 [(0, .ref 62), (1, .int v1), (3, .int v3)] [] M post
  refine ab_iload_n 2 dX12_feed_31 rfl ?_
  refine ab_if_lt (tgt := 67) dX12_feed_32 (by decide) (fun c1 => ?_) (fun c1 => ?_)
  · have h := h.1 c1
    refine ab_aload_n 0 dX12_feed_67 rfl ?_
    refine ab_getI dX12_feed_68 fs_12_17_12 rfl (hL.sh 62 rfl (by decide) (by decide)).1 (hL.sh 62 rfl (by decide) (by decide)).2 ?_
    exact ab_iret dX12_feed_71 rfl h
  · have h := h.2 c1
    refine ab_aload_n 0 dX12_feed_35 rfl ?_
    refine ab_getP (r := 64) dX12_feed_36 fs_12_26_12 rfl (hL.sh 62 rfl (by decide) (by decide)).1 (hL.sh 62 rfl (by decide) (by decide)).2 (hL.pt 62 rfl (by decide) (by decide)) ?_
    refine ab_aload_n 0 dX12_feed_39 rfl ?_
    refine ab_getI dX12_feed_40 fs_12_17_12 rfl (hL.sh 62 rfl (by decide) (by decide)).1 (hL.sh 62 rfl (by decide) (by decide)).2 ?_
    refine ab_iload_n 1 dX12_feed_43 rfl ?_
    refine ab_bipush (v := 8) dX12_feed_44 (by decide) ?_
    refine ab_iload_n 2 dX12_feed_46 rfl ?_
    refine ab_imul dX12_feed_47 ?_
    refine ab_ishr dX12_feed_48 ?_
    refine ab_i2b dX12_feed_49 ?_
    have hb2 := h.1
    have h := h.2
    refine ab_iastj (j := (gI M 62 2).toNatClampNeg) dX12_feed_50 (hL.sh 64 rfl (by decide) (by decide)) hb2 rfl ?_
    refine ab_nameM (fun M3 hM3 => ?_)
    have h := h M3 hM3
    have hs6 : Sm M M3 := hM3 ▸ (Sm.refl _).i
    have hm4 : Sm M M3 := (Sm.refl M).trans hs6
    have hl5 := hL.of hm4
    refine ab_aload_n 0 dX12_feed_51 rfl ?_
    refine ab_dup dX12_feed_52 rfl ?_
    refine ab_getI dX12_feed_53 fs_12_17_12 rfl (hl5.sh 62 rfl (by decide) (by decide)).1 (hl5.sh 62 rfl (by decide) (by decide)).2 ?_
    refine ab_iconst (v := 1) dX12_feed_56 (by decide) ?_
    refine ab_iadd dX12_feed_57 ?_
    refine ab_putI dX12_feed_58 fs_12_17_12 rfl rfl (hl5.sh 62 rfl (by decide) (by decide)).1 (hl5.sh 62 rfl (by decide) (by decide)).2 ?_
    refine ab_nameM (fun M7 hM7 => ?_)
    have h := h M7 hM7
    have hs10 : Sm M3 M7 := hM7 ▸ (Sm.refl _).i
    have hm8 : Sm M M7 := hm4.trans hs10
    have hl9 := hL.of hm8
    obtain ⟨x11, hx11⟩ : ∃ y : Int32, y = v3 + (-1 : Int32) := ⟨_, rfl⟩
    have h := h x11 hx11
    refine ab_iinc (v := x11) 2 (lv1 := [(3, .int x11), (0, .ref 62), (1, .int v1)]) dX12_feed_61 rfl (by rw [hx11]; rfl) (by decide) rfl ?_
    refine ab_goto (tgt := 31) dX12_feed_64 (by decide) ?_
    exact ab_sub [1, 2, 0] rfl h
theorem dX12_next_0 : decode cX12_next 0 = .ok (.aload_n 0, 1) := by decide +kernel
theorem dX12_next_1 : decode cX12_next 1 = .ok (.getfield 20, 3) := by decide +kernel
theorem dX12_next_4 : decode cX12_next 4 = .ok (.aload_n 0, 1) := by decide +kernel
theorem dX12_next_5 : decode cX12_next 5 = .ok (.getfield 17, 3) := by decide +kernel
theorem dX12_next_8 : decode cX12_next 8 = .ok (.if_icmp .ge 15, 3) := by decide +kernel
theorem dX12_next_11 : decode cX12_next 11 = .ok (.aload_n 0, 1) := by decide +kernel
theorem dX12_next_12 : decode cX12_next 12 = .ok (.getfield 26, 3) := by decide +kernel
theorem dX12_next_15 : decode cX12_next 15 = .ok (.aload_n 0, 1) := by decide +kernel
theorem dX12_next_16 : decode cX12_next 16 = .ok (.getfield 20, 3) := by decide +kernel
theorem dX12_next_19 : decode cX12_next 19 = .ok (.iaload, 1) := by decide +kernel
theorem dX12_next_20 : decode cX12_next 20 = .ok (.goto 4, 3) := by decide +kernel
theorem dX12_next_23 : decode cX12_next 23 = .ok (.iconst (-1), 1) := by decide +kernel
theorem dX12_next_24 : decode cX12_next 24 = .ok (.ireturn, 1) := by decide +kernel
set_option maxRecDepth 20000 in
theorem rX12_next (D : GD) (d : Nat)  (M : Mm) (post : Option Value → Mm → Prop) (hL : Lay 62 98 M) 
    (h : (((gI M 62 2) ≤ (gI M 62 3) → post (some (.int (-1 : Int32))) M) ∧ (¬ (gI M 62 2) ≤ (gI M 62 3) → vp_in (gI M 62 3) 100 ∧ post (some (.int (gI M 64 ((gI M 62 3).toNatClampNeg)))) M))) :
    AM D d 0 0 mX12_next [.ref 62] M post := by
  refine AM.of (by decide) (Nat.le_of_ble_eq_true rfl) ?_
  show AW D d 0 0 mX12_next 0 0 0 [(0, .ref 62)] [] M post
  refine ab_aload_n 0 dX12_next_0 rfl ?_
  refine ab_getI dX12_next_1 fs_12_20_12 rfl (hL.sh 62 rfl (by decide) (by decide)).1 (hL.sh 62 rfl (by decide) (by decide)).2 ?_
  refine ab_aload_n 0 dX12_next_4 rfl ?_
  refine ab_getI dX12_next_5 fs_12_17_12 rfl (hL.sh 62 rfl (by decide) (by decide)).1 (hL.sh 62 rfl (by decide) (by decide)).2 ?_
  refine ab_icmp_ge (tgt := 23) dX12_next_8 (by decide) (fun c1 => ?_) (fun c1 => ?_)
  · have h := h.1 c1
    refine ab_iconst (v := (-1)) dX12_next_23 (by decide) ?_
    exact ab_iret dX12_next_24 rfl h
  · have h := h.2 c1
    refine ab_aload_n 0 dX12_next_11 rfl ?_
    refine ab_getP (r := 64) dX12_next_12 fs_12_26_12 rfl (hL.sh 62 rfl (by decide) (by decide)).1 (hL.sh 62 rfl (by decide) (by decide)).2 (hL.pt 62 rfl (by decide) (by decide)) ?_
    refine ab_aload_n 0 dX12_next_15 rfl ?_
    refine ab_getI dX12_next_16 fs_12_20_12 rfl (hL.sh 62 rfl (by decide) (by decide)).1 (hL.sh 62 rfl (by decide) (by decide)).2 ?_
    have hb2 := h.1
    have h := h.2
    refine ab_ialdj (j := (gI M 62 3).toNatClampNeg) dX12_next_19 (hL.sh 64 rfl (by decide) (by decide)) hb2 rfl ?_
    refine ab_goto (tgt := 24) dX12_next_20 (by decide) ?_
    exact ab_iret dX12_next_24 rfl h
theorem dX12_takes_0 : decode cX12_takes 0 = .ok (.aload_n 0, 1) := by decide +kernel
theorem dX12_takes_1 : decode cX12_takes 1 = .ok (.invokevirtual 188, 3) := by decide +kernel
theorem dX12_takes_4 : decode cX12_takes 4 = .ok (.iload_n 1, 1) := by decide +kernel
theorem dX12_takes_5 : decode cX12_takes 5 = .ok (.if_icmp .eq 5, 3) := by decide +kernel
theorem dX12_takes_8 : decode cX12_takes 8 = .ok (.iconst 0, 1) := by decide +kernel
theorem dX12_takes_9 : decode cX12_takes 9 = .ok (.ireturn, 1) := by decide +kernel
theorem dX12_takes_10 : decode cX12_takes 10 = .ok (.aload_n 0, 1) := by decide +kernel
theorem dX12_takes_11 : decode cX12_takes 11 = .ok (.dup, 1) := by decide +kernel
theorem dX12_takes_12 : decode cX12_takes 12 = .ok (.getfield 20, 3) := by decide +kernel
theorem dX12_takes_15 : decode cX12_takes 15 = .ok (.iconst 1, 1) := by decide +kernel
theorem dX12_takes_16 : decode cX12_takes 16 = .ok (.iadd, 1) := by decide +kernel
theorem dX12_takes_17 : decode cX12_takes 17 = .ok (.putfield 20, 3) := by decide +kernel
theorem dX12_takes_20 : decode cX12_takes 20 = .ok (.iconst 1, 1) := by decide +kernel
theorem dX12_takes_21 : decode cX12_takes 21 = .ok (.ireturn, 1) := by decide +kernel
set_option maxRecDepth 20000 in
theorem rX12_takes (D : GD) (d : Nat) (a1 : Int32) (M : Mm) (post : Option Value → Mm → Prop) (hL : Lay 62 98 M) 
    (h : AMi D d mX12_next [.ref 62] M (fun x2 M1 => ((x2 = a1 → ∀ M8 : Mm, M8 = sI M1 62 3 ((gI M1 62 3) + (1 : Int32)) → post (some (.int (1 : Int32))) M8) ∧ (¬ x2 = a1 → post (some (.int (0 : Int32))) M1)))) :
    AM D (d + 1) 0 0 mX12_takes [.ref 62, .int a1] M post := by
  refine AM.of (by decide) (Nat.le_of_ble_eq_true rfl) ?_
  show AW D (d + 1) 0 0 mX12_takes 0 0 0 [(0, .ref 62), (1, .int a1)] [] M post
  refine ab_aload_n 0 dX12_takes_0 rfl ?_
  refine ab_callV (a := 62) (c0 := 12) (d' := d) (mc' := 0) (ms' := 0) (vs := []) (st := []) dX12_takes_1 ⟨cw_X12_next, w_1194⟩ w_1196 w_26 (by decide) (hL.sh 62 rfl (by decide) (by decide)).1 (hL.sh 62 rfl (by decide) (by decide)).2 rfl rfl (Nat.le_of_ble_eq_true rfl) (Nat.le_refl _) (Nat.zero_le _) (Nat.zero_le _) (AM.mono h (fun r M1 ⟨x2, hr3, hc4, h⟩ => ?_))
  subst hr3
  refine ab_rs ?_
  have hm5 : Sm M M1 := (Sm.refl M).trans hc4
  have hl6 := hL.of hm5
  refine ab_iload_n 1 dX12_takes_4 rfl ?_
  refine ab_icmp_eq (tgt := 10) dX12_takes_5 (by decide) (fun c7 => ?_) (fun c7 => ?_)
  · have h := h.1 c7
    refine ab_aload_n 0 dX12_takes_10 rfl ?_
    refine ab_dup dX12_takes_11 rfl ?_
    refine ab_getI dX12_takes_12 fs_12_20_12 rfl (hl6.sh 62 rfl (by decide) (by decide)).1 (hl6.sh 62 rfl (by decide) (by decide)).2 ?_
    refine ab_iconst (v := 1) dX12_takes_15 (by decide) ?_
    refine ab_iadd dX12_takes_16 ?_
    refine ab_putI dX12_takes_17 fs_12_20_12 rfl rfl (hl6.sh 62 rfl (by decide) (by decide)).1 (hl6.sh 62 rfl (by decide) (by decide)).2 ?_
    refine ab_nameM (fun M8 hM8 => ?_)
    have h := h M8 hM8
    have hs11 : Sm M1 M8 := hM8 ▸ (Sm.refl _).i
    have hm9 : Sm M M8 := hm5.trans hs11
    have hl10 := hL.of hm9
    refine ab_iconst (v := 1) dX12_takes_20 (by decide) ?_
    exact ab_zret dX12_takes_21 rfl rfl h
  · have h := h.2 c7
    refine ab_iconst (v := 0) dX12_takes_8 (by decide) ?_
    exact ab_zret dX12_takes_9 rfl rfl h
theorem dX12_takesWord_0 : decode cX12_takesWord 0 = .ok (.iload_n 2, 1) := by decide +kernel
theorem dX12_takesWord_1 : decode cX12_takesWord 1 = .ok (.iconst 1, 1) := by decide +kernel
theorem dX12_takesWord_2 : decode cX12_takesWord 2 = .ok (.isub, 1) := by decide +kernel
theorem dX12_takesWord_3 : decode cX12_takesWord 3 = .ok (.istore_n 3, 1) := by decide +kernel
theorem dX12_takesWord_4 : decode cX12_takesWord 4 = .ok (.iload_n 3, 1) := by decide +kernel
theorem dX12_takesWord_5 : decode cX12_takesWord 5 = .ok (.ifCond .lt 29, 3) := by decide +kernel
theorem dX12_takesWord_8 : decode cX12_takesWord 8 = .ok (.aload_n 0, 1) := by decide +kernel
theorem dX12_takesWord_9 : decode cX12_takesWord 9 = .ok (.bipush 96, 2) := by decide +kernel
theorem dX12_takesWord_11 : decode cX12_takesWord 11 = .ok (.iload_n 1, 1) := by decide +kernel
theorem dX12_takesWord_12 : decode cX12_takesWord 12 = .ok (.iconst 5, 1) := by decide +kernel
theorem dX12_takesWord_13 : decode cX12_takesWord 13 = .ok (.iload_n 3, 1) := by decide +kernel
theorem dX12_takesWord_14 : decode cX12_takesWord 14 = .ok (.imul, 1) := by decide +kernel
theorem dX12_takesWord_15 : decode cX12_takesWord 15 = .ok (.ishr, 1) := by decide +kernel
theorem dX12_takesWord_16 : decode cX12_takesWord 16 = .ok (.bipush 31, 2) := by decide +kernel
theorem dX12_takesWord_18 : decode cX12_takesWord 18 = .ok (.iand, 1) := by decide +kernel
theorem dX12_takesWord_19 : decode cX12_takesWord 19 = .ok (.iadd, 1) := by decide +kernel
theorem dX12_takesWord_20 : decode cX12_takesWord 20 = .ok (.invokevirtual 192, 3) := by decide +kernel
theorem dX12_takesWord_23 : decode cX12_takesWord 23 = .ok (.ifCond .ne 5, 3) := by decide +kernel
theorem dX12_takesWord_26 : decode cX12_takesWord 26 = .ok (.iconst 0, 1) := by decide +kernel
theorem dX12_takesWord_27 : decode cX12_takesWord 27 = .ok (.ireturn, 1) := by decide +kernel
theorem dX12_takesWord_28 : decode cX12_takesWord 28 = .ok (.iinc 3 (-1), 3) := by decide +kernel
theorem dX12_takesWord_31 : decode cX12_takesWord 31 = .ok (.goto (-27), 3) := by decide +kernel
theorem dX12_takesWord_34 : decode cX12_takesWord 34 = .ok (.aload_n 0, 1) := by decide +kernel
theorem dX12_takesWord_35 : decode cX12_takesWord 35 = .ok (.bipush 32, 2) := by decide +kernel
theorem dX12_takesWord_37 : decode cX12_takesWord 37 = .ok (.invokevirtual 192, 3) := by decide +kernel
theorem dX12_takesWord_40 : decode cX12_takesWord 40 = .ok (.ireturn, 1) := by decide +kernel
def LX12_takesWord_4 (D : GD) (d : Nat) (v1 : Int32) (v3 : Int32) (M : Mm) (post : Option Value → Mm → Prop) : Prop := AW D (d + 1) 0 0 mX12_takesWord 0 0 4 [(0, .ref 62), (1, .int v1), (3, .int v3)] [] M post
set_option maxRecDepth 20000 in
theorem rX12_takesWord (D : GD) (d : Nat) (a1 : Int32) (a2 : Int32) (M : Mm) (post : Option Value → Mm → Prop) (hL : Lay 62 98 M) 
    (h : ∀ x1 : Int32, x1 = (a2 - (1 : Int32)) → LX12_takesWord_4 D d a1 x1 M post) :
    AM D (d + 1) 0 0 mX12_takesWord [.ref 62, .int a1, .int a2] M post := by
  refine AM.of (by decide) (Nat.le_of_ble_eq_true rfl) ?_
  show AW D (d + 1) 0 0 mX12_takesWord 0 0 0 [(0, .ref 62), (1, .int a1), (2, .int a2)] [] M post
  refine ab_iload_n 2 dX12_takesWord_0 rfl ?_
  refine ab_iconst (v := 1) dX12_takesWord_1 (by decide) ?_
  refine ab_isub dX12_takesWord_2 ?_
  refine ab_topi (fun x1 hx1 => ?_)
  have h := h x1 hx1
  refine ab_istore_n (lv1 := [(3, .int x1), (0, .ref 62), (1, .int a1), (2, .int a2)]) dX12_takesWord_3 (by decide) rfl ?_
  exact ab_sub [1, 2, 0] rfl h
set_option maxRecDepth 20000 in
theorem rX12_takesWord_4 (D : GD) (d : Nat)  (v1 : Int32) (v3 : Int32) (M : Mm) (post : Option Value → Mm → Prop) (hL : Lay 62 98 M) 
    (h : ((v3 < 0 → AMi D d mX12_takes [.ref 62, .int (32 : Int32)] M (fun x3 M2 => (x3 = 0 ∨ x3 = 1) ∧ post (some (.int x3)) M2)) ∧ (¬ v3 < 0 → AMi D d mX12_takes [.ref 62, .int ((96 : Int32) + ((v1 >>> (((5 : Int32) * v3) &&& 31)) &&& (31 : Int32)))] M (fun x9 M8 => ((¬ x9 = 0 → ∀ x15 : Int32, x15 = v3 + (-1 : Int32) → LX12_takesWord_4 D d v1 x15 M8 post) ∧ (x9 = 0 → post (some (.int (0 : Int32))) M8)))))) :
    LX12_takesWord_4 D d v1 v3 M post := by
  show AW D (d + 1) 0 0 mX12_takesWord 0 0 4 [(0, .ref 62), (1, .int v1), (3, .int v3)] [] M post
  refine ab_iload_n 2 dX12_takesWord_4 rfl ?_
  refine ab_if_lt (tgt := 34) dX12_takesWord_5 (by decide) (fun c1 => ?_) (fun c1 => ?_)
  · have h := h.1 c1
    refine ab_aload_n 0 dX12_takesWord_34 rfl ?_
    refine ab_bipush (v := 32) dX12_takesWord_35 (by decide) ?_
    refine ab_callV (a := 62) (c0 := 12) (d' := d) (mc' := 0) (ms' := 0) (vs := [.int (32 : Int32)]) (st := []) dX12_takesWord_37 ⟨cw_X12_takes, w_1202⟩ w_1204 w_28 (by decide) (hL.sh 62 rfl (by decide) (by decide)).1 (hL.sh 62 rfl (by decide) (by decide)).2 rfl rfl (Nat.le_of_ble_eq_true rfl) (Nat.le_refl _) (Nat.zero_le _) (Nat.zero_le _) (AM.mono h (fun r M2 ⟨x3, hr4, hc5, h⟩ => ?_))
    subst hr4
    refine ab_rs ?_
    have hm6 : Sm M M2 := (Sm.refl M).trans hc5
    have hl7 := hL.of hm6
    exact ab_zret dX12_takesWord_40 rfl (nar_z h.1) h.2
  · have h := h.2 c1
    refine ab_aload_n 0 dX12_takesWord_8 rfl ?_
    refine ab_bipush (v := 96) dX12_takesWord_9 (by decide) ?_
    refine ab_iload_n 1 dX12_takesWord_11 rfl ?_
    refine ab_iconst (v := 5) dX12_takesWord_12 (by decide) ?_
    refine ab_iload_n 2 dX12_takesWord_13 rfl ?_
    refine ab_imul dX12_takesWord_14 ?_
    refine ab_ishr dX12_takesWord_15 ?_
    refine ab_bipush (v := 31) dX12_takesWord_16 (by decide) ?_
    refine ab_iand dX12_takesWord_18 ?_
    refine ab_iadd dX12_takesWord_19 ?_
    refine ab_callV (a := 62) (c0 := 12) (d' := d) (mc' := 0) (ms' := 0) (vs := [.int ((96 : Int32) + ((v1 >>> (((5 : Int32) * v3) &&& 31)) &&& (31 : Int32)))]) (st := []) dX12_takesWord_20 ⟨cw_X12_takes, w_1202⟩ w_1204 w_28 (by decide) (hL.sh 62 rfl (by decide) (by decide)).1 (hL.sh 62 rfl (by decide) (by decide)).2 rfl rfl (Nat.le_of_ble_eq_true rfl) (Nat.le_refl _) (Nat.zero_le _) (Nat.zero_le _) (AM.mono h (fun r M8 ⟨x9, hr10, hc11, h⟩ => ?_))
    subst hr10
    refine ab_rs ?_
    have hm12 : Sm M M8 := (Sm.refl M).trans hc11
    have hl13 := hL.of hm12
    refine ab_if_ne (tgt := 28) dX12_takesWord_23 (by decide) (fun c14 => ?_) (fun c14 => ?_)
    · have h := h.1 c14
      obtain ⟨x15, hx15⟩ : ∃ y : Int32, y = v3 + (-1 : Int32) := ⟨_, rfl⟩
      have h := h x15 hx15
      refine ab_iinc (v := x15) 2 (lv1 := [(3, .int x15), (0, .ref 62), (1, .int v1)]) dX12_takesWord_28 rfl (by rw [hx15]; rfl) (by decide) rfl ?_
      refine ab_goto (tgt := 4) dX12_takesWord_31 (by decide) ?_
      exact ab_sub [1, 2, 0] rfl h
    · have h := h.2 c14
      refine ab_iconst (v := 0) dX12_takesWord_26 (by decide) ?_
      exact ab_zret dX12_takesWord_27 rfl rfl h
theorem dX12_isDigit_0 : decode cX12_isDigit 0 = .ok (.aload_n 0, 1) := by decide +kernel
theorem dX12_isDigit_1 : decode cX12_isDigit 1 = .ok (.aload_n 0, 1) := by decide +kernel
theorem dX12_isDigit_2 : decode cX12_isDigit 2 = .ok (.invokevirtual 188, 3) := by decide +kernel
theorem dX12_isDigit_5 : decode cX12_isDigit 5 = .ok (.bipush 48, 2) := by decide +kernel
theorem dX12_isDigit_7 : decode cX12_isDigit 7 = .ok (.bipush 57, 2) := by decide +kernel
theorem dX12_isDigit_9 : decode cX12_isDigit 9 = .ok (.invokevirtual 180, 3) := by decide +kernel
theorem dX12_isDigit_12 : decode cX12_isDigit 12 = .ok (.ireturn, 1) := by decide +kernel
set_option maxRecDepth 20000 in
theorem rX12_isDigit (D : GD) (d : Nat)  (M : Mm) (post : Option Value → Mm → Prop) (hL : Lay 62 98 M) 
    (h : AMi D d mX12_next [.ref 62] M (fun x2 M1 => AMi D d mX12_in [.ref 62, .int x2, .int (48 : Int32), .int (57 : Int32)] M1 (fun x8 M7 => (x8 = 0 ∨ x8 = 1) ∧ post (some (.int x8)) M7))) :
    AM D (d + 1) 0 0 mX12_isDigit [.ref 62] M post := by
  refine AM.of (by decide) (Nat.le_of_ble_eq_true rfl) ?_
  show AW D (d + 1) 0 0 mX12_isDigit 0 0 0 [(0, .ref 62)] [] M post
  refine ab_aload_n 0 dX12_isDigit_0 rfl ?_
  refine ab_aload_n 0 dX12_isDigit_1 rfl ?_
  refine ab_callV (a := 62) (c0 := 12) (d' := d) (mc' := 0) (ms' := 0) (vs := []) (st := [.ref 62]) dX12_isDigit_2 ⟨cw_X12_next, w_1194⟩ w_1196 w_26 (by decide) (hL.sh 62 rfl (by decide) (by decide)).1 (hL.sh 62 rfl (by decide) (by decide)).2 rfl rfl (Nat.le_of_ble_eq_true rfl) (Nat.le_refl _) (Nat.zero_le _) (Nat.zero_le _) (AM.mono h (fun r M1 ⟨x2, hr3, hc4, h⟩ => ?_))
  subst hr3
  refine ab_rs ?_
  have hm5 : Sm M M1 := (Sm.refl M).trans hc4
  have hl6 := hL.of hm5
  refine ab_bipush (v := 48) dX12_isDigit_5 (by decide) ?_
  refine ab_bipush (v := 57) dX12_isDigit_7 (by decide) ?_
  refine ab_callV (a := 62) (c0 := 12) (d' := d) (mc' := 0) (ms' := 0) (vs := [.int x2, .int (48 : Int32), .int (57 : Int32)]) (st := []) dX12_isDigit_9 ⟨cw_X12_in, w_1170⟩ w_1172 w_23 (by decide) (hl6.sh 62 rfl (by decide) (by decide)).1 (hl6.sh 62 rfl (by decide) (by decide)).2 rfl rfl (Nat.le_of_ble_eq_true rfl) (Nat.le_refl _) (Nat.zero_le _) (Nat.zero_le _) (AM.mono h (fun r M7 ⟨x8, hr9, hc10, h⟩ => ?_))
  subst hr9
  refine ab_rs ?_
  have hm11 : Sm M M7 := hm5.trans hc10
  have hl12 := hL.of hm11
  exact ab_zret dX12_isDigit_12 rfl (nar_z h.1) h.2
theorem dX12_takesNumber_0 : decode cX12_takesNumber 0 = .ok (.aload_n 0, 1) := by decide +kernel
theorem dX12_takesNumber_1 : decode cX12_takesNumber 1 = .ok (.invokevirtual 195, 3) := by decide +kernel
theorem dX12_takesNumber_4 : decode cX12_takesNumber 4 = .ok (.ifCond .ne 5, 3) := by decide +kernel
theorem dX12_takesNumber_7 : decode cX12_takesNumber 7 = .ok (.iconst 0, 1) := by decide +kernel
theorem dX12_takesNumber_8 : decode cX12_takesNumber 8 = .ok (.ireturn, 1) := by decide +kernel
theorem dX12_takesNumber_9 : decode cX12_takesNumber 9 = .ok (.aload_n 0, 1) := by decide +kernel
theorem dX12_takesNumber_10 : decode cX12_takesNumber 10 = .ok (.iconst 0, 1) := by decide +kernel
theorem dX12_takesNumber_11 : decode cX12_takesNumber 11 = .ok (.putfield 23, 3) := by decide +kernel
theorem dX12_takesNumber_14 : decode cX12_takesNumber 14 = .ok (.iconst 0, 1) := by decide +kernel
theorem dX12_takesNumber_15 : decode cX12_takesNumber 15 = .ok (.istore_n 1, 1) := by decide +kernel
theorem dX12_takesNumber_16 : decode cX12_takesNumber 16 = .ok (.iload_n 1, 1) := by decide +kernel
theorem dX12_takesNumber_17 : decode cX12_takesNumber 17 = .ok (.iconst 2, 1) := by decide +kernel
theorem dX12_takesNumber_18 : decode cX12_takesNumber 18 = .ok (.if_icmp .ge 45, 3) := by decide +kernel
theorem dX12_takesNumber_21 : decode cX12_takesNumber 21 = .ok (.aload_n 0, 1) := by decide +kernel
theorem dX12_takesNumber_22 : decode cX12_takesNumber 22 = .ok (.invokevirtual 195, 3) := by decide +kernel
theorem dX12_takesNumber_25 : decode cX12_takesNumber 25 = .ok (.ifCond .eq 38, 3) := by decide +kernel
theorem dX12_takesNumber_28 : decode cX12_takesNumber 28 = .ok (.aload_n 0, 1) := by decide +kernel
theorem dX12_takesNumber_29 : decode cX12_takesNumber 29 = .ok (.bipush 10, 2) := by decide +kernel
theorem dX12_takesNumber_31 : decode cX12_takesNumber 31 = .ok (.aload_n 0, 1) := by decide +kernel
theorem dX12_takesNumber_32 : decode cX12_takesNumber 32 = .ok (.getfield 23, 3) := by decide +kernel
theorem dX12_takesNumber_35 : decode cX12_takesNumber 35 = .ok (.imul, 1) := by decide +kernel
theorem dX12_takesNumber_36 : decode cX12_takesNumber 36 = .ok (.aload_n 0, 1) := by decide +kernel
theorem dX12_takesNumber_37 : decode cX12_takesNumber 37 = .ok (.invokevirtual 188, 3) := by decide +kernel
theorem dX12_takesNumber_40 : decode cX12_takesNumber 40 = .ok (.iadd, 1) := by decide +kernel
theorem dX12_takesNumber_41 : decode cX12_takesNumber 41 = .ok (.bipush 48, 2) := by decide +kernel
theorem dX12_takesNumber_43 : decode cX12_takesNumber 43 = .ok (.isub, 1) := by decide +kernel
theorem dX12_takesNumber_44 : decode cX12_takesNumber 44 = .ok (.putfield 23, 3) := by decide +kernel
theorem dX12_takesNumber_47 : decode cX12_takesNumber 47 = .ok (.aload_n 0, 1) := by decide +kernel
theorem dX12_takesNumber_48 : decode cX12_takesNumber 48 = .ok (.dup, 1) := by decide +kernel
theorem dX12_takesNumber_49 : decode cX12_takesNumber 49 = .ok (.getfield 20, 3) := by decide +kernel
theorem dX12_takesNumber_52 : decode cX12_takesNumber 52 = .ok (.iconst 1, 1) := by decide +kernel
theorem dX12_takesNumber_53 : decode cX12_takesNumber 53 = .ok (.iadd, 1) := by decide +kernel
theorem dX12_takesNumber_54 : decode cX12_takesNumber 54 = .ok (.putfield 20, 3) := by decide +kernel
theorem dX12_takesNumber_57 : decode cX12_takesNumber 57 = .ok (.iinc 1 1, 3) := by decide +kernel
theorem dX12_takesNumber_60 : decode cX12_takesNumber 60 = .ok (.goto (-44), 3) := by decide +kernel
theorem dX12_takesNumber_63 : decode cX12_takesNumber 63 = .ok (.iconst 1, 1) := by decide +kernel
theorem dX12_takesNumber_64 : decode cX12_takesNumber 64 = .ok (.ireturn, 1) := by decide +kernel
def LX12_takesNumber_16 (D : GD) (d : Nat) (v1 : Int32) (M : Mm) (post : Option Value → Mm → Prop) : Prop := AW D (d + 1) 0 0 mX12_takesNumber 0 0 16 [(0, .ref 62), (1, .int v1)] [] M post
set_option maxRecDepth 20000 in
theorem rX12_takesNumber (D : GD) (d : Nat)  (M : Mm) (post : Option Value → Mm → Prop) (hL : Lay 62 98 M) 
    (h : AMi D d mX12_isDigit [.ref 62] M (fun x2 M1 => ((¬ x2 = 0 → ∀ M8 : Mm, M8 = sI M1 62 4 (0 : Int32) → LX12_takesNumber_16 D d (0 : Int32) M8 post) ∧ (x2 = 0 → post (some (.int (0 : Int32))) M1)))) :
    AM D (d + 1) 0 0 mX12_takesNumber [.ref 62] M post := by
  refine AM.of (by decide) (Nat.le_of_ble_eq_true rfl) ?_
  show AW D (d + 1) 0 0 mX12_takesNumber 0 0 0 [(0, .ref 62)] [] M post
  refine ab_aload_n 0 dX12_takesNumber_0 rfl ?_
  refine ab_callV (a := 62) (c0 := 12) (d' := d) (mc' := 0) (ms' := 0) (vs := []) (st := []) dX12_takesNumber_1 ⟨cw_X12_isDigit, w_1211⟩ w_1213 w_30 (by decide) (hL.sh 62 rfl (by decide) (by decide)).1 (hL.sh 62 rfl (by decide) (by decide)).2 rfl rfl (Nat.le_of_ble_eq_true rfl) (Nat.le_refl _) (Nat.zero_le _) (Nat.zero_le _) (AM.mono h (fun r M1 ⟨x2, hr3, hc4, h⟩ => ?_))
  subst hr3
  refine ab_rs ?_
  have hm5 : Sm M M1 := (Sm.refl M).trans hc4
  have hl6 := hL.of hm5
  refine ab_if_ne (tgt := 9) dX12_takesNumber_4 (by decide) (fun c7 => ?_) (fun c7 => ?_)
  · have h := h.1 c7
    refine ab_aload_n 0 dX12_takesNumber_9 rfl ?_
    refine ab_iconst (v := 0) dX12_takesNumber_10 (by decide) ?_
    refine ab_putI dX12_takesNumber_11 fs_12_23_12 rfl rfl (hl6.sh 62 rfl (by decide) (by decide)).1 (hl6.sh 62 rfl (by decide) (by decide)).2 ?_
    refine ab_nameM (fun M8 hM8 => ?_)
    have h := h M8 hM8
    have hs11 : Sm M1 M8 := hM8 ▸ (Sm.refl _).i
    have hm9 : Sm M M8 := hm5.trans hs11
    have hl10 := hL.of hm9
    refine ab_iconst (v := 0) dX12_takesNumber_14 (by decide) ?_
    refine ab_istore_n (lv1 := [(1, .int (0 : Int32)), (0, .ref 62)]) dX12_takesNumber_15 (by decide) rfl ?_
    exact ab_sub [1, 0] rfl h
  · have h := h.2 c7
    refine ab_iconst (v := 0) dX12_takesNumber_7 (by decide) ?_
    exact ab_zret dX12_takesNumber_8 rfl rfl h
set_option maxRecDepth 20000 in
theorem rX12_takesNumber_16 (D : GD) (d : Nat)  (v1 : Int32) (M : Mm) (post : Option Value → Mm → Prop) (hL : Lay 62 98 M) 
    (h : (((2 : Int32) ≤ v1 → post (some (.int (1 : Int32))) M) ∧ (¬ (2 : Int32) ≤ v1 → AMi D d mX12_isDigit [.ref 62] M (fun x3 M2 => ((x3 = 0 → post (some (.int (1 : Int32))) M2) ∧ (¬ x3 = 0 → AMi D d mX12_next [.ref 62] M2 (fun x10 M9 => ∀ M15 : Mm, M15 = sI M9 62 4 ((((10 : Int32) * (gI M2 62 4)) + x10) - (48 : Int32)) → ∀ M19 : Mm, M19 = sI M15 62 3 ((gI M15 62 3) + (1 : Int32)) → ∀ x23 : Int32, x23 = v1 + (1 : Int32) → LX12_takesNumber_16 D d x23 M19 post))))))) :
    LX12_takesNumber_16 D d v1 M post := by
  show AW D (d + 1) 0 0 mX12_takesNumber 0 0 16 [(0, .ref 62), (1, .int v1)] [] M post
  refine ab_iload_n 1 dX12_takesNumber_16 rfl ?_
  refine ab_iconst (v := 2) dX12_takesNumber_17 (by decide) ?_
  refine ab_icmp_ge (tgt := 63) dX12_takesNumber_18 (by decide) (fun c1 => ?_) (fun c1 => ?_)
  · have h := h.1 c1
    refine ab_iconst (v := 1) dX12_takesNumber_63 (by decide) ?_
    exact ab_zret dX12_takesNumber_64 rfl rfl h
  · have h := h.2 c1
    refine ab_aload_n 0 dX12_takesNumber_21 rfl ?_
    refine ab_callV (a := 62) (c0 := 12) (d' := d) (mc' := 0) (ms' := 0) (vs := []) (st := []) dX12_takesNumber_22 ⟨cw_X12_isDigit, w_1211⟩ w_1213 w_30 (by decide) (hL.sh 62 rfl (by decide) (by decide)).1 (hL.sh 62 rfl (by decide) (by decide)).2 rfl rfl (Nat.le_of_ble_eq_true rfl) (Nat.le_refl _) (Nat.zero_le _) (Nat.zero_le _) (AM.mono h (fun r M2 ⟨x3, hr4, hc5, h⟩ => ?_))
    subst hr4
    refine ab_rs ?_
    have hm6 : Sm M M2 := (Sm.refl M).trans hc5
    have hl7 := hL.of hm6
    refine ab_if_eq (tgt := 63) dX12_takesNumber_25 (by decide) (fun c8 => ?_) (fun c8 => ?_)
    · have h := h.1 c8
      refine ab_iconst (v := 1) dX12_takesNumber_63 (by decide) ?_
      exact ab_zret dX12_takesNumber_64 rfl rfl h
    · have h := h.2 c8
      refine ab_aload_n 0 dX12_takesNumber_28 rfl ?_
      refine ab_bipush (v := 10) dX12_takesNumber_29 (by decide) ?_
      refine ab_aload_n 0 dX12_takesNumber_31 rfl ?_
      refine ab_getI dX12_takesNumber_32 fs_12_23_12 rfl (hl7.sh 62 rfl (by decide) (by decide)).1 (hl7.sh 62 rfl (by decide) (by decide)).2 ?_
      refine ab_imul dX12_takesNumber_35 ?_
      refine ab_aload_n 0 dX12_takesNumber_36 rfl ?_
      refine ab_callV (a := 62) (c0 := 12) (d' := d) (mc' := 0) (ms' := 0) (vs := []) (st := [.int ((10 : Int32) * (gI M2 62 4)), .ref 62]) dX12_takesNumber_37 ⟨cw_X12_next, w_1194⟩ w_1196 w_26 (by decide) (hl7.sh 62 rfl (by decide) (by decide)).1 (hl7.sh 62 rfl (by decide) (by decide)).2 rfl rfl (Nat.le_of_ble_eq_true rfl) (Nat.le_refl _) (Nat.zero_le _) (Nat.zero_le _) (AM.mono h (fun r M9 ⟨x10, hr11, hc12, h⟩ => ?_))
      subst hr11
      refine ab_rs ?_
      have hm13 : Sm M M9 := hm6.trans hc12
      have hl14 := hL.of hm13
      refine ab_iadd dX12_takesNumber_40 ?_
      refine ab_bipush (v := 48) dX12_takesNumber_41 (by decide) ?_
      refine ab_isub dX12_takesNumber_43 ?_
      refine ab_putI dX12_takesNumber_44 fs_12_23_12 rfl rfl (hl14.sh 62 rfl (by decide) (by decide)).1 (hl14.sh 62 rfl (by decide) (by decide)).2 ?_
      refine ab_nameM (fun M15 hM15 => ?_)
      have h := h M15 hM15
      have hs18 : Sm M9 M15 := hM15 ▸ (Sm.refl _).i
      have hm16 : Sm M M15 := hm13.trans hs18
      have hl17 := hL.of hm16
      refine ab_aload_n 0 dX12_takesNumber_47 rfl ?_
      refine ab_dup dX12_takesNumber_48 rfl ?_
      refine ab_getI dX12_takesNumber_49 fs_12_20_12 rfl (hl17.sh 62 rfl (by decide) (by decide)).1 (hl17.sh 62 rfl (by decide) (by decide)).2 ?_
      refine ab_iconst (v := 1) dX12_takesNumber_52 (by decide) ?_
      refine ab_iadd dX12_takesNumber_53 ?_
      refine ab_putI dX12_takesNumber_54 fs_12_20_12 rfl rfl (hl17.sh 62 rfl (by decide) (by decide)).1 (hl17.sh 62 rfl (by decide) (by decide)).2 ?_
      refine ab_nameM (fun M19 hM19 => ?_)
      have h := h M19 hM19
      have hs22 : Sm M15 M19 := hM19 ▸ (Sm.refl _).i
      have hm20 : Sm M M19 := hm16.trans hs22
      have hl21 := hL.of hm20
      obtain ⟨x23, hx23⟩ : ∃ y : Int32, y = v1 + (1 : Int32) := ⟨_, rfl⟩
      have h := h x23 hx23
      refine ab_iinc (v := x23) 1 (lv1 := [(1, .int x23), (0, .ref 62)]) dX12_takesNumber_57 rfl (by rw [hx23]; rfl) (by decide) rfl ?_
      refine ab_goto (tgt := 16) dX12_takesNumber_60 (by decide) ?_
      exact ab_sub [1, 0] rfl h
theorem dX12_put_0 : decode cX12_put 0 = .ok (.aload_n 0, 1) := by decide +kernel
theorem dX12_put_1 : decode cX12_put 1 = .ok (.getfield 44, 3) := by decide +kernel
theorem dX12_put_4 : decode cX12_put 4 = .ok (.aload_n 0, 1) := by decide +kernel
theorem dX12_put_5 : decode cX12_put 5 = .ok (.getfield 50, 3) := by decide +kernel
theorem dX12_put_8 : decode cX12_put 8 = .ok (.iload_n 1, 1) := by decide +kernel
theorem dX12_put_9 : decode cX12_put 9 = .ok (.iastore, 1) := by decide +kernel
theorem dX12_put_10 : decode cX12_put 10 = .ok (.aload_n 0, 1) := by decide +kernel
theorem dX12_put_11 : decode cX12_put 11 = .ok (.dup, 1) := by decide +kernel
theorem dX12_put_12 : decode cX12_put 12 = .ok (.getfield 50, 3) := by decide +kernel
theorem dX12_put_15 : decode cX12_put 15 = .ok (.iconst 1, 1) := by decide +kernel
theorem dX12_put_16 : decode cX12_put 16 = .ok (.iadd, 1) := by decide +kernel
theorem dX12_put_17 : decode cX12_put 17 = .ok (.putfield 50, 3) := by decide +kernel
theorem dX12_put_20 : decode cX12_put 20 = .ok (.return_, 1) := by decide +kernel
set_option maxRecDepth 20000 in
theorem rX12_put (D : GD) (d : Nat) (a1 : Int32) (M : Mm) (post : Option Value → Mm → Prop) (hL : Lay 62 98 M) 
    (h : vp_in (gI M 62 13) 700 ∧ ∀ M2 : Mm, M2 = sI M 70 ((gI M 62 13).toNatClampNeg) a1 → ∀ M6 : Mm, M6 = sI M2 62 13 ((gI M2 62 13) + (1 : Int32)) → post none M6) :
    AM D d 0 0 mX12_put [.ref 62, .int a1] M post := by
  refine AM.of (by decide) (Nat.le_of_ble_eq_true rfl) ?_
  show AW D d 0 0 mX12_put 0 0 0 [(0, .ref 62), (1, .int a1)] [] M post
  refine ab_aload_n 0 dX12_put_0 rfl ?_
  refine ab_getP (r := 70) dX12_put_1 fs_12_44_12 rfl (hL.sh 62 rfl (by decide) (by decide)).1 (hL.sh 62 rfl (by decide) (by decide)).2 (hL.pt 68 rfl (by decide) (by decide)) ?_
  refine ab_aload_n 0 dX12_put_4 rfl ?_
  refine ab_getI dX12_put_5 fs_12_50_12 rfl (hL.sh 62 rfl (by decide) (by decide)).1 (hL.sh 62 rfl (by decide) (by decide)).2 ?_
  refine ab_iload_n 1 dX12_put_8 rfl ?_
  have hb1 := h.1
  have h := h.2
  refine ab_iastj (j := (gI M 62 13).toNatClampNeg) dX12_put_9 (hL.sh 70 rfl (by decide) (by decide)) hb1 rfl ?_
  refine ab_nameM (fun M2 hM2 => ?_)
  have h := h M2 hM2
  have hs5 : Sm M M2 := hM2 ▸ (Sm.refl _).i
  have hm3 : Sm M M2 := (Sm.refl M).trans hs5
  have hl4 := hL.of hm3
  refine ab_aload_n 0 dX12_put_10 rfl ?_
  refine ab_dup dX12_put_11 rfl ?_
  refine ab_getI dX12_put_12 fs_12_50_12 rfl (hl4.sh 62 rfl (by decide) (by decide)).1 (hl4.sh 62 rfl (by decide) (by decide)).2 ?_
  refine ab_iconst (v := 1) dX12_put_15 (by decide) ?_
  refine ab_iadd dX12_put_16 ?_
  refine ab_putI dX12_put_17 fs_12_50_12 rfl rfl (hl4.sh 62 rfl (by decide) (by decide)).1 (hl4.sh 62 rfl (by decide) (by decide)).2 ?_
  refine ab_nameM (fun M6 hM6 => ?_)
  have h := h M6 hM6
  have hs9 : Sm M2 M6 := hM6 ▸ (Sm.refl _).i
  have hm7 : Sm M M6 := hm3.trans hs9
  have hl8 := hL.of hm7
  exact ab_vret dX12_put_20 rfl h
theorem dX12_whole_0 : decode cX12_whole 0 = .ok (.aload_n 0, 1) := by decide +kernel
theorem dX12_whole_1 : decode cX12_whole 1 = .ok (.getfield 53, 3) := by decide +kernel
theorem dX12_whole_4 : decode cX12_whole 4 = .ok (.ifCond .le 48, 3) := by decide +kernel
theorem dX12_whole_7 : decode cX12_whole 7 = .ok (.aload_n 0, 1) := by decide +kernel
theorem dX12_whole_8 : decode cX12_whole 8 = .ok (.getfield 47, 3) := by decide +kernel
theorem dX12_whole_11 : decode cX12_whole 11 = .ok (.aload_n 0, 1) := by decide +kernel
theorem dX12_whole_12 : decode cX12_whole 12 = .ok (.getfield 53, 3) := by decide +kernel
theorem dX12_whole_15 : decode cX12_whole 15 = .ok (.iconst 1, 1) := by decide +kernel
theorem dX12_whole_16 : decode cX12_whole 16 = .ok (.isub, 1) := by decide +kernel
theorem dX12_whole_17 : decode cX12_whole 17 = .ok (.iaload, 1) := by decide +kernel
theorem dX12_whole_18 : decode cX12_whole 18 = .ok (.bipush 33, 2) := by decide +kernel
theorem dX12_whole_20 : decode cX12_whole 20 = .ok (.if_icmp .ne 32, 3) := by decide +kernel
theorem dX12_whole_23 : decode cX12_whole 23 = .ok (.aload_n 0, 1) := by decide +kernel
theorem dX12_whole_24 : decode cX12_whole 24 = .ok (.bipush (-33), 2) := by decide +kernel
theorem dX12_whole_26 : decode cX12_whole 26 = .ok (.invokevirtual 199, 3) := by decide +kernel
theorem dX12_whole_29 : decode cX12_whole 29 = .ok (.aload_n 0, 1) := by decide +kernel
theorem dX12_whole_30 : decode cX12_whole 30 = .ok (.dup, 1) := by decide +kernel
theorem dX12_whole_31 : decode cX12_whole 31 = .ok (.getfield 53, 3) := by decide +kernel
theorem dX12_whole_34 : decode cX12_whole 34 = .ok (.iconst 1, 1) := by decide +kernel
theorem dX12_whole_35 : decode cX12_whole 35 = .ok (.isub, 1) := by decide +kernel
theorem dX12_whole_36 : decode cX12_whole 36 = .ok (.putfield 53, 3) := by decide +kernel
theorem dX12_whole_39 : decode cX12_whole 39 = .ok (.aload_n 0, 1) := by decide +kernel
theorem dX12_whole_40 : decode cX12_whole 40 = .ok (.dup, 1) := by decide +kernel
theorem dX12_whole_41 : decode cX12_whole 41 = .ok (.getfield 56, 3) := by decide +kernel
theorem dX12_whole_44 : decode cX12_whole 44 = .ok (.iconst 1, 1) := by decide +kernel
theorem dX12_whole_45 : decode cX12_whole 45 = .ok (.isub, 1) := by decide +kernel
theorem dX12_whole_46 : decode cX12_whole 46 = .ok (.putfield 56, 3) := by decide +kernel
theorem dX12_whole_49 : decode cX12_whole 49 = .ok (.goto (-49), 3) := by decide +kernel
theorem dX12_whole_52 : decode cX12_whole 52 = .ok (.return_, 1) := by decide +kernel
def LX12_whole_0 (D : GD) (d : Nat)  (M : Mm) (post : Option Value → Mm → Prop) : Prop := AW D (d + 1) 0 0 mX12_whole 0 0 0 [(0, .ref 62)] [] M post
set_option maxRecDepth 20000 in
theorem rX12_whole (D : GD) (d : Nat)  (M : Mm) (post : Option Value → Mm → Prop) (hL : Lay 62 98 M) 
    (h : (((gI M 62 14) ≤ 0 → post none M) ∧ (¬ (gI M 62 14) ≤ 0 → vp_in ((gI M 62 14) - (1 : Int32)) 101 ∧ ((¬ (gI M 71 (((gI M 62 14) - (1 : Int32)).toNatClampNeg)) = (33 : Int32) → post none M) ∧ ((gI M 71 (((gI M 62 14) - (1 : Int32)).toNatClampNeg)) = (33 : Int32) → AMv D d mX12_put [.ref 62, .int (-33 : Int32)] M (fun M4 => ∀ M10 : Mm, M10 = sI M4 62 14 ((gI M4 62 14) - (1 : Int32)) → ∀ M14 : Mm, M14 = sI M10 62 15 ((gI M10 62 15) - (1 : Int32)) → LX12_whole_0 D d  M14 post)))))) :
    AM D (d + 1) 0 0 mX12_whole [.ref 62] M post := by
  refine AM.of (by decide) (Nat.le_of_ble_eq_true rfl) ?_
  show AW D (d + 1) 0 0 mX12_whole 0 0 0 [(0, .ref 62)] [] M post
  refine ab_aload_n 0 dX12_whole_0 rfl ?_
  refine ab_getI dX12_whole_1 fs_12_53_12 rfl (hL.sh 62 rfl (by decide) (by decide)).1 (hL.sh 62 rfl (by decide) (by decide)).2 ?_
  refine ab_if_le (tgt := 52) dX12_whole_4 (by decide) (fun c1 => ?_) (fun c1 => ?_)
  · have h := h.1 c1
    exact ab_vret dX12_whole_52 rfl h
  · have h := h.2 c1
    refine ab_aload_n 0 dX12_whole_7 rfl ?_
    refine ab_getP (r := 71) dX12_whole_8 fs_12_47_12 rfl (hL.sh 62 rfl (by decide) (by decide)).1 (hL.sh 62 rfl (by decide) (by decide)).2 (hL.pt 69 rfl (by decide) (by decide)) ?_
    refine ab_aload_n 0 dX12_whole_11 rfl ?_
    refine ab_getI dX12_whole_12 fs_12_53_12 rfl (hL.sh 62 rfl (by decide) (by decide)).1 (hL.sh 62 rfl (by decide) (by decide)).2 ?_
    refine ab_iconst (v := 1) dX12_whole_15 (by decide) ?_
    refine ab_isub dX12_whole_16 ?_
    have hb2 := h.1
    have h := h.2
    refine ab_ialdj (j := ((gI M 62 14) - (1 : Int32)).toNatClampNeg) dX12_whole_17 (hL.sh 71 rfl (by decide) (by decide)) hb2 rfl ?_
    refine ab_bipush (v := 33) dX12_whole_18 (by decide) ?_
    refine ab_icmp_ne (tgt := 52) dX12_whole_20 (by decide) (fun c3 => ?_) (fun c3 => ?_)
    · have h := h.1 c3
      exact ab_vret dX12_whole_52 rfl h
    · have h := h.2 c3
      refine ab_aload_n 0 dX12_whole_23 rfl ?_
      refine ab_bipush (v := (-33)) dX12_whole_24 (by decide) ?_
      refine ab_callV (a := 62) (c0 := 12) (d' := d) (mc' := 0) (ms' := 0) (vs := [.int (-33 : Int32)]) (st := []) dX12_whole_26 ⟨cw_X12_put, w_1227⟩ w_1229 w_34 (by decide) (hL.sh 62 rfl (by decide) (by decide)).1 (hL.sh 62 rfl (by decide) (by decide)).2 rfl rfl (Nat.le_of_ble_eq_true rfl) (Nat.le_refl _) (Nat.zero_le _) (Nat.zero_le _) (AM.mono h (fun r M4 ⟨hr6, hc7, h⟩ => ?_))
      subst hr6
      refine ab_rv ?_
      have hm8 : Sm M M4 := (Sm.refl M).trans hc7
      have hl9 := hL.of hm8
      refine ab_aload_n 0 dX12_whole_29 rfl ?_
      refine ab_dup dX12_whole_30 rfl ?_
      refine ab_getI dX12_whole_31 fs_12_53_12 rfl (hl9.sh 62 rfl (by decide) (by decide)).1 (hl9.sh 62 rfl (by decide) (by decide)).2 ?_
      refine ab_iconst (v := 1) dX12_whole_34 (by decide) ?_
      refine ab_isub dX12_whole_35 ?_
      refine ab_putI dX12_whole_36 fs_12_53_12 rfl rfl (hl9.sh 62 rfl (by decide) (by decide)).1 (hl9.sh 62 rfl (by decide) (by decide)).2 ?_
      refine ab_nameM (fun M10 hM10 => ?_)
      have h := h M10 hM10
      have hs13 : Sm M4 M10 := hM10 ▸ (Sm.refl _).i
      have hm11 : Sm M M10 := hm8.trans hs13
      have hl12 := hL.of hm11
      refine ab_aload_n 0 dX12_whole_39 rfl ?_
      refine ab_dup dX12_whole_40 rfl ?_
      refine ab_getI dX12_whole_41 fs_12_56_12 rfl (hl12.sh 62 rfl (by decide) (by decide)).1 (hl12.sh 62 rfl (by decide) (by decide)).2 ?_
      refine ab_iconst (v := 1) dX12_whole_44 (by decide) ?_
      refine ab_isub dX12_whole_45 ?_
      refine ab_putI dX12_whole_46 fs_12_56_12 rfl rfl (hl12.sh 62 rfl (by decide) (by decide)).1 (hl12.sh 62 rfl (by decide) (by decide)).2 ?_
      refine ab_nameM (fun M14 hM14 => ?_)
      have h := h M14 hM14
      have hs17 : Sm M10 M14 := hM14 ▸ (Sm.refl _).i
      have hm15 : Sm M M14 := hm11.trans hs17
      have hl16 := hL.of hm15
      refine ab_goto (tgt := 0) dX12_whole_49 (by decide) ?_
      exact ab_sub [0] rfl h
set_option maxRecDepth 20000 in
theorem rX12_whole_0 (D : GD) (d : Nat)   (M : Mm) (post : Option Value → Mm → Prop) (hL : Lay 62 98 M) 
    (h : (((gI M 62 14) ≤ 0 → post none M) ∧ (¬ (gI M 62 14) ≤ 0 → vp_in ((gI M 62 14) - (1 : Int32)) 101 ∧ ((¬ (gI M 71 (((gI M 62 14) - (1 : Int32)).toNatClampNeg)) = (33 : Int32) → post none M) ∧ ((gI M 71 (((gI M 62 14) - (1 : Int32)).toNatClampNeg)) = (33 : Int32) → AMv D d mX12_put [.ref 62, .int (-33 : Int32)] M (fun M4 => ∀ M10 : Mm, M10 = sI M4 62 14 ((gI M4 62 14) - (1 : Int32)) → ∀ M14 : Mm, M14 = sI M10 62 15 ((gI M10 62 15) - (1 : Int32)) → LX12_whole_0 D d  M14 post)))))) :
    LX12_whole_0 D d  M post := by
  show AW D (d + 1) 0 0 mX12_whole 0 0 0 [(0, .ref 62)] [] M post
  refine ab_aload_n 0 dX12_whole_0 rfl ?_
  refine ab_getI dX12_whole_1 fs_12_53_12 rfl (hL.sh 62 rfl (by decide) (by decide)).1 (hL.sh 62 rfl (by decide) (by decide)).2 ?_
  refine ab_if_le (tgt := 52) dX12_whole_4 (by decide) (fun c1 => ?_) (fun c1 => ?_)
  · have h := h.1 c1
    exact ab_vret dX12_whole_52 rfl h
  · have h := h.2 c1
    refine ab_aload_n 0 dX12_whole_7 rfl ?_
    refine ab_getP (r := 71) dX12_whole_8 fs_12_47_12 rfl (hL.sh 62 rfl (by decide) (by decide)).1 (hL.sh 62 rfl (by decide) (by decide)).2 (hL.pt 69 rfl (by decide) (by decide)) ?_
    refine ab_aload_n 0 dX12_whole_11 rfl ?_
    refine ab_getI dX12_whole_12 fs_12_53_12 rfl (hL.sh 62 rfl (by decide) (by decide)).1 (hL.sh 62 rfl (by decide) (by decide)).2 ?_
    refine ab_iconst (v := 1) dX12_whole_15 (by decide) ?_
    refine ab_isub dX12_whole_16 ?_
    have hb2 := h.1
    have h := h.2
    refine ab_ialdj (j := ((gI M 62 14) - (1 : Int32)).toNatClampNeg) dX12_whole_17 (hL.sh 71 rfl (by decide) (by decide)) hb2 rfl ?_
    refine ab_bipush (v := 33) dX12_whole_18 (by decide) ?_
    refine ab_icmp_ne (tgt := 52) dX12_whole_20 (by decide) (fun c3 => ?_) (fun c3 => ?_)
    · have h := h.1 c3
      exact ab_vret dX12_whole_52 rfl h
    · have h := h.2 c3
      refine ab_aload_n 0 dX12_whole_23 rfl ?_
      refine ab_bipush (v := (-33)) dX12_whole_24 (by decide) ?_
      refine ab_callV (a := 62) (c0 := 12) (d' := d) (mc' := 0) (ms' := 0) (vs := [.int (-33 : Int32)]) (st := []) dX12_whole_26 ⟨cw_X12_put, w_1227⟩ w_1229 w_34 (by decide) (hL.sh 62 rfl (by decide) (by decide)).1 (hL.sh 62 rfl (by decide) (by decide)).2 rfl rfl (Nat.le_of_ble_eq_true rfl) (Nat.le_refl _) (Nat.zero_le _) (Nat.zero_le _) (AM.mono h (fun r M4 ⟨hr6, hc7, h⟩ => ?_))
      subst hr6
      refine ab_rv ?_
      have hm8 : Sm M M4 := (Sm.refl M).trans hc7
      have hl9 := hL.of hm8
      refine ab_aload_n 0 dX12_whole_29 rfl ?_
      refine ab_dup dX12_whole_30 rfl ?_
      refine ab_getI dX12_whole_31 fs_12_53_12 rfl (hl9.sh 62 rfl (by decide) (by decide)).1 (hl9.sh 62 rfl (by decide) (by decide)).2 ?_
      refine ab_iconst (v := 1) dX12_whole_34 (by decide) ?_
      refine ab_isub dX12_whole_35 ?_
      refine ab_putI dX12_whole_36 fs_12_53_12 rfl rfl (hl9.sh 62 rfl (by decide) (by decide)).1 (hl9.sh 62 rfl (by decide) (by decide)).2 ?_
      refine ab_nameM (fun M10 hM10 => ?_)
      have h := h M10 hM10
      have hs13 : Sm M4 M10 := hM10 ▸ (Sm.refl _).i
      have hm11 : Sm M M10 := hm8.trans hs13
      have hl12 := hL.of hm11
      refine ab_aload_n 0 dX12_whole_39 rfl ?_
      refine ab_dup dX12_whole_40 rfl ?_
      refine ab_getI dX12_whole_41 fs_12_56_12 rfl (hl12.sh 62 rfl (by decide) (by decide)).1 (hl12.sh 62 rfl (by decide) (by decide)).2 ?_
      refine ab_iconst (v := 1) dX12_whole_44 (by decide) ?_
      refine ab_isub dX12_whole_45 ?_
      refine ab_putI dX12_whole_46 fs_12_56_12 rfl rfl (hl12.sh 62 rfl (by decide) (by decide)).1 (hl12.sh 62 rfl (by decide) (by decide)).2 ?_
      refine ab_nameM (fun M14 hM14 => ?_)
      have h := h M14 hM14
      have hs17 : Sm M10 M14 := hM14 ▸ (Sm.refl _).i
      have hm15 : Sm M M14 := hm11.trans hs17
      have hl16 := hL.of hm15
      refine ab_goto (tgt := 0) dX12_whole_49 (by decide) ?_
      exact ab_sub [0] rfl h
theorem dX12_settle_0 : decode cX12_settle 0 = .ok (.aload_n 0, 1) := by decide +kernel
theorem dX12_settle_1 : decode cX12_settle 1 = .ok (.getfield 53, 3) := by decide +kernel
theorem dX12_settle_4 : decode cX12_settle 4 = .ok (.ifCond .le 68, 3) := by decide +kernel
theorem dX12_settle_7 : decode cX12_settle 7 = .ok (.aload_n 0, 1) := by decide +kernel
theorem dX12_settle_8 : decode cX12_settle 8 = .ok (.getfield 47, 3) := by decide +kernel
theorem dX12_settle_11 : decode cX12_settle 11 = .ok (.aload_n 0, 1) := by decide +kernel
theorem dX12_settle_12 : decode cX12_settle 12 = .ok (.getfield 53, 3) := by decide +kernel
theorem dX12_settle_15 : decode cX12_settle 15 = .ok (.iconst 1, 1) := by decide +kernel
theorem dX12_settle_16 : decode cX12_settle 16 = .ok (.isub, 1) := by decide +kernel
theorem dX12_settle_17 : decode cX12_settle 17 = .ok (.iaload, 1) := by decide +kernel
theorem dX12_settle_18 : decode cX12_settle 18 = .ok (.bipush 38, 2) := by decide +kernel
theorem dX12_settle_20 : decode cX12_settle 20 = .ok (.if_icmp .eq 25, 3) := by decide +kernel
theorem dX12_settle_23 : decode cX12_settle 23 = .ok (.aload_n 0, 1) := by decide +kernel
theorem dX12_settle_24 : decode cX12_settle 24 = .ok (.getfield 47, 3) := by decide +kernel
theorem dX12_settle_27 : decode cX12_settle 27 = .ok (.aload_n 0, 1) := by decide +kernel
theorem dX12_settle_28 : decode cX12_settle 28 = .ok (.getfield 53, 3) := by decide +kernel
theorem dX12_settle_31 : decode cX12_settle 31 = .ok (.iconst 1, 1) := by decide +kernel
theorem dX12_settle_32 : decode cX12_settle 32 = .ok (.isub, 1) := by decide +kernel
theorem dX12_settle_33 : decode cX12_settle 33 = .ok (.iaload, 1) := by decide +kernel
theorem dX12_settle_34 : decode cX12_settle 34 = .ok (.bipush 124, 2) := by decide +kernel
theorem dX12_settle_36 : decode cX12_settle 36 = .ok (.if_icmp .ne 36, 3) := by decide +kernel
theorem dX12_settle_39 : decode cX12_settle 39 = .ok (.iload_n 1, 1) := by decide +kernel
theorem dX12_settle_40 : decode cX12_settle 40 = .ok (.bipush 38, 2) := by decide +kernel
theorem dX12_settle_42 : decode cX12_settle 42 = .ok (.if_icmp .eq 30, 3) := by decide +kernel
theorem dX12_settle_45 : decode cX12_settle 45 = .ok (.aload_n 0, 1) := by decide +kernel
theorem dX12_settle_46 : decode cX12_settle 46 = .ok (.dup, 1) := by decide +kernel
theorem dX12_settle_47 : decode cX12_settle 47 = .ok (.getfield 53, 3) := by decide +kernel
theorem dX12_settle_50 : decode cX12_settle 50 = .ok (.iconst 1, 1) := by decide +kernel
theorem dX12_settle_51 : decode cX12_settle 51 = .ok (.isub, 1) := by decide +kernel
theorem dX12_settle_52 : decode cX12_settle 52 = .ok (.putfield 53, 3) := by decide +kernel
theorem dX12_settle_55 : decode cX12_settle 55 = .ok (.aload_n 0, 1) := by decide +kernel
theorem dX12_settle_56 : decode cX12_settle 56 = .ok (.aload_n 0, 1) := by decide +kernel
theorem dX12_settle_57 : decode cX12_settle 57 = .ok (.getfield 47, 3) := by decide +kernel
theorem dX12_settle_60 : decode cX12_settle 60 = .ok (.aload_n 0, 1) := by decide +kernel
theorem dX12_settle_61 : decode cX12_settle 61 = .ok (.getfield 53, 3) := by decide +kernel
theorem dX12_settle_64 : decode cX12_settle 64 = .ok (.iaload, 1) := by decide +kernel
theorem dX12_settle_65 : decode cX12_settle 65 = .ok (.ineg, 1) := by decide +kernel
theorem dX12_settle_66 : decode cX12_settle 66 = .ok (.invokevirtual 199, 3) := by decide +kernel
theorem dX12_settle_69 : decode cX12_settle 69 = .ok (.goto (-69), 3) := by decide +kernel
theorem dX12_settle_72 : decode cX12_settle 72 = .ok (.return_, 1) := by decide +kernel
def LX12_settle_0 (D : GD) (d : Nat) (v1 : Int32) (M : Mm) (post : Option Value → Mm → Prop) : Prop := AW D (d + 1) 0 0 mX12_settle 0 0 0 [(0, .ref 62), (1, .int v1)] [] M post
set_option maxRecDepth 20000 in
theorem rX12_settle (D : GD) (d : Nat) (a1 : Int32) (M : Mm) (post : Option Value → Mm → Prop) (hL : Lay 62 98 M) 
    (h : (((gI M 62 14) ≤ 0 → post none M) ∧ (¬ (gI M 62 14) ≤ 0 → vp_in ((gI M 62 14) - (1 : Int32)) 101 ∧ (((gI M 71 (((gI M 62 14) - (1 : Int32)).toNatClampNeg)) = (38 : Int32) → ∀ M4 : Mm, M4 = sI M 62 14 ((gI M 62 14) - (1 : Int32)) → vp_in (gI M4 62 14) 101 ∧ AMv D d mX12_put [.ref 62, .int (-(gI M4 71 ((gI M4 62 14).toNatClampNeg)))] M4 (fun M9 => LX12_settle_0 D d a1 M9 post)) ∧ (¬ (gI M 71 (((gI M 62 14) - (1 : Int32)).toNatClampNeg)) = (38 : Int32) → ((¬ (gI M 71 (((gI M 62 14) - (1 : Int32)).toNatClampNeg)) = (124 : Int32) → post none M) ∧ ((gI M 71 (((gI M 62 14) - (1 : Int32)).toNatClampNeg)) = (124 : Int32) → ((a1 = (38 : Int32) → post none M) ∧ (¬ a1 = (38 : Int32) → ∀ M17 : Mm, M17 = sI M 62 14 ((gI M 62 14) - (1 : Int32)) → vp_in (gI M17 62 14) 101 ∧ AMv D d mX12_put [.ref 62, .int (-(gI M17 71 ((gI M17 62 14).toNatClampNeg)))] M17 (fun M22 => LX12_settle_0 D d a1 M22 post)))))))))) :
    AM D (d + 1) 0 0 mX12_settle [.ref 62, .int a1] M post := by
  refine AM.of (by decide) (Nat.le_of_ble_eq_true rfl) ?_
  show AW D (d + 1) 0 0 mX12_settle 0 0 0 [(0, .ref 62), (1, .int a1)] [] M post
  refine ab_aload_n 0 dX12_settle_0 rfl ?_
  refine ab_getI dX12_settle_1 fs_12_53_12 rfl (hL.sh 62 rfl (by decide) (by decide)).1 (hL.sh 62 rfl (by decide) (by decide)).2 ?_
  refine ab_if_le (tgt := 72) dX12_settle_4 (by decide) (fun c1 => ?_) (fun c1 => ?_)
  · have h := h.1 c1
    exact ab_vret dX12_settle_72 rfl h
  · have h := h.2 c1
    refine ab_aload_n 0 dX12_settle_7 rfl ?_
    refine ab_getP (r := 71) dX12_settle_8 fs_12_47_12 rfl (hL.sh 62 rfl (by decide) (by decide)).1 (hL.sh 62 rfl (by decide) (by decide)).2 (hL.pt 69 rfl (by decide) (by decide)) ?_
    refine ab_aload_n 0 dX12_settle_11 rfl ?_
    refine ab_getI dX12_settle_12 fs_12_53_12 rfl (hL.sh 62 rfl (by decide) (by decide)).1 (hL.sh 62 rfl (by decide) (by decide)).2 ?_
    refine ab_iconst (v := 1) dX12_settle_15 (by decide) ?_
    refine ab_isub dX12_settle_16 ?_
    have hb2 := h.1
    have h := h.2
    refine ab_ialdj (j := ((gI M 62 14) - (1 : Int32)).toNatClampNeg) dX12_settle_17 (hL.sh 71 rfl (by decide) (by decide)) hb2 rfl ?_
    refine ab_bipush (v := 38) dX12_settle_18 (by decide) ?_
    refine ab_icmp_eq (tgt := 45) dX12_settle_20 (by decide) (fun c3 => ?_) (fun c3 => ?_)
    · have h := h.1 c3
      refine ab_aload_n 0 dX12_settle_45 rfl ?_
      refine ab_dup dX12_settle_46 rfl ?_
      refine ab_getI dX12_settle_47 fs_12_53_12 rfl (hL.sh 62 rfl (by decide) (by decide)).1 (hL.sh 62 rfl (by decide) (by decide)).2 ?_
      refine ab_iconst (v := 1) dX12_settle_50 (by decide) ?_
      refine ab_isub dX12_settle_51 ?_
      refine ab_putI dX12_settle_52 fs_12_53_12 rfl rfl (hL.sh 62 rfl (by decide) (by decide)).1 (hL.sh 62 rfl (by decide) (by decide)).2 ?_
      refine ab_nameM (fun M4 hM4 => ?_)
      have h := h M4 hM4
      have hs7 : Sm M M4 := hM4 ▸ (Sm.refl _).i
      have hm5 : Sm M M4 := (Sm.refl M).trans hs7
      have hl6 := hL.of hm5
      refine ab_aload_n 0 dX12_settle_55 rfl ?_
      refine ab_aload_n 0 dX12_settle_56 rfl ?_
      refine ab_getP (r := 71) dX12_settle_57 fs_12_47_12 rfl (hl6.sh 62 rfl (by decide) (by decide)).1 (hl6.sh 62 rfl (by decide) (by decide)).2 (hl6.pt 69 rfl (by decide) (by decide)) ?_
      refine ab_aload_n 0 dX12_settle_60 rfl ?_
      refine ab_getI dX12_settle_61 fs_12_53_12 rfl (hl6.sh 62 rfl (by decide) (by decide)).1 (hl6.sh 62 rfl (by decide) (by decide)).2 ?_
      have hb8 := h.1
      have h := h.2
      refine ab_ialdj (j := (gI M4 62 14).toNatClampNeg) dX12_settle_64 (hl6.sh 71 rfl (by decide) (by decide)) hb8 rfl ?_
      refine ab_ineg dX12_settle_65 ?_
      refine ab_callV (a := 62) (c0 := 12) (d' := d) (mc' := 0) (ms' := 0) (vs := [.int (-(gI M4 71 ((gI M4 62 14).toNatClampNeg)))]) (st := []) dX12_settle_66 ⟨cw_X12_put, w_1227⟩ w_1229 w_34 (by decide) (hl6.sh 62 rfl (by decide) (by decide)).1 (hl6.sh 62 rfl (by decide) (by decide)).2 rfl rfl (Nat.le_of_ble_eq_true rfl) (Nat.le_refl _) (Nat.zero_le _) (Nat.zero_le _) (AM.mono h (fun r M9 ⟨hr11, hc12, h⟩ => ?_))
      subst hr11
      refine ab_rv ?_
      have hm13 : Sm M M9 := hm5.trans hc12
      have hl14 := hL.of hm13
      refine ab_goto (tgt := 0) dX12_settle_69 (by decide) ?_
      exact ab_sub [0, 1] rfl h
    · have h := h.2 c3
      refine ab_aload_n 0 dX12_settle_23 rfl ?_
      refine ab_getP (r := 71) dX12_settle_24 fs_12_47_12 rfl (hL.sh 62 rfl (by decide) (by decide)).1 (hL.sh 62 rfl (by decide) (by decide)).2 (hL.pt 69 rfl (by decide) (by decide)) ?_
      refine ab_aload_n 0 dX12_settle_27 rfl ?_
      refine ab_getI dX12_settle_28 fs_12_53_12 rfl (hL.sh 62 rfl (by decide) (by decide)).1 (hL.sh 62 rfl (by decide) (by decide)).2 ?_
      refine ab_iconst (v := 1) dX12_settle_31 (by decide) ?_
      refine ab_isub dX12_settle_32 ?_
      refine ab_ialdj (j := ((gI M 62 14) - (1 : Int32)).toNatClampNeg) dX12_settle_33 (hL.sh 71 rfl (by decide) (by decide)) hb2 rfl ?_
      refine ab_bipush (v := 124) dX12_settle_34 (by decide) ?_
      refine ab_icmp_ne (tgt := 72) dX12_settle_36 (by decide) (fun c15 => ?_) (fun c15 => ?_)
      · have h := h.1 c15
        exact ab_vret dX12_settle_72 rfl h
      · have h := h.2 c15
        refine ab_iload_n 1 dX12_settle_39 rfl ?_
        refine ab_bipush (v := 38) dX12_settle_40 (by decide) ?_
        refine ab_icmp_eq (tgt := 72) dX12_settle_42 (by decide) (fun c16 => ?_) (fun c16 => ?_)
        · have h := h.1 c16
          exact ab_vret dX12_settle_72 rfl h
        · have h := h.2 c16
          refine ab_aload_n 0 dX12_settle_45 rfl ?_
          refine ab_dup dX12_settle_46 rfl ?_
          refine ab_getI dX12_settle_47 fs_12_53_12 rfl (hL.sh 62 rfl (by decide) (by decide)).1 (hL.sh 62 rfl (by decide) (by decide)).2 ?_
          refine ab_iconst (v := 1) dX12_settle_50 (by decide) ?_
          refine ab_isub dX12_settle_51 ?_
          refine ab_putI dX12_settle_52 fs_12_53_12 rfl rfl (hL.sh 62 rfl (by decide) (by decide)).1 (hL.sh 62 rfl (by decide) (by decide)).2 ?_
          refine ab_nameM (fun M17 hM17 => ?_)
          have h := h M17 hM17
          have hs20 : Sm M M17 := hM17 ▸ (Sm.refl _).i
          have hm18 : Sm M M17 := (Sm.refl M).trans hs20
          have hl19 := hL.of hm18
          refine ab_aload_n 0 dX12_settle_55 rfl ?_
          refine ab_aload_n 0 dX12_settle_56 rfl ?_
          refine ab_getP (r := 71) dX12_settle_57 fs_12_47_12 rfl (hl19.sh 62 rfl (by decide) (by decide)).1 (hl19.sh 62 rfl (by decide) (by decide)).2 (hl19.pt 69 rfl (by decide) (by decide)) ?_
          refine ab_aload_n 0 dX12_settle_60 rfl ?_
          refine ab_getI dX12_settle_61 fs_12_53_12 rfl (hl19.sh 62 rfl (by decide) (by decide)).1 (hl19.sh 62 rfl (by decide) (by decide)).2 ?_
          have hb21 := h.1
          have h := h.2
          refine ab_ialdj (j := (gI M17 62 14).toNatClampNeg) dX12_settle_64 (hl19.sh 71 rfl (by decide) (by decide)) hb21 rfl ?_
          refine ab_ineg dX12_settle_65 ?_
          refine ab_callV (a := 62) (c0 := 12) (d' := d) (mc' := 0) (ms' := 0) (vs := [.int (-(gI M17 71 ((gI M17 62 14).toNatClampNeg)))]) (st := []) dX12_settle_66 ⟨cw_X12_put, w_1227⟩ w_1229 w_34 (by decide) (hl19.sh 62 rfl (by decide) (by decide)).1 (hl19.sh 62 rfl (by decide) (by decide)).2 rfl rfl (Nat.le_of_ble_eq_true rfl) (Nat.le_refl _) (Nat.zero_le _) (Nat.zero_le _) (AM.mono h (fun r M22 ⟨hr24, hc25, h⟩ => ?_))
          subst hr24
          refine ab_rv ?_
          have hm26 : Sm M M22 := hm18.trans hc25
          have hl27 := hL.of hm26
          refine ab_goto (tgt := 0) dX12_settle_69 (by decide) ?_
          exact ab_sub [0, 1] rfl h
set_option maxRecDepth 20000 in
theorem rX12_settle_0 (D : GD) (d : Nat)  (v1 : Int32) (M : Mm) (post : Option Value → Mm → Prop) (hL : Lay 62 98 M) 
    (h : (((gI M 62 14) ≤ 0 → post none M) ∧ (¬ (gI M 62 14) ≤ 0 → vp_in ((gI M 62 14) - (1 : Int32)) 101 ∧ (((gI M 71 (((gI M 62 14) - (1 : Int32)).toNatClampNeg)) = (38 : Int32) → ∀ M4 : Mm, M4 = sI M 62 14 ((gI M 62 14) - (1 : Int32)) → vp_in (gI M4 62 14) 101 ∧ AMv D d mX12_put [.ref 62, .int (-(gI M4 71 ((gI M4 62 14).toNatClampNeg)))] M4 (fun M9 => LX12_settle_0 D d v1 M9 post)) ∧ (¬ (gI M 71 (((gI M 62 14) - (1 : Int32)).toNatClampNeg)) = (38 : Int32) → ((¬ (gI M 71 (((gI M 62 14) - (1 : Int32)).toNatClampNeg)) = (124 : Int32) → post none M) ∧ ((gI M 71 (((gI M 62 14) - (1 : Int32)).toNatClampNeg)) = (124 : Int32) → ((v1 = (38 : Int32) → post none M) ∧ (¬ v1 = (38 : Int32) → ∀ M17 : Mm, M17 = sI M 62 14 ((gI M 62 14) - (1 : Int32)) → vp_in (gI M17 62 14) 101 ∧ AMv D d mX12_put [.ref 62, .int (-(gI M17 71 ((gI M17 62 14).toNatClampNeg)))] M17 (fun M22 => LX12_settle_0 D d v1 M22 post)))))))))) :
    LX12_settle_0 D d v1 M post := by
  show AW D (d + 1) 0 0 mX12_settle 0 0 0 [(0, .ref 62), (1, .int v1)] [] M post
  refine ab_aload_n 0 dX12_settle_0 rfl ?_
  refine ab_getI dX12_settle_1 fs_12_53_12 rfl (hL.sh 62 rfl (by decide) (by decide)).1 (hL.sh 62 rfl (by decide) (by decide)).2 ?_
  refine ab_if_le (tgt := 72) dX12_settle_4 (by decide) (fun c1 => ?_) (fun c1 => ?_)
  · have h := h.1 c1
    exact ab_vret dX12_settle_72 rfl h
  · have h := h.2 c1
    refine ab_aload_n 0 dX12_settle_7 rfl ?_
    refine ab_getP (r := 71) dX12_settle_8 fs_12_47_12 rfl (hL.sh 62 rfl (by decide) (by decide)).1 (hL.sh 62 rfl (by decide) (by decide)).2 (hL.pt 69 rfl (by decide) (by decide)) ?_
    refine ab_aload_n 0 dX12_settle_11 rfl ?_
    refine ab_getI dX12_settle_12 fs_12_53_12 rfl (hL.sh 62 rfl (by decide) (by decide)).1 (hL.sh 62 rfl (by decide) (by decide)).2 ?_
    refine ab_iconst (v := 1) dX12_settle_15 (by decide) ?_
    refine ab_isub dX12_settle_16 ?_
    have hb2 := h.1
    have h := h.2
    refine ab_ialdj (j := ((gI M 62 14) - (1 : Int32)).toNatClampNeg) dX12_settle_17 (hL.sh 71 rfl (by decide) (by decide)) hb2 rfl ?_
    refine ab_bipush (v := 38) dX12_settle_18 (by decide) ?_
    refine ab_icmp_eq (tgt := 45) dX12_settle_20 (by decide) (fun c3 => ?_) (fun c3 => ?_)
    · have h := h.1 c3
      refine ab_aload_n 0 dX12_settle_45 rfl ?_
      refine ab_dup dX12_settle_46 rfl ?_
      refine ab_getI dX12_settle_47 fs_12_53_12 rfl (hL.sh 62 rfl (by decide) (by decide)).1 (hL.sh 62 rfl (by decide) (by decide)).2 ?_
      refine ab_iconst (v := 1) dX12_settle_50 (by decide) ?_
      refine ab_isub dX12_settle_51 ?_
      refine ab_putI dX12_settle_52 fs_12_53_12 rfl rfl (hL.sh 62 rfl (by decide) (by decide)).1 (hL.sh 62 rfl (by decide) (by decide)).2 ?_
      refine ab_nameM (fun M4 hM4 => ?_)
      have h := h M4 hM4
      have hs7 : Sm M M4 := hM4 ▸ (Sm.refl _).i
      have hm5 : Sm M M4 := (Sm.refl M).trans hs7
      have hl6 := hL.of hm5
      refine ab_aload_n 0 dX12_settle_55 rfl ?_
      refine ab_aload_n 0 dX12_settle_56 rfl ?_
      refine ab_getP (r := 71) dX12_settle_57 fs_12_47_12 rfl (hl6.sh 62 rfl (by decide) (by decide)).1 (hl6.sh 62 rfl (by decide) (by decide)).2 (hl6.pt 69 rfl (by decide) (by decide)) ?_
      refine ab_aload_n 0 dX12_settle_60 rfl ?_
      refine ab_getI dX12_settle_61 fs_12_53_12 rfl (hl6.sh 62 rfl (by decide) (by decide)).1 (hl6.sh 62 rfl (by decide) (by decide)).2 ?_
      have hb8 := h.1
      have h := h.2
      refine ab_ialdj (j := (gI M4 62 14).toNatClampNeg) dX12_settle_64 (hl6.sh 71 rfl (by decide) (by decide)) hb8 rfl ?_
      refine ab_ineg dX12_settle_65 ?_
      refine ab_callV (a := 62) (c0 := 12) (d' := d) (mc' := 0) (ms' := 0) (vs := [.int (-(gI M4 71 ((gI M4 62 14).toNatClampNeg)))]) (st := []) dX12_settle_66 ⟨cw_X12_put, w_1227⟩ w_1229 w_34 (by decide) (hl6.sh 62 rfl (by decide) (by decide)).1 (hl6.sh 62 rfl (by decide) (by decide)).2 rfl rfl (Nat.le_of_ble_eq_true rfl) (Nat.le_refl _) (Nat.zero_le _) (Nat.zero_le _) (AM.mono h (fun r M9 ⟨hr11, hc12, h⟩ => ?_))
      subst hr11
      refine ab_rv ?_
      have hm13 : Sm M M9 := hm5.trans hc12
      have hl14 := hL.of hm13
      refine ab_goto (tgt := 0) dX12_settle_69 (by decide) ?_
      exact ab_sub [0, 1] rfl h
    · have h := h.2 c3
      refine ab_aload_n 0 dX12_settle_23 rfl ?_
      refine ab_getP (r := 71) dX12_settle_24 fs_12_47_12 rfl (hL.sh 62 rfl (by decide) (by decide)).1 (hL.sh 62 rfl (by decide) (by decide)).2 (hL.pt 69 rfl (by decide) (by decide)) ?_
      refine ab_aload_n 0 dX12_settle_27 rfl ?_
      refine ab_getI dX12_settle_28 fs_12_53_12 rfl (hL.sh 62 rfl (by decide) (by decide)).1 (hL.sh 62 rfl (by decide) (by decide)).2 ?_
      refine ab_iconst (v := 1) dX12_settle_31 (by decide) ?_
      refine ab_isub dX12_settle_32 ?_
      refine ab_ialdj (j := ((gI M 62 14) - (1 : Int32)).toNatClampNeg) dX12_settle_33 (hL.sh 71 rfl (by decide) (by decide)) hb2 rfl ?_
      refine ab_bipush (v := 124) dX12_settle_34 (by decide) ?_
      refine ab_icmp_ne (tgt := 72) dX12_settle_36 (by decide) (fun c15 => ?_) (fun c15 => ?_)
      · have h := h.1 c15
        exact ab_vret dX12_settle_72 rfl h
      · have h := h.2 c15
        refine ab_iload_n 1 dX12_settle_39 rfl ?_
        refine ab_bipush (v := 38) dX12_settle_40 (by decide) ?_
        refine ab_icmp_eq (tgt := 72) dX12_settle_42 (by decide) (fun c16 => ?_) (fun c16 => ?_)
        · have h := h.1 c16
          exact ab_vret dX12_settle_72 rfl h
        · have h := h.2 c16
          refine ab_aload_n 0 dX12_settle_45 rfl ?_
          refine ab_dup dX12_settle_46 rfl ?_
          refine ab_getI dX12_settle_47 fs_12_53_12 rfl (hL.sh 62 rfl (by decide) (by decide)).1 (hL.sh 62 rfl (by decide) (by decide)).2 ?_
          refine ab_iconst (v := 1) dX12_settle_50 (by decide) ?_
          refine ab_isub dX12_settle_51 ?_
          refine ab_putI dX12_settle_52 fs_12_53_12 rfl rfl (hL.sh 62 rfl (by decide) (by decide)).1 (hL.sh 62 rfl (by decide) (by decide)).2 ?_
          refine ab_nameM (fun M17 hM17 => ?_)
          have h := h M17 hM17
          have hs20 : Sm M M17 := hM17 ▸ (Sm.refl _).i
          have hm18 : Sm M M17 := (Sm.refl M).trans hs20
          have hl19 := hL.of hm18
          refine ab_aload_n 0 dX12_settle_55 rfl ?_
          refine ab_aload_n 0 dX12_settle_56 rfl ?_
          refine ab_getP (r := 71) dX12_settle_57 fs_12_47_12 rfl (hl19.sh 62 rfl (by decide) (by decide)).1 (hl19.sh 62 rfl (by decide) (by decide)).2 (hl19.pt 69 rfl (by decide) (by decide)) ?_
          refine ab_aload_n 0 dX12_settle_60 rfl ?_
          refine ab_getI dX12_settle_61 fs_12_53_12 rfl (hl19.sh 62 rfl (by decide) (by decide)).1 (hl19.sh 62 rfl (by decide) (by decide)).2 ?_
          have hb21 := h.1
          have h := h.2
          refine ab_ialdj (j := (gI M17 62 14).toNatClampNeg) dX12_settle_64 (hl19.sh 71 rfl (by decide) (by decide)) hb21 rfl ?_
          refine ab_ineg dX12_settle_65 ?_
          refine ab_callV (a := 62) (c0 := 12) (d' := d) (mc' := 0) (ms' := 0) (vs := [.int (-(gI M17 71 ((gI M17 62 14).toNatClampNeg)))]) (st := []) dX12_settle_66 ⟨cw_X12_put, w_1227⟩ w_1229 w_34 (by decide) (hl19.sh 62 rfl (by decide) (by decide)).1 (hl19.sh 62 rfl (by decide) (by decide)).2 rfl rfl (Nat.le_of_ble_eq_true rfl) (Nat.le_refl _) (Nat.zero_le _) (Nat.zero_le _) (AM.mono h (fun r M22 ⟨hr24, hc25, h⟩ => ?_))
          subst hr24
          refine ab_rv ?_
          have hm26 : Sm M M22 := hm18.trans hc25
          have hl27 := hL.of hm26
          refine ab_goto (tgt := 0) dX12_settle_69 (by decide) ?_
          exact ab_sub [0, 1] rfl h
theorem dX12_place_0 : decode cX12_place 0 = .ok (.iload_n 1, 1) := by decide +kernel
theorem dX12_place_1 : decode cX12_place 1 = .ok (.lookupswitch 51 #[(100, 49), (108, 43), (111, 45), (116, 47)], 43) := by decide +kernel
theorem dX12_place_44 : decode cX12_place 44 = .ok (.iconst 0, 1) := by decide +kernel
theorem dX12_place_45 : decode cX12_place 45 = .ok (.ireturn, 1) := by decide +kernel
theorem dX12_place_46 : decode cX12_place 46 = .ok (.iconst 1, 1) := by decide +kernel
theorem dX12_place_47 : decode cX12_place 47 = .ok (.ireturn, 1) := by decide +kernel
theorem dX12_place_48 : decode cX12_place 48 = .ok (.iconst 2, 1) := by decide +kernel
theorem dX12_place_49 : decode cX12_place 49 = .ok (.ireturn, 1) := by decide +kernel
theorem dX12_place_50 : decode cX12_place 50 = .ok (.iconst 3, 1) := by decide +kernel
theorem dX12_place_51 : decode cX12_place 51 = .ok (.ireturn, 1) := by decide +kernel
theorem dX12_place_52 : decode cX12_place 52 = .ok (.iconst (-1), 1) := by decide +kernel
theorem dX12_place_53 : decode cX12_place 53 = .ok (.ireturn, 1) := by decide +kernel
set_option maxRecDepth 20000 in
theorem rX12_place (D : GD) (d : Nat) (a1 : Int32) (M : Mm) (post : Option Value → Mm → Prop) (hL : Lay 62 98 M) 
    (h : ((a1 = (100 : Int32) → post (some (.int (3 : Int32))) M) ∧ ((a1 = (108 : Int32) → post (some (.int (0 : Int32))) M) ∧ ((a1 = (111 : Int32) → post (some (.int (1 : Int32))) M) ∧ ((a1 = (116 : Int32) → post (some (.int (2 : Int32))) M) ∧ ((¬ a1 = (100 : Int32) → ¬ a1 = (108 : Int32) → ¬ a1 = (111 : Int32) → ¬ a1 = (116 : Int32) → post (some (.int (-1 : Int32))) M))))))) :
    AM D d 0 0 mX12_place [.ref 62, .int a1] M post := by
  refine AM.of (by decide) (Nat.le_of_ble_eq_true rfl) ?_
  show AW D d 0 0 mX12_place 0 0 0 [(0, .ref 62), (1, .int a1)] [] M post
  refine ab_iload_n 1 dX12_place_0 rfl ?_
  by_cases c1 : a1 = (100 : Int32)
  · have h := h.1 c1
    refine ab_lookup (off := (49)) (tgt := 50) dX12_place_1 (by decide) (by rw [c1]; decide) (by decide) ?_
    refine ab_iconst (v := 3) dX12_place_50 (by decide) ?_
    exact ab_iret dX12_place_51 rfl h
  · have h := h.2
    by_cases c2 : a1 = (108 : Int32)
    · have h := h.1 c2
      refine ab_lookup (off := (43)) (tgt := 44) dX12_place_1 (by decide) (by rw [c2]; decide) (by decide) ?_
      refine ab_iconst (v := 0) dX12_place_44 (by decide) ?_
      exact ab_iret dX12_place_45 rfl h
    · have h := h.2
      by_cases c3 : a1 = (111 : Int32)
      · have h := h.1 c3
        refine ab_lookup (off := (45)) (tgt := 46) dX12_place_1 (by decide) (by rw [c3]; decide) (by decide) ?_
        refine ab_iconst (v := 1) dX12_place_46 (by decide) ?_
        exact ab_iret dX12_place_47 rfl h
      · have h := h.2
        by_cases c4 : a1 = (116 : Int32)
        · have h := h.1 c4
          refine ab_lookup (off := (47)) (tgt := 48) dX12_place_1 (by decide) (by rw [c4]; decide) (by decide) ?_
          refine ab_iconst (v := 2) dX12_place_48 (by decide) ?_
          exact ab_iret dX12_place_49 rfl h
        · have h := h.2
          have h := h c1 c2 c3 c4
          refine ab_lookup (off := (51)) (tgt := 52) dX12_place_1 (by decide) (by show Op.lookupswitch.offset [(100, 49), (108, 43), (111, 45), (116, 47)] _ _ = _; rw [lv_osw c1 (by decide), lv_osw c2 (by decide), lv_osw c3 (by decide), lv_osw c4 (by decide)]; rfl) (by decide) ?_
          refine ab_iconst (v := (-1)) dX12_place_52 (by decide) ?_
          exact ab_iret dX12_place_53 rfl h
theorem dX12_takesTest_0 : decode cX12_takesTest 0 = .ok (.aload_n 0, 1) := by decide +kernel
theorem dX12_takesTest_1 : decode cX12_takesTest 1 = .ok (.aload_n 0, 1) := by decide +kernel
theorem dX12_takesTest_2 : decode cX12_takesTest 2 = .ok (.invokevirtual 188, 3) := by decide +kernel
theorem dX12_takesTest_5 : decode cX12_takesTest 5 = .ok (.invokevirtual 203, 3) := by decide +kernel
theorem dX12_takesTest_8 : decode cX12_takesTest 8 = .ok (.istore_n 1, 1) := by decide +kernel
theorem dX12_takesTest_9 : decode cX12_takesTest 9 = .ok (.iload_n 1, 1) := by decide +kernel
theorem dX12_takesTest_10 : decode cX12_takesTest 10 = .ok (.ifCond .ge 5, 3) := by decide +kernel
theorem dX12_takesTest_13 : decode cX12_takesTest 13 = .ok (.iconst 0, 1) := by decide +kernel
theorem dX12_takesTest_14 : decode cX12_takesTest 14 = .ok (.ireturn, 1) := by decide +kernel
theorem dX12_takesTest_15 : decode cX12_takesTest 15 = .ok (.aload_n 0, 1) := by decide +kernel
theorem dX12_takesTest_16 : decode cX12_takesTest 16 = .ok (.dup, 1) := by decide +kernel
theorem dX12_takesTest_17 : decode cX12_takesTest 17 = .ok (.getfield 20, 3) := by decide +kernel
theorem dX12_takesTest_20 : decode cX12_takesTest 20 = .ok (.iconst 1, 1) := by decide +kernel
theorem dX12_takesTest_21 : decode cX12_takesTest 21 = .ok (.iadd, 1) := by decide +kernel
theorem dX12_takesTest_22 : decode cX12_takesTest 22 = .ok (.putfield 20, 3) := by decide +kernel
theorem dX12_takesTest_25 : decode cX12_takesTest 25 = .ok (.aload_n 0, 1) := by decide +kernel
theorem dX12_takesTest_26 : decode cX12_takesTest 26 = .ok (.invokevirtual 188, 3) := by decide +kernel
theorem dX12_takesTest_29 : decode cX12_takesTest 29 = .ok (.istore_n 2, 1) := by decide +kernel
theorem dX12_takesTest_30 : decode cX12_takesTest 30 = .ok (.aload_n 0, 1) := by decide +kernel
theorem dX12_takesTest_31 : decode cX12_takesTest 31 = .ok (.iload_n 2, 1) := by decide +kernel
theorem dX12_takesTest_32 : decode cX12_takesTest 32 = .ok (.bipush 60, 2) := by decide +kernel
theorem dX12_takesTest_34 : decode cX12_takesTest 34 = .ok (.bipush 62, 2) := by decide +kernel
theorem dX12_takesTest_36 : decode cX12_takesTest 36 = .ok (.invokevirtual 180, 3) := by decide +kernel
theorem dX12_takesTest_39 : decode cX12_takesTest 39 = .ok (.ifCond .ne 5, 3) := by decide +kernel
theorem dX12_takesTest_42 : decode cX12_takesTest 42 = .ok (.iconst 0, 1) := by decide +kernel
theorem dX12_takesTest_43 : decode cX12_takesTest 43 = .ok (.ireturn, 1) := by decide +kernel
theorem dX12_takesTest_44 : decode cX12_takesTest 44 = .ok (.aload_n 0, 1) := by decide +kernel
theorem dX12_takesTest_45 : decode cX12_takesTest 45 = .ok (.dup, 1) := by decide +kernel
theorem dX12_takesTest_46 : decode cX12_takesTest 46 = .ok (.getfield 20, 3) := by decide +kernel
theorem dX12_takesTest_49 : decode cX12_takesTest 49 = .ok (.iconst 1, 1) := by decide +kernel
theorem dX12_takesTest_50 : decode cX12_takesTest 50 = .ok (.iadd, 1) := by decide +kernel
theorem dX12_takesTest_51 : decode cX12_takesTest 51 = .ok (.putfield 20, 3) := by decide +kernel
theorem dX12_takesTest_54 : decode cX12_takesTest 54 = .ok (.aload_n 0, 1) := by decide +kernel
theorem dX12_takesTest_55 : decode cX12_takesTest 55 = .ok (.invokevirtual 207, 3) := by decide +kernel
theorem dX12_takesTest_58 : decode cX12_takesTest 58 = .ok (.ifCond .ne 5, 3) := by decide +kernel
theorem dX12_takesTest_61 : decode cX12_takesTest 61 = .ok (.iconst 0, 1) := by decide +kernel
theorem dX12_takesTest_62 : decode cX12_takesTest 62 = .ok (.ireturn, 1) := by decide +kernel
theorem dX12_takesTest_63 : decode cX12_takesTest 63 = .ok (.aload_n 0, 1) := by decide +kernel
theorem dX12_takesTest_64 : decode cX12_takesTest 64 = .ok (.sipush 1000, 3) := by decide +kernel
theorem dX12_takesTest_67 : decode cX12_takesTest 67 = .ok (.iload_n 1, 1) := by decide +kernel
theorem dX12_takesTest_68 : decode cX12_takesTest 68 = .ok (.imul, 1) := by decide +kernel
theorem dX12_takesTest_69 : decode cX12_takesTest 69 = .ok (.bipush 100, 2) := by decide +kernel
theorem dX12_takesTest_71 : decode cX12_takesTest 71 = .ok (.iload_n 2, 1) := by decide +kernel
theorem dX12_takesTest_72 : decode cX12_takesTest 72 = .ok (.bipush 60, 2) := by decide +kernel
theorem dX12_takesTest_74 : decode cX12_takesTest 74 = .ok (.isub, 1) := by decide +kernel
theorem dX12_takesTest_75 : decode cX12_takesTest 75 = .ok (.imul, 1) := by decide +kernel
theorem dX12_takesTest_76 : decode cX12_takesTest 76 = .ok (.iadd, 1) := by decide +kernel
theorem dX12_takesTest_77 : decode cX12_takesTest 77 = .ok (.aload_n 0, 1) := by decide +kernel
theorem dX12_takesTest_78 : decode cX12_takesTest 78 = .ok (.getfield 23, 3) := by decide +kernel
theorem dX12_takesTest_81 : decode cX12_takesTest 81 = .ok (.iadd, 1) := by decide +kernel
theorem dX12_takesTest_82 : decode cX12_takesTest 82 = .ok (.invokevirtual 199, 3) := by decide +kernel
theorem dX12_takesTest_85 : decode cX12_takesTest 85 = .ok (.aload_n 0, 1) := by decide +kernel
theorem dX12_takesTest_86 : decode cX12_takesTest 86 = .ok (.invokevirtual 210, 3) := by decide +kernel
theorem dX12_takesTest_89 : decode cX12_takesTest 89 = .ok (.iconst 1, 1) := by decide +kernel
theorem dX12_takesTest_90 : decode cX12_takesTest 90 = .ok (.ireturn, 1) := by decide +kernel
set_option maxRecDepth 20000 in
theorem rX12_takesTest (D : GD) (d : Nat)  (M : Mm) (post : Option Value → Mm → Prop) (hL : Lay 62 98 M) 
    (h : AMi D d mX12_next [.ref 62] M (fun x2 M1 => AMi D d mX12_place [.ref 62, .int x2] M1 (fun x8 M7 => ((0 ≤ x8 → ∀ M14 : Mm, M14 = sI M7 62 3 ((gI M7 62 3) + (1 : Int32)) → AMi D d mX12_next [.ref 62] M14 (fun x19 M18 => AMi D d mX12_in [.ref 62, .int x19, .int (60 : Int32), .int (62 : Int32)] M18 (fun x25 M24 => ((¬ x25 = 0 → ∀ M31 : Mm, M31 = sI M24 62 3 ((gI M24 62 3) + (1 : Int32)) → AMi D d mX12_takesNumber [.ref 62] M31 (fun x36 M35 => ((¬ x36 = 0 → AMv D d mX12_put [.ref 62, .int ((((1000 : Int32) * x8) + ((100 : Int32) * (x19 - (60 : Int32)))) + (gI M35 62 4))] M35 (fun M42 => AMv D d mX12_whole [.ref 62] M42 (fun M48 => post (some (.int (1 : Int32))) M48))) ∧ (x36 = 0 → post (some (.int (0 : Int32))) M35)))) ∧ (x25 = 0 → post (some (.int (0 : Int32))) M24))))) ∧ (¬ 0 ≤ x8 → post (some (.int (0 : Int32))) M7))))) :
    AM D (d + 1) 0 0 mX12_takesTest [.ref 62] M post := by
  refine AM.of (by decide) (Nat.le_of_ble_eq_true rfl) ?_
  show AW D (d + 1) 0 0 mX12_takesTest 0 0 0 [(0, .ref 62)] [] M post
  refine ab_aload_n 0 dX12_takesTest_0 rfl ?_
  refine ab_aload_n 0 dX12_takesTest_1 rfl ?_
  refine ab_callV (a := 62) (c0 := 12) (d' := d) (mc' := 0) (ms' := 0) (vs := []) (st := [.ref 62]) dX12_takesTest_2 ⟨cw_X12_next, w_1194⟩ w_1196 w_26 (by decide) (hL.sh 62 rfl (by decide) (by decide)).1 (hL.sh 62 rfl (by decide) (by decide)).2 rfl rfl (Nat.le_of_ble_eq_true rfl) (Nat.le_refl _) (Nat.zero_le _) (Nat.zero_le _) (AM.mono h (fun r M1 ⟨x2, hr3, hc4, h⟩ => ?_))
  subst hr3
  refine ab_rs ?_
  have hm5 : Sm M M1 := (Sm.refl M).trans hc4
  have hl6 := hL.of hm5
  refine ab_callV (a := 62) (c0 := 12) (d' := d) (mc' := 0) (ms' := 0) (vs := [.int x2]) (st := []) dX12_takesTest_5 ⟨cw_X12_place, w_1223⟩ w_1225 w_33 (by decide) (hl6.sh 62 rfl (by decide) (by decide)).1 (hl6.sh 62 rfl (by decide) (by decide)).2 rfl rfl (Nat.le_of_ble_eq_true rfl) (Nat.le_refl _) (Nat.zero_le _) (Nat.zero_le _) (AM.mono h (fun r M7 ⟨x8, hr9, hc10, h⟩ => ?_))
  subst hr9
  refine ab_rs ?_
  have hm11 : Sm M M7 := hm5.trans hc10
  have hl12 := hL.of hm11
  refine ab_istore_n (lv1 := [(1, .int x8), (0, .ref 62)]) dX12_takesTest_8 (by decide) rfl ?_
  refine ab_iload_n 0 dX12_takesTest_9 rfl ?_
  refine ab_if_ge (tgt := 15) dX12_takesTest_10 (by decide) (fun c13 => ?_) (fun c13 => ?_)
  · have h := h.1 c13
    refine ab_aload_n 1 dX12_takesTest_15 rfl ?_
    refine ab_dup dX12_takesTest_16 rfl ?_
    refine ab_getI dX12_takesTest_17 fs_12_20_12 rfl (hl12.sh 62 rfl (by decide) (by decide)).1 (hl12.sh 62 rfl (by decide) (by decide)).2 ?_
    refine ab_iconst (v := 1) dX12_takesTest_20 (by decide) ?_
    refine ab_iadd dX12_takesTest_21 ?_
    refine ab_putI dX12_takesTest_22 fs_12_20_12 rfl rfl (hl12.sh 62 rfl (by decide) (by decide)).1 (hl12.sh 62 rfl (by decide) (by decide)).2 ?_
    refine ab_nameM (fun M14 hM14 => ?_)
    have h := h M14 hM14
    have hs17 : Sm M7 M14 := hM14 ▸ (Sm.refl _).i
    have hm15 : Sm M M14 := hm11.trans hs17
    have hl16 := hL.of hm15
    refine ab_aload_n 1 dX12_takesTest_25 rfl ?_
    refine ab_callV (a := 62) (c0 := 12) (d' := d) (mc' := 0) (ms' := 0) (vs := []) (st := []) dX12_takesTest_26 ⟨cw_X12_next, w_1194⟩ w_1196 w_26 (by decide) (hl16.sh 62 rfl (by decide) (by decide)).1 (hl16.sh 62 rfl (by decide) (by decide)).2 rfl rfl (Nat.le_of_ble_eq_true rfl) (Nat.le_refl _) (Nat.zero_le _) (Nat.zero_le _) (AM.mono h (fun r M18 ⟨x19, hr20, hc21, h⟩ => ?_))
    subst hr20
    refine ab_rs ?_
    have hm22 : Sm M M18 := hm15.trans hc21
    have hl23 := hL.of hm22
    refine ab_istore_n (lv1 := [(2, .int x19), (1, .int x8), (0, .ref 62)]) dX12_takesTest_29 (by decide) rfl ?_
    refine ab_aload_n 2 dX12_takesTest_30 rfl ?_
    refine ab_iload_n 0 dX12_takesTest_31 rfl ?_
    refine ab_bipush (v := 60) dX12_takesTest_32 (by decide) ?_
    refine ab_bipush (v := 62) dX12_takesTest_34 (by decide) ?_
    refine ab_callV (a := 62) (c0 := 12) (d' := d) (mc' := 0) (ms' := 0) (vs := [.int x19, .int (60 : Int32), .int (62 : Int32)]) (st := []) dX12_takesTest_36 ⟨cw_X12_in, w_1170⟩ w_1172 w_23 (by decide) (hl23.sh 62 rfl (by decide) (by decide)).1 (hl23.sh 62 rfl (by decide) (by decide)).2 rfl rfl (Nat.le_of_ble_eq_true rfl) (Nat.le_refl _) (Nat.zero_le _) (Nat.zero_le _) (AM.mono h (fun r M24 ⟨x25, hr26, hc27, h⟩ => ?_))
    subst hr26
    refine ab_rs ?_
    have hm28 : Sm M M24 := hm22.trans hc27
    have hl29 := hL.of hm28
    refine ab_if_ne (tgt := 44) dX12_takesTest_39 (by decide) (fun c30 => ?_) (fun c30 => ?_)
    · have h := h.1 c30
      refine ab_aload_n 2 dX12_takesTest_44 rfl ?_
      refine ab_dup dX12_takesTest_45 rfl ?_
      refine ab_getI dX12_takesTest_46 fs_12_20_12 rfl (hl29.sh 62 rfl (by decide) (by decide)).1 (hl29.sh 62 rfl (by decide) (by decide)).2 ?_
      refine ab_iconst (v := 1) dX12_takesTest_49 (by decide) ?_
      refine ab_iadd dX12_takesTest_50 ?_
      refine ab_putI dX12_takesTest_51 fs_12_20_12 rfl rfl (hl29.sh 62 rfl (by decide) (by decide)).1 (hl29.sh 62 rfl (by decide) (by decide)).2 ?_
      refine ab_nameM (fun M31 hM31 => ?_)
      have h := h M31 hM31
      have hs34 : Sm M24 M31 := hM31 ▸ (Sm.refl _).i
      have hm32 : Sm M M31 := hm28.trans hs34
      have hl33 := hL.of hm32
      refine ab_aload_n 2 dX12_takesTest_54 rfl ?_
      refine ab_callV (a := 62) (c0 := 12) (d' := d) (mc' := 0) (ms' := 0) (vs := []) (st := []) dX12_takesTest_55 ⟨cw_X12_takesNumber, w_1207⟩ w_1209 w_29 (by decide) (hl33.sh 62 rfl (by decide) (by decide)).1 (hl33.sh 62 rfl (by decide) (by decide)).2 rfl rfl (Nat.le_of_ble_eq_true rfl) (Nat.le_refl _) (Nat.zero_le _) (Nat.zero_le _) (AM.mono h (fun r M35 ⟨x36, hr37, hc38, h⟩ => ?_))
      subst hr37
      refine ab_rs ?_
      have hm39 : Sm M M35 := hm32.trans hc38
      have hl40 := hL.of hm39
      refine ab_if_ne (tgt := 63) dX12_takesTest_58 (by decide) (fun c41 => ?_) (fun c41 => ?_)
      · have h := h.1 c41
        refine ab_aload_n 2 dX12_takesTest_63 rfl ?_
        refine ab_sipush (v := 1000) dX12_takesTest_64 (by decide) ?_
        refine ab_iload_n 1 dX12_takesTest_67 rfl ?_
        refine ab_imul dX12_takesTest_68 ?_
        refine ab_bipush (v := 100) dX12_takesTest_69 (by decide) ?_
        refine ab_iload_n 0 dX12_takesTest_71 rfl ?_
        refine ab_bipush (v := 60) dX12_takesTest_72 (by decide) ?_
        refine ab_isub dX12_takesTest_74 ?_
        refine ab_imul dX12_takesTest_75 ?_
        refine ab_iadd dX12_takesTest_76 ?_
        refine ab_aload_n 2 dX12_takesTest_77 rfl ?_
        refine ab_getI dX12_takesTest_78 fs_12_23_12 rfl (hl40.sh 62 rfl (by decide) (by decide)).1 (hl40.sh 62 rfl (by decide) (by decide)).2 ?_
        refine ab_iadd dX12_takesTest_81 ?_
        refine ab_callV (a := 62) (c0 := 12) (d' := d) (mc' := 0) (ms' := 0) (vs := [.int ((((1000 : Int32) * x8) + ((100 : Int32) * (x19 - (60 : Int32)))) + (gI M35 62 4))]) (st := []) dX12_takesTest_82 ⟨cw_X12_put, w_1227⟩ w_1229 w_34 (by decide) (hl40.sh 62 rfl (by decide) (by decide)).1 (hl40.sh 62 rfl (by decide) (by decide)).2 rfl rfl (Nat.le_of_ble_eq_true rfl) (Nat.le_refl _) (Nat.zero_le _) (Nat.zero_le _) (AM.mono h (fun r M42 ⟨hr44, hc45, h⟩ => ?_))
        subst hr44
        refine ab_rv ?_
        have hm46 : Sm M M42 := hm39.trans hc45
        have hl47 := hL.of hm46
        refine ab_aload_n 2 dX12_takesTest_85 rfl ?_
        refine ab_callV (a := 62) (c0 := 12) (d' := d) (mc' := 0) (ms' := 0) (vs := []) (st := []) dX12_takesTest_86 ⟨cw_X12_whole, w_1231⟩ w_1233 w_35 (by decide) (hl47.sh 62 rfl (by decide) (by decide)).1 (hl47.sh 62 rfl (by decide) (by decide)).2 rfl rfl (Nat.le_of_ble_eq_true rfl) (Nat.le_refl _) (Nat.zero_le _) (Nat.zero_le _) (AM.mono h (fun r M48 ⟨hr50, hc51, h⟩ => ?_))
        subst hr50
        refine ab_rv ?_
        have hm52 : Sm M M48 := hm46.trans hc51
        have hl53 := hL.of hm52
        refine ab_iconst (v := 1) dX12_takesTest_89 (by decide) ?_
        exact ab_zret dX12_takesTest_90 rfl rfl h
      · have h := h.2 c41
        refine ab_iconst (v := 0) dX12_takesTest_61 (by decide) ?_
        exact ab_zret dX12_takesTest_62 rfl rfl h
    · have h := h.2 c30
      refine ab_iconst (v := 0) dX12_takesTest_42 (by decide) ?_
      exact ab_zret dX12_takesTest_43 rfl rfl h
  · have h := h.2 c13
    refine ab_iconst (v := 0) dX12_takesTest_13 (by decide) ?_
    exact ab_zret dX12_takesTest_14 rfl rfl h
theorem dX12_takesE_0 : decode cX12_takesE 0 = .ok (.aload_n 0, 1) := by decide +kernel
theorem dX12_takesE_1 : decode cX12_takesE 1 = .ok (.iconst 0, 1) := by decide +kernel
theorem dX12_takesE_2 : decode cX12_takesE 2 = .ok (.putfield 53, 3) := by decide +kernel
theorem dX12_takesE_5 : decode cX12_takesE 5 = .ok (.aload_n 0, 1) := by decide +kernel
theorem dX12_takesE_6 : decode cX12_takesE 6 = .ok (.iconst 0, 1) := by decide +kernel
theorem dX12_takesE_7 : decode cX12_takesE 7 = .ok (.putfield 56, 3) := by decide +kernel
theorem dX12_takesE_10 : decode cX12_takesE 10 = .ok (.aload_n 0, 1) := by decide +kernel
theorem dX12_takesE_11 : decode cX12_takesE 11 = .ok (.getfield 38, 3) := by decide +kernel
theorem dX12_takesE_14 : decode cX12_takesE 14 = .ok (.iload_n 1, 1) := by decide +kernel
theorem dX12_takesE_15 : decode cX12_takesE 15 = .ok (.aload_n 0, 1) := by decide +kernel
theorem dX12_takesE_16 : decode cX12_takesE 16 = .ok (.getfield 50, 3) := by decide +kernel
theorem dX12_takesE_19 : decode cX12_takesE 19 = .ok (.iastore, 1) := by decide +kernel
theorem dX12_takesE_20 : decode cX12_takesE 20 = .ok (.iconst 1, 1) := by decide +kernel
theorem dX12_takesE_21 : decode cX12_takesE 21 = .ok (.istore_n 2, 1) := by decide +kernel
theorem dX12_takesE_22 : decode cX12_takesE 22 = .ok (.aload_n 0, 1) := by decide +kernel
theorem dX12_takesE_23 : decode cX12_takesE 23 = .ok (.invokevirtual 188, 3) := by decide +kernel
theorem dX12_takesE_26 : decode cX12_takesE 26 = .ok (.istore_n 3, 1) := by decide +kernel
theorem dX12_takesE_27 : decode cX12_takesE 27 = .ok (.iload_n 2, 1) := by decide +kernel
theorem dX12_takesE_28 : decode cX12_takesE 28 = .ok (.ifCond .eq 82, 3) := by decide +kernel
theorem dX12_takesE_31 : decode cX12_takesE 31 = .ok (.iload_n 3, 1) := by decide +kernel
theorem dX12_takesE_32 : decode cX12_takesE 32 = .ok (.bipush 33, 2) := by decide +kernel
theorem dX12_takesE_34 : decode cX12_takesE 34 = .ok (.if_icmp .eq 9, 3) := by decide +kernel
theorem dX12_takesE_37 : decode cX12_takesE 37 = .ok (.iload_n 3, 1) := by decide +kernel
theorem dX12_takesE_38 : decode cX12_takesE 38 = .ok (.bipush 40, 2) := by decide +kernel
theorem dX12_takesE_40 : decode cX12_takesE 40 = .ok (.if_icmp .ne 56, 3) := by decide +kernel
theorem dX12_takesE_43 : decode cX12_takesE 43 = .ok (.aload_n 0, 1) := by decide +kernel
theorem dX12_takesE_44 : decode cX12_takesE 44 = .ok (.getfield 56, 3) := by decide +kernel
theorem dX12_takesE_47 : decode cX12_takesE 47 = .ok (.iconst 4, 1) := by decide +kernel
theorem dX12_takesE_48 : decode cX12_takesE 48 = .ok (.if_icmp .ne 5, 3) := by decide +kernel
theorem dX12_takesE_51 : decode cX12_takesE 51 = .ok (.iconst 0, 1) := by decide +kernel
theorem dX12_takesE_52 : decode cX12_takesE 52 = .ok (.ireturn, 1) := by decide +kernel
theorem dX12_takesE_53 : decode cX12_takesE 53 = .ok (.aload_n 0, 1) := by decide +kernel
theorem dX12_takesE_54 : decode cX12_takesE 54 = .ok (.dup, 1) := by decide +kernel
theorem dX12_takesE_55 : decode cX12_takesE 55 = .ok (.getfield 56, 3) := by decide +kernel
theorem dX12_takesE_58 : decode cX12_takesE 58 = .ok (.iconst 1, 1) := by decide +kernel
theorem dX12_takesE_59 : decode cX12_takesE 59 = .ok (.iadd, 1) := by decide +kernel
theorem dX12_takesE_60 : decode cX12_takesE 60 = .ok (.putfield 56, 3) := by decide +kernel
theorem dX12_takesE_63 : decode cX12_takesE 63 = .ok (.aload_n 0, 1) := by decide +kernel
theorem dX12_takesE_64 : decode cX12_takesE 64 = .ok (.getfield 47, 3) := by decide +kernel
theorem dX12_takesE_67 : decode cX12_takesE 67 = .ok (.aload_n 0, 1) := by decide +kernel
theorem dX12_takesE_68 : decode cX12_takesE 68 = .ok (.getfield 53, 3) := by decide +kernel
theorem dX12_takesE_71 : decode cX12_takesE 71 = .ok (.iload_n 3, 1) := by decide +kernel
theorem dX12_takesE_72 : decode cX12_takesE 72 = .ok (.iastore, 1) := by decide +kernel
theorem dX12_takesE_73 : decode cX12_takesE 73 = .ok (.aload_n 0, 1) := by decide +kernel
theorem dX12_takesE_74 : decode cX12_takesE 74 = .ok (.dup, 1) := by decide +kernel
theorem dX12_takesE_75 : decode cX12_takesE 75 = .ok (.getfield 53, 3) := by decide +kernel
theorem dX12_takesE_78 : decode cX12_takesE 78 = .ok (.iconst 1, 1) := by decide +kernel
theorem dX12_takesE_79 : decode cX12_takesE 79 = .ok (.iadd, 1) := by decide +kernel
theorem dX12_takesE_80 : decode cX12_takesE 80 = .ok (.putfield 53, 3) := by decide +kernel
theorem dX12_takesE_83 : decode cX12_takesE 83 = .ok (.aload_n 0, 1) := by decide +kernel
theorem dX12_takesE_84 : decode cX12_takesE 84 = .ok (.dup, 1) := by decide +kernel
theorem dX12_takesE_85 : decode cX12_takesE 85 = .ok (.getfield 20, 3) := by decide +kernel
theorem dX12_takesE_88 : decode cX12_takesE 88 = .ok (.iconst 1, 1) := by decide +kernel
theorem dX12_takesE_89 : decode cX12_takesE 89 = .ok (.iadd, 1) := by decide +kernel
theorem dX12_takesE_90 : decode cX12_takesE 90 = .ok (.putfield 20, 3) := by decide +kernel
theorem dX12_takesE_93 : decode cX12_takesE 93 = .ok (.goto (-71), 3) := by decide +kernel
theorem dX12_takesE_96 : decode cX12_takesE 96 = .ok (.aload_n 0, 1) := by decide +kernel
theorem dX12_takesE_97 : decode cX12_takesE 97 = .ok (.invokevirtual 213, 3) := by decide +kernel
theorem dX12_takesE_100 : decode cX12_takesE 100 = .ok (.ifCond .eq 8, 3) := by decide +kernel
theorem dX12_takesE_103 : decode cX12_takesE 103 = .ok (.iconst 0, 1) := by decide +kernel
theorem dX12_takesE_104 : decode cX12_takesE 104 = .ok (.istore_n 2, 1) := by decide +kernel
theorem dX12_takesE_105 : decode cX12_takesE 105 = .ok (.goto (-83), 3) := by decide +kernel
theorem dX12_takesE_108 : decode cX12_takesE 108 = .ok (.iconst 0, 1) := by decide +kernel
theorem dX12_takesE_109 : decode cX12_takesE 109 = .ok (.ireturn, 1) := by decide +kernel
theorem dX12_takesE_110 : decode cX12_takesE 110 = .ok (.iload_n 3, 1) := by decide +kernel
theorem dX12_takesE_111 : decode cX12_takesE 111 = .ok (.bipush 38, 2) := by decide +kernel
theorem dX12_takesE_113 : decode cX12_takesE 113 = .ok (.if_icmp .eq 9, 3) := by decide +kernel
theorem dX12_takesE_116 : decode cX12_takesE 116 = .ok (.iload_n 3, 1) := by decide +kernel
theorem dX12_takesE_117 : decode cX12_takesE 117 = .ok (.bipush 124, 2) := by decide +kernel
theorem dX12_takesE_119 : decode cX12_takesE 119 = .ok (.if_icmp .ne 43, 3) := by decide +kernel
theorem dX12_takesE_122 : decode cX12_takesE 122 = .ok (.aload_n 0, 1) := by decide +kernel
theorem dX12_takesE_123 : decode cX12_takesE 123 = .ok (.iload_n 3, 1) := by decide +kernel
theorem dX12_takesE_124 : decode cX12_takesE 124 = .ok (.invokevirtual 216, 3) := by decide +kernel
theorem dX12_takesE_127 : decode cX12_takesE 127 = .ok (.aload_n 0, 1) := by decide +kernel
theorem dX12_takesE_128 : decode cX12_takesE 128 = .ok (.getfield 47, 3) := by decide +kernel
theorem dX12_takesE_131 : decode cX12_takesE 131 = .ok (.aload_n 0, 1) := by decide +kernel
theorem dX12_takesE_132 : decode cX12_takesE 132 = .ok (.getfield 53, 3) := by decide +kernel
theorem dX12_takesE_135 : decode cX12_takesE 135 = .ok (.iload_n 3, 1) := by decide +kernel
theorem dX12_takesE_136 : decode cX12_takesE 136 = .ok (.iastore, 1) := by decide +kernel
theorem dX12_takesE_137 : decode cX12_takesE 137 = .ok (.aload_n 0, 1) := by decide +kernel
theorem dX12_takesE_138 : decode cX12_takesE 138 = .ok (.dup, 1) := by decide +kernel
theorem dX12_takesE_139 : decode cX12_takesE 139 = .ok (.getfield 53, 3) := by decide +kernel
theorem dX12_takesE_142 : decode cX12_takesE 142 = .ok (.iconst 1, 1) := by decide +kernel
theorem dX12_takesE_143 : decode cX12_takesE 143 = .ok (.iadd, 1) := by decide +kernel
theorem dX12_takesE_144 : decode cX12_takesE 144 = .ok (.putfield 53, 3) := by decide +kernel
theorem dX12_takesE_147 : decode cX12_takesE 147 = .ok (.iconst 1, 1) := by decide +kernel
theorem dX12_takesE_148 : decode cX12_takesE 148 = .ok (.istore_n 2, 1) := by decide +kernel
theorem dX12_takesE_149 : decode cX12_takesE 149 = .ok (.aload_n 0, 1) := by decide +kernel
theorem dX12_takesE_150 : decode cX12_takesE 150 = .ok (.dup, 1) := by decide +kernel
theorem dX12_takesE_151 : decode cX12_takesE 151 = .ok (.getfield 20, 3) := by decide +kernel
theorem dX12_takesE_154 : decode cX12_takesE 154 = .ok (.iconst 1, 1) := by decide +kernel
theorem dX12_takesE_155 : decode cX12_takesE 155 = .ok (.iadd, 1) := by decide +kernel
theorem dX12_takesE_156 : decode cX12_takesE 156 = .ok (.putfield 20, 3) := by decide +kernel
theorem dX12_takesE_159 : decode cX12_takesE 159 = .ok (.goto (-137), 3) := by decide +kernel
theorem dX12_takesE_162 : decode cX12_takesE 162 = .ok (.aload_n 0, 1) := by decide +kernel
theorem dX12_takesE_163 : decode cX12_takesE 163 = .ok (.bipush 124, 2) := by decide +kernel
theorem dX12_takesE_165 : decode cX12_takesE 165 = .ok (.invokevirtual 216, 3) := by decide +kernel
theorem dX12_takesE_168 : decode cX12_takesE 168 = .ok (.aload_n 0, 1) := by decide +kernel
theorem dX12_takesE_169 : decode cX12_takesE 169 = .ok (.getfield 41, 3) := by decide +kernel
theorem dX12_takesE_172 : decode cX12_takesE 172 = .ok (.iload_n 1, 1) := by decide +kernel
theorem dX12_takesE_173 : decode cX12_takesE 173 = .ok (.aload_n 0, 1) := by decide +kernel
theorem dX12_takesE_174 : decode cX12_takesE 174 = .ok (.getfield 50, 3) := by decide +kernel
theorem dX12_takesE_177 : decode cX12_takesE 177 = .ok (.iastore, 1) := by decide +kernel
theorem dX12_takesE_178 : decode cX12_takesE 178 = .ok (.aload_n 0, 1) := by decide +kernel
theorem dX12_takesE_179 : decode cX12_takesE 179 = .ok (.getfield 53, 3) := by decide +kernel
theorem dX12_takesE_182 : decode cX12_takesE 182 = .ok (.ifCond .ne 5, 3) := by decide +kernel
theorem dX12_takesE_185 : decode cX12_takesE 185 = .ok (.iconst 1, 1) := by decide +kernel
theorem dX12_takesE_186 : decode cX12_takesE 186 = .ok (.ireturn, 1) := by decide +kernel
theorem dX12_takesE_187 : decode cX12_takesE 187 = .ok (.iload_n 3, 1) := by decide +kernel
theorem dX12_takesE_188 : decode cX12_takesE 188 = .ok (.bipush 41, 2) := by decide +kernel
theorem dX12_takesE_190 : decode cX12_takesE 190 = .ok (.if_icmp .eq 5, 3) := by decide +kernel
theorem dX12_takesE_193 : decode cX12_takesE 193 = .ok (.iconst 0, 1) := by decide +kernel
theorem dX12_takesE_194 : decode cX12_takesE 194 = .ok (.ireturn, 1) := by decide +kernel
theorem dX12_takesE_195 : decode cX12_takesE 195 = .ok (.aload_n 0, 1) := by decide +kernel
theorem dX12_takesE_196 : decode cX12_takesE 196 = .ok (.dup, 1) := by decide +kernel
theorem dX12_takesE_197 : decode cX12_takesE 197 = .ok (.getfield 53, 3) := by decide +kernel
theorem dX12_takesE_200 : decode cX12_takesE 200 = .ok (.iconst 1, 1) := by decide +kernel
theorem dX12_takesE_201 : decode cX12_takesE 201 = .ok (.isub, 1) := by decide +kernel
theorem dX12_takesE_202 : decode cX12_takesE 202 = .ok (.putfield 53, 3) := by decide +kernel
theorem dX12_takesE_205 : decode cX12_takesE 205 = .ok (.aload_n 0, 1) := by decide +kernel
theorem dX12_takesE_206 : decode cX12_takesE 206 = .ok (.dup, 1) := by decide +kernel
theorem dX12_takesE_207 : decode cX12_takesE 207 = .ok (.getfield 56, 3) := by decide +kernel
theorem dX12_takesE_210 : decode cX12_takesE 210 = .ok (.iconst 1, 1) := by decide +kernel
theorem dX12_takesE_211 : decode cX12_takesE 211 = .ok (.isub, 1) := by decide +kernel
theorem dX12_takesE_212 : decode cX12_takesE 212 = .ok (.putfield 56, 3) := by decide +kernel
theorem dX12_takesE_215 : decode cX12_takesE 215 = .ok (.aload_n 0, 1) := by decide +kernel
theorem dX12_takesE_216 : decode cX12_takesE 216 = .ok (.dup, 1) := by decide +kernel
theorem dX12_takesE_217 : decode cX12_takesE 217 = .ok (.getfield 20, 3) := by decide +kernel
theorem dX12_takesE_220 : decode cX12_takesE 220 = .ok (.iconst 1, 1) := by decide +kernel
theorem dX12_takesE_221 : decode cX12_takesE 221 = .ok (.iadd, 1) := by decide +kernel
theorem dX12_takesE_222 : decode cX12_takesE 222 = .ok (.putfield 20, 3) := by decide +kernel
theorem dX12_takesE_225 : decode cX12_takesE 225 = .ok (.aload_n 0, 1) := by decide +kernel
theorem dX12_takesE_226 : decode cX12_takesE 226 = .ok (.invokevirtual 210, 3) := by decide +kernel
theorem dX12_takesE_229 : decode cX12_takesE 229 = .ok (.goto (-207), 3) := by decide +kernel
def LX12_takesE_22 (D : GD) (d : Nat) (v1 : Int32) (v2 : Int32) (M : Mm) (post : Option Value → Mm → Prop) : Prop := AW D (d + 1) 0 0 mX12_takesE 0 0 22 [(0, .ref 62), (1, .int v1), (2, .int v2)] [] M post
set_option maxRecDepth 20000 in
theorem rX12_takesE (D : GD) (d : Nat) (a1 : Int32) (M : Mm) (post : Option Value → Mm → Prop) (hL : Lay 62 98 M) 
    (h : ∀ M1 : Mm, M1 = sI M 62 14 (0 : Int32) → ∀ M5 : Mm, M5 = sI M1 62 15 (0 : Int32) → vp_in a1 56 ∧ ∀ M10 : Mm, M10 = sI M5 68 a1.toNatClampNeg (gI M5 62 13) → LX12_takesE_22 D d a1 (1 : Int32) M10 post) :
    AM D (d + 1) 0 0 mX12_takesE [.ref 62, .int a1] M post := by
  refine AM.of (by decide) (Nat.le_of_ble_eq_true rfl) ?_
  show AW D (d + 1) 0 0 mX12_takesE 0 0 0 [(0, .ref 62), (1, .int a1)] [] M post
  refine ab_aload_n 0 dX12_takesE_0 rfl ?_
  refine ab_iconst (v := 0) dX12_takesE_1 (by decide) ?_
  refine ab_putI dX12_takesE_2 fs_12_53_12 rfl rfl (hL.sh 62 rfl (by decide) (by decide)).1 (hL.sh 62 rfl (by decide) (by decide)).2 ?_
  refine ab_nameM (fun M1 hM1 => ?_)
  have h := h M1 hM1
  have hs4 : Sm M M1 := hM1 ▸ (Sm.refl _).i
  have hm2 : Sm M M1 := (Sm.refl M).trans hs4
  have hl3 := hL.of hm2
  refine ab_aload_n 0 dX12_takesE_5 rfl ?_
  refine ab_iconst (v := 0) dX12_takesE_6 (by decide) ?_
  refine ab_putI dX12_takesE_7 fs_12_56_12 rfl rfl (hl3.sh 62 rfl (by decide) (by decide)).1 (hl3.sh 62 rfl (by decide) (by decide)).2 ?_
  refine ab_nameM (fun M5 hM5 => ?_)
  have h := h M5 hM5
  have hs8 : Sm M1 M5 := hM5 ▸ (Sm.refl _).i
  have hm6 : Sm M M5 := hm2.trans hs8
  have hl7 := hL.of hm6
  refine ab_aload_n 0 dX12_takesE_10 rfl ?_
  refine ab_getP (r := 68) dX12_takesE_11 fs_12_38_12 rfl (hl7.sh 62 rfl (by decide) (by decide)).1 (hl7.sh 62 rfl (by decide) (by decide)).2 (hl7.pt 66 rfl (by decide) (by decide)) ?_
  refine ab_iload_n 1 dX12_takesE_14 rfl ?_
  refine ab_aload_n 0 dX12_takesE_15 rfl ?_
  refine ab_getI dX12_takesE_16 fs_12_50_12 rfl (hl7.sh 62 rfl (by decide) (by decide)).1 (hl7.sh 62 rfl (by decide) (by decide)).2 ?_
  have hb9 := h.1
  have h := h.2
  refine ab_iastj (j := a1.toNatClampNeg) dX12_takesE_19 (hl7.sh 68 rfl (by decide) (by decide)) hb9 rfl ?_
  refine ab_nameM (fun M10 hM10 => ?_)
  have h := h M10 hM10
  have hs13 : Sm M5 M10 := hM10 ▸ (Sm.refl _).i
  have hm11 : Sm M M10 := hm6.trans hs13
  have hl12 := hL.of hm11
  refine ab_iconst (v := 1) dX12_takesE_20 (by decide) ?_
  refine ab_istore_n (lv1 := [(2, .int (1 : Int32)), (0, .ref 62), (1, .int a1)]) dX12_takesE_21 (by decide) rfl ?_
  exact ab_sub [1, 2, 0] rfl h
set_option maxRecDepth 20000 in
theorem rX12_takesE_22 (D : GD) (d : Nat)  (v1 : Int32) (v2 : Int32) (M : Mm) (post : Option Value → Mm → Prop) (hL : Lay 62 98 M) 
    (h : AMi D d mX12_next [.ref 62] M (fun x2 M1 => ((v2 = 0 → ((x2 = (38 : Int32) → AMv D d mX12_settle [.ref 62, .int x2] M1 (fun M9 => vp_in (gI M9 62 14) 101 ∧ ∀ M16 : Mm, M16 = sI M9 71 ((gI M9 62 14).toNatClampNeg) x2 → ∀ M20 : Mm, M20 = sI M16 62 14 ((gI M16 62 14) + (1 : Int32)) → ∀ M24 : Mm, M24 = sI M20 62 3 ((gI M20 62 3) + (1 : Int32)) → LX12_takesE_22 D d v1 (1 : Int32) M24 post)) ∧ (¬ x2 = (38 : Int32) → ((¬ x2 = (124 : Int32) → AMv D d mX12_settle [.ref 62, .int (124 : Int32)] M1 (fun M29 => vp_in v1 56 ∧ ∀ M36 : Mm, M36 = sI M29 69 v1.toNatClampNeg (gI M29 62 13) → ((¬ (gI M36 62 14) = 0 → ((x2 = (41 : Int32) → ∀ M42 : Mm, M42 = sI M36 62 14 ((gI M36 62 14) - (1 : Int32)) → ∀ M46 : Mm, M46 = sI M42 62 15 ((gI M42 62 15) - (1 : Int32)) → ∀ M50 : Mm, M50 = sI M46 62 3 ((gI M46 62 3) + (1 : Int32)) → AMv D d mX12_whole [.ref 62] M50 (fun M54 => LX12_takesE_22 D d v1 v2 M54 post)) ∧ (¬ x2 = (41 : Int32) → post (some (.int (0 : Int32))) M36))) ∧ ((gI M36 62 14) = 0 → post (some (.int (1 : Int32))) M36)))) ∧ (x2 = (124 : Int32) → AMv D d mX12_settle [.ref 62, .int x2] M1 (fun M60 => vp_in (gI M60 62 14) 101 ∧ ∀ M67 : Mm, M67 = sI M60 71 ((gI M60 62 14).toNatClampNeg) x2 → ∀ M71 : Mm, M71 = sI M67 62 14 ((gI M67 62 14) + (1 : Int32)) → ∀ M75 : Mm, M75 = sI M71 62 3 ((gI M71 62 3) + (1 : Int32)) → LX12_takesE_22 D d v1 (1 : Int32) M75 post)))))) ∧ (¬ v2 = 0 → ((x2 = (33 : Int32) → ((¬ (gI M1 62 15) = (4 : Int32) → ∀ M81 : Mm, M81 = sI M1 62 15 ((gI M1 62 15) + (1 : Int32)) → vp_in (gI M81 62 14) 101 ∧ ∀ M86 : Mm, M86 = sI M81 71 ((gI M81 62 14).toNatClampNeg) x2 → ∀ M90 : Mm, M90 = sI M86 62 14 ((gI M86 62 14) + (1 : Int32)) → ∀ M94 : Mm, M94 = sI M90 62 3 ((gI M90 62 3) + (1 : Int32)) → LX12_takesE_22 D d v1 v2 M94 post) ∧ ((gI M1 62 15) = (4 : Int32) → post (some (.int (0 : Int32))) M1))) ∧ (¬ x2 = (33 : Int32) → ((¬ x2 = (40 : Int32) → AMi D d mX12_takesTest [.ref 62] M1 (fun x100 M99 => ((x100 = 0 → post (some (.int (0 : Int32))) M99) ∧ (¬ x100 = 0 → LX12_takesE_22 D d v1 (0 : Int32) M99 post)))) ∧ (x2 = (40 : Int32) → ((¬ (gI M1 62 15) = (4 : Int32) → ∀ M107 : Mm, M107 = sI M1 62 15 ((gI M1 62 15) + (1 : Int32)) → vp_in (gI M107 62 14) 101 ∧ ∀ M112 : Mm, M112 = sI M107 71 ((gI M107 62 14).toNatClampNeg) x2 → ∀ M116 : Mm, M116 = sI M112 62 14 ((gI M112 62 14) + (1 : Int32)) → ∀ M120 : Mm, M120 = sI M116 62 3 ((gI M116 62 3) + (1 : Int32)) → LX12_takesE_22 D d v1 v2 M120 post) ∧ ((gI M1 62 15) = (4 : Int32) → post (some (.int (0 : Int32))) M1)))))))))) :
    LX12_takesE_22 D d v1 v2 M post := by
  show AW D (d + 1) 0 0 mX12_takesE 0 0 22 [(0, .ref 62), (1, .int v1), (2, .int v2)] [] M post
  refine ab_aload_n 0 dX12_takesE_22 rfl ?_
  refine ab_callV (a := 62) (c0 := 12) (d' := d) (mc' := 0) (ms' := 0) (vs := []) (st := []) dX12_takesE_23 ⟨cw_X12_next, w_1194⟩ w_1196 w_26 (by decide) (hL.sh 62 rfl (by decide) (by decide)).1 (hL.sh 62 rfl (by decide) (by decide)).2 rfl rfl (Nat.le_of_ble_eq_true rfl) (Nat.le_refl _) (Nat.zero_le _) (Nat.zero_le _) (AM.mono h (fun r M1 ⟨x2, hr3, hc4, h⟩ => ?_))
  subst hr3
  refine ab_rs ?_
  have hm5 : Sm M M1 := (Sm.refl M).trans hc4
  have hl6 := hL.of hm5
  refine ab_istore_n (lv1 := [(3, .int x2), (0, .ref 62), (1, .int v1), (2, .int v2)]) dX12_takesE_26 (by decide) rfl ?_
  refine ab_iload_n 3 dX12_takesE_27 rfl ?_
  refine ab_if_eq (tgt := 110) dX12_takesE_28 (by decide) (fun c7 => ?_) (fun c7 => ?_)
  · have h := h.1 c7
    refine ab_iload_n 0 dX12_takesE_110 rfl ?_
    refine ab_bipush (v := 38) dX12_takesE_111 (by decide) ?_
    refine ab_icmp_eq (tgt := 122) dX12_takesE_113 (by decide) (fun c8 => ?_) (fun c8 => ?_)
    · have h := h.1 c8
      refine ab_aload_n 1 dX12_takesE_122 rfl ?_
      refine ab_iload_n 0 dX12_takesE_123 rfl ?_
      refine ab_callV (a := 62) (c0 := 12) (d' := d) (mc' := 0) (ms' := 0) (vs := [.int x2]) (st := []) dX12_takesE_124 ⟨cw_X12_settle, w_1235⟩ w_1237 w_36 (by decide) (hl6.sh 62 rfl (by decide) (by decide)).1 (hl6.sh 62 rfl (by decide) (by decide)).2 rfl rfl (Nat.le_of_ble_eq_true rfl) (Nat.le_refl _) (Nat.zero_le _) (Nat.zero_le _) (AM.mono h (fun r M9 ⟨hr11, hc12, h⟩ => ?_))
      subst hr11
      refine ab_rv ?_
      have hm13 : Sm M M9 := hm5.trans hc12
      have hl14 := hL.of hm13
      refine ab_aload_n 1 dX12_takesE_127 rfl ?_
      refine ab_getP (r := 71) dX12_takesE_128 fs_12_47_12 rfl (hl14.sh 62 rfl (by decide) (by decide)).1 (hl14.sh 62 rfl (by decide) (by decide)).2 (hl14.pt 69 rfl (by decide) (by decide)) ?_
      refine ab_aload_n 1 dX12_takesE_131 rfl ?_
      refine ab_getI dX12_takesE_132 fs_12_53_12 rfl (hl14.sh 62 rfl (by decide) (by decide)).1 (hl14.sh 62 rfl (by decide) (by decide)).2 ?_
      refine ab_iload_n 0 dX12_takesE_135 rfl ?_
      have hb15 := h.1
      have h := h.2
      refine ab_iastj (j := (gI M9 62 14).toNatClampNeg) dX12_takesE_136 (hl14.sh 71 rfl (by decide) (by decide)) hb15 rfl ?_
      refine ab_nameM (fun M16 hM16 => ?_)
      have h := h M16 hM16
      have hs19 : Sm M9 M16 := hM16 ▸ (Sm.refl _).i
      have hm17 : Sm M M16 := hm13.trans hs19
      have hl18 := hL.of hm17
      refine ab_aload_n 1 dX12_takesE_137 rfl ?_
      refine ab_dup dX12_takesE_138 rfl ?_
      refine ab_getI dX12_takesE_139 fs_12_53_12 rfl (hl18.sh 62 rfl (by decide) (by decide)).1 (hl18.sh 62 rfl (by decide) (by decide)).2 ?_
      refine ab_iconst (v := 1) dX12_takesE_142 (by decide) ?_
      refine ab_iadd dX12_takesE_143 ?_
      refine ab_putI dX12_takesE_144 fs_12_53_12 rfl rfl (hl18.sh 62 rfl (by decide) (by decide)).1 (hl18.sh 62 rfl (by decide) (by decide)).2 ?_
      refine ab_nameM (fun M20 hM20 => ?_)
      have h := h M20 hM20
      have hs23 : Sm M16 M20 := hM20 ▸ (Sm.refl _).i
      have hm21 : Sm M M20 := hm17.trans hs23
      have hl22 := hL.of hm21
      refine ab_iconst (v := 1) dX12_takesE_147 (by decide) ?_
      refine ab_istore_n (lv1 := [(2, .int (1 : Int32)), (3, .int x2), (0, .ref 62), (1, .int v1)]) dX12_takesE_148 (by decide) rfl ?_
      refine ab_aload_n 2 dX12_takesE_149 rfl ?_
      refine ab_dup dX12_takesE_150 rfl ?_
      refine ab_getI dX12_takesE_151 fs_12_20_12 rfl (hl22.sh 62 rfl (by decide) (by decide)).1 (hl22.sh 62 rfl (by decide) (by decide)).2 ?_
      refine ab_iconst (v := 1) dX12_takesE_154 (by decide) ?_
      refine ab_iadd dX12_takesE_155 ?_
      refine ab_putI dX12_takesE_156 fs_12_20_12 rfl rfl (hl22.sh 62 rfl (by decide) (by decide)).1 (hl22.sh 62 rfl (by decide) (by decide)).2 ?_
      refine ab_nameM (fun M24 hM24 => ?_)
      have h := h M24 hM24
      have hs27 : Sm M20 M24 := hM24 ▸ (Sm.refl _).i
      have hm25 : Sm M M24 := hm21.trans hs27
      have hl26 := hL.of hm25
      refine ab_goto (tgt := 22) dX12_takesE_159 (by decide) ?_
      exact ab_sub [2, 3, 0] rfl h
    · have h := h.2 c8
      refine ab_iload_n 0 dX12_takesE_116 rfl ?_
      refine ab_bipush (v := 124) dX12_takesE_117 (by decide) ?_
      refine ab_icmp_ne (tgt := 162) dX12_takesE_119 (by decide) (fun c28 => ?_) (fun c28 => ?_)
      · have h := h.1 c28
        refine ab_aload_n 1 dX12_takesE_162 rfl ?_
        refine ab_bipush (v := 124) dX12_takesE_163 (by decide) ?_
        refine ab_callV (a := 62) (c0 := 12) (d' := d) (mc' := 0) (ms' := 0) (vs := [.int (124 : Int32)]) (st := []) dX12_takesE_165 ⟨cw_X12_settle, w_1235⟩ w_1237 w_36 (by decide) (hl6.sh 62 rfl (by decide) (by decide)).1 (hl6.sh 62 rfl (by decide) (by decide)).2 rfl rfl (Nat.le_of_ble_eq_true rfl) (Nat.le_refl _) (Nat.zero_le _) (Nat.zero_le _) (AM.mono h (fun r M29 ⟨hr31, hc32, h⟩ => ?_))
        subst hr31
        refine ab_rv ?_
        have hm33 : Sm M M29 := hm5.trans hc32
        have hl34 := hL.of hm33
        refine ab_aload_n 1 dX12_takesE_168 rfl ?_
        refine ab_getP (r := 69) dX12_takesE_169 fs_12_41_12 rfl (hl34.sh 62 rfl (by decide) (by decide)).1 (hl34.sh 62 rfl (by decide) (by decide)).2 (hl34.pt 67 rfl (by decide) (by decide)) ?_
        refine ab_iload_n 2 dX12_takesE_172 rfl ?_
        refine ab_aload_n 1 dX12_takesE_173 rfl ?_
        refine ab_getI dX12_takesE_174 fs_12_50_12 rfl (hl34.sh 62 rfl (by decide) (by decide)).1 (hl34.sh 62 rfl (by decide) (by decide)).2 ?_
        have hb35 := h.1
        have h := h.2
        refine ab_iastj (j := v1.toNatClampNeg) dX12_takesE_177 (hl34.sh 69 rfl (by decide) (by decide)) hb35 rfl ?_
        refine ab_nameM (fun M36 hM36 => ?_)
        have h := h M36 hM36
        have hs39 : Sm M29 M36 := hM36 ▸ (Sm.refl _).i
        have hm37 : Sm M M36 := hm33.trans hs39
        have hl38 := hL.of hm37
        refine ab_aload_n 1 dX12_takesE_178 rfl ?_
        refine ab_getI dX12_takesE_179 fs_12_53_12 rfl (hl38.sh 62 rfl (by decide) (by decide)).1 (hl38.sh 62 rfl (by decide) (by decide)).2 ?_
        refine ab_if_ne (tgt := 187) dX12_takesE_182 (by decide) (fun c40 => ?_) (fun c40 => ?_)
        · have h := h.1 c40
          refine ab_iload_n 0 dX12_takesE_187 rfl ?_
          refine ab_bipush (v := 41) dX12_takesE_188 (by decide) ?_
          refine ab_icmp_eq (tgt := 195) dX12_takesE_190 (by decide) (fun c41 => ?_) (fun c41 => ?_)
          · have h := h.1 c41
            refine ab_aload_n 1 dX12_takesE_195 rfl ?_
            refine ab_dup dX12_takesE_196 rfl ?_
            refine ab_getI dX12_takesE_197 fs_12_53_12 rfl (hl38.sh 62 rfl (by decide) (by decide)).1 (hl38.sh 62 rfl (by decide) (by decide)).2 ?_
            refine ab_iconst (v := 1) dX12_takesE_200 (by decide) ?_
            refine ab_isub dX12_takesE_201 ?_
            refine ab_putI dX12_takesE_202 fs_12_53_12 rfl rfl (hl38.sh 62 rfl (by decide) (by decide)).1 (hl38.sh 62 rfl (by decide) (by decide)).2 ?_
            refine ab_nameM (fun M42 hM42 => ?_)
            have h := h M42 hM42
            have hs45 : Sm M36 M42 := hM42 ▸ (Sm.refl _).i
            have hm43 : Sm M M42 := hm37.trans hs45
            have hl44 := hL.of hm43
            refine ab_aload_n 1 dX12_takesE_205 rfl ?_
            refine ab_dup dX12_takesE_206 rfl ?_
            refine ab_getI dX12_takesE_207 fs_12_56_12 rfl (hl44.sh 62 rfl (by decide) (by decide)).1 (hl44.sh 62 rfl (by decide) (by decide)).2 ?_
            refine ab_iconst (v := 1) dX12_takesE_210 (by decide) ?_
            refine ab_isub dX12_takesE_211 ?_
            refine ab_putI dX12_takesE_212 fs_12_56_12 rfl rfl (hl44.sh 62 rfl (by decide) (by decide)).1 (hl44.sh 62 rfl (by decide) (by decide)).2 ?_
            refine ab_nameM (fun M46 hM46 => ?_)
            have h := h M46 hM46
            have hs49 : Sm M42 M46 := hM46 ▸ (Sm.refl _).i
            have hm47 : Sm M M46 := hm43.trans hs49
            have hl48 := hL.of hm47
            refine ab_aload_n 1 dX12_takesE_215 rfl ?_
            refine ab_dup dX12_takesE_216 rfl ?_
            refine ab_getI dX12_takesE_217 fs_12_20_12 rfl (hl48.sh 62 rfl (by decide) (by decide)).1 (hl48.sh 62 rfl (by decide) (by decide)).2 ?_
            refine ab_iconst (v := 1) dX12_takesE_220 (by decide) ?_
            refine ab_iadd dX12_takesE_221 ?_
            refine ab_putI dX12_takesE_222 fs_12_20_12 rfl rfl (hl48.sh 62 rfl (by decide) (by decide)).1 (hl48.sh 62 rfl (by decide) (by decide)).2 ?_
            refine ab_nameM (fun M50 hM50 => ?_)
            have h := h M50 hM50
            have hs53 : Sm M46 M50 := hM50 ▸ (Sm.refl _).i
            have hm51 : Sm M M50 := hm47.trans hs53
            have hl52 := hL.of hm51
            refine ab_aload_n 1 dX12_takesE_225 rfl ?_
            refine ab_callV (a := 62) (c0 := 12) (d' := d) (mc' := 0) (ms' := 0) (vs := []) (st := []) dX12_takesE_226 ⟨cw_X12_whole, w_1231⟩ w_1233 w_35 (by decide) (hl52.sh 62 rfl (by decide) (by decide)).1 (hl52.sh 62 rfl (by decide) (by decide)).2 rfl rfl (Nat.le_of_ble_eq_true rfl) (Nat.le_refl _) (Nat.zero_le _) (Nat.zero_le _) (AM.mono h (fun r M54 ⟨hr56, hc57, h⟩ => ?_))
            subst hr56
            refine ab_rv ?_
            have hm58 : Sm M M54 := hm51.trans hc57
            have hl59 := hL.of hm58
            refine ab_goto (tgt := 22) dX12_takesE_229 (by decide) ?_
            exact ab_sub [1, 2, 3] rfl h
          · have h := h.2 c41
            refine ab_iconst (v := 0) dX12_takesE_193 (by decide) ?_
            exact ab_zret dX12_takesE_194 rfl rfl h
        · have h := h.2 c40
          refine ab_iconst (v := 1) dX12_takesE_185 (by decide) ?_
          exact ab_zret dX12_takesE_186 rfl rfl h
      · have h := h.2 c28
        refine ab_aload_n 1 dX12_takesE_122 rfl ?_
        refine ab_iload_n 0 dX12_takesE_123 rfl ?_
        refine ab_callV (a := 62) (c0 := 12) (d' := d) (mc' := 0) (ms' := 0) (vs := [.int x2]) (st := []) dX12_takesE_124 ⟨cw_X12_settle, w_1235⟩ w_1237 w_36 (by decide) (hl6.sh 62 rfl (by decide) (by decide)).1 (hl6.sh 62 rfl (by decide) (by decide)).2 rfl rfl (Nat.le_of_ble_eq_true rfl) (Nat.le_refl _) (Nat.zero_le _) (Nat.zero_le _) (AM.mono h (fun r M60 ⟨hr62, hc63, h⟩ => ?_))
        subst hr62
        refine ab_rv ?_
        have hm64 : Sm M M60 := hm5.trans hc63
        have hl65 := hL.of hm64
        refine ab_aload_n 1 dX12_takesE_127 rfl ?_
        refine ab_getP (r := 71) dX12_takesE_128 fs_12_47_12 rfl (hl65.sh 62 rfl (by decide) (by decide)).1 (hl65.sh 62 rfl (by decide) (by decide)).2 (hl65.pt 69 rfl (by decide) (by decide)) ?_
        refine ab_aload_n 1 dX12_takesE_131 rfl ?_
        refine ab_getI dX12_takesE_132 fs_12_53_12 rfl (hl65.sh 62 rfl (by decide) (by decide)).1 (hl65.sh 62 rfl (by decide) (by decide)).2 ?_
        refine ab_iload_n 0 dX12_takesE_135 rfl ?_
        have hb66 := h.1
        have h := h.2
        refine ab_iastj (j := (gI M60 62 14).toNatClampNeg) dX12_takesE_136 (hl65.sh 71 rfl (by decide) (by decide)) hb66 rfl ?_
        refine ab_nameM (fun M67 hM67 => ?_)
        have h := h M67 hM67
        have hs70 : Sm M60 M67 := hM67 ▸ (Sm.refl _).i
        have hm68 : Sm M M67 := hm64.trans hs70
        have hl69 := hL.of hm68
        refine ab_aload_n 1 dX12_takesE_137 rfl ?_
        refine ab_dup dX12_takesE_138 rfl ?_
        refine ab_getI dX12_takesE_139 fs_12_53_12 rfl (hl69.sh 62 rfl (by decide) (by decide)).1 (hl69.sh 62 rfl (by decide) (by decide)).2 ?_
        refine ab_iconst (v := 1) dX12_takesE_142 (by decide) ?_
        refine ab_iadd dX12_takesE_143 ?_
        refine ab_putI dX12_takesE_144 fs_12_53_12 rfl rfl (hl69.sh 62 rfl (by decide) (by decide)).1 (hl69.sh 62 rfl (by decide) (by decide)).2 ?_
        refine ab_nameM (fun M71 hM71 => ?_)
        have h := h M71 hM71
        have hs74 : Sm M67 M71 := hM71 ▸ (Sm.refl _).i
        have hm72 : Sm M M71 := hm68.trans hs74
        have hl73 := hL.of hm72
        refine ab_iconst (v := 1) dX12_takesE_147 (by decide) ?_
        refine ab_istore_n (lv1 := [(2, .int (1 : Int32)), (3, .int x2), (0, .ref 62), (1, .int v1)]) dX12_takesE_148 (by decide) rfl ?_
        refine ab_aload_n 2 dX12_takesE_149 rfl ?_
        refine ab_dup dX12_takesE_150 rfl ?_
        refine ab_getI dX12_takesE_151 fs_12_20_12 rfl (hl73.sh 62 rfl (by decide) (by decide)).1 (hl73.sh 62 rfl (by decide) (by decide)).2 ?_
        refine ab_iconst (v := 1) dX12_takesE_154 (by decide) ?_
        refine ab_iadd dX12_takesE_155 ?_
        refine ab_putI dX12_takesE_156 fs_12_20_12 rfl rfl (hl73.sh 62 rfl (by decide) (by decide)).1 (hl73.sh 62 rfl (by decide) (by decide)).2 ?_
        refine ab_nameM (fun M75 hM75 => ?_)
        have h := h M75 hM75
        have hs78 : Sm M71 M75 := hM75 ▸ (Sm.refl _).i
        have hm76 : Sm M M75 := hm72.trans hs78
        have hl77 := hL.of hm76
        refine ab_goto (tgt := 22) dX12_takesE_159 (by decide) ?_
        exact ab_sub [2, 3, 0] rfl h
  · have h := h.2 c7
    refine ab_iload_n 0 dX12_takesE_31 rfl ?_
    refine ab_bipush (v := 33) dX12_takesE_32 (by decide) ?_
    refine ab_icmp_eq (tgt := 43) dX12_takesE_34 (by decide) (fun c79 => ?_) (fun c79 => ?_)
    · have h := h.1 c79
      refine ab_aload_n 1 dX12_takesE_43 rfl ?_
      refine ab_getI dX12_takesE_44 fs_12_56_12 rfl (hl6.sh 62 rfl (by decide) (by decide)).1 (hl6.sh 62 rfl (by decide) (by decide)).2 ?_
      refine ab_iconst (v := 4) dX12_takesE_47 (by decide) ?_
      refine ab_icmp_ne (tgt := 53) dX12_takesE_48 (by decide) (fun c80 => ?_) (fun c80 => ?_)
      · have h := h.1 c80
        refine ab_aload_n 1 dX12_takesE_53 rfl ?_
        refine ab_dup dX12_takesE_54 rfl ?_
        refine ab_getI dX12_takesE_55 fs_12_56_12 rfl (hl6.sh 62 rfl (by decide) (by decide)).1 (hl6.sh 62 rfl (by decide) (by decide)).2 ?_
        refine ab_iconst (v := 1) dX12_takesE_58 (by decide) ?_
        refine ab_iadd dX12_takesE_59 ?_
        refine ab_putI dX12_takesE_60 fs_12_56_12 rfl rfl (hl6.sh 62 rfl (by decide) (by decide)).1 (hl6.sh 62 rfl (by decide) (by decide)).2 ?_
        refine ab_nameM (fun M81 hM81 => ?_)
        have h := h M81 hM81
        have hs84 : Sm M1 M81 := hM81 ▸ (Sm.refl _).i
        have hm82 : Sm M M81 := hm5.trans hs84
        have hl83 := hL.of hm82
        refine ab_aload_n 1 dX12_takesE_63 rfl ?_
        refine ab_getP (r := 71) dX12_takesE_64 fs_12_47_12 rfl (hl83.sh 62 rfl (by decide) (by decide)).1 (hl83.sh 62 rfl (by decide) (by decide)).2 (hl83.pt 69 rfl (by decide) (by decide)) ?_
        refine ab_aload_n 1 dX12_takesE_67 rfl ?_
        refine ab_getI dX12_takesE_68 fs_12_53_12 rfl (hl83.sh 62 rfl (by decide) (by decide)).1 (hl83.sh 62 rfl (by decide) (by decide)).2 ?_
        refine ab_iload_n 0 dX12_takesE_71 rfl ?_
        have hb85 := h.1
        have h := h.2
        refine ab_iastj (j := (gI M81 62 14).toNatClampNeg) dX12_takesE_72 (hl83.sh 71 rfl (by decide) (by decide)) hb85 rfl ?_
        refine ab_nameM (fun M86 hM86 => ?_)
        have h := h M86 hM86
        have hs89 : Sm M81 M86 := hM86 ▸ (Sm.refl _).i
        have hm87 : Sm M M86 := hm82.trans hs89
        have hl88 := hL.of hm87
        refine ab_aload_n 1 dX12_takesE_73 rfl ?_
        refine ab_dup dX12_takesE_74 rfl ?_
        refine ab_getI dX12_takesE_75 fs_12_53_12 rfl (hl88.sh 62 rfl (by decide) (by decide)).1 (hl88.sh 62 rfl (by decide) (by decide)).2 ?_
        refine ab_iconst (v := 1) dX12_takesE_78 (by decide) ?_
        refine ab_iadd dX12_takesE_79 ?_
        refine ab_putI dX12_takesE_80 fs_12_53_12 rfl rfl (hl88.sh 62 rfl (by decide) (by decide)).1 (hl88.sh 62 rfl (by decide) (by decide)).2 ?_
        refine ab_nameM (fun M90 hM90 => ?_)
        have h := h M90 hM90
        have hs93 : Sm M86 M90 := hM90 ▸ (Sm.refl _).i
        have hm91 : Sm M M90 := hm87.trans hs93
        have hl92 := hL.of hm91
        refine ab_aload_n 1 dX12_takesE_83 rfl ?_
        refine ab_dup dX12_takesE_84 rfl ?_
        refine ab_getI dX12_takesE_85 fs_12_20_12 rfl (hl92.sh 62 rfl (by decide) (by decide)).1 (hl92.sh 62 rfl (by decide) (by decide)).2 ?_
        refine ab_iconst (v := 1) dX12_takesE_88 (by decide) ?_
        refine ab_iadd dX12_takesE_89 ?_
        refine ab_putI dX12_takesE_90 fs_12_20_12 rfl rfl (hl92.sh 62 rfl (by decide) (by decide)).1 (hl92.sh 62 rfl (by decide) (by decide)).2 ?_
        refine ab_nameM (fun M94 hM94 => ?_)
        have h := h M94 hM94
        have hs97 : Sm M90 M94 := hM94 ▸ (Sm.refl _).i
        have hm95 : Sm M M94 := hm91.trans hs97
        have hl96 := hL.of hm95
        refine ab_goto (tgt := 22) dX12_takesE_93 (by decide) ?_
        exact ab_sub [1, 2, 3] rfl h
      · have h := h.2 c80
        refine ab_iconst (v := 0) dX12_takesE_51 (by decide) ?_
        exact ab_zret dX12_takesE_52 rfl rfl h
    · have h := h.2 c79
      refine ab_iload_n 0 dX12_takesE_37 rfl ?_
      refine ab_bipush (v := 40) dX12_takesE_38 (by decide) ?_
      refine ab_icmp_ne (tgt := 96) dX12_takesE_40 (by decide) (fun c98 => ?_) (fun c98 => ?_)
      · have h := h.1 c98
        refine ab_aload_n 1 dX12_takesE_96 rfl ?_
        refine ab_callV (a := 62) (c0 := 12) (d' := d) (mc' := 0) (ms' := 0) (vs := []) (st := []) dX12_takesE_97 ⟨cw_X12_takesTest, w_1219⟩ w_1221 w_32 (by decide) (hl6.sh 62 rfl (by decide) (by decide)).1 (hl6.sh 62 rfl (by decide) (by decide)).2 rfl rfl (Nat.le_of_ble_eq_true rfl) (Nat.le_refl _) (Nat.zero_le _) (Nat.zero_le _) (AM.mono h (fun r M99 ⟨x100, hr101, hc102, h⟩ => ?_))
        subst hr101
        refine ab_rs ?_
        have hm103 : Sm M M99 := hm5.trans hc102
        have hl104 := hL.of hm103
        refine ab_if_eq (tgt := 108) dX12_takesE_100 (by decide) (fun c105 => ?_) (fun c105 => ?_)
        · have h := h.1 c105
          refine ab_iconst (v := 0) dX12_takesE_108 (by decide) ?_
          exact ab_zret dX12_takesE_109 rfl rfl h
        · have h := h.2 c105
          refine ab_iconst (v := 0) dX12_takesE_103 (by decide) ?_
          refine ab_istore_n (lv1 := [(2, .int (0 : Int32)), (3, .int x2), (0, .ref 62), (1, .int v1)]) dX12_takesE_104 (by decide) rfl ?_
          refine ab_goto (tgt := 22) dX12_takesE_105 (by decide) ?_
          exact ab_sub [2, 3, 0] rfl h
      · have h := h.2 c98
        refine ab_aload_n 1 dX12_takesE_43 rfl ?_
        refine ab_getI dX12_takesE_44 fs_12_56_12 rfl (hl6.sh 62 rfl (by decide) (by decide)).1 (hl6.sh 62 rfl (by decide) (by decide)).2 ?_
        refine ab_iconst (v := 4) dX12_takesE_47 (by decide) ?_
        refine ab_icmp_ne (tgt := 53) dX12_takesE_48 (by decide) (fun c106 => ?_) (fun c106 => ?_)
        · have h := h.1 c106
          refine ab_aload_n 1 dX12_takesE_53 rfl ?_
          refine ab_dup dX12_takesE_54 rfl ?_
          refine ab_getI dX12_takesE_55 fs_12_56_12 rfl (hl6.sh 62 rfl (by decide) (by decide)).1 (hl6.sh 62 rfl (by decide) (by decide)).2 ?_
          refine ab_iconst (v := 1) dX12_takesE_58 (by decide) ?_
          refine ab_iadd dX12_takesE_59 ?_
          refine ab_putI dX12_takesE_60 fs_12_56_12 rfl rfl (hl6.sh 62 rfl (by decide) (by decide)).1 (hl6.sh 62 rfl (by decide) (by decide)).2 ?_
          refine ab_nameM (fun M107 hM107 => ?_)
          have h := h M107 hM107
          have hs110 : Sm M1 M107 := hM107 ▸ (Sm.refl _).i
          have hm108 : Sm M M107 := hm5.trans hs110
          have hl109 := hL.of hm108
          refine ab_aload_n 1 dX12_takesE_63 rfl ?_
          refine ab_getP (r := 71) dX12_takesE_64 fs_12_47_12 rfl (hl109.sh 62 rfl (by decide) (by decide)).1 (hl109.sh 62 rfl (by decide) (by decide)).2 (hl109.pt 69 rfl (by decide) (by decide)) ?_
          refine ab_aload_n 1 dX12_takesE_67 rfl ?_
          refine ab_getI dX12_takesE_68 fs_12_53_12 rfl (hl109.sh 62 rfl (by decide) (by decide)).1 (hl109.sh 62 rfl (by decide) (by decide)).2 ?_
          refine ab_iload_n 0 dX12_takesE_71 rfl ?_
          have hb111 := h.1
          have h := h.2
          refine ab_iastj (j := (gI M107 62 14).toNatClampNeg) dX12_takesE_72 (hl109.sh 71 rfl (by decide) (by decide)) hb111 rfl ?_
          refine ab_nameM (fun M112 hM112 => ?_)
          have h := h M112 hM112
          have hs115 : Sm M107 M112 := hM112 ▸ (Sm.refl _).i
          have hm113 : Sm M M112 := hm108.trans hs115
          have hl114 := hL.of hm113
          refine ab_aload_n 1 dX12_takesE_73 rfl ?_
          refine ab_dup dX12_takesE_74 rfl ?_
          refine ab_getI dX12_takesE_75 fs_12_53_12 rfl (hl114.sh 62 rfl (by decide) (by decide)).1 (hl114.sh 62 rfl (by decide) (by decide)).2 ?_
          refine ab_iconst (v := 1) dX12_takesE_78 (by decide) ?_
          refine ab_iadd dX12_takesE_79 ?_
          refine ab_putI dX12_takesE_80 fs_12_53_12 rfl rfl (hl114.sh 62 rfl (by decide) (by decide)).1 (hl114.sh 62 rfl (by decide) (by decide)).2 ?_
          refine ab_nameM (fun M116 hM116 => ?_)
          have h := h M116 hM116
          have hs119 : Sm M112 M116 := hM116 ▸ (Sm.refl _).i
          have hm117 : Sm M M116 := hm113.trans hs119
          have hl118 := hL.of hm117
          refine ab_aload_n 1 dX12_takesE_83 rfl ?_
          refine ab_dup dX12_takesE_84 rfl ?_
          refine ab_getI dX12_takesE_85 fs_12_20_12 rfl (hl118.sh 62 rfl (by decide) (by decide)).1 (hl118.sh 62 rfl (by decide) (by decide)).2 ?_
          refine ab_iconst (v := 1) dX12_takesE_88 (by decide) ?_
          refine ab_iadd dX12_takesE_89 ?_
          refine ab_putI dX12_takesE_90 fs_12_20_12 rfl rfl (hl118.sh 62 rfl (by decide) (by decide)).1 (hl118.sh 62 rfl (by decide) (by decide)).2 ?_
          refine ab_nameM (fun M120 hM120 => ?_)
          have h := h M120 hM120
          have hs123 : Sm M116 M120 := hM120 ▸ (Sm.refl _).i
          have hm121 : Sm M M120 := hm117.trans hs123
          have hl122 := hL.of hm121
          refine ab_goto (tgt := 22) dX12_takesE_93 (by decide) ?_
          exact ab_sub [1, 2, 3] rfl h
        · have h := h.2 c106
          refine ab_iconst (v := 0) dX12_takesE_51 (by decide) ?_
          exact ab_zret dX12_takesE_52 rfl rfl h
theorem dX12_takesClause_0 : decode cX12_takesClause 0 = .ok (.aload_n 0, 1) := by decide +kernel
theorem dX12_takesClause_1 : decode cX12_takesClause 1 = .ok (.getfield 32, 3) := by decide +kernel
theorem dX12_takesClause_4 : decode cX12_takesClause 4 = .ok (.iload_n 1, 1) := by decide +kernel
theorem dX12_takesClause_5 : decode cX12_takesClause 5 = .ok (.iconst 3, 1) := by decide +kernel
theorem dX12_takesClause_6 : decode cX12_takesClause 6 = .ok (.iastore, 1) := by decide +kernel
theorem dX12_takesClause_7 : decode cX12_takesClause 7 = .ok (.aload_n 0, 1) := by decide +kernel
theorem dX12_takesClause_8 : decode cX12_takesClause 8 = .ok (.invokevirtual 188, 3) := by decide +kernel
theorem dX12_takesClause_11 : decode cX12_takesClause 11 = .ok (.bipush 103, 2) := by decide +kernel
theorem dX12_takesClause_13 : decode cX12_takesClause 13 = .ok (.if_icmp .ne 65, 3) := by decide +kernel
theorem dX12_takesClause_16 : decode cX12_takesClause 16 = .ok (.aload_n 0, 1) := by decide +kernel
theorem dX12_takesClause_17 : decode cX12_takesClause 17 = .ok (.sipush 239, 3) := by decide +kernel
theorem dX12_takesClause_20 : decode cX12_takesClause 20 = .ok (.iconst 2, 1) := by decide +kernel
theorem dX12_takesClause_21 : decode cX12_takesClause 21 = .ok (.invokevirtual 219, 3) := by decide +kernel
theorem dX12_takesClause_24 : decode cX12_takesClause 24 = .ok (.ifCond .eq 18, 3) := by decide +kernel
theorem dX12_takesClause_27 : decode cX12_takesClause 27 = .ok (.aload_n 0, 1) := by decide +kernel
theorem dX12_takesClause_28 : decode cX12_takesClause 28 = .ok (.aload_n 0, 1) := by decide +kernel
theorem dX12_takesClause_29 : decode cX12_takesClause 29 = .ok (.invokevirtual 188, 3) := by decide +kernel
theorem dX12_takesClause_32 : decode cX12_takesClause 32 = .ok (.bipush 48, 2) := by decide +kernel
theorem dX12_takesClause_34 : decode cX12_takesClause 34 = .ok (.bipush 50, 2) := by decide +kernel
theorem dX12_takesClause_36 : decode cX12_takesClause 36 = .ok (.invokevirtual 180, 3) := by decide +kernel
theorem dX12_takesClause_39 : decode cX12_takesClause 39 = .ok (.ifCond .ne 5, 3) := by decide +kernel
theorem dX12_takesClause_42 : decode cX12_takesClause 42 = .ok (.iconst 0, 1) := by decide +kernel
theorem dX12_takesClause_43 : decode cX12_takesClause 43 = .ok (.ireturn, 1) := by decide +kernel
theorem dX12_takesClause_44 : decode cX12_takesClause 44 = .ok (.aload_n 0, 1) := by decide +kernel
theorem dX12_takesClause_45 : decode cX12_takesClause 45 = .ok (.getfield 32, 3) := by decide +kernel
theorem dX12_takesClause_48 : decode cX12_takesClause 48 = .ok (.iload_n 1, 1) := by decide +kernel
theorem dX12_takesClause_49 : decode cX12_takesClause 49 = .ok (.aload_n 0, 1) := by decide +kernel
theorem dX12_takesClause_50 : decode cX12_takesClause 50 = .ok (.invokevirtual 188, 3) := by decide +kernel
theorem dX12_takesClause_53 : decode cX12_takesClause 53 = .ok (.bipush 48, 2) := by decide +kernel
theorem dX12_takesClause_55 : decode cX12_takesClause 55 = .ok (.isub, 1) := by decide +kernel
theorem dX12_takesClause_56 : decode cX12_takesClause 56 = .ok (.iastore, 1) := by decide +kernel
theorem dX12_takesClause_57 : decode cX12_takesClause 57 = .ok (.aload_n 0, 1) := by decide +kernel
theorem dX12_takesClause_58 : decode cX12_takesClause 58 = .ok (.dup, 1) := by decide +kernel
theorem dX12_takesClause_59 : decode cX12_takesClause 59 = .ok (.getfield 20, 3) := by decide +kernel
theorem dX12_takesClause_62 : decode cX12_takesClause 62 = .ok (.iconst 1, 1) := by decide +kernel
theorem dX12_takesClause_63 : decode cX12_takesClause 63 = .ok (.iadd, 1) := by decide +kernel
theorem dX12_takesClause_64 : decode cX12_takesClause 64 = .ok (.putfield 20, 3) := by decide +kernel
theorem dX12_takesClause_67 : decode cX12_takesClause 67 = .ok (.aload_n 0, 1) := by decide +kernel
theorem dX12_takesClause_68 : decode cX12_takesClause 68 = .ok (.bipush 32, 2) := by decide +kernel
theorem dX12_takesClause_70 : decode cX12_takesClause 70 = .ok (.invokevirtual 192, 3) := by decide +kernel
theorem dX12_takesClause_73 : decode cX12_takesClause 73 = .ok (.ifCond .ne 17, 3) := by decide +kernel
theorem dX12_takesClause_76 : decode cX12_takesClause 76 = .ok (.iconst 0, 1) := by decide +kernel
theorem dX12_takesClause_77 : decode cX12_takesClause 77 = .ok (.ireturn, 1) := by decide +kernel
theorem dX12_takesClause_78 : decode cX12_takesClause 78 = .ok (.aload_n 0, 1) := by decide +kernel
theorem dX12_takesClause_79 : decode cX12_takesClause 79 = .ok (.ldc 223, 2) := by decide +kernel
theorem dX12_takesClause_81 : decode cX12_takesClause 81 = .ok (.iconst 5, 1) := by decide +kernel
theorem dX12_takesClause_82 : decode cX12_takesClause 82 = .ok (.invokevirtual 219, 3) := by decide +kernel
theorem dX12_takesClause_85 : decode cX12_takesClause 85 = .ok (.ifCond .ne 5, 3) := by decide +kernel
theorem dX12_takesClause_88 : decode cX12_takesClause 88 = .ok (.iconst 0, 1) := by decide +kernel
theorem dX12_takesClause_89 : decode cX12_takesClause 89 = .ok (.ireturn, 1) := by decide +kernel
theorem dX12_takesClause_90 : decode cX12_takesClause 90 = .ok (.aload_n 0, 1) := by decide +kernel
theorem dX12_takesClause_91 : decode cX12_takesClause 91 = .ok (.invokevirtual 207, 3) := by decide +kernel
theorem dX12_takesClause_94 : decode cX12_takesClause 94 = .ok (.ifCond .ne 5, 3) := by decide +kernel
theorem dX12_takesClause_97 : decode cX12_takesClause 97 = .ok (.iconst 0, 1) := by decide +kernel
theorem dX12_takesClause_98 : decode cX12_takesClause 98 = .ok (.ireturn, 1) := by decide +kernel
theorem dX12_takesClause_99 : decode cX12_takesClause 99 = .ok (.aload_n 0, 1) := by decide +kernel
theorem dX12_takesClause_100 : decode cX12_takesClause 100 = .ok (.getfield 35, 3) := by decide +kernel
theorem dX12_takesClause_103 : decode cX12_takesClause 103 = .ok (.iload_n 1, 1) := by decide +kernel
theorem dX12_takesClause_104 : decode cX12_takesClause 104 = .ok (.aload_n 0, 1) := by decide +kernel
theorem dX12_takesClause_105 : decode cX12_takesClause 105 = .ok (.getfield 23, 3) := by decide +kernel
theorem dX12_takesClause_108 : decode cX12_takesClause 108 = .ok (.iastore, 1) := by decide +kernel
theorem dX12_takesClause_109 : decode cX12_takesClause 109 = .ok (.aload_n 0, 1) := by decide +kernel
theorem dX12_takesClause_110 : decode cX12_takesClause 110 = .ok (.bipush 32, 2) := by decide +kernel
theorem dX12_takesClause_112 : decode cX12_takesClause 112 = .ok (.invokevirtual 192, 3) := by decide +kernel
theorem dX12_takesClause_115 : decode cX12_takesClause 115 = .ok (.ifCond .eq 15, 3) := by decide +kernel
theorem dX12_takesClause_118 : decode cX12_takesClause 118 = .ok (.aload_n 0, 1) := by decide +kernel
theorem dX12_takesClause_119 : decode cX12_takesClause 119 = .ok (.iload_n 1, 1) := by decide +kernel
theorem dX12_takesClause_120 : decode cX12_takesClause 120 = .ok (.invokevirtual 224, 3) := by decide +kernel
theorem dX12_takesClause_123 : decode cX12_takesClause 123 = .ok (.ifCond .eq 7, 3) := by decide +kernel
theorem dX12_takesClause_126 : decode cX12_takesClause 126 = .ok (.iconst 1, 1) := by decide +kernel
theorem dX12_takesClause_127 : decode cX12_takesClause 127 = .ok (.goto 4, 3) := by decide +kernel
theorem dX12_takesClause_130 : decode cX12_takesClause 130 = .ok (.iconst 0, 1) := by decide +kernel
theorem dX12_takesClause_131 : decode cX12_takesClause 131 = .ok (.ireturn, 1) := by decide +kernel
set_option maxRecDepth 20000 in
theorem rX12_takesClause (D : GD) (d : Nat) (a1 : Int32) (M : Mm) (post : Option Value → Mm → Prop) (hL : Lay 62 98 M) 
    (h : vp_in a1 56 ∧ ∀ M2 : Mm, M2 = sI M 66 a1.toNatClampNeg (3 : Int32) → AMi D d mX12_next [.ref 62] M2 (fun x7 M6 => ((¬ x7 = (103 : Int32) → AMi D d mX12_takesWord [.ref 62, .int (17372787 : Int32), .int (5 : Int32)] M6 (fun x14 M13 => ((¬ x14 = 0 → AMi D d mX12_takesNumber [.ref 62] M13 (fun x21 M20 => ((¬ x21 = 0 → ∀ M27 : Mm, M27 = sI M20 67 a1.toNatClampNeg (gI M20 62 4) → AMi D d mX12_takes [.ref 62, .int (32 : Int32)] M27 (fun x32 M31 => ((x32 = 0 → post (some (.int (0 : Int32))) M31) ∧ (¬ x32 = 0 → AMi D d mX12_takesE [.ref 62, .int a1] M31 (fun x39 M38 => ((x39 = 0 → post (some (.int (0 : Int32))) M38) ∧ (¬ x39 = 0 → post (some (.int (1 : Int32))) M38))))))) ∧ (x21 = 0 → post (some (.int (0 : Int32))) M20)))) ∧ (x14 = 0 → post (some (.int (0 : Int32))) M13)))) ∧ (x7 = (103 : Int32) → AMi D d mX12_takesWord [.ref 62, .int (239 : Int32), .int (2 : Int32)] M6 (fun x46 M45 => ((x46 = 0 → post (some (.int (0 : Int32))) M45) ∧ (¬ x46 = 0 → AMi D d mX12_next [.ref 62] M45 (fun x53 M52 => AMi D d mX12_in [.ref 62, .int x53, .int (48 : Int32), .int (50 : Int32)] M52 (fun x59 M58 => ((¬ x59 = 0 → AMi D d mX12_next [.ref 62] M58 (fun x66 M65 => ∀ M71 : Mm, M71 = sI M65 66 a1.toNatClampNeg (x66 - (48 : Int32)) → ∀ M75 : Mm, M75 = sI M71 62 3 ((gI M71 62 3) + (1 : Int32)) → AMi D d mX12_takes [.ref 62, .int (32 : Int32)] M75 (fun x80 M79 => ((¬ x80 = 0 → AMi D d mX12_takesNumber [.ref 62] M79 (fun x87 M86 => ((¬ x87 = 0 → ∀ M93 : Mm, M93 = sI M86 67 a1.toNatClampNeg (gI M86 62 4) → AMi D d mX12_takes [.ref 62, .int (32 : Int32)] M93 (fun x98 M97 => ((x98 = 0 → post (some (.int (0 : Int32))) M97) ∧ (¬ x98 = 0 → AMi D d mX12_takesE [.ref 62, .int a1] M97 (fun x105 M104 => ((x105 = 0 → post (some (.int (0 : Int32))) M104) ∧ (¬ x105 = 0 → post (some (.int (1 : Int32))) M104))))))) ∧ (x87 = 0 → post (some (.int (0 : Int32))) M86)))) ∧ (x80 = 0 → post (some (.int (0 : Int32))) M79))))) ∧ (x59 = 0 → post (some (.int (0 : Int32))) M58))))))))))) :
    AM D (d + 1) 0 0 mX12_takesClause [.ref 62, .int a1] M post := by
  refine AM.of (by decide) (Nat.le_of_ble_eq_true rfl) ?_
  show AW D (d + 1) 0 0 mX12_takesClause 0 0 0 [(0, .ref 62), (1, .int a1)] [] M post
  refine ab_aload_n 0 dX12_takesClause_0 rfl ?_
  refine ab_getP (r := 66) dX12_takesClause_1 fs_12_32_12 rfl (hL.sh 62 rfl (by decide) (by decide)).1 (hL.sh 62 rfl (by decide) (by decide)).2 (hL.pt 64 rfl (by decide) (by decide)) ?_
  refine ab_iload_n 1 dX12_takesClause_4 rfl ?_
  refine ab_iconst (v := 3) dX12_takesClause_5 (by decide) ?_
  have hb1 := h.1
  have h := h.2
  refine ab_iastj (j := a1.toNatClampNeg) dX12_takesClause_6 (hL.sh 66 rfl (by decide) (by decide)) hb1 rfl ?_
  refine ab_nameM (fun M2 hM2 => ?_)
  have h := h M2 hM2
  have hs5 : Sm M M2 := hM2 ▸ (Sm.refl _).i
  have hm3 : Sm M M2 := (Sm.refl M).trans hs5
  have hl4 := hL.of hm3
  refine ab_aload_n 0 dX12_takesClause_7 rfl ?_
  refine ab_callV (a := 62) (c0 := 12) (d' := d) (mc' := 0) (ms' := 0) (vs := []) (st := []) dX12_takesClause_8 ⟨cw_X12_next, w_1194⟩ w_1196 w_26 (by decide) (hl4.sh 62 rfl (by decide) (by decide)).1 (hl4.sh 62 rfl (by decide) (by decide)).2 rfl rfl (Nat.le_of_ble_eq_true rfl) (Nat.le_refl _) (Nat.zero_le _) (Nat.zero_le _) (AM.mono h (fun r M6 ⟨x7, hr8, hc9, h⟩ => ?_))
  subst hr8
  refine ab_rs ?_
  have hm10 : Sm M M6 := hm3.trans hc9
  have hl11 := hL.of hm10
  refine ab_bipush (v := 103) dX12_takesClause_11 (by decide) ?_
  refine ab_icmp_ne (tgt := 78) dX12_takesClause_13 (by decide) (fun c12 => ?_) (fun c12 => ?_)
  · have h := h.1 c12
    refine ab_aload_n 0 dX12_takesClause_78 rfl ?_
    refine ab_ldc dX12_takesClause_79 w_1206 ?_
    refine ab_iconst (v := 5) dX12_takesClause_81 (by decide) ?_
    refine ab_callV (a := 62) (c0 := 12) (d' := d) (mc' := 0) (ms' := 0) (vs := [.int (17372787 : Int32), .int (5 : Int32)]) (st := []) dX12_takesClause_82 ⟨cw_X12_takesWord, w_1198⟩ w_1200 w_27 (by decide) (hl11.sh 62 rfl (by decide) (by decide)).1 (hl11.sh 62 rfl (by decide) (by decide)).2 rfl rfl (Nat.le_of_ble_eq_true rfl) (Nat.le_refl _) (Nat.zero_le _) (Nat.zero_le _) (AM.mono h (fun r M13 ⟨x14, hr15, hc16, h⟩ => ?_))
    subst hr15
    refine ab_rs ?_
    have hm17 : Sm M M13 := hm10.trans hc16
    have hl18 := hL.of hm17
    refine ab_if_ne (tgt := 90) dX12_takesClause_85 (by decide) (fun c19 => ?_) (fun c19 => ?_)
    · have h := h.1 c19
      refine ab_aload_n 0 dX12_takesClause_90 rfl ?_
      refine ab_callV (a := 62) (c0 := 12) (d' := d) (mc' := 0) (ms' := 0) (vs := []) (st := []) dX12_takesClause_91 ⟨cw_X12_takesNumber, w_1207⟩ w_1209 w_29 (by decide) (hl18.sh 62 rfl (by decide) (by decide)).1 (hl18.sh 62 rfl (by decide) (by decide)).2 rfl rfl (Nat.le_of_ble_eq_true rfl) (Nat.le_refl _) (Nat.zero_le _) (Nat.zero_le _) (AM.mono h (fun r M20 ⟨x21, hr22, hc23, h⟩ => ?_))
      subst hr22
      refine ab_rs ?_
      have hm24 : Sm M M20 := hm17.trans hc23
      have hl25 := hL.of hm24
      refine ab_if_ne (tgt := 99) dX12_takesClause_94 (by decide) (fun c26 => ?_) (fun c26 => ?_)
      · have h := h.1 c26
        refine ab_aload_n 0 dX12_takesClause_99 rfl ?_
        refine ab_getP (r := 67) dX12_takesClause_100 fs_12_35_12 rfl (hl25.sh 62 rfl (by decide) (by decide)).1 (hl25.sh 62 rfl (by decide) (by decide)).2 (hl25.pt 65 rfl (by decide) (by decide)) ?_
        refine ab_iload_n 1 dX12_takesClause_103 rfl ?_
        refine ab_aload_n 0 dX12_takesClause_104 rfl ?_
        refine ab_getI dX12_takesClause_105 fs_12_23_12 rfl (hl25.sh 62 rfl (by decide) (by decide)).1 (hl25.sh 62 rfl (by decide) (by decide)).2 ?_
        refine ab_iastj (j := a1.toNatClampNeg) dX12_takesClause_108 (hl25.sh 67 rfl (by decide) (by decide)) hb1 rfl ?_
        refine ab_nameM (fun M27 hM27 => ?_)
        have h := h M27 hM27
        have hs30 : Sm M20 M27 := hM27 ▸ (Sm.refl _).i
        have hm28 : Sm M M27 := hm24.trans hs30
        have hl29 := hL.of hm28
        refine ab_aload_n 0 dX12_takesClause_109 rfl ?_
        refine ab_bipush (v := 32) dX12_takesClause_110 (by decide) ?_
        refine ab_callV (a := 62) (c0 := 12) (d' := d) (mc' := 0) (ms' := 0) (vs := [.int (32 : Int32)]) (st := []) dX12_takesClause_112 ⟨cw_X12_takes, w_1202⟩ w_1204 w_28 (by decide) (hl29.sh 62 rfl (by decide) (by decide)).1 (hl29.sh 62 rfl (by decide) (by decide)).2 rfl rfl (Nat.le_of_ble_eq_true rfl) (Nat.le_refl _) (Nat.zero_le _) (Nat.zero_le _) (AM.mono h (fun r M31 ⟨x32, hr33, hc34, h⟩ => ?_))
        subst hr33
        refine ab_rs ?_
        have hm35 : Sm M M31 := hm28.trans hc34
        have hl36 := hL.of hm35
        refine ab_if_eq (tgt := 130) dX12_takesClause_115 (by decide) (fun c37 => ?_) (fun c37 => ?_)
        · have h := h.1 c37
          refine ab_iconst (v := 0) dX12_takesClause_130 (by decide) ?_
          exact ab_zret dX12_takesClause_131 rfl rfl h
        · have h := h.2 c37
          refine ab_aload_n 0 dX12_takesClause_118 rfl ?_
          refine ab_iload_n 1 dX12_takesClause_119 rfl ?_
          refine ab_callV (a := 62) (c0 := 12) (d' := d) (mc' := 0) (ms' := 0) (vs := [.int a1]) (st := []) dX12_takesClause_120 ⟨cw_X12_takesE, w_1215⟩ w_1217 w_31 (by decide) (hl36.sh 62 rfl (by decide) (by decide)).1 (hl36.sh 62 rfl (by decide) (by decide)).2 rfl rfl (Nat.le_of_ble_eq_true rfl) (Nat.le_refl _) (Nat.zero_le _) (Nat.zero_le _) (AM.mono h (fun r M38 ⟨x39, hr40, hc41, h⟩ => ?_))
          subst hr40
          refine ab_rs ?_
          have hm42 : Sm M M38 := hm35.trans hc41
          have hl43 := hL.of hm42
          refine ab_if_eq (tgt := 130) dX12_takesClause_123 (by decide) (fun c44 => ?_) (fun c44 => ?_)
          · have h := h.1 c44
            refine ab_iconst (v := 0) dX12_takesClause_130 (by decide) ?_
            exact ab_zret dX12_takesClause_131 rfl rfl h
          · have h := h.2 c44
            refine ab_iconst (v := 1) dX12_takesClause_126 (by decide) ?_
            refine ab_goto (tgt := 131) dX12_takesClause_127 (by decide) ?_
            exact ab_zret dX12_takesClause_131 rfl rfl h
      · have h := h.2 c26
        refine ab_iconst (v := 0) dX12_takesClause_97 (by decide) ?_
        exact ab_zret dX12_takesClause_98 rfl rfl h
    · have h := h.2 c19
      refine ab_iconst (v := 0) dX12_takesClause_88 (by decide) ?_
      exact ab_zret dX12_takesClause_89 rfl rfl h
  · have h := h.2 c12
    refine ab_aload_n 0 dX12_takesClause_16 rfl ?_
    refine ab_sipush (v := 239) dX12_takesClause_17 (by decide) ?_
    refine ab_iconst (v := 2) dX12_takesClause_20 (by decide) ?_
    refine ab_callV (a := 62) (c0 := 12) (d' := d) (mc' := 0) (ms' := 0) (vs := [.int (239 : Int32), .int (2 : Int32)]) (st := []) dX12_takesClause_21 ⟨cw_X12_takesWord, w_1198⟩ w_1200 w_27 (by decide) (hl11.sh 62 rfl (by decide) (by decide)).1 (hl11.sh 62 rfl (by decide) (by decide)).2 rfl rfl (Nat.le_of_ble_eq_true rfl) (Nat.le_refl _) (Nat.zero_le _) (Nat.zero_le _) (AM.mono h (fun r M45 ⟨x46, hr47, hc48, h⟩ => ?_))
    subst hr47
    refine ab_rs ?_
    have hm49 : Sm M M45 := hm10.trans hc48
    have hl50 := hL.of hm49
    refine ab_if_eq (tgt := 42) dX12_takesClause_24 (by decide) (fun c51 => ?_) (fun c51 => ?_)
    · have h := h.1 c51
      refine ab_iconst (v := 0) dX12_takesClause_42 (by decide) ?_
      exact ab_zret dX12_takesClause_43 rfl rfl h
    · have h := h.2 c51
      refine ab_aload_n 0 dX12_takesClause_27 rfl ?_
      refine ab_aload_n 0 dX12_takesClause_28 rfl ?_
      refine ab_callV (a := 62) (c0 := 12) (d' := d) (mc' := 0) (ms' := 0) (vs := []) (st := [.ref 62]) dX12_takesClause_29 ⟨cw_X12_next, w_1194⟩ w_1196 w_26 (by decide) (hl50.sh 62 rfl (by decide) (by decide)).1 (hl50.sh 62 rfl (by decide) (by decide)).2 rfl rfl (Nat.le_of_ble_eq_true rfl) (Nat.le_refl _) (Nat.zero_le _) (Nat.zero_le _) (AM.mono h (fun r M52 ⟨x53, hr54, hc55, h⟩ => ?_))
      subst hr54
      refine ab_rs ?_
      have hm56 : Sm M M52 := hm49.trans hc55
      have hl57 := hL.of hm56
      refine ab_bipush (v := 48) dX12_takesClause_32 (by decide) ?_
      refine ab_bipush (v := 50) dX12_takesClause_34 (by decide) ?_
      refine ab_callV (a := 62) (c0 := 12) (d' := d) (mc' := 0) (ms' := 0) (vs := [.int x53, .int (48 : Int32), .int (50 : Int32)]) (st := []) dX12_takesClause_36 ⟨cw_X12_in, w_1170⟩ w_1172 w_23 (by decide) (hl57.sh 62 rfl (by decide) (by decide)).1 (hl57.sh 62 rfl (by decide) (by decide)).2 rfl rfl (Nat.le_of_ble_eq_true rfl) (Nat.le_refl _) (Nat.zero_le _) (Nat.zero_le _) (AM.mono h (fun r M58 ⟨x59, hr60, hc61, h⟩ => ?_))
      subst hr60
      refine ab_rs ?_
      have hm62 : Sm M M58 := hm56.trans hc61
      have hl63 := hL.of hm62
      refine ab_if_ne (tgt := 44) dX12_takesClause_39 (by decide) (fun c64 => ?_) (fun c64 => ?_)
      · have h := h.1 c64
        refine ab_aload_n 0 dX12_takesClause_44 rfl ?_
        refine ab_getP (r := 66) dX12_takesClause_45 fs_12_32_12 rfl (hl63.sh 62 rfl (by decide) (by decide)).1 (hl63.sh 62 rfl (by decide) (by decide)).2 (hl63.pt 64 rfl (by decide) (by decide)) ?_
        refine ab_iload_n 1 dX12_takesClause_48 rfl ?_
        refine ab_aload_n 0 dX12_takesClause_49 rfl ?_
        refine ab_callV (a := 62) (c0 := 12) (d' := d) (mc' := 0) (ms' := 0) (vs := []) (st := [.int a1, .ref 66]) dX12_takesClause_50 ⟨cw_X12_next, w_1194⟩ w_1196 w_26 (by decide) (hl63.sh 62 rfl (by decide) (by decide)).1 (hl63.sh 62 rfl (by decide) (by decide)).2 rfl rfl (Nat.le_of_ble_eq_true rfl) (Nat.le_refl _) (Nat.zero_le _) (Nat.zero_le _) (AM.mono h (fun r M65 ⟨x66, hr67, hc68, h⟩ => ?_))
        subst hr67
        refine ab_rs ?_
        have hm69 : Sm M M65 := hm62.trans hc68
        have hl70 := hL.of hm69
        refine ab_bipush (v := 48) dX12_takesClause_53 (by decide) ?_
        refine ab_isub dX12_takesClause_55 ?_
        refine ab_iastj (j := a1.toNatClampNeg) dX12_takesClause_56 (hl70.sh 66 rfl (by decide) (by decide)) hb1 rfl ?_
        refine ab_nameM (fun M71 hM71 => ?_)
        have h := h M71 hM71
        have hs74 : Sm M65 M71 := hM71 ▸ (Sm.refl _).i
        have hm72 : Sm M M71 := hm69.trans hs74
        have hl73 := hL.of hm72
        refine ab_aload_n 0 dX12_takesClause_57 rfl ?_
        refine ab_dup dX12_takesClause_58 rfl ?_
        refine ab_getI dX12_takesClause_59 fs_12_20_12 rfl (hl73.sh 62 rfl (by decide) (by decide)).1 (hl73.sh 62 rfl (by decide) (by decide)).2 ?_
        refine ab_iconst (v := 1) dX12_takesClause_62 (by decide) ?_
        refine ab_iadd dX12_takesClause_63 ?_
        refine ab_putI dX12_takesClause_64 fs_12_20_12 rfl rfl (hl73.sh 62 rfl (by decide) (by decide)).1 (hl73.sh 62 rfl (by decide) (by decide)).2 ?_
        refine ab_nameM (fun M75 hM75 => ?_)
        have h := h M75 hM75
        have hs78 : Sm M71 M75 := hM75 ▸ (Sm.refl _).i
        have hm76 : Sm M M75 := hm72.trans hs78
        have hl77 := hL.of hm76
        refine ab_aload_n 0 dX12_takesClause_67 rfl ?_
        refine ab_bipush (v := 32) dX12_takesClause_68 (by decide) ?_
        refine ab_callV (a := 62) (c0 := 12) (d' := d) (mc' := 0) (ms' := 0) (vs := [.int (32 : Int32)]) (st := []) dX12_takesClause_70 ⟨cw_X12_takes, w_1202⟩ w_1204 w_28 (by decide) (hl77.sh 62 rfl (by decide) (by decide)).1 (hl77.sh 62 rfl (by decide) (by decide)).2 rfl rfl (Nat.le_of_ble_eq_true rfl) (Nat.le_refl _) (Nat.zero_le _) (Nat.zero_le _) (AM.mono h (fun r M79 ⟨x80, hr81, hc82, h⟩ => ?_))
        subst hr81
        refine ab_rs ?_
        have hm83 : Sm M M79 := hm76.trans hc82
        have hl84 := hL.of hm83
        refine ab_if_ne (tgt := 90) dX12_takesClause_73 (by decide) (fun c85 => ?_) (fun c85 => ?_)
        · have h := h.1 c85
          refine ab_aload_n 0 dX12_takesClause_90 rfl ?_
          refine ab_callV (a := 62) (c0 := 12) (d' := d) (mc' := 0) (ms' := 0) (vs := []) (st := []) dX12_takesClause_91 ⟨cw_X12_takesNumber, w_1207⟩ w_1209 w_29 (by decide) (hl84.sh 62 rfl (by decide) (by decide)).1 (hl84.sh 62 rfl (by decide) (by decide)).2 rfl rfl (Nat.le_of_ble_eq_true rfl) (Nat.le_refl _) (Nat.zero_le _) (Nat.zero_le _) (AM.mono h (fun r M86 ⟨x87, hr88, hc89, h⟩ => ?_))
          subst hr88
          refine ab_rs ?_
          have hm90 : Sm M M86 := hm83.trans hc89
          have hl91 := hL.of hm90
          refine ab_if_ne (tgt := 99) dX12_takesClause_94 (by decide) (fun c92 => ?_) (fun c92 => ?_)
          · have h := h.1 c92
            refine ab_aload_n 0 dX12_takesClause_99 rfl ?_
            refine ab_getP (r := 67) dX12_takesClause_100 fs_12_35_12 rfl (hl91.sh 62 rfl (by decide) (by decide)).1 (hl91.sh 62 rfl (by decide) (by decide)).2 (hl91.pt 65 rfl (by decide) (by decide)) ?_
            refine ab_iload_n 1 dX12_takesClause_103 rfl ?_
            refine ab_aload_n 0 dX12_takesClause_104 rfl ?_
            refine ab_getI dX12_takesClause_105 fs_12_23_12 rfl (hl91.sh 62 rfl (by decide) (by decide)).1 (hl91.sh 62 rfl (by decide) (by decide)).2 ?_
            refine ab_iastj (j := a1.toNatClampNeg) dX12_takesClause_108 (hl91.sh 67 rfl (by decide) (by decide)) hb1 rfl ?_
            refine ab_nameM (fun M93 hM93 => ?_)
            have h := h M93 hM93
            have hs96 : Sm M86 M93 := hM93 ▸ (Sm.refl _).i
            have hm94 : Sm M M93 := hm90.trans hs96
            have hl95 := hL.of hm94
            refine ab_aload_n 0 dX12_takesClause_109 rfl ?_
            refine ab_bipush (v := 32) dX12_takesClause_110 (by decide) ?_
            refine ab_callV (a := 62) (c0 := 12) (d' := d) (mc' := 0) (ms' := 0) (vs := [.int (32 : Int32)]) (st := []) dX12_takesClause_112 ⟨cw_X12_takes, w_1202⟩ w_1204 w_28 (by decide) (hl95.sh 62 rfl (by decide) (by decide)).1 (hl95.sh 62 rfl (by decide) (by decide)).2 rfl rfl (Nat.le_of_ble_eq_true rfl) (Nat.le_refl _) (Nat.zero_le _) (Nat.zero_le _) (AM.mono h (fun r M97 ⟨x98, hr99, hc100, h⟩ => ?_))
            subst hr99
            refine ab_rs ?_
            have hm101 : Sm M M97 := hm94.trans hc100
            have hl102 := hL.of hm101
            refine ab_if_eq (tgt := 130) dX12_takesClause_115 (by decide) (fun c103 => ?_) (fun c103 => ?_)
            · have h := h.1 c103
              refine ab_iconst (v := 0) dX12_takesClause_130 (by decide) ?_
              exact ab_zret dX12_takesClause_131 rfl rfl h
            · have h := h.2 c103
              refine ab_aload_n 0 dX12_takesClause_118 rfl ?_
              refine ab_iload_n 1 dX12_takesClause_119 rfl ?_
              refine ab_callV (a := 62) (c0 := 12) (d' := d) (mc' := 0) (ms' := 0) (vs := [.int a1]) (st := []) dX12_takesClause_120 ⟨cw_X12_takesE, w_1215⟩ w_1217 w_31 (by decide) (hl102.sh 62 rfl (by decide) (by decide)).1 (hl102.sh 62 rfl (by decide) (by decide)).2 rfl rfl (Nat.le_of_ble_eq_true rfl) (Nat.le_refl _) (Nat.zero_le _) (Nat.zero_le _) (AM.mono h (fun r M104 ⟨x105, hr106, hc107, h⟩ => ?_))
              subst hr106
              refine ab_rs ?_
              have hm108 : Sm M M104 := hm101.trans hc107
              have hl109 := hL.of hm108
              refine ab_if_eq (tgt := 130) dX12_takesClause_123 (by decide) (fun c110 => ?_) (fun c110 => ?_)
              · have h := h.1 c110
                refine ab_iconst (v := 0) dX12_takesClause_130 (by decide) ?_
                exact ab_zret dX12_takesClause_131 rfl rfl h
              · have h := h.2 c110
                refine ab_iconst (v := 1) dX12_takesClause_126 (by decide) ?_
                refine ab_goto (tgt := 131) dX12_takesClause_127 (by decide) ?_
                exact ab_zret dX12_takesClause_131 rfl rfl h
          · have h := h.2 c92
            refine ab_iconst (v := 0) dX12_takesClause_97 (by decide) ?_
            exact ab_zret dX12_takesClause_98 rfl rfl h
        · have h := h.2 c85
          refine ab_iconst (v := 0) dX12_takesClause_76 (by decide) ?_
          exact ab_zret dX12_takesClause_77 rfl rfl h
      · have h := h.2 c64
        refine ab_iconst (v := 0) dX12_takesClause_42 (by decide) ?_
        exact ab_zret dX12_takesClause_43 rfl rfl h
theorem dX12_goesText_0 : decode cX12_goesText 0 = .ok (.aload_n 0, 1) := by decide +kernel
theorem dX12_goesText_1 : decode cX12_goesText 1 = .ok (.iconst 0, 1) := by decide +kernel
theorem dX12_goesText_2 : decode cX12_goesText 2 = .ok (.putfield 20, 3) := by decide +kernel
theorem dX12_goesText_5 : decode cX12_goesText 5 = .ok (.aload_n 0, 1) := by decide +kernel
theorem dX12_goesText_6 : decode cX12_goesText 6 = .ok (.bipush 100, 2) := by decide +kernel
theorem dX12_goesText_8 : decode cX12_goesText 8 = .ok (.iload_n 1, 1) := by decide +kernel
theorem dX12_goesText_9 : decode cX12_goesText 9 = .ok (.imul, 1) := by decide +kernel
theorem dX12_goesText_10 : decode cX12_goesText 10 = .ok (.putfield 50, 3) := by decide +kernel
theorem dX12_goesText_13 : decode cX12_goesText 13 = .ok (.iconst 0, 1) := by decide +kernel
theorem dX12_goesText_14 : decode cX12_goesText 14 = .ok (.istore_n 2, 1) := by decide +kernel
theorem dX12_goesText_15 : decode cX12_goesText 15 = .ok (.aload_n 0, 1) := by decide +kernel
theorem dX12_goesText_16 : decode cX12_goesText 16 = .ok (.bipush 8, 2) := by decide +kernel
theorem dX12_goesText_18 : decode cX12_goesText 18 = .ok (.iload_n 1, 1) := by decide +kernel
theorem dX12_goesText_19 : decode cX12_goesText 19 = .ok (.imul, 1) := by decide +kernel
theorem dX12_goesText_20 : decode cX12_goesText 20 = .ok (.iload_n 2, 1) := by decide +kernel
theorem dX12_goesText_21 : decode cX12_goesText 21 = .ok (.iadd, 1) := by decide +kernel
theorem dX12_goesText_22 : decode cX12_goesText 22 = .ok (.invokevirtual 227, 3) := by decide +kernel
theorem dX12_goesText_25 : decode cX12_goesText 25 = .ok (.ifCond .ne 5, 3) := by decide +kernel
theorem dX12_goesText_28 : decode cX12_goesText 28 = .ok (.iconst 0, 1) := by decide +kernel
theorem dX12_goesText_29 : decode cX12_goesText 29 = .ok (.ireturn, 1) := by decide +kernel
theorem dX12_goesText_30 : decode cX12_goesText 30 = .ok (.iinc 2 1, 3) := by decide +kernel
theorem dX12_goesText_33 : decode cX12_goesText 33 = .ok (.aload_n 0, 1) := by decide +kernel
theorem dX12_goesText_34 : decode cX12_goesText 34 = .ok (.getfield 29, 3) := by decide +kernel
theorem dX12_goesText_37 : decode cX12_goesText 37 = .ok (.iload_n 1, 1) := by decide +kernel
theorem dX12_goesText_38 : decode cX12_goesText 38 = .ok (.iload_n 2, 1) := by decide +kernel
theorem dX12_goesText_39 : decode cX12_goesText 39 = .ok (.iastore, 1) := by decide +kernel
theorem dX12_goesText_40 : decode cX12_goesText 40 = .ok (.aload_n 0, 1) := by decide +kernel
theorem dX12_goesText_41 : decode cX12_goesText 41 = .ok (.getfield 20, 3) := by decide +kernel
theorem dX12_goesText_44 : decode cX12_goesText 44 = .ok (.aload_n 0, 1) := by decide +kernel
theorem dX12_goesText_45 : decode cX12_goesText 45 = .ok (.getfield 17, 3) := by decide +kernel
theorem dX12_goesText_48 : decode cX12_goesText 48 = .ok (.if_icmp .ne 5, 3) := by decide +kernel
theorem dX12_goesText_51 : decode cX12_goesText 51 = .ok (.iconst 1, 1) := by decide +kernel
theorem dX12_goesText_52 : decode cX12_goesText 52 = .ok (.ireturn, 1) := by decide +kernel
theorem dX12_goesText_53 : decode cX12_goesText 53 = .ok (.iload_n 2, 1) := by decide +kernel
theorem dX12_goesText_54 : decode cX12_goesText 54 = .ok (.bipush 8, 2) := by decide +kernel
theorem dX12_goesText_56 : decode cX12_goesText 56 = .ok (.if_icmp .eq 12, 3) := by decide +kernel
theorem dX12_goesText_59 : decode cX12_goesText 59 = .ok (.aload_n 0, 1) := by decide +kernel
theorem dX12_goesText_60 : decode cX12_goesText 60 = .ok (.bipush 59, 2) := by decide +kernel
theorem dX12_goesText_62 : decode cX12_goesText 62 = .ok (.invokevirtual 192, 3) := by decide +kernel
theorem dX12_goesText_65 : decode cX12_goesText 65 = .ok (.ifCond .ne (-50), 3) := by decide +kernel
theorem dX12_goesText_68 : decode cX12_goesText 68 = .ok (.iconst 0, 1) := by decide +kernel
theorem dX12_goesText_69 : decode cX12_goesText 69 = .ok (.ireturn, 1) := by decide +kernel
def LX12_goesText_15 (D : GD) (d : Nat) (v1 : Int32) (v2 : Int32) (M : Mm) (post : Option Value → Mm → Prop) : Prop := AW D (d + 1) 0 0 mX12_goesText 0 0 15 [(0, .ref 62), (1, .int v1), (2, .int v2)] [] M post
set_option maxRecDepth 20000 in
theorem rX12_goesText (D : GD) (d : Nat) (a1 : Int32) (M : Mm) (post : Option Value → Mm → Prop) (hL : Lay 62 98 M) 
    (h : ∀ M1 : Mm, M1 = sI M 62 3 (0 : Int32) → ∀ M5 : Mm, M5 = sI M1 62 13 ((100 : Int32) * a1) → LX12_goesText_15 D d a1 (0 : Int32) M5 post) :
    AM D (d + 1) 0 0 mX12_goesText [.ref 62, .int a1] M post := by
  refine AM.of (by decide) (Nat.le_of_ble_eq_true rfl) ?_
  show AW D (d + 1) 0 0 mX12_goesText 0 0 0 [(0, .ref 62), (1, .int a1)] [] M post
  refine ab_aload_n 0 dX12_goesText_0 rfl ?_
  refine ab_iconst (v := 0) dX12_goesText_1 (by decide) ?_
  refine ab_putI dX12_goesText_2 fs_12_20_12 rfl rfl (hL.sh 62 rfl (by decide) (by decide)).1 (hL.sh 62 rfl (by decide) (by decide)).2 ?_
  refine ab_nameM (fun M1 hM1 => ?_)
  have h := h M1 hM1
  have hs4 : Sm M M1 := hM1 ▸ (Sm.refl _).i
  have hm2 : Sm M M1 := (Sm.refl M).trans hs4
  have hl3 := hL.of hm2
  refine ab_aload_n 0 dX12_goesText_5 rfl ?_
  refine ab_bipush (v := 100) dX12_goesText_6 (by decide) ?_
  refine ab_iload_n 1 dX12_goesText_8 rfl ?_
  refine ab_imul dX12_goesText_9 ?_
  refine ab_putI dX12_goesText_10 fs_12_50_12 rfl rfl (hl3.sh 62 rfl (by decide) (by decide)).1 (hl3.sh 62 rfl (by decide) (by decide)).2 ?_
  refine ab_nameM (fun M5 hM5 => ?_)
  have h := h M5 hM5
  have hs8 : Sm M1 M5 := hM5 ▸ (Sm.refl _).i
  have hm6 : Sm M M5 := hm2.trans hs8
  have hl7 := hL.of hm6
  refine ab_iconst (v := 0) dX12_goesText_13 (by decide) ?_
  refine ab_istore_n (lv1 := [(2, .int (0 : Int32)), (0, .ref 62), (1, .int a1)]) dX12_goesText_14 (by decide) rfl ?_
  exact ab_sub [1, 2, 0] rfl h
set_option maxRecDepth 20000 in
theorem rX12_goesText_15 (D : GD) (d : Nat)  (v1 : Int32) (v2 : Int32) (M : Mm) (post : Option Value → Mm → Prop) (hL : Lay 62 98 M) 
    (h : AMi D d mX12_takesClause [.ref 62, .int (((8 : Int32) * v1) + v2)] M (fun x2 M1 => ((¬ x2 = 0 → ∀ x8 : Int32, x8 = v2 + (1 : Int32) → vp_in v1 7 ∧ ∀ M10 : Mm, M10 = sI M1 65 v1.toNatClampNeg x8 → ((¬ (gI M10 62 3) = (gI M10 62 2) → ((x8 = (8 : Int32) → post (some (.int (0 : Int32))) M10) ∧ (¬ x8 = (8 : Int32) → AMi D d mX12_takes [.ref 62, .int (59 : Int32)] M10 (fun x17 M16 => ((¬ x17 = 0 → LX12_goesText_15 D d v1 x8 M16 post) ∧ (x17 = 0 → post (some (.int (0 : Int32))) M16)))))) ∧ ((gI M10 62 3) = (gI M10 62 2) → post (some (.int (1 : Int32))) M10))) ∧ (x2 = 0 → post (some (.int (0 : Int32))) M1)))) :
    LX12_goesText_15 D d v1 v2 M post := by
  show AW D (d + 1) 0 0 mX12_goesText 0 0 15 [(0, .ref 62), (1, .int v1), (2, .int v2)] [] M post
  refine ab_aload_n 0 dX12_goesText_15 rfl ?_
  refine ab_bipush (v := 8) dX12_goesText_16 (by decide) ?_
  refine ab_iload_n 1 dX12_goesText_18 rfl ?_
  refine ab_imul dX12_goesText_19 ?_
  refine ab_iload_n 2 dX12_goesText_20 rfl ?_
  refine ab_iadd dX12_goesText_21 ?_
  refine ab_callV (a := 62) (c0 := 12) (d' := d) (mc' := 0) (ms' := 0) (vs := [.int (((8 : Int32) * v1) + v2)]) (st := []) dX12_goesText_22 ⟨cw_X12_takesClause, w_1190⟩ w_1192 w_25 (by decide) (hL.sh 62 rfl (by decide) (by decide)).1 (hL.sh 62 rfl (by decide) (by decide)).2 rfl rfl (Nat.le_of_ble_eq_true rfl) (Nat.le_refl _) (Nat.zero_le _) (Nat.zero_le _) (AM.mono h (fun r M1 ⟨x2, hr3, hc4, h⟩ => ?_))
  subst hr3
  refine ab_rs ?_
  have hm5 : Sm M M1 := (Sm.refl M).trans hc4
  have hl6 := hL.of hm5
  refine ab_if_ne (tgt := 30) dX12_goesText_25 (by decide) (fun c7 => ?_) (fun c7 => ?_)
  · have h := h.1 c7
    obtain ⟨x8, hx8⟩ : ∃ y : Int32, y = v2 + (1 : Int32) := ⟨_, rfl⟩
    have h := h x8 hx8
    refine ab_iinc (v := x8) 2 (lv1 := [(2, .int x8), (0, .ref 62), (1, .int v1)]) dX12_goesText_30 rfl (by rw [hx8]; rfl) (by decide) rfl ?_
    refine ab_aload_n 1 dX12_goesText_33 rfl ?_
    refine ab_getP (r := 65) dX12_goesText_34 fs_12_29_12 rfl (hl6.sh 62 rfl (by decide) (by decide)).1 (hl6.sh 62 rfl (by decide) (by decide)).2 (hl6.pt 63 rfl (by decide) (by decide)) ?_
    refine ab_iload_n 2 dX12_goesText_37 rfl ?_
    refine ab_iload_n 0 dX12_goesText_38 rfl ?_
    have hb9 := h.1
    have h := h.2
    refine ab_iastj (j := v1.toNatClampNeg) dX12_goesText_39 (hl6.sh 65 rfl (by decide) (by decide)) hb9 rfl ?_
    refine ab_nameM (fun M10 hM10 => ?_)
    have h := h M10 hM10
    have hs13 : Sm M1 M10 := hM10 ▸ (Sm.refl _).i
    have hm11 : Sm M M10 := hm5.trans hs13
    have hl12 := hL.of hm11
    refine ab_aload_n 1 dX12_goesText_40 rfl ?_
    refine ab_getI dX12_goesText_41 fs_12_20_12 rfl (hl12.sh 62 rfl (by decide) (by decide)).1 (hl12.sh 62 rfl (by decide) (by decide)).2 ?_
    refine ab_aload_n 1 dX12_goesText_44 rfl ?_
    refine ab_getI dX12_goesText_45 fs_12_17_12 rfl (hl12.sh 62 rfl (by decide) (by decide)).1 (hl12.sh 62 rfl (by decide) (by decide)).2 ?_
    refine ab_icmp_ne (tgt := 53) dX12_goesText_48 (by decide) (fun c14 => ?_) (fun c14 => ?_)
    · have h := h.1 c14
      refine ab_iload_n 0 dX12_goesText_53 rfl ?_
      refine ab_bipush (v := 8) dX12_goesText_54 (by decide) ?_
      refine ab_icmp_eq (tgt := 68) dX12_goesText_56 (by decide) (fun c15 => ?_) (fun c15 => ?_)
      · have h := h.1 c15
        refine ab_iconst (v := 0) dX12_goesText_68 (by decide) ?_
        exact ab_zret dX12_goesText_69 rfl rfl h
      · have h := h.2 c15
        refine ab_aload_n 1 dX12_goesText_59 rfl ?_
        refine ab_bipush (v := 59) dX12_goesText_60 (by decide) ?_
        refine ab_callV (a := 62) (c0 := 12) (d' := d) (mc' := 0) (ms' := 0) (vs := [.int (59 : Int32)]) (st := []) dX12_goesText_62 ⟨cw_X12_takes, w_1202⟩ w_1204 w_28 (by decide) (hl12.sh 62 rfl (by decide) (by decide)).1 (hl12.sh 62 rfl (by decide) (by decide)).2 rfl rfl (Nat.le_of_ble_eq_true rfl) (Nat.le_refl _) (Nat.zero_le _) (Nat.zero_le _) (AM.mono h (fun r M16 ⟨x17, hr18, hc19, h⟩ => ?_))
        subst hr18
        refine ab_rs ?_
        have hm20 : Sm M M16 := hm11.trans hc19
        have hl21 := hL.of hm20
        refine ab_if_ne (tgt := 15) dX12_goesText_65 (by decide) (fun c22 => ?_) (fun c22 => ?_)
        · have h := h.1 c22
          exact ab_sub [1, 2, 0] rfl h
        · have h := h.2 c22
          refine ab_iconst (v := 0) dX12_goesText_68 (by decide) ?_
          exact ab_zret dX12_goesText_69 rfl rfl h
    · have h := h.2 c14
      refine ab_iconst (v := 1) dX12_goesText_51 (by decide) ?_
      exact ab_zret dX12_goesText_52 rfl rfl h
  · have h := h.2 c7
    refine ab_iconst (v := 0) dX12_goesText_28 (by decide) ?_
    exact ab_zret dX12_goesText_29 rfl rfl h
theorem dX12_rule_0 : decode cX12_rule 0 = .ok (.aload_n 0, 1) := by decide +kernel
theorem dX12_rule_1 : decode cX12_rule 1 = .ok (.getfield 13, 3) := by decide +kernel
theorem dX12_rule_4 : decode cX12_rule 4 = .ok (.bipush 7, 2) := by decide +kernel
theorem dX12_rule_6 : decode cX12_rule 6 = .ok (.if_icmp .ne 6, 3) := by decide +kernel
theorem dX12_rule_9 : decode cX12_rule 9 = .ok (.bipush (-4), 2) := by decide +kernel
theorem dX12_rule_11 : decode cX12_rule 11 = .ok (.ireturn, 1) := by decide +kernel
theorem dX12_rule_12 : decode cX12_rule 12 = .ok (.aload_n 0, 1) := by decide +kernel
theorem dX12_rule_13 : decode cX12_rule 13 = .ok (.aload_n 0, 1) := by decide +kernel
theorem dX12_rule_14 : decode cX12_rule 14 = .ok (.getfield 13, 3) := by decide +kernel
theorem dX12_rule_17 : decode cX12_rule 17 = .ok (.invokevirtual 230, 3) := by decide +kernel
theorem dX12_rule_20 : decode cX12_rule 20 = .ok (.istore_n 1, 1) := by decide +kernel
theorem dX12_rule_21 : decode cX12_rule 21 = .ok (.aload_n 0, 1) := by decide +kernel
theorem dX12_rule_22 : decode cX12_rule 22 = .ok (.iconst 0, 1) := by decide +kernel
theorem dX12_rule_23 : decode cX12_rule 23 = .ok (.putfield 17, 3) := by decide +kernel
theorem dX12_rule_26 : decode cX12_rule 26 = .ok (.iload_n 1, 1) := by decide +kernel
theorem dX12_rule_27 : decode cX12_rule 27 = .ok (.ifCond .ne 11, 3) := by decide +kernel
theorem dX12_rule_30 : decode cX12_rule 30 = .ok (.bipush (-10), 2) := by decide +kernel
theorem dX12_rule_32 : decode cX12_rule 32 = .ok (.aload_n 0, 1) := by decide +kernel
theorem dX12_rule_33 : decode cX12_rule 33 = .ok (.getfield 20, 3) := by decide +kernel
theorem dX12_rule_36 : decode cX12_rule 36 = .ok (.isub, 1) := by decide +kernel
theorem dX12_rule_37 : decode cX12_rule 37 = .ok (.ireturn, 1) := by decide +kernel
theorem dX12_rule_38 : decode cX12_rule 38 = .ok (.aload_n 0, 1) := by decide +kernel
theorem dX12_rule_39 : decode cX12_rule 39 = .ok (.dup, 1) := by decide +kernel
theorem dX12_rule_40 : decode cX12_rule 40 = .ok (.getfield 13, 3) := by decide +kernel
theorem dX12_rule_43 : decode cX12_rule 43 = .ok (.iconst 1, 1) := by decide +kernel
theorem dX12_rule_44 : decode cX12_rule 44 = .ok (.iadd, 1) := by decide +kernel
theorem dX12_rule_45 : decode cX12_rule 45 = .ok (.putfield 13, 3) := by decide +kernel
theorem dX12_rule_48 : decode cX12_rule 48 = .ok (.aload_n 0, 1) := by decide +kernel
theorem dX12_rule_49 : decode cX12_rule 49 = .ok (.getfield 13, 3) := by decide +kernel
theorem dX12_rule_52 : decode cX12_rule 52 = .ok (.iconst 1, 1) := by decide +kernel
theorem dX12_rule_53 : decode cX12_rule 53 = .ok (.isub, 1) := by decide +kernel
theorem dX12_rule_54 : decode cX12_rule 54 = .ok (.ireturn, 1) := by decide +kernel
set_option maxRecDepth 20000 in
theorem rX12_rule (D : GD) (d : Nat)  (M : Mm) (post : Option Value → Mm → Prop) (hL : Lay 62 98 M) 
    (h : ((¬ (gI M 62 1) = (7 : Int32) → AMi D d mX12_goesText [.ref 62, .int (gI M 62 1)] M (fun x3 M2 => ∀ M8 : Mm, M8 = sI M2 62 2 (0 : Int32) → ((¬ x3 = 0 → ∀ M13 : Mm, M13 = sI M8 62 1 ((gI M8 62 1) + (1 : Int32)) → post (some (.int ((gI M13 62 1) - (1 : Int32)))) M13) ∧ (x3 = 0 → post (some (.int ((-10 : Int32) - (gI M8 62 3)))) M8)))) ∧ ((gI M 62 1) = (7 : Int32) → post (some (.int (-4 : Int32))) M))) :
    AM D (d + 1) 0 0 mX12_rule [.ref 62] M post := by
  refine AM.of (by decide) (Nat.le_of_ble_eq_true rfl) ?_
  show AW D (d + 1) 0 0 mX12_rule 0 0 0 [(0, .ref 62)] [] M post
  refine ab_aload_n 0 dX12_rule_0 rfl ?_
  refine ab_getI dX12_rule_1 fs_12_13_12 rfl (hL.sh 62 rfl (by decide) (by decide)).1 (hL.sh 62 rfl (by decide) (by decide)).2 ?_
  refine ab_bipush (v := 7) dX12_rule_4 (by decide) ?_
  refine ab_icmp_ne (tgt := 12) dX12_rule_6 (by decide) (fun c1 => ?_) (fun c1 => ?_)
  · have h := h.1 c1
    refine ab_aload_n 0 dX12_rule_12 rfl ?_
    refine ab_aload_n 0 dX12_rule_13 rfl ?_
    refine ab_getI dX12_rule_14 fs_12_13_12 rfl (hL.sh 62 rfl (by decide) (by decide)).1 (hL.sh 62 rfl (by decide) (by decide)).2 ?_
    refine ab_callV (a := 62) (c0 := 12) (d' := d) (mc' := 0) (ms' := 0) (vs := [.int (gI M 62 1)]) (st := []) dX12_rule_17 ⟨cw_X12_goesText, w_1186⟩ w_1188 w_24 (by decide) (hL.sh 62 rfl (by decide) (by decide)).1 (hL.sh 62 rfl (by decide) (by decide)).2 rfl rfl (Nat.le_of_ble_eq_true rfl) (Nat.le_refl _) (Nat.zero_le _) (Nat.zero_le _) (AM.mono h (fun r M2 ⟨x3, hr4, hc5, h⟩ => ?_))
    subst hr4
    refine ab_rs ?_
    have hm6 : Sm M M2 := (Sm.refl M).trans hc5
    have hl7 := hL.of hm6
    refine ab_istore_n (lv1 := [(1, .int x3), (0, .ref 62)]) dX12_rule_20 (by decide) rfl ?_
    refine ab_aload_n 1 dX12_rule_21 rfl ?_
    refine ab_iconst (v := 0) dX12_rule_22 (by decide) ?_
    refine ab_putI dX12_rule_23 fs_12_17_12 rfl rfl (hl7.sh 62 rfl (by decide) (by decide)).1 (hl7.sh 62 rfl (by decide) (by decide)).2 ?_
    refine ab_nameM (fun M8 hM8 => ?_)
    have h := h M8 hM8
    have hs11 : Sm M2 M8 := hM8 ▸ (Sm.refl _).i
    have hm9 : Sm M M8 := hm6.trans hs11
    have hl10 := hL.of hm9
    refine ab_iload_n 0 dX12_rule_26 rfl ?_
    refine ab_if_ne (tgt := 38) dX12_rule_27 (by decide) (fun c12 => ?_) (fun c12 => ?_)
    · have h := h.1 c12
      refine ab_aload_n 1 dX12_rule_38 rfl ?_
      refine ab_dup dX12_rule_39 rfl ?_
      refine ab_getI dX12_rule_40 fs_12_13_12 rfl (hl10.sh 62 rfl (by decide) (by decide)).1 (hl10.sh 62 rfl (by decide) (by decide)).2 ?_
      refine ab_iconst (v := 1) dX12_rule_43 (by decide) ?_
      refine ab_iadd dX12_rule_44 ?_
      refine ab_putI dX12_rule_45 fs_12_13_12 rfl rfl (hl10.sh 62 rfl (by decide) (by decide)).1 (hl10.sh 62 rfl (by decide) (by decide)).2 ?_
      refine ab_nameM (fun M13 hM13 => ?_)
      have h := h M13 hM13
      have hs16 : Sm M8 M13 := hM13 ▸ (Sm.refl _).i
      have hm14 : Sm M M13 := hm9.trans hs16
      have hl15 := hL.of hm14
      refine ab_aload_n 1 dX12_rule_48 rfl ?_
      refine ab_getI dX12_rule_49 fs_12_13_12 rfl (hl15.sh 62 rfl (by decide) (by decide)).1 (hl15.sh 62 rfl (by decide) (by decide)).2 ?_
      refine ab_iconst (v := 1) dX12_rule_52 (by decide) ?_
      refine ab_isub dX12_rule_53 ?_
      exact ab_iret dX12_rule_54 rfl h
    · have h := h.2 c12
      refine ab_bipush (v := (-10)) dX12_rule_30 (by decide) ?_
      refine ab_aload_n 1 dX12_rule_32 rfl ?_
      refine ab_getI dX12_rule_33 fs_12_20_12 rfl (hl10.sh 62 rfl (by decide) (by decide)).1 (hl10.sh 62 rfl (by decide) (by decide)).2 ?_
      refine ab_isub dX12_rule_36 ?_
      exact ab_iret dX12_rule_37 rfl h
  · have h := h.2 c1
    refine ab_bipush (v := (-4)) dX12_rule_9 (by decide) ?_
    exact ab_iret dX12_rule_11 rfl h
theorem dX12_holds_0 : decode cX12_holds 0 = .ok (.iconst 0, 1) := by decide +kernel
theorem dX12_holds_1 : decode cX12_holds 1 = .ok (.istore_n 2, 1) := by decide +kernel
theorem dX12_holds_2 : decode cX12_holds 2 = .ok (.aload_n 0, 1) := by decide +kernel
theorem dX12_holds_3 : decode cX12_holds 3 = .ok (.getfield 38, 3) := by decide +kernel
theorem dX12_holds_6 : decode cX12_holds 6 = .ok (.iload_n 1, 1) := by decide +kernel
theorem dX12_holds_7 : decode cX12_holds 7 = .ok (.iaload, 1) := by decide +kernel
theorem dX12_holds_8 : decode cX12_holds 8 = .ok (.istore_n 3, 1) := by decide +kernel
theorem dX12_holds_9 : decode cX12_holds 9 = .ok (.iload_n 3, 1) := by decide +kernel
theorem dX12_holds_10 : decode cX12_holds 10 = .ok (.aload_n 0, 1) := by decide +kernel
theorem dX12_holds_11 : decode cX12_holds 11 = .ok (.getfield 41, 3) := by decide +kernel
theorem dX12_holds_14 : decode cX12_holds 14 = .ok (.iload_n 1, 1) := by decide +kernel
theorem dX12_holds_15 : decode cX12_holds 15 = .ok (.iaload, 1) := by decide +kernel
theorem dX12_holds_16 : decode cX12_holds 16 = .ok (.if_icmp .ge 224, 3) := by decide +kernel
theorem dX12_holds_19 : decode cX12_holds 19 = .ok (.aload_n 0, 1) := by decide +kernel
theorem dX12_holds_20 : decode cX12_holds 20 = .ok (.getfield 44, 3) := by decide +kernel
theorem dX12_holds_23 : decode cX12_holds 23 = .ok (.iload_n 3, 1) := by decide +kernel
theorem dX12_holds_24 : decode cX12_holds 24 = .ok (.iaload, 1) := by decide +kernel
theorem dX12_holds_25 : decode cX12_holds 25 = .ok (.istore 4, 2) := by decide +kernel
theorem dX12_holds_27 : decode cX12_holds 27 = .ok (.iload 4, 2) := by decide +kernel
theorem dX12_holds_29 : decode cX12_holds 29 = .ok (.bipush (-33), 2) := by decide +kernel
theorem dX12_holds_31 : decode cX12_holds 31 = .ok (.if_icmp .ne 30, 3) := by decide +kernel
theorem dX12_holds_34 : decode cX12_holds 34 = .ok (.aload_n 0, 1) := by decide +kernel
theorem dX12_holds_35 : decode cX12_holds 35 = .ok (.getfield 62, 3) := by decide +kernel
theorem dX12_holds_38 : decode cX12_holds 38 = .ok (.iload_n 2, 1) := by decide +kernel
theorem dX12_holds_39 : decode cX12_holds 39 = .ok (.iconst 1, 1) := by decide +kernel
theorem dX12_holds_40 : decode cX12_holds 40 = .ok (.isub, 1) := by decide +kernel
theorem dX12_holds_41 : decode cX12_holds 41 = .ok (.aload_n 0, 1) := by decide +kernel
theorem dX12_holds_42 : decode cX12_holds 42 = .ok (.getfield 62, 3) := by decide +kernel
theorem dX12_holds_45 : decode cX12_holds 45 = .ok (.iload_n 2, 1) := by decide +kernel
theorem dX12_holds_46 : decode cX12_holds 46 = .ok (.iconst 1, 1) := by decide +kernel
theorem dX12_holds_47 : decode cX12_holds 47 = .ok (.isub, 1) := by decide +kernel
theorem dX12_holds_48 : decode cX12_holds 48 = .ok (.baload, 1) := by decide +kernel
theorem dX12_holds_49 : decode cX12_holds 49 = .ok (.ifCond .ne 7, 3) := by decide +kernel
theorem dX12_holds_52 : decode cX12_holds 52 = .ok (.iconst 1, 1) := by decide +kernel
theorem dX12_holds_53 : decode cX12_holds 53 = .ok (.goto 4, 3) := by decide +kernel
theorem dX12_holds_56 : decode cX12_holds 56 = .ok (.iconst 0, 1) := by decide +kernel
theorem dX12_holds_57 : decode cX12_holds 57 = .ok (.bastore, 1) := by decide +kernel
theorem dX12_holds_58 : decode cX12_holds 58 = .ok (.goto 176, 3) := by decide +kernel
theorem dX12_holds_61 : decode cX12_holds 61 = .ok (.iload 4, 2) := by decide +kernel
theorem dX12_holds_63 : decode cX12_holds 63 = .ok (.ifCond .ge 77, 3) := by decide +kernel
theorem dX12_holds_66 : decode cX12_holds 66 = .ok (.iinc 2 (-1), 3) := by decide +kernel
theorem dX12_holds_69 : decode cX12_holds 69 = .ok (.aload_n 0, 1) := by decide +kernel
theorem dX12_holds_70 : decode cX12_holds 70 = .ok (.getfield 62, 3) := by decide +kernel
theorem dX12_holds_73 : decode cX12_holds 73 = .ok (.iload_n 2, 1) := by decide +kernel
theorem dX12_holds_74 : decode cX12_holds 74 = .ok (.iconst 1, 1) := by decide +kernel
theorem dX12_holds_75 : decode cX12_holds 75 = .ok (.isub, 1) := by decide +kernel
theorem dX12_holds_76 : decode cX12_holds 76 = .ok (.iload 4, 2) := by decide +kernel
theorem dX12_holds_78 : decode cX12_holds 78 = .ok (.bipush (-38), 2) := by decide +kernel
theorem dX12_holds_80 : decode cX12_holds 80 = .ok (.if_icmp .ne 31, 3) := by decide +kernel
theorem dX12_holds_83 : decode cX12_holds 83 = .ok (.aload_n 0, 1) := by decide +kernel
theorem dX12_holds_84 : decode cX12_holds 84 = .ok (.getfield 62, 3) := by decide +kernel
theorem dX12_holds_87 : decode cX12_holds 87 = .ok (.iload_n 2, 1) := by decide +kernel
theorem dX12_holds_88 : decode cX12_holds 88 = .ok (.iconst 1, 1) := by decide +kernel
theorem dX12_holds_89 : decode cX12_holds 89 = .ok (.isub, 1) := by decide +kernel
theorem dX12_holds_90 : decode cX12_holds 90 = .ok (.baload, 1) := by decide +kernel
theorem dX12_holds_91 : decode cX12_holds 91 = .ok (.ifCond .eq 16, 3) := by decide +kernel
theorem dX12_holds_94 : decode cX12_holds 94 = .ok (.aload_n 0, 1) := by decide +kernel
theorem dX12_holds_95 : decode cX12_holds 95 = .ok (.getfield 62, 3) := by decide +kernel
theorem dX12_holds_98 : decode cX12_holds 98 = .ok (.iload_n 2, 1) := by decide +kernel
theorem dX12_holds_99 : decode cX12_holds 99 = .ok (.baload, 1) := by decide +kernel
theorem dX12_holds_100 : decode cX12_holds 100 = .ok (.ifCond .eq 7, 3) := by decide +kernel
theorem dX12_holds_103 : decode cX12_holds 103 = .ok (.iconst 1, 1) := by decide +kernel
theorem dX12_holds_104 : decode cX12_holds 104 = .ok (.goto 32, 3) := by decide +kernel
theorem dX12_holds_107 : decode cX12_holds 107 = .ok (.iconst 0, 1) := by decide +kernel
theorem dX12_holds_108 : decode cX12_holds 108 = .ok (.goto 28, 3) := by decide +kernel
theorem dX12_holds_111 : decode cX12_holds 111 = .ok (.aload_n 0, 1) := by decide +kernel
theorem dX12_holds_112 : decode cX12_holds 112 = .ok (.getfield 62, 3) := by decide +kernel
theorem dX12_holds_115 : decode cX12_holds 115 = .ok (.iload_n 2, 1) := by decide +kernel
theorem dX12_holds_116 : decode cX12_holds 116 = .ok (.iconst 1, 1) := by decide +kernel
theorem dX12_holds_117 : decode cX12_holds 117 = .ok (.isub, 1) := by decide +kernel
theorem dX12_holds_118 : decode cX12_holds 118 = .ok (.baload, 1) := by decide +kernel
theorem dX12_holds_119 : decode cX12_holds 119 = .ok (.ifCond .ne 12, 3) := by decide +kernel
theorem dX12_holds_122 : decode cX12_holds 122 = .ok (.aload_n 0, 1) := by decide +kernel
theorem dX12_holds_123 : decode cX12_holds 123 = .ok (.getfield 62, 3) := by decide +kernel
theorem dX12_holds_126 : decode cX12_holds 126 = .ok (.iload_n 2, 1) := by decide +kernel
theorem dX12_holds_127 : decode cX12_holds 127 = .ok (.baload, 1) := by decide +kernel
theorem dX12_holds_128 : decode cX12_holds 128 = .ok (.ifCond .eq 7, 3) := by decide +kernel
theorem dX12_holds_131 : decode cX12_holds 131 = .ok (.iconst 1, 1) := by decide +kernel
theorem dX12_holds_132 : decode cX12_holds 132 = .ok (.goto 4, 3) := by decide +kernel
theorem dX12_holds_135 : decode cX12_holds 135 = .ok (.iconst 0, 1) := by decide +kernel
theorem dX12_holds_136 : decode cX12_holds 136 = .ok (.bastore, 1) := by decide +kernel
theorem dX12_holds_137 : decode cX12_holds 137 = .ok (.goto 97, 3) := by decide +kernel
theorem dX12_holds_140 : decode cX12_holds 140 = .ok (.aload_n 0, 1) := by decide +kernel
theorem dX12_holds_141 : decode cX12_holds 141 = .ok (.getfield 59, 3) := by decide +kernel
theorem dX12_holds_144 : decode cX12_holds 144 = .ok (.iload 4, 2) := by decide +kernel
theorem dX12_holds_146 : decode cX12_holds 146 = .ok (.sipush 1000, 3) := by decide +kernel
theorem dX12_holds_149 : decode cX12_holds 149 = .ok (.idiv, 1) := by decide +kernel
theorem dX12_holds_150 : decode cX12_holds 150 = .ok (.iaload, 1) := by decide +kernel
theorem dX12_holds_151 : decode cX12_holds 151 = .ok (.istore 5, 2) := by decide +kernel
theorem dX12_holds_153 : decode cX12_holds 153 = .ok (.iload 4, 2) := by decide +kernel
theorem dX12_holds_155 : decode cX12_holds 155 = .ok (.bipush 100, 2) := by decide +kernel
theorem dX12_holds_157 : decode cX12_holds 157 = .ok (.idiv, 1) := by decide +kernel
theorem dX12_holds_158 : decode cX12_holds 158 = .ok (.bipush 10, 2) := by decide +kernel
theorem dX12_holds_160 : decode cX12_holds 160 = .ok (.irem, 1) := by decide +kernel
theorem dX12_holds_161 : decode cX12_holds 161 = .ok (.istore 6, 2) := by decide +kernel
theorem dX12_holds_163 : decode cX12_holds 163 = .ok (.aload_n 0, 1) := by decide +kernel
theorem dX12_holds_164 : decode cX12_holds 164 = .ok (.getfield 62, 3) := by decide +kernel
theorem dX12_holds_167 : decode cX12_holds 167 = .ok (.iload_n 2, 1) := by decide +kernel
theorem dX12_holds_168 : decode cX12_holds 168 = .ok (.iload 6, 2) := by decide +kernel
theorem dX12_holds_170 : decode cX12_holds 170 = .ok (.ifCond .ne 21, 3) := by decide +kernel
theorem dX12_holds_173 : decode cX12_holds 173 = .ok (.iload 5, 2) := by decide +kernel
theorem dX12_holds_175 : decode cX12_holds 175 = .ok (.iload 4, 2) := by decide +kernel
theorem dX12_holds_177 : decode cX12_holds 177 = .ok (.bipush 100, 2) := by decide +kernel
theorem dX12_holds_179 : decode cX12_holds 179 = .ok (.irem, 1) := by decide +kernel
theorem dX12_holds_180 : decode cX12_holds 180 = .ok (.if_icmp .ge 7, 3) := by decide +kernel
theorem dX12_holds_183 : decode cX12_holds 183 = .ok (.iconst 1, 1) := by decide +kernel
theorem dX12_holds_184 : decode cX12_holds 184 = .ok (.goto 46, 3) := by decide +kernel
theorem dX12_holds_187 : decode cX12_holds 187 = .ok (.iconst 0, 1) := by decide +kernel
theorem dX12_holds_188 : decode cX12_holds 188 = .ok (.goto 42, 3) := by decide +kernel
theorem dX12_holds_191 : decode cX12_holds 191 = .ok (.iload 6, 2) := by decide +kernel
theorem dX12_holds_193 : decode cX12_holds 193 = .ok (.iconst 1, 1) := by decide +kernel
theorem dX12_holds_194 : decode cX12_holds 194 = .ok (.if_icmp .ne 21, 3) := by decide +kernel
theorem dX12_holds_197 : decode cX12_holds 197 = .ok (.iload 5, 2) := by decide +kernel
theorem dX12_holds_199 : decode cX12_holds 199 = .ok (.iload 4, 2) := by decide +kernel
theorem dX12_holds_201 : decode cX12_holds 201 = .ok (.bipush 100, 2) := by decide +kernel
theorem dX12_holds_203 : decode cX12_holds 203 = .ok (.irem, 1) := by decide +kernel
theorem dX12_holds_204 : decode cX12_holds 204 = .ok (.if_icmp .ne 7, 3) := by decide +kernel
theorem dX12_holds_207 : decode cX12_holds 207 = .ok (.iconst 1, 1) := by decide +kernel
theorem dX12_holds_208 : decode cX12_holds 208 = .ok (.goto 22, 3) := by decide +kernel
theorem dX12_holds_211 : decode cX12_holds 211 = .ok (.iconst 0, 1) := by decide +kernel
theorem dX12_holds_212 : decode cX12_holds 212 = .ok (.goto 18, 3) := by decide +kernel
theorem dX12_holds_215 : decode cX12_holds 215 = .ok (.iload 5, 2) := by decide +kernel
theorem dX12_holds_217 : decode cX12_holds 217 = .ok (.iload 4, 2) := by decide +kernel
theorem dX12_holds_219 : decode cX12_holds 219 = .ok (.bipush 100, 2) := by decide +kernel
theorem dX12_holds_221 : decode cX12_holds 221 = .ok (.irem, 1) := by decide +kernel
theorem dX12_holds_222 : decode cX12_holds 222 = .ok (.if_icmp .le 7, 3) := by decide +kernel
theorem dX12_holds_225 : decode cX12_holds 225 = .ok (.iconst 1, 1) := by decide +kernel
theorem dX12_holds_226 : decode cX12_holds 226 = .ok (.goto 4, 3) := by decide +kernel
theorem dX12_holds_229 : decode cX12_holds 229 = .ok (.iconst 0, 1) := by decide +kernel
theorem dX12_holds_230 : decode cX12_holds 230 = .ok (.bastore, 1) := by decide +kernel
theorem dX12_holds_231 : decode cX12_holds 231 = .ok (.iinc 2 1, 3) := by decide +kernel
theorem dX12_holds_234 : decode cX12_holds 234 = .ok (.iinc 3 1, 3) := by decide +kernel
theorem dX12_holds_237 : decode cX12_holds 237 = .ok (.goto (-228), 3) := by decide +kernel
theorem dX12_holds_240 : decode cX12_holds 240 = .ok (.aload_n 0, 1) := by decide +kernel
theorem dX12_holds_241 : decode cX12_holds 241 = .ok (.getfield 62, 3) := by decide +kernel
theorem dX12_holds_244 : decode cX12_holds 244 = .ok (.iconst 0, 1) := by decide +kernel
theorem dX12_holds_245 : decode cX12_holds 245 = .ok (.baload, 1) := by decide +kernel
theorem dX12_holds_246 : decode cX12_holds 246 = .ok (.ireturn, 1) := by decide +kernel
def LX12_holds_9 (D : GD) (d : Nat) (v1 : Int32) (v2 : Int32) (v3 : Int32) (M : Mm) (post : Option Value → Mm → Prop) : Prop := AW D d 0 0 mX12_holds 0 0 9 [(0, .ref 62), (1, .int v1), (2, .int v2), (3, .int v3)] [] M post
set_option maxRecDepth 20000 in
theorem rX12_holds (D : GD) (d : Nat) (a1 : Int32) (M : Mm) (post : Option Value → Mm → Prop) (hL : Lay 62 98 M) 
    (h : vp_in a1 56 ∧ ∀ x2 : Int32, x2 = (gI M 68 a1.toNatClampNeg) → LX12_holds_9 D d a1 (0 : Int32) x2 M post) :
    AM D d 0 0 mX12_holds [.ref 62, .int a1] M post := by
  refine AM.of (by decide) (Nat.le_of_ble_eq_true rfl) ?_
  show AW D d 0 0 mX12_holds 0 0 0 [(0, .ref 62), (1, .int a1)] [] M post
  refine ab_iconst (v := 0) dX12_holds_0 (by decide) ?_
  refine ab_istore_n (lv1 := [(2, .int (0 : Int32)), (0, .ref 62), (1, .int a1)]) dX12_holds_1 (by decide) rfl ?_
  refine ab_aload_n 1 dX12_holds_2 rfl ?_
  refine ab_getP (r := 68) dX12_holds_3 fs_12_38_12 rfl (hL.sh 62 rfl (by decide) (by decide)).1 (hL.sh 62 rfl (by decide) (by decide)).2 (hL.pt 66 rfl (by decide) (by decide)) ?_
  refine ab_iload_n 2 dX12_holds_6 rfl ?_
  have hb1 := h.1
  have h := h.2
  refine ab_ialdj (j := a1.toNatClampNeg) dX12_holds_7 (hL.sh 68 rfl (by decide) (by decide)) hb1 rfl ?_
  refine ab_topi (fun x2 hx2 => ?_)
  have h := h x2 hx2
  refine ab_istore_n (lv1 := [(3, .int x2), (2, .int (0 : Int32)), (0, .ref 62), (1, .int a1)]) dX12_holds_8 (by decide) rfl ?_
  exact ab_sub [2, 3, 1, 0] rfl h
set_option maxRecDepth 20000 in
theorem rX12_holds_9 (D : GD) (d : Nat)  (v1 : Int32) (v2 : Int32) (v3 : Int32) (M : Mm) (post : Option Value → Mm → Prop) (hL : Lay 62 98 M) 
    (h : vp_in v1 56 ∧ (((gI M 69 v1.toNatClampNeg) ≤ v3 → ((gI M 73 0) = 0 ∨ (gI M 73 0) = 1) ∧ post (some (.int (gI M 73 0))) M) ∧ (¬ (gI M 69 v1.toNatClampNeg) ≤ v3 → vp_in v3 700 ∧ ∀ x4 : Int32, x4 = (gI M 70 v3.toNatClampNeg) → ((¬ x4 = (-33 : Int32) → ((0 ≤ x4 → vp_in (x4 / (1000 : Int32)) 4 ∧ ∀ x8 : Int32, x8 = (gI M 72 ((x4 / (1000 : Int32)).toNatClampNeg)) → ∀ x9 : Int32, x9 = ((x4 / (100 : Int32)) - (x4 / (100 : Int32)) / (10 : Int32) * (10 : Int32)) → ((¬ x9 = 0 → ((¬ x9 = (1 : Int32) → ((x8 ≤ (x4 - x4 / (100 : Int32) * (100 : Int32)) → vp_in v2 100 ∧ ∀ M14 : Mm, M14 = sI M 73 v2.toNatClampNeg (0 : Int32) → ∀ x18 : Int32, x18 = v2 + (1 : Int32) → ∀ x19 : Int32, x19 = v3 + (1 : Int32) → LX12_holds_9 D d v1 x18 x19 M14 post) ∧ (¬ x8 ≤ (x4 - x4 / (100 : Int32) * (100 : Int32)) → vp_in v2 100 ∧ ∀ M21 : Mm, M21 = sI M 73 v2.toNatClampNeg (1 : Int32) → ∀ x25 : Int32, x25 = v2 + (1 : Int32) → ∀ x26 : Int32, x26 = v3 + (1 : Int32) → LX12_holds_9 D d v1 x25 x26 M21 post))) ∧ (x9 = (1 : Int32) → ((¬ x8 = (x4 - x4 / (100 : Int32) * (100 : Int32)) → vp_in v2 100 ∧ ∀ M29 : Mm, M29 = sI M 73 v2.toNatClampNeg (0 : Int32) → ∀ x33 : Int32, x33 = v2 + (1 : Int32) → ∀ x34 : Int32, x34 = v3 + (1 : Int32) → LX12_holds_9 D d v1 x33 x34 M29 post) ∧ (x8 = (x4 - x4 / (100 : Int32) * (100 : Int32)) → vp_in v2 100 ∧ ∀ M36 : Mm, M36 = sI M 73 v2.toNatClampNeg (1 : Int32) → ∀ x40 : Int32, x40 = v2 + (1 : Int32) → ∀ x41 : Int32, x41 = v3 + (1 : Int32) → LX12_holds_9 D d v1 x40 x41 M36 post))))) ∧ (x9 = 0 → (((x4 - x4 / (100 : Int32) * (100 : Int32)) ≤ x8 → vp_in v2 100 ∧ ∀ M44 : Mm, M44 = sI M 73 v2.toNatClampNeg (0 : Int32) → ∀ x48 : Int32, x48 = v2 + (1 : Int32) → ∀ x49 : Int32, x49 = v3 + (1 : Int32) → LX12_holds_9 D d v1 x48 x49 M44 post) ∧ (¬ (x4 - x4 / (100 : Int32) * (100 : Int32)) ≤ x8 → vp_in v2 100 ∧ ∀ M51 : Mm, M51 = sI M 73 v2.toNatClampNeg (1 : Int32) → ∀ x55 : Int32, x55 = v2 + (1 : Int32) → ∀ x56 : Int32, x56 = v3 + (1 : Int32) → LX12_holds_9 D d v1 x55 x56 M51 post))))) ∧ (¬ 0 ≤ x4 → ∀ x57 : Int32, x57 = v2 + (-1 : Int32) → ((¬ x4 = (-38 : Int32) → vp_in (x57 - (1 : Int32)) 100 ∧ ((¬ (gI M 73 ((x57 - (1 : Int32)).toNatClampNeg)) = 0 → ∀ M61 : Mm, M61 = sI M 73 ((x57 - (1 : Int32)).toNatClampNeg) (1 : Int32) → ∀ x65 : Int32, x65 = v3 + (1 : Int32) → LX12_holds_9 D d v1 x57 x65 M61 post) ∧ ((gI M 73 ((x57 - (1 : Int32)).toNatClampNeg)) = 0 → vp_in x57 100 ∧ (((gI M 73 x57.toNatClampNeg) = 0 → ∀ M68 : Mm, M68 = sI M 73 ((x57 - (1 : Int32)).toNatClampNeg) (0 : Int32) → ∀ x72 : Int32, x72 = v3 + (1 : Int32) → LX12_holds_9 D d v1 x57 x72 M68 post) ∧ (¬ (gI M 73 x57.toNatClampNeg) = 0 → ∀ M73 : Mm, M73 = sI M 73 ((x57 - (1 : Int32)).toNatClampNeg) (1 : Int32) → ∀ x77 : Int32, x77 = v3 + (1 : Int32) → LX12_holds_9 D d v1 x57 x77 M73 post))))) ∧ (x4 = (-38 : Int32) → vp_in (x57 - (1 : Int32)) 100 ∧ (((gI M 73 ((x57 - (1 : Int32)).toNatClampNeg)) = 0 → ∀ M80 : Mm, M80 = sI M 73 ((x57 - (1 : Int32)).toNatClampNeg) (0 : Int32) → ∀ x84 : Int32, x84 = v3 + (1 : Int32) → LX12_holds_9 D d v1 x57 x84 M80 post) ∧ (¬ (gI M 73 ((x57 - (1 : Int32)).toNatClampNeg)) = 0 → vp_in x57 100 ∧ (((gI M 73 x57.toNatClampNeg) = 0 → ∀ M87 : Mm, M87 = sI M 73 ((x57 - (1 : Int32)).toNatClampNeg) (0 : Int32) → ∀ x91 : Int32, x91 = v3 + (1 : Int32) → LX12_holds_9 D d v1 x57 x91 M87 post) ∧ (¬ (gI M 73 x57.toNatClampNeg) = 0 → ∀ M92 : Mm, M92 = sI M 73 ((x57 - (1 : Int32)).toNatClampNeg) (1 : Int32) → ∀ x96 : Int32, x96 = v3 + (1 : Int32) → LX12_holds_9 D d v1 x57 x96 M92 post))))))))) ∧ (x4 = (-33 : Int32) → vp_in (v2 - (1 : Int32)) 100 ∧ ((¬ (gI M 73 ((v2 - (1 : Int32)).toNatClampNeg)) = 0 → ∀ M99 : Mm, M99 = sI M 73 ((v2 - (1 : Int32)).toNatClampNeg) (0 : Int32) → ∀ x103 : Int32, x103 = v3 + (1 : Int32) → LX12_holds_9 D d v1 v2 x103 M99 post) ∧ ((gI M 73 ((v2 - (1 : Int32)).toNatClampNeg)) = 0 → ∀ M104 : Mm, M104 = sI M 73 ((v2 - (1 : Int32)).toNatClampNeg) (1 : Int32) → ∀ x108 : Int32, x108 = v3 + (1 : Int32) → LX12_holds_9 D d v1 v2 x108 M104 post))))))) :
    LX12_holds_9 D d v1 v2 v3 M post := by
  show AW D d 0 0 mX12_holds 0 0 9 [(0, .ref 62), (1, .int v1), (2, .int v2), (3, .int v3)] [] M post
  refine ab_iload_n 3 dX12_holds_9 rfl ?_
  refine ab_aload_n 0 dX12_holds_10 rfl ?_
  refine ab_getP (r := 69) dX12_holds_11 fs_12_41_12 rfl (hL.sh 62 rfl (by decide) (by decide)).1 (hL.sh 62 rfl (by decide) (by decide)).2 (hL.pt 67 rfl (by decide) (by decide)) ?_
  refine ab_iload_n 1 dX12_holds_14 rfl ?_
  have hb1 := h.1
  have h := h.2
  refine ab_ialdj (j := v1.toNatClampNeg) dX12_holds_15 (hL.sh 69 rfl (by decide) (by decide)) hb1 rfl ?_
  refine ab_icmp_ge (tgt := 240) dX12_holds_16 (by decide) (fun c2 => ?_) (fun c2 => ?_)
  · have h := h.1 c2
    refine ab_aload_n 0 dX12_holds_240 rfl ?_
    refine ab_getP (r := 73) dX12_holds_241 fs_12_62_12 rfl (hL.sh 62 rfl (by decide) (by decide)).1 (hL.sh 62 rfl (by decide) (by decide)).2 (hL.pt 71 rfl (by decide) (by decide)) ?_
    refine ab_iconst (v := 0) dX12_holds_244 (by decide) ?_
    refine ab_zaldj (j := 0) dX12_holds_245 (hL.sh 73 rfl (by decide) (by decide)) (vin (by decide)) (by decide) ?_
    exact ab_zret dX12_holds_246 rfl (nar_z h.1) h.2
  · have h := h.2 c2
    refine ab_aload_n 0 dX12_holds_19 rfl ?_
    refine ab_getP (r := 70) dX12_holds_20 fs_12_44_12 rfl (hL.sh 62 rfl (by decide) (by decide)).1 (hL.sh 62 rfl (by decide) (by decide)).2 (hL.pt 68 rfl (by decide) (by decide)) ?_
    refine ab_iload_n 3 dX12_holds_23 rfl ?_
    have hb3 := h.1
    have h := h.2
    refine ab_ialdj (j := v3.toNatClampNeg) dX12_holds_24 (hL.sh 70 rfl (by decide) (by decide)) hb3 rfl ?_
    refine ab_topi (fun x4 hx4 => ?_)
    have h := h x4 hx4
    refine ab_istore (lv1 := [(4, .int x4), (0, .ref 62), (1, .int v1), (2, .int v2), (3, .int v3)]) dX12_holds_25 (by decide) rfl ?_
    refine ab_iload 0 dX12_holds_27 rfl ?_
    refine ab_bipush (v := (-33)) dX12_holds_29 (by decide) ?_
    refine ab_icmp_ne (tgt := 61) dX12_holds_31 (by decide) (fun c5 => ?_) (fun c5 => ?_)
    · have h := h.1 c5
      refine ab_iload 0 dX12_holds_61 rfl ?_
      refine ab_if_ge (tgt := 140) dX12_holds_63 (by decide) (fun c6 => ?_) (fun c6 => ?_)
      · have h := h.1 c6
        refine ab_aload_n 1 dX12_holds_140 rfl ?_
        refine ab_getP (r := 72) dX12_holds_141 fs_12_59_12 rfl (hL.sh 62 rfl (by decide) (by decide)).1 (hL.sh 62 rfl (by decide) (by decide)).2 (hL.pt 70 rfl (by decide) (by decide)) ?_
        refine ab_iload 0 dX12_holds_144 rfl ?_
        refine ab_sipush (v := 1000) dX12_holds_146 (by decide) ?_
        refine ab_idiv dX12_holds_149 (by decide) ?_
        have hb7 := h.1
        have h := h.2
        refine ab_ialdj (j := (x4 / (1000 : Int32)).toNatClampNeg) dX12_holds_150 (hL.sh 72 rfl (by decide) (by decide)) hb7 rfl ?_
        refine ab_topi (fun x8 hx8 => ?_)
        have h := h x8 hx8
        refine ab_istore (lv1 := [(5, .int x8), (4, .int x4), (0, .ref 62), (1, .int v1), (2, .int v2), (3, .int v3)]) dX12_holds_151 (by decide) rfl ?_
        refine ab_iload 1 dX12_holds_153 rfl ?_
        refine ab_bipush (v := 100) dX12_holds_155 (by decide) ?_
        refine ab_idiv dX12_holds_157 (by decide) ?_
        refine ab_bipush (v := 10) dX12_holds_158 (by decide) ?_
        refine ab_irem dX12_holds_160 (by decide) ?_
        refine ab_topi (fun x9 hx9 => ?_)
        have h := h x9 hx9
        refine ab_istore (lv1 := [(6, .int x9), (5, .int x8), (4, .int x4), (0, .ref 62), (1, .int v1), (2, .int v2), (3, .int v3)]) dX12_holds_161 (by decide) rfl ?_
        refine ab_aload_n 3 dX12_holds_163 rfl ?_
        refine ab_getP (r := 73) dX12_holds_164 fs_12_62_12 rfl (hL.sh 62 rfl (by decide) (by decide)).1 (hL.sh 62 rfl (by decide) (by decide)).2 (hL.pt 71 rfl (by decide) (by decide)) ?_
        refine ab_iload_n 5 dX12_holds_167 rfl ?_
        refine ab_iload 0 dX12_holds_168 rfl ?_
        refine ab_if_ne (tgt := 191) dX12_holds_170 (by decide) (fun c10 => ?_) (fun c10 => ?_)
        · have h := h.1 c10
          refine ab_iload 0 dX12_holds_191 rfl ?_
          refine ab_iconst (v := 1) dX12_holds_193 (by decide) ?_
          refine ab_icmp_ne (tgt := 215) dX12_holds_194 (by decide) (fun c11 => ?_) (fun c11 => ?_)
          · have h := h.1 c11
            refine ab_iload 1 dX12_holds_215 rfl ?_
            refine ab_iload 2 dX12_holds_217 rfl ?_
            refine ab_bipush (v := 100) dX12_holds_219 (by decide) ?_
            refine ab_irem dX12_holds_221 (by decide) ?_
            refine ab_icmp_le (tgt := 229) dX12_holds_222 (by decide) (fun c12 => ?_) (fun c12 => ?_)
            · have h := h.1 c12
              refine ab_iconst (v := 0) dX12_holds_229 (by decide) ?_
              have hb13 := h.1
              have h := h.2
              refine ab_zastj (j := v2.toNatClampNeg) dX12_holds_230 (hL.sh 73 rfl (by decide) (by decide)) hb13 (by decide) rfl ?_
              refine ab_nameM (fun M14 hM14 => ?_)
              have h := h M14 hM14
              have hs17 : Sm M M14 := hM14 ▸ (Sm.refl _).i
              have hm15 : Sm M M14 := (Sm.refl M).trans hs17
              have hl16 := hL.of hm15
              obtain ⟨x18, hx18⟩ : ∃ y : Int32, y = v2 + (1 : Int32) := ⟨_, rfl⟩
              have h := h x18 hx18
              refine ab_iinc (v := x18) 5 (lv1 := [(2, .int x18), (6, .int x9), (5, .int x8), (4, .int x4), (0, .ref 62), (1, .int v1), (3, .int v3)]) dX12_holds_231 rfl (by rw [hx18]; rfl) (by decide) rfl ?_
              obtain ⟨x19, hx19⟩ : ∃ y : Int32, y = v3 + (1 : Int32) := ⟨_, rfl⟩
              have h := h x19 hx19
              refine ab_iinc (v := x19) 6 (lv1 := [(3, .int x19), (2, .int x18), (6, .int x9), (5, .int x8), (4, .int x4), (0, .ref 62), (1, .int v1)]) dX12_holds_234 rfl (by rw [hx19]; rfl) (by decide) rfl ?_
              refine ab_goto (tgt := 9) dX12_holds_237 (by decide) ?_
              exact ab_sub [5, 6, 1, 0] rfl h
            · have h := h.2 c12
              refine ab_iconst (v := 1) dX12_holds_225 (by decide) ?_
              refine ab_goto (tgt := 230) dX12_holds_226 (by decide) ?_
              have hb20 := h.1
              have h := h.2
              refine ab_zastj (j := v2.toNatClampNeg) dX12_holds_230 (hL.sh 73 rfl (by decide) (by decide)) hb20 (by decide) rfl ?_
              refine ab_nameM (fun M21 hM21 => ?_)
              have h := h M21 hM21
              have hs24 : Sm M M21 := hM21 ▸ (Sm.refl _).i
              have hm22 : Sm M M21 := (Sm.refl M).trans hs24
              have hl23 := hL.of hm22
              obtain ⟨x25, hx25⟩ : ∃ y : Int32, y = v2 + (1 : Int32) := ⟨_, rfl⟩
              have h := h x25 hx25
              refine ab_iinc (v := x25) 5 (lv1 := [(2, .int x25), (6, .int x9), (5, .int x8), (4, .int x4), (0, .ref 62), (1, .int v1), (3, .int v3)]) dX12_holds_231 rfl (by rw [hx25]; rfl) (by decide) rfl ?_
              obtain ⟨x26, hx26⟩ : ∃ y : Int32, y = v3 + (1 : Int32) := ⟨_, rfl⟩
              have h := h x26 hx26
              refine ab_iinc (v := x26) 6 (lv1 := [(3, .int x26), (2, .int x25), (6, .int x9), (5, .int x8), (4, .int x4), (0, .ref 62), (1, .int v1)]) dX12_holds_234 rfl (by rw [hx26]; rfl) (by decide) rfl ?_
              refine ab_goto (tgt := 9) dX12_holds_237 (by decide) ?_
              exact ab_sub [5, 6, 1, 0] rfl h
          · have h := h.2 c11
            refine ab_iload 1 dX12_holds_197 rfl ?_
            refine ab_iload 2 dX12_holds_199 rfl ?_
            refine ab_bipush (v := 100) dX12_holds_201 (by decide) ?_
            refine ab_irem dX12_holds_203 (by decide) ?_
            refine ab_icmp_ne (tgt := 211) dX12_holds_204 (by decide) (fun c27 => ?_) (fun c27 => ?_)
            · have h := h.1 c27
              refine ab_iconst (v := 0) dX12_holds_211 (by decide) ?_
              refine ab_goto (tgt := 230) dX12_holds_212 (by decide) ?_
              have hb28 := h.1
              have h := h.2
              refine ab_zastj (j := v2.toNatClampNeg) dX12_holds_230 (hL.sh 73 rfl (by decide) (by decide)) hb28 (by decide) rfl ?_
              refine ab_nameM (fun M29 hM29 => ?_)
              have h := h M29 hM29
              have hs32 : Sm M M29 := hM29 ▸ (Sm.refl _).i
              have hm30 : Sm M M29 := (Sm.refl M).trans hs32
              have hl31 := hL.of hm30
              obtain ⟨x33, hx33⟩ : ∃ y : Int32, y = v2 + (1 : Int32) := ⟨_, rfl⟩
              have h := h x33 hx33
              refine ab_iinc (v := x33) 5 (lv1 := [(2, .int x33), (6, .int x9), (5, .int x8), (4, .int x4), (0, .ref 62), (1, .int v1), (3, .int v3)]) dX12_holds_231 rfl (by rw [hx33]; rfl) (by decide) rfl ?_
              obtain ⟨x34, hx34⟩ : ∃ y : Int32, y = v3 + (1 : Int32) := ⟨_, rfl⟩
              have h := h x34 hx34
              refine ab_iinc (v := x34) 6 (lv1 := [(3, .int x34), (2, .int x33), (6, .int x9), (5, .int x8), (4, .int x4), (0, .ref 62), (1, .int v1)]) dX12_holds_234 rfl (by rw [hx34]; rfl) (by decide) rfl ?_
              refine ab_goto (tgt := 9) dX12_holds_237 (by decide) ?_
              exact ab_sub [5, 6, 1, 0] rfl h
            · have h := h.2 c27
              refine ab_iconst (v := 1) dX12_holds_207 (by decide) ?_
              refine ab_goto (tgt := 230) dX12_holds_208 (by decide) ?_
              have hb35 := h.1
              have h := h.2
              refine ab_zastj (j := v2.toNatClampNeg) dX12_holds_230 (hL.sh 73 rfl (by decide) (by decide)) hb35 (by decide) rfl ?_
              refine ab_nameM (fun M36 hM36 => ?_)
              have h := h M36 hM36
              have hs39 : Sm M M36 := hM36 ▸ (Sm.refl _).i
              have hm37 : Sm M M36 := (Sm.refl M).trans hs39
              have hl38 := hL.of hm37
              obtain ⟨x40, hx40⟩ : ∃ y : Int32, y = v2 + (1 : Int32) := ⟨_, rfl⟩
              have h := h x40 hx40
              refine ab_iinc (v := x40) 5 (lv1 := [(2, .int x40), (6, .int x9), (5, .int x8), (4, .int x4), (0, .ref 62), (1, .int v1), (3, .int v3)]) dX12_holds_231 rfl (by rw [hx40]; rfl) (by decide) rfl ?_
              obtain ⟨x41, hx41⟩ : ∃ y : Int32, y = v3 + (1 : Int32) := ⟨_, rfl⟩
              have h := h x41 hx41
              refine ab_iinc (v := x41) 6 (lv1 := [(3, .int x41), (2, .int x40), (6, .int x9), (5, .int x8), (4, .int x4), (0, .ref 62), (1, .int v1)]) dX12_holds_234 rfl (by rw [hx41]; rfl) (by decide) rfl ?_
              refine ab_goto (tgt := 9) dX12_holds_237 (by decide) ?_
              exact ab_sub [5, 6, 1, 0] rfl h
        · have h := h.2 c10
          refine ab_iload 1 dX12_holds_173 rfl ?_
          refine ab_iload 2 dX12_holds_175 rfl ?_
          refine ab_bipush (v := 100) dX12_holds_177 (by decide) ?_
          refine ab_irem dX12_holds_179 (by decide) ?_
          refine ab_icmp_ge (tgt := 187) dX12_holds_180 (by decide) (fun c42 => ?_) (fun c42 => ?_)
          · have h := h.1 c42
            refine ab_iconst (v := 0) dX12_holds_187 (by decide) ?_
            refine ab_goto (tgt := 230) dX12_holds_188 (by decide) ?_
            have hb43 := h.1
            have h := h.2
            refine ab_zastj (j := v2.toNatClampNeg) dX12_holds_230 (hL.sh 73 rfl (by decide) (by decide)) hb43 (by decide) rfl ?_
            refine ab_nameM (fun M44 hM44 => ?_)
            have h := h M44 hM44
            have hs47 : Sm M M44 := hM44 ▸ (Sm.refl _).i
            have hm45 : Sm M M44 := (Sm.refl M).trans hs47
            have hl46 := hL.of hm45
            obtain ⟨x48, hx48⟩ : ∃ y : Int32, y = v2 + (1 : Int32) := ⟨_, rfl⟩
            have h := h x48 hx48
            refine ab_iinc (v := x48) 5 (lv1 := [(2, .int x48), (6, .int x9), (5, .int x8), (4, .int x4), (0, .ref 62), (1, .int v1), (3, .int v3)]) dX12_holds_231 rfl (by rw [hx48]; rfl) (by decide) rfl ?_
            obtain ⟨x49, hx49⟩ : ∃ y : Int32, y = v3 + (1 : Int32) := ⟨_, rfl⟩
            have h := h x49 hx49
            refine ab_iinc (v := x49) 6 (lv1 := [(3, .int x49), (2, .int x48), (6, .int x9), (5, .int x8), (4, .int x4), (0, .ref 62), (1, .int v1)]) dX12_holds_234 rfl (by rw [hx49]; rfl) (by decide) rfl ?_
            refine ab_goto (tgt := 9) dX12_holds_237 (by decide) ?_
            exact ab_sub [5, 6, 1, 0] rfl h
          · have h := h.2 c42
            refine ab_iconst (v := 1) dX12_holds_183 (by decide) ?_
            refine ab_goto (tgt := 230) dX12_holds_184 (by decide) ?_
            have hb50 := h.1
            have h := h.2
            refine ab_zastj (j := v2.toNatClampNeg) dX12_holds_230 (hL.sh 73 rfl (by decide) (by decide)) hb50 (by decide) rfl ?_
            refine ab_nameM (fun M51 hM51 => ?_)
            have h := h M51 hM51
            have hs54 : Sm M M51 := hM51 ▸ (Sm.refl _).i
            have hm52 : Sm M M51 := (Sm.refl M).trans hs54
            have hl53 := hL.of hm52
            obtain ⟨x55, hx55⟩ : ∃ y : Int32, y = v2 + (1 : Int32) := ⟨_, rfl⟩
            have h := h x55 hx55
            refine ab_iinc (v := x55) 5 (lv1 := [(2, .int x55), (6, .int x9), (5, .int x8), (4, .int x4), (0, .ref 62), (1, .int v1), (3, .int v3)]) dX12_holds_231 rfl (by rw [hx55]; rfl) (by decide) rfl ?_
            obtain ⟨x56, hx56⟩ : ∃ y : Int32, y = v3 + (1 : Int32) := ⟨_, rfl⟩
            have h := h x56 hx56
            refine ab_iinc (v := x56) 6 (lv1 := [(3, .int x56), (2, .int x55), (6, .int x9), (5, .int x8), (4, .int x4), (0, .ref 62), (1, .int v1)]) dX12_holds_234 rfl (by rw [hx56]; rfl) (by decide) rfl ?_
            refine ab_goto (tgt := 9) dX12_holds_237 (by decide) ?_
            exact ab_sub [5, 6, 1, 0] rfl h
      · have h := h.2 c6
        obtain ⟨x57, hx57⟩ : ∃ y : Int32, y = v2 + (-1 : Int32) := ⟨_, rfl⟩
        have h := h x57 hx57
        refine ab_iinc (v := x57) 3 (lv1 := [(2, .int x57), (4, .int x4), (0, .ref 62), (1, .int v1), (3, .int v3)]) dX12_holds_66 rfl (by rw [hx57]; rfl) (by decide) rfl ?_
        refine ab_aload_n 2 dX12_holds_69 rfl ?_
        refine ab_getP (r := 73) dX12_holds_70 fs_12_62_12 rfl (hL.sh 62 rfl (by decide) (by decide)).1 (hL.sh 62 rfl (by decide) (by decide)).2 (hL.pt 71 rfl (by decide) (by decide)) ?_
        refine ab_iload_n 0 dX12_holds_73 rfl ?_
        refine ab_iconst (v := 1) dX12_holds_74 (by decide) ?_
        refine ab_isub dX12_holds_75 ?_
        refine ab_iload 1 dX12_holds_76 rfl ?_
        refine ab_bipush (v := (-38)) dX12_holds_78 (by decide) ?_
        refine ab_icmp_ne (tgt := 111) dX12_holds_80 (by decide) (fun c58 => ?_) (fun c58 => ?_)
        · have h := h.1 c58
          refine ab_aload_n 2 dX12_holds_111 rfl ?_
          refine ab_getP (r := 73) dX12_holds_112 fs_12_62_12 rfl (hL.sh 62 rfl (by decide) (by decide)).1 (hL.sh 62 rfl (by decide) (by decide)).2 (hL.pt 71 rfl (by decide) (by decide)) ?_
          refine ab_iload_n 0 dX12_holds_115 rfl ?_
          refine ab_iconst (v := 1) dX12_holds_116 (by decide) ?_
          refine ab_isub dX12_holds_117 ?_
          have hb59 := h.1
          have h := h.2
          refine ab_zaldj (j := (x57 - (1 : Int32)).toNatClampNeg) dX12_holds_118 (hL.sh 73 rfl (by decide) (by decide)) hb59 rfl ?_
          refine ab_if_ne (tgt := 131) dX12_holds_119 (by decide) (fun c60 => ?_) (fun c60 => ?_)
          · have h := h.1 c60
            refine ab_iconst (v := 1) dX12_holds_131 (by decide) ?_
            refine ab_goto (tgt := 136) dX12_holds_132 (by decide) ?_
            refine ab_zastj (j := (x57 - (1 : Int32)).toNatClampNeg) dX12_holds_136 (hL.sh 73 rfl (by decide) (by decide)) hb59 (by decide) rfl ?_
            refine ab_nameM (fun M61 hM61 => ?_)
            have h := h M61 hM61
            have hs64 : Sm M M61 := hM61 ▸ (Sm.refl _).i
            have hm62 : Sm M M61 := (Sm.refl M).trans hs64
            have hl63 := hL.of hm62
            refine ab_goto (tgt := 234) dX12_holds_137 (by decide) ?_
            obtain ⟨x65, hx65⟩ : ∃ y : Int32, y = v3 + (1 : Int32) := ⟨_, rfl⟩
            have h := h x65 hx65
            refine ab_iinc (v := x65) 4 (lv1 := [(3, .int x65), (2, .int x57), (4, .int x4), (0, .ref 62), (1, .int v1)]) dX12_holds_234 rfl (by rw [hx65]; rfl) (by decide) rfl ?_
            refine ab_goto (tgt := 9) dX12_holds_237 (by decide) ?_
            exact ab_sub [3, 4, 1, 0] rfl h
          · have h := h.2 c60
            refine ab_aload_n 2 dX12_holds_122 rfl ?_
            refine ab_getP (r := 73) dX12_holds_123 fs_12_62_12 rfl (hL.sh 62 rfl (by decide) (by decide)).1 (hL.sh 62 rfl (by decide) (by decide)).2 (hL.pt 71 rfl (by decide) (by decide)) ?_
            refine ab_iload_n 0 dX12_holds_126 rfl ?_
            have hb66 := h.1
            have h := h.2
            refine ab_zaldj (j := x57.toNatClampNeg) dX12_holds_127 (hL.sh 73 rfl (by decide) (by decide)) hb66 rfl ?_
            refine ab_if_eq (tgt := 135) dX12_holds_128 (by decide) (fun c67 => ?_) (fun c67 => ?_)
            · have h := h.1 c67
              refine ab_iconst (v := 0) dX12_holds_135 (by decide) ?_
              refine ab_zastj (j := (x57 - (1 : Int32)).toNatClampNeg) dX12_holds_136 (hL.sh 73 rfl (by decide) (by decide)) hb59 (by decide) rfl ?_
              refine ab_nameM (fun M68 hM68 => ?_)
              have h := h M68 hM68
              have hs71 : Sm M M68 := hM68 ▸ (Sm.refl _).i
              have hm69 : Sm M M68 := (Sm.refl M).trans hs71
              have hl70 := hL.of hm69
              refine ab_goto (tgt := 234) dX12_holds_137 (by decide) ?_
              obtain ⟨x72, hx72⟩ : ∃ y : Int32, y = v3 + (1 : Int32) := ⟨_, rfl⟩
              have h := h x72 hx72
              refine ab_iinc (v := x72) 4 (lv1 := [(3, .int x72), (2, .int x57), (4, .int x4), (0, .ref 62), (1, .int v1)]) dX12_holds_234 rfl (by rw [hx72]; rfl) (by decide) rfl ?_
              refine ab_goto (tgt := 9) dX12_holds_237 (by decide) ?_
              exact ab_sub [3, 4, 1, 0] rfl h
            · have h := h.2 c67
              refine ab_iconst (v := 1) dX12_holds_131 (by decide) ?_
              refine ab_goto (tgt := 136) dX12_holds_132 (by decide) ?_
              refine ab_zastj (j := (x57 - (1 : Int32)).toNatClampNeg) dX12_holds_136 (hL.sh 73 rfl (by decide) (by decide)) hb59 (by decide) rfl ?_
              refine ab_nameM (fun M73 hM73 => ?_)
              have h := h M73 hM73
              have hs76 : Sm M M73 := hM73 ▸ (Sm.refl _).i
              have hm74 : Sm M M73 := (Sm.refl M).trans hs76
              have hl75 := hL.of hm74
              refine ab_goto (tgt := 234) dX12_holds_137 (by decide) ?_
              obtain ⟨x77, hx77⟩ : ∃ y : Int32, y = v3 + (1 : Int32) := ⟨_, rfl⟩
              have h := h x77 hx77
              refine ab_iinc (v := x77) 4 (lv1 := [(3, .int x77), (2, .int x57), (4, .int x4), (0, .ref 62), (1, .int v1)]) dX12_holds_234 rfl (by rw [hx77]; rfl) (by decide) rfl ?_
              refine ab_goto (tgt := 9) dX12_holds_237 (by decide) ?_
              exact ab_sub [3, 4, 1, 0] rfl h
        · have h := h.2 c58
          refine ab_aload_n 2 dX12_holds_83 rfl ?_
          refine ab_getP (r := 73) dX12_holds_84 fs_12_62_12 rfl (hL.sh 62 rfl (by decide) (by decide)).1 (hL.sh 62 rfl (by decide) (by decide)).2 (hL.pt 71 rfl (by decide) (by decide)) ?_
          refine ab_iload_n 0 dX12_holds_87 rfl ?_
          refine ab_iconst (v := 1) dX12_holds_88 (by decide) ?_
          refine ab_isub dX12_holds_89 ?_
          have hb78 := h.1
          have h := h.2
          refine ab_zaldj (j := (x57 - (1 : Int32)).toNatClampNeg) dX12_holds_90 (hL.sh 73 rfl (by decide) (by decide)) hb78 rfl ?_
          refine ab_if_eq (tgt := 107) dX12_holds_91 (by decide) (fun c79 => ?_) (fun c79 => ?_)
          · have h := h.1 c79
            refine ab_iconst (v := 0) dX12_holds_107 (by decide) ?_
            refine ab_goto (tgt := 136) dX12_holds_108 (by decide) ?_
            refine ab_zastj (j := (x57 - (1 : Int32)).toNatClampNeg) dX12_holds_136 (hL.sh 73 rfl (by decide) (by decide)) hb78 (by decide) rfl ?_
            refine ab_nameM (fun M80 hM80 => ?_)
            have h := h M80 hM80
            have hs83 : Sm M M80 := hM80 ▸ (Sm.refl _).i
            have hm81 : Sm M M80 := (Sm.refl M).trans hs83
            have hl82 := hL.of hm81
            refine ab_goto (tgt := 234) dX12_holds_137 (by decide) ?_
            obtain ⟨x84, hx84⟩ : ∃ y : Int32, y = v3 + (1 : Int32) := ⟨_, rfl⟩
            have h := h x84 hx84
            refine ab_iinc (v := x84) 4 (lv1 := [(3, .int x84), (2, .int x57), (4, .int x4), (0, .ref 62), (1, .int v1)]) dX12_holds_234 rfl (by rw [hx84]; rfl) (by decide) rfl ?_
            refine ab_goto (tgt := 9) dX12_holds_237 (by decide) ?_
            exact ab_sub [3, 4, 1, 0] rfl h
          · have h := h.2 c79
            refine ab_aload_n 2 dX12_holds_94 rfl ?_
            refine ab_getP (r := 73) dX12_holds_95 fs_12_62_12 rfl (hL.sh 62 rfl (by decide) (by decide)).1 (hL.sh 62 rfl (by decide) (by decide)).2 (hL.pt 71 rfl (by decide) (by decide)) ?_
            refine ab_iload_n 0 dX12_holds_98 rfl ?_
            have hb85 := h.1
            have h := h.2
            refine ab_zaldj (j := x57.toNatClampNeg) dX12_holds_99 (hL.sh 73 rfl (by decide) (by decide)) hb85 rfl ?_
            refine ab_if_eq (tgt := 107) dX12_holds_100 (by decide) (fun c86 => ?_) (fun c86 => ?_)
            · have h := h.1 c86
              refine ab_iconst (v := 0) dX12_holds_107 (by decide) ?_
              refine ab_goto (tgt := 136) dX12_holds_108 (by decide) ?_
              refine ab_zastj (j := (x57 - (1 : Int32)).toNatClampNeg) dX12_holds_136 (hL.sh 73 rfl (by decide) (by decide)) hb78 (by decide) rfl ?_
              refine ab_nameM (fun M87 hM87 => ?_)
              have h := h M87 hM87
              have hs90 : Sm M M87 := hM87 ▸ (Sm.refl _).i
              have hm88 : Sm M M87 := (Sm.refl M).trans hs90
              have hl89 := hL.of hm88
              refine ab_goto (tgt := 234) dX12_holds_137 (by decide) ?_
              obtain ⟨x91, hx91⟩ : ∃ y : Int32, y = v3 + (1 : Int32) := ⟨_, rfl⟩
              have h := h x91 hx91
              refine ab_iinc (v := x91) 4 (lv1 := [(3, .int x91), (2, .int x57), (4, .int x4), (0, .ref 62), (1, .int v1)]) dX12_holds_234 rfl (by rw [hx91]; rfl) (by decide) rfl ?_
              refine ab_goto (tgt := 9) dX12_holds_237 (by decide) ?_
              exact ab_sub [3, 4, 1, 0] rfl h
            · have h := h.2 c86
              refine ab_iconst (v := 1) dX12_holds_103 (by decide) ?_
              refine ab_goto (tgt := 136) dX12_holds_104 (by decide) ?_
              refine ab_zastj (j := (x57 - (1 : Int32)).toNatClampNeg) dX12_holds_136 (hL.sh 73 rfl (by decide) (by decide)) hb78 (by decide) rfl ?_
              refine ab_nameM (fun M92 hM92 => ?_)
              have h := h M92 hM92
              have hs95 : Sm M M92 := hM92 ▸ (Sm.refl _).i
              have hm93 : Sm M M92 := (Sm.refl M).trans hs95
              have hl94 := hL.of hm93
              refine ab_goto (tgt := 234) dX12_holds_137 (by decide) ?_
              obtain ⟨x96, hx96⟩ : ∃ y : Int32, y = v3 + (1 : Int32) := ⟨_, rfl⟩
              have h := h x96 hx96
              refine ab_iinc (v := x96) 4 (lv1 := [(3, .int x96), (2, .int x57), (4, .int x4), (0, .ref 62), (1, .int v1)]) dX12_holds_234 rfl (by rw [hx96]; rfl) (by decide) rfl ?_
              refine ab_goto (tgt := 9) dX12_holds_237 (by decide) ?_
              exact ab_sub [3, 4, 1, 0] rfl h
    · have h := h.2 c5
      refine ab_aload_n 1 dX12_holds_34 rfl ?_
      refine ab_getP (r := 73) dX12_holds_35 fs_12_62_12 rfl (hL.sh 62 rfl (by decide) (by decide)).1 (hL.sh 62 rfl (by decide) (by decide)).2 (hL.pt 71 rfl (by decide) (by decide)) ?_
      refine ab_iload_n 3 dX12_holds_38 rfl ?_
      refine ab_iconst (v := 1) dX12_holds_39 (by decide) ?_
      refine ab_isub dX12_holds_40 ?_
      refine ab_aload_n 1 dX12_holds_41 rfl ?_
      refine ab_getP (r := 73) dX12_holds_42 fs_12_62_12 rfl (hL.sh 62 rfl (by decide) (by decide)).1 (hL.sh 62 rfl (by decide) (by decide)).2 (hL.pt 71 rfl (by decide) (by decide)) ?_
      refine ab_iload_n 3 dX12_holds_45 rfl ?_
      refine ab_iconst (v := 1) dX12_holds_46 (by decide) ?_
      refine ab_isub dX12_holds_47 ?_
      have hb97 := h.1
      have h := h.2
      refine ab_zaldj (j := (v2 - (1 : Int32)).toNatClampNeg) dX12_holds_48 (hL.sh 73 rfl (by decide) (by decide)) hb97 rfl ?_
      refine ab_if_ne (tgt := 56) dX12_holds_49 (by decide) (fun c98 => ?_) (fun c98 => ?_)
      · have h := h.1 c98
        refine ab_iconst (v := 0) dX12_holds_56 (by decide) ?_
        refine ab_zastj (j := (v2 - (1 : Int32)).toNatClampNeg) dX12_holds_57 (hL.sh 73 rfl (by decide) (by decide)) hb97 (by decide) rfl ?_
        refine ab_nameM (fun M99 hM99 => ?_)
        have h := h M99 hM99
        have hs102 : Sm M M99 := hM99 ▸ (Sm.refl _).i
        have hm100 : Sm M M99 := (Sm.refl M).trans hs102
        have hl101 := hL.of hm100
        refine ab_goto (tgt := 234) dX12_holds_58 (by decide) ?_
        obtain ⟨x103, hx103⟩ : ∃ y : Int32, y = v3 + (1 : Int32) := ⟨_, rfl⟩
        have h := h x103 hx103
        refine ab_iinc (v := x103) 4 (lv1 := [(3, .int x103), (4, .int x4), (0, .ref 62), (1, .int v1), (2, .int v2)]) dX12_holds_234 rfl (by rw [hx103]; rfl) (by decide) rfl ?_
        refine ab_goto (tgt := 9) dX12_holds_237 (by decide) ?_
        exact ab_sub [2, 3, 4, 0] rfl h
      · have h := h.2 c98
        refine ab_iconst (v := 1) dX12_holds_52 (by decide) ?_
        refine ab_goto (tgt := 57) dX12_holds_53 (by decide) ?_
        refine ab_zastj (j := (v2 - (1 : Int32)).toNatClampNeg) dX12_holds_57 (hL.sh 73 rfl (by decide) (by decide)) hb97 (by decide) rfl ?_
        refine ab_nameM (fun M104 hM104 => ?_)
        have h := h M104 hM104
        have hs107 : Sm M M104 := hM104 ▸ (Sm.refl _).i
        have hm105 : Sm M M104 := (Sm.refl M).trans hs107
        have hl106 := hL.of hm105
        refine ab_goto (tgt := 234) dX12_holds_58 (by decide) ?_
        obtain ⟨x108, hx108⟩ : ∃ y : Int32, y = v3 + (1 : Int32) := ⟨_, rfl⟩
        have h := h x108 hx108
        refine ab_iinc (v := x108) 4 (lv1 := [(3, .int x108), (4, .int x4), (0, .ref 62), (1, .int v1), (2, .int v2)]) dX12_holds_234 rfl (by rw [hx108]; rfl) (by decide) rfl ?_
        refine ab_goto (tgt := 9) dX12_holds_237 (by decide) ?_
        exact ab_sub [2, 3, 4, 0] rfl h
