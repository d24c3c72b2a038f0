theorem cat_rf (o : Option Nat) : (va_rf o).category = 1 := by cases o <;> rfl
theorem dX11_table_0 : decode cX11_table 0 = .ok (.iload_n 1, 1) := by decide +kernel
theorem dX11_table_1 : decode cX11_table 1 = .ok (.invokestatic 91, 3) := by decide +kernel
theorem dX11_table_4 : decode cX11_table 4 = .ok (.ifCond .eq 10, 3) := by decide +kernel
theorem dX11_table_7 : decode cX11_table 7 = .ok (.iload_n 2, 1) := by decide +kernel
theorem dX11_table_8 : decode cX11_table 8 = .ok (.invokestatic 91, 3) := by decide +kernel
theorem dX11_table_11 : decode cX11_table 11 = .ok (.ifCond .ne 5, 3) := by decide +kernel
theorem dX11_table_14 : decode cX11_table 14 = .ok (.iconst (-1), 1) := by decide +kernel
theorem dX11_table_15 : decode cX11_table 15 = .ok (.ireturn, 1) := by decide +kernel
theorem dX11_table_16 : decode cX11_table 16 = .ok (.iload_n 3, 1) := by decide +kernel
theorem dX11_table_17 : decode cX11_table 17 = .ok (.ifCond .lt 9, 3) := by decide +kernel
theorem dX11_table_20 : decode cX11_table 20 = .ok (.iload_n 3, 1) := by decide +kernel
theorem dX11_table_21 : decode cX11_table 21 = .ok (.bipush 100, 2) := by decide +kernel
theorem dX11_table_23 : decode cX11_table 23 = .ok (.if_icmp .le 6, 3) := by decide +kernel
theorem dX11_table_26 : decode cX11_table 26 = .ok (.bipush (-2), 2) := by decide +kernel
theorem dX11_table_28 : decode cX11_table 28 = .ok (.ireturn, 1) := by decide +kernel
theorem dX11_table_29 : decode cX11_table 29 = .ok (.aload_n 0, 1) := by decide +kernel
theorem dX11_table_30 : decode cX11_table 30 = .ok (.getfield 39, 3) := by decide +kernel
theorem dX11_table_33 : decode cX11_table 33 = .ok (.getfield 95, 3) := by decide +kernel
theorem dX11_table_36 : decode cX11_table 36 = .ok (.iload_n 1, 1) := by decide +kernel
theorem dX11_table_37 : decode cX11_table 37 = .ok (.iconst 3, 1) := by decide +kernel
theorem dX11_table_38 : decode cX11_table 38 = .ok (.imul, 1) := by decide +kernel
theorem dX11_table_39 : decode cX11_table 39 = .ok (.iload_n 2, 1) := by decide +kernel
theorem dX11_table_40 : decode cX11_table 40 = .ok (.iadd, 1) := by decide +kernel
theorem dX11_table_41 : decode cX11_table 41 = .ok (.iaload, 1) := by decide +kernel
theorem dX11_table_42 : decode cX11_table 42 = .ok (.istore 4, 2) := by decide +kernel
theorem dX11_table_44 : decode cX11_table 44 = .ok (.aload_n 0, 1) := by decide +kernel
theorem dX11_table_45 : decode cX11_table 45 = .ok (.getfield 39, 3) := by decide +kernel
theorem dX11_table_48 : decode cX11_table 48 = .ok (.getfield 95, 3) := by decide +kernel
theorem dX11_table_51 : decode cX11_table 51 = .ok (.iload_n 1, 1) := by decide +kernel
theorem dX11_table_52 : decode cX11_table 52 = .ok (.iconst 3, 1) := by decide +kernel
theorem dX11_table_53 : decode cX11_table 53 = .ok (.imul, 1) := by decide +kernel
theorem dX11_table_54 : decode cX11_table 54 = .ok (.iload_n 2, 1) := by decide +kernel
theorem dX11_table_55 : decode cX11_table 55 = .ok (.iadd, 1) := by decide +kernel
theorem dX11_table_56 : decode cX11_table 56 = .ok (.iload_n 3, 1) := by decide +kernel
theorem dX11_table_57 : decode cX11_table 57 = .ok (.iastore, 1) := by decide +kernel
theorem dX11_table_58 : decode cX11_table 58 = .ok (.aload_n 0, 1) := by decide +kernel
theorem dX11_table_59 : decode cX11_table 59 = .ok (.getfield 39, 3) := by decide +kernel
theorem dX11_table_62 : decode cX11_table 62 = .ok (.invokevirtual 98, 3) := by decide +kernel
theorem dX11_table_65 : decode cX11_table 65 = .ok (.iload 4, 2) := by decide +kernel
theorem dX11_table_67 : decode cX11_table 67 = .ok (.ireturn, 1) := by decide +kernel
set_option maxRecDepth 20000 in
theorem rX11_table (D : GD) (d : Nat) (a1 : Int32) (a2 : Int32) (a3 : Int32) (M : Mm) (post : Option Value → Mm → Prop) (hL : Lay 0 62 M) 
    (h : AMi D d mX11_isSide [.int a1] M (fun x2 M1 => ((x2 = 0 → post (some (.int (-1 : Int32))) M1) ∧ (¬ x2 = 0 → AMi D d mX11_isSide [.int a2] M1 (fun x9 M8 => ((¬ x9 = 0 → ((a3 < 0 → post (some (.int (-2 : Int32))) M8) ∧ (¬ a3 < 0 → ((a3 ≤ (100 : Int32) → vp_in ((a1 * (3 : Int32)) + a2) 9 ∧ ∀ x18 : Int32, x18 = (gI M8 14 (((a1 * (3 : Int32)) + a2).toNatClampNeg)) → ∀ M19 : Mm, M19 = sI M8 14 (((a1 * (3 : Int32)) + a2).toNatClampNeg) a3 → AMv D d mX0_settleMixes [.ref 13] M19 (fun M23 => post (some (.int x18)) M23)) ∧ (¬ a3 ≤ (100 : Int32) → post (some (.int (-2 : Int32))) M8))))) ∧ (x9 = 0 → post (some (.int (-1 : Int32))) M8))))))) :
    AM D (d + 1) 0 0 mX11_table [.ref 0, .int a1, .int a2, .int a3] M post := by
  refine AM.of (by decide) (Nat.le_of_ble_eq_true rfl) ?_
  show AW D (d + 1) 0 0 mX11_table 0 0 0 [(0, .ref 0), (1, .int a1), (2, .int a2), (3, .int a3)] [] M post
  refine ab_iload_n 1 dX11_table_0 rfl ?_
  refine ab_callS (d' := d) (mc' := 0) (ms' := 0) (vs := [.int a1]) (st := []) dX11_table_1 ⟨cw_X11_isSide, w_318⟩ w_319 rfl rfl (Nat.le_of_ble_eq_true rfl) (Nat.le_refl _) (Nat.zero_le _) (Nat.zero_le _) (AM.mono h (fun r M1 ⟨x2, hr3, hc4, h⟩ => ?_))
  subst hr3
  refine ab_rs ?_
  have hm5 : Sm M M1 := (Sm.refl M).trans hc4
  have hl6 := hL.of hm5
  refine ab_if_eq (tgt := 14) dX11_table_4 (by decide) (fun c7 => ?_) (fun c7 => ?_)
  · have h := h.1 c7
    refine ab_iconst (v := (-1)) dX11_table_14 (by decide) ?_
    exact ab_iret dX11_table_15 rfl h
  · have h := h.2 c7
    refine ab_iload_n 2 dX11_table_7 rfl ?_
    refine ab_callS (d' := d) (mc' := 0) (ms' := 0) (vs := [.int a2]) (st := []) dX11_table_8 ⟨cw_X11_isSide, w_318⟩ w_319 rfl rfl (Nat.le_of_ble_eq_true rfl) (Nat.le_refl _) (Nat.zero_le _) (Nat.zero_le _) (AM.mono h (fun r M8 ⟨x9, hr10, hc11, h⟩ => ?_))
    subst hr10
    refine ab_rs ?_
    have hm12 : Sm M M8 := hm5.trans hc11
    have hl13 := hL.of hm12
    refine ab_if_ne (tgt := 16) dX11_table_11 (by decide) (fun c14 => ?_) (fun c14 => ?_)
    · have h := h.1 c14
      refine ab_iload_n 3 dX11_table_16 rfl ?_
      refine ab_if_lt (tgt := 26) dX11_table_17 (by decide) (fun c15 => ?_) (fun c15 => ?_)
      · have h := h.1 c15
        refine ab_bipush (v := (-2)) dX11_table_26 (by decide) ?_
        exact ab_iret dX11_table_28 rfl h
      · have h := h.2 c15
        refine ab_iload_n 3 dX11_table_20 rfl ?_
        refine ab_bipush (v := 100) dX11_table_21 (by decide) ?_
        refine ab_icmp_le (tgt := 29) dX11_table_23 (by decide) (fun c16 => ?_) (fun c16 => ?_)
        · have h := h.1 c16
          refine ab_aload_n 0 dX11_table_29 rfl ?_
          refine ab_getP (r := 13) dX11_table_30 fs_11_39_11 rfl (hl13.sh 0 rfl (by decide) (by decide)).1 (hl13.sh 0 rfl (by decide) (by decide)).2 (hl13.pt 3 rfl (by decide) (by decide)) ?_
          refine ab_getP (r := 14) dX11_table_33 fs_11_95_0 rfl (hl13.sh 13 rfl (by decide) (by decide)).1 (hl13.sh 13 rfl (by decide) (by decide)).2 (hl13.pt 22 rfl (by decide) (by decide)) ?_
          refine ab_iload_n 1 dX11_table_36 rfl ?_
          refine ab_iconst (v := 3) dX11_table_37 (by decide) ?_
          refine ab_imul dX11_table_38 ?_
          refine ab_iload_n 2 dX11_table_39 rfl ?_
          refine ab_iadd dX11_table_40 ?_
          have hb17 := h.1
          have h := h.2
          refine ab_ialdj (j := ((a1 * (3 : Int32)) + a2).toNatClampNeg) dX11_table_41 (hl13.sh 14 rfl (by decide) (by decide)) hb17 rfl ?_
          refine ab_topi (fun x18 hx18 => ?_)
          have h := h x18 hx18
          refine ab_istore (lv1 := [(4, .int x18), (0, .ref 0), (1, .int a1), (2, .int a2), (3, .int a3)]) dX11_table_42 (by decide) rfl ?_
          refine ab_aload_n 1 dX11_table_44 rfl ?_
          refine ab_getP (r := 13) dX11_table_45 fs_11_39_11 rfl (hl13.sh 0 rfl (by decide) (by decide)).1 (hl13.sh 0 rfl (by decide) (by decide)).2 (hl13.pt 3 rfl (by decide) (by decide)) ?_
          refine ab_getP (r := 14) dX11_table_48 fs_11_95_0 rfl (hl13.sh 13 rfl (by decide) (by decide)).1 (hl13.sh 13 rfl (by decide) (by decide)).2 (hl13.pt 22 rfl (by decide) (by decide)) ?_
          refine ab_iload_n 2 dX11_table_51 rfl ?_
          refine ab_iconst (v := 3) dX11_table_52 (by decide) ?_
          refine ab_imul dX11_table_53 ?_
          refine ab_iload_n 3 dX11_table_54 rfl ?_
          refine ab_iadd dX11_table_55 ?_
          refine ab_iload_n 4 dX11_table_56 rfl ?_
          refine ab_iastj (j := ((a1 * (3 : Int32)) + a2).toNatClampNeg) dX11_table_57 (hl13.sh 14 rfl (by decide) (by decide)) hb17 rfl ?_
          refine ab_nameM (fun M19 hM19 => ?_)
          have h := h M19 hM19
          have hs22 : Sm M8 M19 := hM19 ▸ (Sm.refl _).i
          have hm20 : Sm M M19 := hm12.trans hs22
          have hl21 := hL.of hm20
          refine ab_aload_n 1 dX11_table_58 rfl ?_
          refine ab_getP (r := 13) dX11_table_59 fs_11_39_11 rfl (hl21.sh 0 rfl (by decide) (by decide)).1 (hl21.sh 0 rfl (by decide) (by decide)).2 (hl21.pt 3 rfl (by decide) (by decide)) ?_
          refine ab_callV (a := 13) (c0 := 0) (d' := d) (mc' := 0) (ms' := 0) (vs := []) (st := []) dX11_table_62 ⟨cw_X0_settleMixes, w_321⟩ w_153 w_154 (by decide) (hl21.sh 13 rfl (by decide) (by decide)).1 (hl21.sh 13 rfl (by decide) (by decide)).2 rfl rfl (Nat.le_of_ble_eq_true rfl) (Nat.le_refl _) (Nat.zero_le _) (Nat.zero_le _) (AM.mono h (fun r M23 ⟨hr25, hc26, h⟩ => ?_))
          subst hr25
          refine ab_rv ?_
          have hm27 : Sm M M23 := hm20.trans hc26
          have hl28 := hL.of hm27
          refine ab_iload 0 dX11_table_65 rfl ?_
          exact ab_iret dX11_table_67 rfl h
        · have h := h.2 c16
          refine ab_bipush (v := (-2)) dX11_table_26 (by decide) ?_
          exact ab_iret dX11_table_28 rfl h
    · have h := h.2 c14
      refine ab_iconst (v := (-1)) dX11_table_14 (by decide) ?_
      exact ab_iret dX11_table_15 rfl h
theorem dX11_told_0 : decode cX11_told 0 = .ok (.iload_n 1, 1) := by decide +kernel
theorem dX11_told_1 : decode cX11_told 1 = .ok (.invokestatic 91, 3) := by decide +kernel
theorem dX11_told_4 : decode cX11_told 4 = .ok (.ifCond .eq 10, 3) := by decide +kernel
theorem dX11_told_7 : decode cX11_told 7 = .ok (.iload_n 2, 1) := by decide +kernel
theorem dX11_told_8 : decode cX11_told 8 = .ok (.invokestatic 91, 3) := by decide +kernel
theorem dX11_told_11 : decode cX11_told 11 = .ok (.ifCond .ne 5, 3) := by decide +kernel
theorem dX11_told_14 : decode cX11_told 14 = .ok (.iconst (-1), 1) := by decide +kernel
theorem dX11_told_15 : decode cX11_told 15 = .ok (.ireturn, 1) := by decide +kernel
theorem dX11_told_16 : decode cX11_told 16 = .ok (.aload_n 0, 1) := by decide +kernel
theorem dX11_told_17 : decode cX11_told 17 = .ok (.getfield 39, 3) := by decide +kernel
theorem dX11_told_20 : decode cX11_told 20 = .ok (.getfield 95, 3) := by decide +kernel
theorem dX11_told_23 : decode cX11_told 23 = .ok (.iload_n 1, 1) := by decide +kernel
theorem dX11_told_24 : decode cX11_told 24 = .ok (.iconst 3, 1) := by decide +kernel
theorem dX11_told_25 : decode cX11_told 25 = .ok (.imul, 1) := by decide +kernel
theorem dX11_told_26 : decode cX11_told 26 = .ok (.iload_n 2, 1) := by decide +kernel
theorem dX11_told_27 : decode cX11_told 27 = .ok (.iadd, 1) := by decide +kernel
theorem dX11_told_28 : decode cX11_told 28 = .ok (.iaload, 1) := by decide +kernel
theorem dX11_told_29 : decode cX11_told 29 = .ok (.ireturn, 1) := by decide +kernel
set_option maxRecDepth 20000 in
theorem rX11_told (D : GD) (d : Nat) (a1 : Int32) (a2 : Int32) (M : Mm) (post : Option Value → Mm → Prop) (hL : Lay 0 62 M) 
    (h : AMi D d mX11_isSide [.int a1] M (fun x2 M1 => ((x2 = 0 → post (some (.int (-1 : Int32))) M1) ∧ (¬ x2 = 0 → AMi D d mX11_isSide [.int a2] M1 (fun x9 M8 => ((¬ x9 = 0 → vp_in ((a1 * (3 : Int32)) + a2) 9 ∧ post (some (.int (gI M8 14 (((a1 * (3 : Int32)) + a2).toNatClampNeg)))) M8) ∧ (x9 = 0 → post (some (.int (-1 : Int32))) M8))))))) :
    AM D (d + 1) 0 0 mX11_told [.ref 0, .int a1, .int a2] M post := by
  refine AM.of (by decide) (Nat.le_of_ble_eq_true rfl) ?_
  show AW D (d + 1) 0 0 mX11_told 0 0 0 [(0, .ref 0), (1, .int a1), (2, .int a2)] [] M post
  refine ab_iload_n 1 dX11_told_0 rfl ?_
  refine ab_callS (d' := d) (mc' := 0) (ms' := 0) (vs := [.int a1]) (st := []) dX11_told_1 ⟨cw_X11_isSide, w_318⟩ w_319 rfl rfl (Nat.le_of_ble_eq_true rfl) (Nat.le_refl _) (Nat.zero_le _) (Nat.zero_le _) (AM.mono h (fun r M1 ⟨x2, hr3, hc4, h⟩ => ?_))
  subst hr3
  refine ab_rs ?_
  have hm5 : Sm M M1 := (Sm.refl M).trans hc4
  have hl6 := hL.of hm5
  refine ab_if_eq (tgt := 14) dX11_told_4 (by decide) (fun c7 => ?_) (fun c7 => ?_)
  · have h := h.1 c7
    refine ab_iconst (v := (-1)) dX11_told_14 (by decide) ?_
    exact ab_iret dX11_told_15 rfl h
  · have h := h.2 c7
    refine ab_iload_n 2 dX11_told_7 rfl ?_
    refine ab_callS (d' := d) (mc' := 0) (ms' := 0) (vs := [.int a2]) (st := []) dX11_told_8 ⟨cw_X11_isSide, w_318⟩ w_319 rfl rfl (Nat.le_of_ble_eq_true rfl) (Nat.le_refl _) (Nat.zero_le _) (Nat.zero_le _) (AM.mono h (fun r M8 ⟨x9, hr10, hc11, h⟩ => ?_))
    subst hr10
    refine ab_rs ?_
    have hm12 : Sm M M8 := hm5.trans hc11
    have hl13 := hL.of hm12
    refine ab_if_ne (tgt := 16) dX11_told_11 (by decide) (fun c14 => ?_) (fun c14 => ?_)
    · have h := h.1 c14
      refine ab_aload_n 0 dX11_told_16 rfl ?_
      refine ab_getP (r := 13) dX11_told_17 fs_11_39_11 rfl (hl13.sh 0 rfl (by decide) (by decide)).1 (hl13.sh 0 rfl (by decide) (by decide)).2 (hl13.pt 3 rfl (by decide) (by decide)) ?_
      refine ab_getP (r := 14) dX11_told_20 fs_11_95_0 rfl (hl13.sh 13 rfl (by decide) (by decide)).1 (hl13.sh 13 rfl (by decide) (by decide)).2 (hl13.pt 22 rfl (by decide) (by decide)) ?_
      refine ab_iload_n 1 dX11_told_23 rfl ?_
      refine ab_iconst (v := 3) dX11_told_24 (by decide) ?_
      refine ab_imul dX11_told_25 ?_
      refine ab_iload_n 2 dX11_told_26 rfl ?_
      refine ab_iadd dX11_told_27 ?_
      have hb15 := h.1
      have h := h.2
      refine ab_ialdj (j := ((a1 * (3 : Int32)) + a2).toNatClampNeg) dX11_told_28 (hl13.sh 14 rfl (by decide) (by decide)) hb15 rfl ?_
      exact ab_iret dX11_told_29 rfl h
    · have h := h.2 c14
      refine ab_iconst (v := (-1)) dX11_told_14 (by decide) ?_
      exact ab_iret dX11_told_15 rfl h
theorem dX11_feed_0 : decode cX11_feed 0 = .ok (.iload_n 2, 1) := by decide +kernel
theorem dX11_feed_1 : decode cX11_feed 1 = .ok (.ifCond .lt 8, 3) := by decide +kernel
theorem dX11_feed_4 : decode cX11_feed 4 = .ok (.iload_n 2, 1) := by decide +kernel
theorem dX11_feed_5 : decode cX11_feed 5 = .ok (.iconst 4, 1) := by decide +kernel
theorem dX11_feed_6 : decode cX11_feed 6 = .ok (.if_icmp .le 6, 3) := by decide +kernel
theorem dX11_feed_9 : decode cX11_feed 9 = .ok (.bipush (-2), 2) := by decide +kernel
theorem dX11_feed_11 : decode cX11_feed 11 = .ok (.ireturn, 1) := by decide +kernel
theorem dX11_feed_12 : decode cX11_feed 12 = .ok (.aload_n 0, 1) := by decide +kernel
theorem dX11_feed_13 : decode cX11_feed 13 = .ok (.getfield 12, 3) := by decide +kernel
theorem dX11_feed_16 : decode cX11_feed 16 = .ok (.getfield 101, 3) := by decide +kernel
theorem dX11_feed_19 : decode cX11_feed 19 = .ok (.iload_n 2, 1) := by decide +kernel
theorem dX11_feed_20 : decode cX11_feed 20 = .ok (.iadd, 1) := by decide +kernel
theorem dX11_feed_21 : decode cX11_feed 21 = .ok (.bipush 100, 2) := by decide +kernel
theorem dX11_feed_23 : decode cX11_feed 23 = .ok (.if_icmp .le 6, 3) := by decide +kernel
theorem dX11_feed_26 : decode cX11_feed 26 = .ok (.bipush (-4), 2) := by decide +kernel
theorem dX11_feed_28 : decode cX11_feed 28 = .ok (.ireturn, 1) := by decide +kernel
theorem dX11_feed_29 : decode cX11_feed 29 = .ok (.iload_n 2, 1) := by decide +kernel
theorem dX11_feed_30 : decode cX11_feed 30 = .ok (.iconst 1, 1) := by decide +kernel
theorem dX11_feed_31 : decode cX11_feed 31 = .ok (.isub, 1) := by decide +kernel
theorem dX11_feed_32 : decode cX11_feed 32 = .ok (.istore_n 3, 1) := by decide +kernel
theorem dX11_feed_33 : decode cX11_feed 33 = .ok (.iload_n 3, 1) := by decide +kernel
theorem dX11_feed_34 : decode cX11_feed 34 = .ok (.ifCond .lt 26, 3) := by decide +kernel
theorem dX11_feed_37 : decode cX11_feed 37 = .ok (.aload_n 0, 1) := by decide +kernel
theorem dX11_feed_38 : decode cX11_feed 38 = .ok (.getfield 12, 3) := by decide +kernel
theorem dX11_feed_41 : decode cX11_feed 41 = .ok (.iload_n 1, 1) := by decide +kernel
theorem dX11_feed_42 : decode cX11_feed 42 = .ok (.bipush 8, 2) := by decide +kernel
theorem dX11_feed_44 : decode cX11_feed 44 = .ok (.iload_n 3, 1) := by decide +kernel
theorem dX11_feed_45 : decode cX11_feed 45 = .ok (.imul, 1) := by decide +kernel
theorem dX11_feed_46 : decode cX11_feed 46 = .ok (.iushr, 1) := by decide +kernel
theorem dX11_feed_47 : decode cX11_feed 47 = .ok (.sipush 255, 3) := by decide +kernel
theorem dX11_feed_50 : decode cX11_feed 50 = .ok (.iand, 1) := by decide +kernel
theorem dX11_feed_51 : decode cX11_feed 51 = .ok (.invokevirtual 104, 3) := by decide +kernel
theorem dX11_feed_54 : decode cX11_feed 54 = .ok (.iinc 3 (-1), 3) := by decide +kernel
theorem dX11_feed_57 : decode cX11_feed 57 = .ok (.goto (-24), 3) := by decide +kernel
theorem dX11_feed_60 : decode cX11_feed 60 = .ok (.aload_n 0, 1) := by decide +kernel
theorem dX11_feed_61 : decode cX11_feed 61 = .ok (.getfield 12, 3) := by decide +kernel
theorem dX11_feed_64 : decode cX11_feed 64 = .ok (.getfield 101, 3) := by decide +kernel
theorem dX11_feed_67 : decode cX11_feed 67 = .ok (.ireturn, 1) := by decide +kernel
def LX11_feed_33 (D : GD) (d : Nat) (v1 : Int32) (v3 : Int32) (M : Mm) (post : Option Value → Mm → Prop) : Prop := AW D (d + 1) 0 0 mX11_feed 0 0 33 [(0, .ref 0), (1, .int v1), (3, .int v3)] [] M post
set_option maxRecDepth 20000 in
theorem rX11_feed (D : GD) (d : Nat) (a1 : Int32) (a2 : Int32) (M : Mm) (post : Option Value → Mm → Prop) (hL : Lay 0 62 M) 
    (h : ((a2 < 0 → post (some (.int (-2 : Int32))) M) ∧ (¬ a2 < 0 → ((a2 ≤ (4 : Int32) → ((((gI M 1 2) + a2) ≤ (100 : Int32) → ∀ x4 : Int32, x4 = (a2 - (1 : Int32)) → LX11_feed_33 D d a1 x4 M post) ∧ (¬ ((gI M 1 2) + a2) ≤ (100 : Int32) → post (some (.int (-4 : Int32))) M))) ∧ (¬ a2 ≤ (4 : Int32) → post (some (.int (-2 : Int32))) M))))) :
    AM D (d + 1) 0 0 mX11_feed [.ref 0, .int a1, .int a2] M post := by
  refine AM.of (by decide) (Nat.le_of_ble_eq_true rfl) ?_
  show AW D (d + 1) 0 0 mX11_feed 0 0 0 [(0, .ref 0), (1, .int a1), (2, .int a2)] [] M post
  refine ab_iload_n 2 dX11_feed_0 rfl ?_
  refine ab_if_lt (tgt := 9) dX11_feed_1 (by decide) (fun c1 => ?_) (fun c1 => ?_)
  · have h := h.1 c1
    refine ab_bipush (v := (-2)) dX11_feed_9 (by decide) ?_
    exact ab_iret dX11_feed_11 rfl h
  · have h := h.2 c1
    refine ab_iload_n 2 dX11_feed_4 rfl ?_
    refine ab_iconst (v := 4) dX11_feed_5 (by decide) ?_
    refine ab_icmp_le (tgt := 12) dX11_feed_6 (by decide) (fun c2 => ?_) (fun c2 => ?_)
    · have h := h.1 c2
      refine ab_aload_n 0 dX11_feed_12 rfl ?_
      refine ab_getP (r := 1) dX11_feed_13 fs_11_12_11 rfl (hL.sh 0 rfl (by decide) (by decide)).1 (hL.sh 0 rfl (by decide) (by decide)).2 (hL.pt 0 rfl (by decide) (by decide)) ?_
      refine ab_getI dX11_feed_16 fs_11_101_6 rfl (hL.sh 1 rfl (by decide) (by decide)).1 (hL.sh 1 rfl (by decide) (by decide)).2 ?_
      refine ab_iload_n 2 dX11_feed_19 rfl ?_
      refine ab_iadd dX11_feed_20 ?_
      refine ab_bipush (v := 100) dX11_feed_21 (by decide) ?_
      refine ab_icmp_le (tgt := 29) dX11_feed_23 (by decide) (fun c3 => ?_) (fun c3 => ?_)
      · have h := h.1 c3
        refine ab_iload_n 2 dX11_feed_29 rfl ?_
        refine ab_iconst (v := 1) dX11_feed_30 (by decide) ?_
        refine ab_isub dX11_feed_31 ?_
        refine ab_topi (fun x4 hx4 => ?_)
        have h := h x4 hx4
        refine ab_istore_n (lv1 := [(3, .int x4), (0, .ref 0), (1, .int a1), (2, .int a2)]) dX11_feed_32 (by decide) rfl ?_
        exact ab_sub [1, 2, 0] rfl h
      · have h := h.2 c3
        refine ab_bipush (v := (-4)) dX11_feed_26 (by decide) ?_
        exact ab_iret dX11_feed_28 rfl h
    · have h := h.2 c2
      refine ab_bipush (v := (-2)) dX11_feed_9 (by decide) ?_
      exact ab_iret dX11_feed_11 rfl h
set_option maxRecDepth 20000 in
theorem rX11_feed_33 (D : GD) (d : Nat)  (v1 : Int32) (v3 : Int32) (M : Mm) (post : Option Value → Mm → Prop) (hL : Lay 0 62 M) 
    (h : ((v3 < 0 → post (some (.int (gI M 1 2))) M) ∧ (¬ v3 < 0 → AMv D d mX6_addByte [.ref 1, .int (((v1).toUInt32 >>> ((((8 : Int32) * v3)).toUInt32 &&& Int32.toUInt32 31)).toInt32 &&& (255 : Int32))] M (fun M2 => ∀ x8 : Int32, x8 = v3 + (-1 : Int32) → LX11_feed_33 D d v1 x8 M2 post)))) :
    LX11_feed_33 D d v1 v3 M post := by
  show AW D (d + 1) 0 0 mX11_feed 0 0 33 [(0, .ref 0), (1, .int v1), (3, .int v3)] [] M post
  refine ab_iload_n 2 dX11_feed_33 rfl ?_
  refine ab_if_lt (tgt := 60) dX11_feed_34 (by decide) (fun c1 => ?_) (fun c1 => ?_)
  · have h := h.1 c1
    refine ab_aload_n 0 dX11_feed_60 rfl ?_
    refine ab_getP (r := 1) dX11_feed_61 fs_11_12_11 rfl (hL.sh 0 rfl (by decide) (by decide)).1 (hL.sh 0 rfl (by decide) (by decide)).2 (hL.pt 0 rfl (by decide) (by decide)) ?_
    refine ab_getI dX11_feed_64 fs_11_101_6 rfl (hL.sh 1 rfl (by decide) (by decide)).1 (hL.sh 1 rfl (by decide) (by decide)).2 ?_
    exact ab_iret dX11_feed_67 rfl h
  · have h := h.2 c1
    refine ab_aload_n 0 dX11_feed_37 rfl ?_
    refine ab_getP (r := 1) dX11_feed_38 fs_11_12_11 rfl (hL.sh 0 rfl (by decide) (by decide)).1 (hL.sh 0 rfl (by decide) (by decide)).2 (hL.pt 0 rfl (by decide) (by decide)) ?_
    refine ab_iload_n 1 dX11_feed_41 rfl ?_
    refine ab_bipush (v := 8) dX11_feed_42 (by decide) ?_
    refine ab_iload_n 2 dX11_feed_44 rfl ?_
    refine ab_imul dX11_feed_45 ?_
    refine ab_iushr dX11_feed_46 ?_
    refine ab_sipush (v := 255) dX11_feed_47 (by decide) ?_
    refine ab_iand dX11_feed_50 ?_
    refine ab_callV (a := 1) (c0 := 6) (d' := d) (mc' := 0) (ms' := 0) (vs := [.int (((v1).toUInt32 >>> ((((8 : Int32) * v3)).toUInt32 &&& Int32.toUInt32 31)).toInt32 &&& (255 : Int32))]) (st := []) dX11_feed_51 ⟨cw_X6_addByte, w_330⟩ w_331 w_332 (by decide) (hL.sh 1 rfl (by decide) (by decide)).1 (hL.sh 1 rfl (by decide) (by decide)).2 rfl rfl (Nat.le_of_ble_eq_true rfl) (Nat.le_refl _) (Nat.zero_le _) (Nat.zero_le _) (AM.mono h (fun r M2 ⟨hr4, hc5, h⟩ => ?_))
    subst hr4
    refine ab_rv ?_
    have hm6 : Sm M M2 := (Sm.refl M).trans hc5
    have hl7 := hL.of hm6
    obtain ⟨x8, hx8⟩ : ∃ y : Int32, y = v3 + (-1 : Int32) := ⟨_, rfl⟩
    have h := h x8 hx8
    refine ab_iinc (v := x8) 2 (lv1 := [(3, .int x8), (0, .ref 0), (1, .int v1)]) dX11_feed_54 rfl (by rw [hx8]; rfl) (by decide) rfl ?_
    refine ab_goto (tgt := 33) dX11_feed_57 (by decide) ?_
    exact ab_sub [1, 2, 0] rfl h
theorem dX11_isSide_0 : decode cX11_isSide 0 = .ok (.iload_n 0, 1) := by decide +kernel
theorem dX11_isSide_1 : decode cX11_isSide 1 = .ok (.ifCond .lt 12, 3) := by decide +kernel
theorem dX11_isSide_4 : decode cX11_isSide 4 = .ok (.iload_n 0, 1) := by decide +kernel
theorem dX11_isSide_5 : decode cX11_isSide 5 = .ok (.iconst 3, 1) := by decide +kernel
theorem dX11_isSide_6 : decode cX11_isSide 6 = .ok (.if_icmp .ge 7, 3) := by decide +kernel
theorem dX11_isSide_9 : decode cX11_isSide 9 = .ok (.iconst 1, 1) := by decide +kernel
theorem dX11_isSide_10 : decode cX11_isSide 10 = .ok (.goto 4, 3) := by decide +kernel
theorem dX11_isSide_13 : decode cX11_isSide 13 = .ok (.iconst 0, 1) := by decide +kernel
theorem dX11_isSide_14 : decode cX11_isSide 14 = .ok (.ireturn, 1) := by decide +kernel
set_option maxRecDepth 20000 in
theorem rX11_isSide (D : GD) (d : Nat) (a1 : Int32) (M : Mm) (post : Option Value → Mm → Prop) (hL : Lay 0 62 M) 
    (h : ((a1 < 0 → post (some (.int (0 : Int32))) M) ∧ (¬ a1 < 0 → (((3 : Int32) ≤ a1 → post (some (.int (0 : Int32))) M) ∧ (¬ (3 : Int32) ≤ a1 → post (some (.int (1 : Int32))) M))))) :
    AM D d 0 0 mX11_isSide [.int a1] M post := by
  refine AM.of (by decide) (Nat.le_of_ble_eq_true rfl) ?_
  show AW D d 0 0 mX11_isSide 0 0 0 [(0, .int a1)] [] M post
  refine ab_iload_n 0 dX11_isSide_0 rfl ?_
  refine ab_if_lt (tgt := 13) dX11_isSide_1 (by decide) (fun c1 => ?_) (fun c1 => ?_)
  · have h := h.1 c1
    refine ab_iconst (v := 0) dX11_isSide_13 (by decide) ?_
    exact ab_zret dX11_isSide_14 rfl rfl h
  · have h := h.2 c1
    refine ab_iload_n 0 dX11_isSide_4 rfl ?_
    refine ab_iconst (v := 3) dX11_isSide_5 (by decide) ?_
    refine ab_icmp_ge (tgt := 13) dX11_isSide_6 (by decide) (fun c2 => ?_) (fun c2 => ?_)
    · have h := h.1 c2
      refine ab_iconst (v := 0) dX11_isSide_13 (by decide) ?_
      exact ab_zret dX11_isSide_14 rfl rfl h
    · have h := h.2 c2
      refine ab_iconst (v := 1) dX11_isSide_9 (by decide) ?_
      refine ab_goto (tgt := 14) dX11_isSide_10 (by decide) ?_
      exact ab_zret dX11_isSide_14 rfl rfl h
theorem dX11_isWho_0 : decode cX11_isWho 0 = .ok (.iload_n 0, 1) := by decide +kernel
theorem dX11_isWho_1 : decode cX11_isWho 1 = .ok (.ifCond .eq 8, 3) := by decide +kernel
theorem dX11_isWho_4 : decode cX11_isWho 4 = .ok (.iload_n 0, 1) := by decide +kernel
theorem dX11_isWho_5 : decode cX11_isWho 5 = .ok (.iconst 1, 1) := by decide +kernel
theorem dX11_isWho_6 : decode cX11_isWho 6 = .ok (.if_icmp .ne 7, 3) := by decide +kernel
theorem dX11_isWho_9 : decode cX11_isWho 9 = .ok (.iconst 1, 1) := by decide +kernel
theorem dX11_isWho_10 : decode cX11_isWho 10 = .ok (.goto 4, 3) := by decide +kernel
theorem dX11_isWho_13 : decode cX11_isWho 13 = .ok (.iconst 0, 1) := by decide +kernel
theorem dX11_isWho_14 : decode cX11_isWho 14 = .ok (.ireturn, 1) := by decide +kernel
set_option maxRecDepth 20000 in
theorem rX11_isWho (D : GD) (d : Nat) (a1 : Int32) (M : Mm) (post : Option Value → Mm → Prop) (hL : Lay 0 62 M) 
    (h : ((a1 = 0 → post (some (.int (1 : Int32))) M) ∧ (¬ a1 = 0 → ((¬ a1 = (1 : Int32) → post (some (.int (0 : Int32))) M) ∧ (a1 = (1 : Int32) → post (some (.int (1 : Int32))) M))))) :
    AM D d 0 0 mX11_isWho [.int a1] M post := by
  refine AM.of (by decide) (Nat.le_of_ble_eq_true rfl) ?_
  show AW D d 0 0 mX11_isWho 0 0 0 [(0, .int a1)] [] M post
  refine ab_iload_n 0 dX11_isWho_0 rfl ?_
  refine ab_if_eq (tgt := 9) dX11_isWho_1 (by decide) (fun c1 => ?_) (fun c1 => ?_)
  · have h := h.1 c1
    refine ab_iconst (v := 1) dX11_isWho_9 (by decide) ?_
    refine ab_goto (tgt := 14) dX11_isWho_10 (by decide) ?_
    exact ab_zret dX11_isWho_14 rfl rfl h
  · have h := h.2 c1
    refine ab_iload_n 0 dX11_isWho_4 rfl ?_
    refine ab_iconst (v := 1) dX11_isWho_5 (by decide) ?_
    refine ab_icmp_ne (tgt := 13) dX11_isWho_6 (by decide) (fun c2 => ?_) (fun c2 => ?_)
    · have h := h.1 c2
      refine ab_iconst (v := 0) dX11_isWho_13 (by decide) ?_
      exact ab_zret dX11_isWho_14 rfl rfl h
    · have h := h.2 c2
      refine ab_iconst (v := 1) dX11_isWho_9 (by decide) ?_
      refine ab_goto (tgt := 14) dX11_isWho_10 (by decide) ?_
      exact ab_zret dX11_isWho_14 rfl rfl h
theorem dX11_isPart_0 : decode cX11_isPart 0 = .ok (.iload_n 0, 1) := by decide +kernel
theorem dX11_isPart_1 : decode cX11_isPart 1 = .ok (.ifCond .eq 8, 3) := by decide +kernel
theorem dX11_isPart_4 : decode cX11_isPart 4 = .ok (.iload_n 0, 1) := by decide +kernel
theorem dX11_isPart_5 : decode cX11_isPart 5 = .ok (.iconst 1, 1) := by decide +kernel
theorem dX11_isPart_6 : decode cX11_isPart 6 = .ok (.if_icmp .ne 7, 3) := by decide +kernel
theorem dX11_isPart_9 : decode cX11_isPart 9 = .ok (.iconst 1, 1) := by decide +kernel
theorem dX11_isPart_10 : decode cX11_isPart 10 = .ok (.goto 4, 3) := by decide +kernel
theorem dX11_isPart_13 : decode cX11_isPart 13 = .ok (.iconst 0, 1) := by decide +kernel
theorem dX11_isPart_14 : decode cX11_isPart 14 = .ok (.ireturn, 1) := by decide +kernel
set_option maxRecDepth 20000 in
theorem rX11_isPart (D : GD) (d : Nat) (a1 : Int32) (M : Mm) (post : Option Value → Mm → Prop) (hL : Lay 0 62 M) 
    (h : ((a1 = 0 → post (some (.int (1 : Int32))) M) ∧ (¬ a1 = 0 → ((¬ a1 = (1 : Int32) → post (some (.int (0 : Int32))) M) ∧ (a1 = (1 : Int32) → post (some (.int (1 : Int32))) M))))) :
    AM D d 0 0 mX11_isPart [.int a1] M post := by
  refine AM.of (by decide) (Nat.le_of_ble_eq_true rfl) ?_
  show AW D d 0 0 mX11_isPart 0 0 0 [(0, .int a1)] [] M post
  refine ab_iload_n 0 dX11_isPart_0 rfl ?_
  refine ab_if_eq (tgt := 9) dX11_isPart_1 (by decide) (fun c1 => ?_) (fun c1 => ?_)
  · have h := h.1 c1
    refine ab_iconst (v := 1) dX11_isPart_9 (by decide) ?_
    refine ab_goto (tgt := 14) dX11_isPart_10 (by decide) ?_
    exact ab_zret dX11_isPart_14 rfl rfl h
  · have h := h.2 c1
    refine ab_iload_n 0 dX11_isPart_4 rfl ?_
    refine ab_iconst (v := 1) dX11_isPart_5 (by decide) ?_
    refine ab_icmp_ne (tgt := 13) dX11_isPart_6 (by decide) (fun c2 => ?_) (fun c2 => ?_)
    · have h := h.1 c2
      refine ab_iconst (v := 0) dX11_isPart_13 (by decide) ?_
      exact ab_zret dX11_isPart_14 rfl rfl h
    · have h := h.2 c2
      refine ab_iconst (v := 1) dX11_isPart_9 (by decide) ?_
      refine ab_goto (tgt := 14) dX11_isPart_10 (by decide) ?_
      exact ab_zret dX11_isPart_14 rfl rfl h
theorem dX11_isState_0 : decode cX11_isState 0 = .ok (.iload_n 0, 1) := by decide +kernel
theorem dX11_isState_1 : decode cX11_isState 1 = .ok (.ifCond .lt 41, 3) := by decide +kernel
theorem dX11_isState_4 : decode cX11_isState 4 = .ok (.iload_n 0, 1) := by decide +kernel
theorem dX11_isState_5 : decode cX11_isState 5 = .ok (.iconst 3, 1) := by decide +kernel
theorem dX11_isState_6 : decode cX11_isState 6 = .ok (.if_icmp .gt 36, 3) := by decide +kernel
theorem dX11_isState_9 : decode cX11_isState 9 = .ok (.iload_n 1, 1) := by decide +kernel
theorem dX11_isState_10 : decode cX11_isState 10 = .ok (.ifCond .lt 32, 3) := by decide +kernel
theorem dX11_isState_13 : decode cX11_isState 13 = .ok (.iload_n 1, 1) := by decide +kernel
theorem dX11_isState_14 : decode cX11_isState 14 = .ok (.iconst 3, 1) := by decide +kernel
theorem dX11_isState_15 : decode cX11_isState 15 = .ok (.if_icmp .gt 27, 3) := by decide +kernel
theorem dX11_isState_18 : decode cX11_isState 18 = .ok (.iload_n 2, 1) := by decide +kernel
theorem dX11_isState_19 : decode cX11_isState 19 = .ok (.ifCond .lt 23, 3) := by decide +kernel
theorem dX11_isState_22 : decode cX11_isState 22 = .ok (.iload_n 2, 1) := by decide +kernel
theorem dX11_isState_23 : decode cX11_isState 23 = .ok (.bipush 99, 2) := by decide +kernel
theorem dX11_isState_25 : decode cX11_isState 25 = .ok (.if_icmp .gt 17, 3) := by decide +kernel
theorem dX11_isState_28 : decode cX11_isState 28 = .ok (.iload_n 3, 1) := by decide +kernel
theorem dX11_isState_29 : decode cX11_isState 29 = .ok (.ifCond .lt 13, 3) := by decide +kernel
theorem dX11_isState_32 : decode cX11_isState 32 = .ok (.iload_n 3, 1) := by decide +kernel
theorem dX11_isState_33 : decode cX11_isState 33 = .ok (.bipush 20, 2) := by decide +kernel
theorem dX11_isState_35 : decode cX11_isState 35 = .ok (.if_icmp .gt 7, 3) := by decide +kernel
theorem dX11_isState_38 : decode cX11_isState 38 = .ok (.iconst 1, 1) := by decide +kernel
theorem dX11_isState_39 : decode cX11_isState 39 = .ok (.goto 4, 3) := by decide +kernel
theorem dX11_isState_42 : decode cX11_isState 42 = .ok (.iconst 0, 1) := by decide +kernel
theorem dX11_isState_43 : decode cX11_isState 43 = .ok (.ireturn, 1) := by decide +kernel
set_option maxRecDepth 20000 in
theorem rX11_isState (D : GD) (d : Nat) (a1 : Int32) (a2 : Int32) (a3 : Int32) (a4 : Int32) (M : Mm) (post : Option Value → Mm → Prop) (hL : Lay 0 62 M) 
    (h : ((a1 < 0 → post (some (.int (0 : Int32))) M) ∧ (¬ a1 < 0 → (((3 : Int32) < a1 → post (some (.int (0 : Int32))) M) ∧ (¬ (3 : Int32) < a1 → ((a2 < 0 → post (some (.int (0 : Int32))) M) ∧ (¬ a2 < 0 → (((3 : Int32) < a2 → post (some (.int (0 : Int32))) M) ∧ (¬ (3 : Int32) < a2 → ((a3 < 0 → post (some (.int (0 : Int32))) M) ∧ (¬ a3 < 0 → (((99 : Int32) < a3 → post (some (.int (0 : Int32))) M) ∧ (¬ (99 : Int32) < a3 → ((a4 < 0 → post (some (.int (0 : Int32))) M) ∧ (¬ a4 < 0 → (((20 : Int32) < a4 → post (some (.int (0 : Int32))) M) ∧ (¬ (20 : Int32) < a4 → post (some (.int (1 : Int32))) M))))))))))))))))) :
    AM D d 0 0 mX11_isState [.int a1, .int a2, .int a3, .int a4] M post := by
  refine AM.of (by decide) (Nat.le_of_ble_eq_true rfl) ?_
  show AW D d 0 0 mX11_isState 0 0 0 [(0, .int a1), (1, .int a2), (2, .int a3), (3, .int a4)] [] M post
  refine ab_iload_n 0 dX11_isState_0 rfl ?_
  refine ab_if_lt (tgt := 42) dX11_isState_1 (by decide) (fun c1 => ?_) (fun c1 => ?_)
  · have h := h.1 c1
    refine ab_iconst (v := 0) dX11_isState_42 (by decide) ?_
    exact ab_zret dX11_isState_43 rfl rfl h
  · have h := h.2 c1
    refine ab_iload_n 0 dX11_isState_4 rfl ?_
    refine ab_iconst (v := 3) dX11_isState_5 (by decide) ?_
    refine ab_icmp_gt (tgt := 42) dX11_isState_6 (by decide) (fun c2 => ?_) (fun c2 => ?_)
    · have h := h.1 c2
      refine ab_iconst (v := 0) dX11_isState_42 (by decide) ?_
      exact ab_zret dX11_isState_43 rfl rfl h
    · have h := h.2 c2
      refine ab_iload_n 1 dX11_isState_9 rfl ?_
      refine ab_if_lt (tgt := 42) dX11_isState_10 (by decide) (fun c3 => ?_) (fun c3 => ?_)
      · have h := h.1 c3
        refine ab_iconst (v := 0) dX11_isState_42 (by decide) ?_
        exact ab_zret dX11_isState_43 rfl rfl h
      · have h := h.2 c3
        refine ab_iload_n 1 dX11_isState_13 rfl ?_
        refine ab_iconst (v := 3) dX11_isState_14 (by decide) ?_
        refine ab_icmp_gt (tgt := 42) dX11_isState_15 (by decide) (fun c4 => ?_) (fun c4 => ?_)
        · have h := h.1 c4
          refine ab_iconst (v := 0) dX11_isState_42 (by decide) ?_
          exact ab_zret dX11_isState_43 rfl rfl h
        · have h := h.2 c4
          refine ab_iload_n 2 dX11_isState_18 rfl ?_
          refine ab_if_lt (tgt := 42) dX11_isState_19 (by decide) (fun c5 => ?_) (fun c5 => ?_)
          · have h := h.1 c5
            refine ab_iconst (v := 0) dX11_isState_42 (by decide) ?_
            exact ab_zret dX11_isState_43 rfl rfl h
          · have h := h.2 c5
            refine ab_iload_n 2 dX11_isState_22 rfl ?_
            refine ab_bipush (v := 99) dX11_isState_23 (by decide) ?_
            refine ab_icmp_gt (tgt := 42) dX11_isState_25 (by decide) (fun c6 => ?_) (fun c6 => ?_)
            · have h := h.1 c6
              refine ab_iconst (v := 0) dX11_isState_42 (by decide) ?_
              exact ab_zret dX11_isState_43 rfl rfl h
            · have h := h.2 c6
              refine ab_iload_n 3 dX11_isState_28 rfl ?_
              refine ab_if_lt (tgt := 42) dX11_isState_29 (by decide) (fun c7 => ?_) (fun c7 => ?_)
              · have h := h.1 c7
                refine ab_iconst (v := 0) dX11_isState_42 (by decide) ?_
                exact ab_zret dX11_isState_43 rfl rfl h
              · have h := h.2 c7
                refine ab_iload_n 3 dX11_isState_32 rfl ?_
                refine ab_bipush (v := 20) dX11_isState_33 (by decide) ?_
                refine ab_icmp_gt (tgt := 42) dX11_isState_35 (by decide) (fun c8 => ?_) (fun c8 => ?_)
                · have h := h.1 c8
                  refine ab_iconst (v := 0) dX11_isState_42 (by decide) ?_
                  exact ab_zret dX11_isState_43 rfl rfl h
                · have h := h.2 c8
                  refine ab_iconst (v := 1) dX11_isState_38 (by decide) ?_
                  refine ab_goto (tgt := 43) dX11_isState_39 (by decide) ?_
                  exact ab_zret dX11_isState_43 rfl rfl h
theorem dX11_playerOrNull_0 : decode cX11_playerOrNull 0 = .ok (.iload_n 1, 1) := by decide +kernel
theorem dX11_playerOrNull_1 : decode cX11_playerOrNull 1 = .ok (.ifCond .lt 20, 3) := by decide +kernel
theorem dX11_playerOrNull_4 : decode cX11_playerOrNull 4 = .ok (.iload_n 1, 1) := by decide +kernel
theorem dX11_playerOrNull_5 : decode cX11_playerOrNull 5 = .ok (.aload_n 0, 1) := by decide +kernel
theorem dX11_playerOrNull_6 : decode cX11_playerOrNull 6 = .ok (.getfield 33, 3) := by decide +kernel
theorem dX11_playerOrNull_9 : decode cX11_playerOrNull 9 = .ok (.if_icmp .ge 12, 3) := by decide +kernel
theorem dX11_playerOrNull_12 : decode cX11_playerOrNull 12 = .ok (.aload_n 0, 1) := by decide +kernel
theorem dX11_playerOrNull_13 : decode cX11_playerOrNull 13 = .ok (.getfield 29, 3) := by decide +kernel
theorem dX11_playerOrNull_16 : decode cX11_playerOrNull 16 = .ok (.iload_n 1, 1) := by decide +kernel
theorem dX11_playerOrNull_17 : decode cX11_playerOrNull 17 = .ok (.aaload, 1) := by decide +kernel
theorem dX11_playerOrNull_18 : decode cX11_playerOrNull 18 = .ok (.goto 4, 3) := by decide +kernel
theorem dX11_playerOrNull_21 : decode cX11_playerOrNull 21 = .ok (.aconst_null, 1) := by decide +kernel
theorem dX11_playerOrNull_22 : decode cX11_playerOrNull 22 = .ok (.areturn, 1) := by decide +kernel
set_option maxRecDepth 20000 in
theorem rX11_playerOrNull (D : GD) (d : Nat) (a1 : Int32) (M : Mm) (post : Option Value → Mm → Prop) (hL : Lay 0 62 M) 
    (h : ((a1 < 0 → post (some (va_rf none)) M) ∧ (¬ a1 < 0 → (((gI M 0 4) ≤ a1 → post (some (va_rf none)) M) ∧ (¬ (gI M 0 4) ≤ a1 → vp_in a1 10 ∧ post (some (va_rf (gP M 12 a1.toNatClampNeg))) M))))) :
    AM D d 0 0 mX11_playerOrNull [.ref 0, .int a1] M post := by
  refine AM.of (by decide) (Nat.le_of_ble_eq_true rfl) ?_
  show AW D d 0 0 mX11_playerOrNull 0 0 0 [(0, .ref 0), (1, .int a1)] [] M post
  refine ab_iload_n 1 dX11_playerOrNull_0 rfl ?_
  refine ab_if_lt (tgt := 21) dX11_playerOrNull_1 (by decide) (fun c1 => ?_) (fun c1 => ?_)
  · have h := h.1 c1
    refine ab_null dX11_playerOrNull_21 ?_
    exact ab_aret (o := none) dX11_playerOrNull_22 rfl h
  · have h := h.2 c1
    refine ab_iload_n 1 dX11_playerOrNull_4 rfl ?_
    refine ab_aload_n 0 dX11_playerOrNull_5 rfl ?_
    refine ab_getI dX11_playerOrNull_6 fs_11_33_11 rfl (hL.sh 0 rfl (by decide) (by decide)).1 (hL.sh 0 rfl (by decide) (by decide)).2 ?_
    refine ab_icmp_ge (tgt := 21) dX11_playerOrNull_9 (by decide) (fun c2 => ?_) (fun c2 => ?_)
    · have h := h.1 c2
      refine ab_null dX11_playerOrNull_21 ?_
      exact ab_aret (o := none) dX11_playerOrNull_22 rfl h
    · have h := h.2 c2
      refine ab_aload_n 0 dX11_playerOrNull_12 rfl ?_
      refine ab_getP (r := 12) dX11_playerOrNull_13 fs_11_29_11 rfl (hL.sh 0 rfl (by decide) (by decide)).1 (hL.sh 0 rfl (by decide) (by decide)).2 (hL.pt 2 rfl (by decide) (by decide)) ?_
      refine ab_iload_n 1 dX11_playerOrNull_16 rfl ?_
      have hb3 := h.1
      have h := h.2
      refine ab_aald6j (j := a1.toNatClampNeg) dX11_playerOrNull_17 (hL.sh 12 rfl (by decide) (by decide)) hb3 rfl ?_
      refine ab_goto (tgt := 22) dX11_playerOrNull_18 (by decide) ?_
      exact ab_aret (o := (gP M 12 a1.toNatClampNeg)) dX11_playerOrNull_22 rfl h
theorem dX11_rest_0 : decode cX11_rest 0 = .ok (.iload_n 1, 1) := by decide +kernel
theorem dX11_rest_1 : decode cX11_rest 1 = .ok (.invokestatic 165, 3) := by decide +kernel
theorem dX11_rest_4 : decode cX11_rest 4 = .ok (.ifCond .eq 12, 3) := by decide +kernel
theorem dX11_rest_7 : decode cX11_rest 7 = .ok (.iload_n 2, 1) := by decide +kernel
theorem dX11_rest_8 : decode cX11_rest 8 = .ok (.ifCond .lt 8, 3) := by decide +kernel
theorem dX11_rest_11 : decode cX11_rest 11 = .ok (.iload_n 2, 1) := by decide +kernel
theorem dX11_rest_12 : decode cX11_rest 12 = .ok (.iconst 3, 1) := by decide +kernel
theorem dX11_rest_13 : decode cX11_rest 13 = .ok (.if_icmp .le 5, 3) := by decide +kernel
theorem dX11_rest_16 : decode cX11_rest 16 = .ok (.iconst (-1), 1) := by decide +kernel
theorem dX11_rest_17 : decode cX11_rest 17 = .ok (.ireturn, 1) := by decide +kernel
theorem dX11_rest_18 : decode cX11_rest 18 = .ok (.iload_n 2, 1) := by decide +kernel
theorem dX11_rest_19 : decode cX11_rest 19 = .ok (.iconst 3, 1) := by decide +kernel
theorem dX11_rest_20 : decode cX11_rest 20 = .ok (.if_icmp .ne 15, 3) := by decide +kernel
theorem dX11_rest_23 : decode cX11_rest 23 = .ok (.aload_n 0, 1) := by decide +kernel
theorem dX11_rest_24 : decode cX11_rest 24 = .ok (.getfield 39, 3) := by decide +kernel
theorem dX11_rest_27 : decode cX11_rest 27 = .ok (.getfield 168, 3) := by decide +kernel
theorem dX11_rest_30 : decode cX11_rest 30 = .ok (.iload_n 1, 1) := by decide +kernel
theorem dX11_rest_31 : decode cX11_rest 31 = .ok (.iaload, 1) := by decide +kernel
theorem dX11_rest_32 : decode cX11_rest 32 = .ok (.goto 14, 3) := by decide +kernel
theorem dX11_rest_35 : decode cX11_rest 35 = .ok (.aload_n 0, 1) := by decide +kernel
theorem dX11_rest_36 : decode cX11_rest 36 = .ok (.getfield 39, 3) := by decide +kernel
theorem dX11_rest_39 : decode cX11_rest 39 = .ok (.getfield 171, 3) := by decide +kernel
theorem dX11_rest_42 : decode cX11_rest 42 = .ok (.iload_n 1, 1) := by decide +kernel
theorem dX11_rest_43 : decode cX11_rest 43 = .ok (.aaload, 1) := by decide +kernel
theorem dX11_rest_44 : decode cX11_rest 44 = .ok (.iload_n 2, 1) := by decide +kernel
theorem dX11_rest_45 : decode cX11_rest 45 = .ok (.iaload, 1) := by decide +kernel
theorem dX11_rest_46 : decode cX11_rest 46 = .ok (.ireturn, 1) := by decide +kernel
set_option maxRecDepth 20000 in
theorem rX11_rest (D : GD) (d : Nat) (a1 : Int32) (a2 : Int32) (M : Mm) (post : Option Value → Mm → Prop) (hL : Lay 0 62 M) 
    (h : AMi D d mX11_isWho [.int a1] M (fun x2 M1 => ((x2 = 0 → post (some (.int (-1 : Int32))) M1) ∧ (¬ x2 = 0 → ((a2 < 0 → post (some (.int (-1 : Int32))) M1) ∧ (¬ a2 < 0 → ((a2 ≤ (3 : Int32) → ((¬ a2 = (3 : Int32) → vp_in a1 2 ∧ vp_in a2 3 ∧ post (some (.int (gI M1 (16 + a1.toNatClampNeg) a2.toNatClampNeg))) M1) ∧ (a2 = (3 : Int32) → vp_in a1 2 ∧ post (some (.int (gI M1 18 a1.toNatClampNeg))) M1))) ∧ (¬ a2 ≤ (3 : Int32) → post (some (.int (-1 : Int32))) M1)))))))) :
    AM D (d + 1) 0 0 mX11_rest [.ref 0, .int a1, .int a2] M post := by
  refine AM.of (by decide) (Nat.le_of_ble_eq_true rfl) ?_
  show AW D (d + 1) 0 0 mX11_rest 0 0 0 [(0, .ref 0), (1, .int a1), (2, .int a2)] [] M post
  refine ab_iload_n 1 dX11_rest_0 rfl ?_
  refine ab_callS (d' := d) (mc' := 0) (ms' := 0) (vs := [.int a1]) (st := []) dX11_rest_1 ⟨cw_X11_isWho, w_578⟩ w_579 rfl rfl (Nat.le_of_ble_eq_true rfl) (Nat.le_refl _) (Nat.zero_le _) (Nat.zero_le _) (AM.mono h (fun r M1 ⟨x2, hr3, hc4, h⟩ => ?_))
  subst hr3
  refine ab_rs ?_
  have hm5 : Sm M M1 := (Sm.refl M).trans hc4
  have hl6 := hL.of hm5
  refine ab_if_eq (tgt := 16) dX11_rest_4 (by decide) (fun c7 => ?_) (fun c7 => ?_)
  · have h := h.1 c7
    refine ab_iconst (v := (-1)) dX11_rest_16 (by decide) ?_
    exact ab_iret dX11_rest_17 rfl h
  · have h := h.2 c7
    refine ab_iload_n 2 dX11_rest_7 rfl ?_
    refine ab_if_lt (tgt := 16) dX11_rest_8 (by decide) (fun c8 => ?_) (fun c8 => ?_)
    · have h := h.1 c8
      refine ab_iconst (v := (-1)) dX11_rest_16 (by decide) ?_
      exact ab_iret dX11_rest_17 rfl h
    · have h := h.2 c8
      refine ab_iload_n 2 dX11_rest_11 rfl ?_
      refine ab_iconst (v := 3) dX11_rest_12 (by decide) ?_
      refine ab_icmp_le (tgt := 18) dX11_rest_13 (by decide) (fun c9 => ?_) (fun c9 => ?_)
      · have h := h.1 c9
        refine ab_iload_n 2 dX11_rest_18 rfl ?_
        refine ab_iconst (v := 3) dX11_rest_19 (by decide) ?_
        refine ab_icmp_ne (tgt := 35) dX11_rest_20 (by decide) (fun c10 => ?_) (fun c10 => ?_)
        · have h := h.1 c10
          refine ab_aload_n 0 dX11_rest_35 rfl ?_
          refine ab_getP (r := 13) dX11_rest_36 fs_11_39_11 rfl (hl6.sh 0 rfl (by decide) (by decide)).1 (hl6.sh 0 rfl (by decide) (by decide)).2 (hl6.pt 3 rfl (by decide) (by decide)) ?_
          refine ab_getP (r := 15) dX11_rest_39 fs_11_171_0 rfl (hl6.sh 13 rfl (by decide) (by decide)).1 (hl6.sh 13 rfl (by decide) (by decide)).2 (hl6.pt 23 rfl (by decide) (by decide)) ?_
          refine ab_iload_n 1 dX11_rest_42 rfl ?_
          have hb11 := h.1
          have h := h.2
          refine ab_aald4j (j := a1.toNatClampNeg) (r := 16 + a1.toNatClampNeg) dX11_rest_43 (hl6.sh 15 rfl (by decide) (by decide)) hb11 rfl (row_15 hl6 (by decide) (by decide) (vin_lt hb11)).1 ?_
          refine ab_iload_n 2 dX11_rest_44 rfl ?_
          have hb12 := h.1
          have h := h.2
          refine ab_ialdj (j := a2.toNatClampNeg) dX11_rest_45 (row_15 hl6 (by decide) (by decide) (vin_lt hb11)).2 hb12 rfl ?_
          exact ab_iret dX11_rest_46 rfl h
        · have h := h.2 c10
          refine ab_aload_n 0 dX11_rest_23 rfl ?_
          refine ab_getP (r := 13) dX11_rest_24 fs_11_39_11 rfl (hl6.sh 0 rfl (by decide) (by decide)).1 (hl6.sh 0 rfl (by decide) (by decide)).2 (hl6.pt 3 rfl (by decide) (by decide)) ?_
          refine ab_getP (r := 18) dX11_rest_27 fs_11_168_0 rfl (hl6.sh 13 rfl (by decide) (by decide)).1 (hl6.sh 13 rfl (by decide) (by decide)).2 (hl6.pt 24 rfl (by decide) (by decide)) ?_
          refine ab_iload_n 1 dX11_rest_30 rfl ?_
          have hb13 := h.1
          have h := h.2
          refine ab_ialdj (j := a1.toNatClampNeg) dX11_rest_31 (hl6.sh 18 rfl (by decide) (by decide)) hb13 rfl ?_
          refine ab_goto (tgt := 46) dX11_rest_32 (by decide) ?_
          exact ab_iret dX11_rest_46 rfl h
      · have h := h.2 c9
        refine ab_iconst (v := (-1)) dX11_rest_16 (by decide) ?_
        exact ab_iret dX11_rest_17 rfl h
theorem dX11_gap_0 : decode cX11_gap 0 = .ok (.aload_n 0, 1) := by decide +kernel
theorem dX11_gap_1 : decode cX11_gap 1 = .ok (.getfield 39, 3) := by decide +kernel
theorem dX11_gap_4 : decode cX11_gap 4 = .ok (.getfield 168, 3) := by decide +kernel
theorem dX11_gap_7 : decode cX11_gap 7 = .ok (.iconst 1, 1) := by decide +kernel
theorem dX11_gap_8 : decode cX11_gap 8 = .ok (.iaload, 1) := by decide +kernel
theorem dX11_gap_9 : decode cX11_gap 9 = .ok (.aload_n 0, 1) := by decide +kernel
theorem dX11_gap_10 : decode cX11_gap 10 = .ok (.getfield 39, 3) := by decide +kernel
theorem dX11_gap_13 : decode cX11_gap 13 = .ok (.getfield 168, 3) := by decide +kernel
theorem dX11_gap_16 : decode cX11_gap 16 = .ok (.iconst 0, 1) := by decide +kernel
theorem dX11_gap_17 : decode cX11_gap 17 = .ok (.iaload, 1) := by decide +kernel
theorem dX11_gap_18 : decode cX11_gap 18 = .ok (.isub, 1) := by decide +kernel
theorem dX11_gap_19 : decode cX11_gap 19 = .ok (.ireturn, 1) := by decide +kernel
set_option maxRecDepth 20000 in
theorem rX11_gap (D : GD) (d : Nat)  (M : Mm) (post : Option Value → Mm → Prop) (hL : Lay 0 62 M) 
    (h : post (some (.int ((gI M 18 1) - (gI M 18 0)))) M) :
    AM D d 0 0 mX11_gap [.ref 0] M post := by
  refine AM.of (by decide) (Nat.le_of_ble_eq_true rfl) ?_
  show AW D d 0 0 mX11_gap 0 0 0 [(0, .ref 0)] [] M post
  refine ab_aload_n 0 dX11_gap_0 rfl ?_
  refine ab_getP (r := 13) dX11_gap_1 fs_11_39_11 rfl (hL.sh 0 rfl (by decide) (by decide)).1 (hL.sh 0 rfl (by decide) (by decide)).2 (hL.pt 3 rfl (by decide) (by decide)) ?_
  refine ab_getP (r := 18) dX11_gap_4 fs_11_168_0 rfl (hL.sh 13 rfl (by decide) (by decide)).1 (hL.sh 13 rfl (by decide) (by decide)).2 (hL.pt 24 rfl (by decide) (by decide)) ?_
  refine ab_iconst (v := 1) dX11_gap_7 (by decide) ?_
  refine ab_ialdj (j := 1) dX11_gap_8 (hL.sh 18 rfl (by decide) (by decide)) (vin (by decide)) (by decide) ?_
  refine ab_aload_n 0 dX11_gap_9 rfl ?_
  refine ab_getP (r := 13) dX11_gap_10 fs_11_39_11 rfl (hL.sh 0 rfl (by decide) (by decide)).1 (hL.sh 0 rfl (by decide) (by decide)).2 (hL.pt 3 rfl (by decide) (by decide)) ?_
  refine ab_getP (r := 18) dX11_gap_13 fs_11_168_0 rfl (hL.sh 13 rfl (by decide) (by decide)).1 (hL.sh 13 rfl (by decide) (by decide)).2 (hL.pt 24 rfl (by decide) (by decide)) ?_
  refine ab_iconst (v := 0) dX11_gap_16 (by decide) ?_
  refine ab_ialdj (j := 0) dX11_gap_17 (hL.sh 18 rfl (by decide) (by decide)) (vin (by decide)) (by decide) ?_
  refine ab_isub dX11_gap_18 ?_
  exact ab_iret dX11_gap_19 rfl h
theorem dX11_weight_0 : decode cX11_weight 0 = .ok (.aload_n 0, 1) := by decide +kernel
theorem dX11_weight_1 : decode cX11_weight 1 = .ok (.iload_n 1, 1) := by decide +kernel
theorem dX11_weight_2 : decode cX11_weight 2 = .ok (.invokevirtual 131, 3) := by decide +kernel
theorem dX11_weight_5 : decode cX11_weight 5 = .ok (.astore 9, 2) := by decide +kernel
theorem dX11_weight_7 : decode cX11_weight 7 = .ok (.aload_n 0, 1) := by decide +kernel
theorem dX11_weight_8 : decode cX11_weight 8 = .ok (.iload_n 2, 1) := by decide +kernel
theorem dX11_weight_9 : decode cX11_weight 9 = .ok (.invokevirtual 131, 3) := by decide +kernel
theorem dX11_weight_12 : decode cX11_weight 12 = .ok (.astore 10, 2) := by decide +kernel
theorem dX11_weight_14 : decode cX11_weight 14 = .ok (.aload 9, 2) := by decide +kernel
theorem dX11_weight_16 : decode cX11_weight 16 = .ok (.ifnull 23, 3) := by decide +kernel
theorem dX11_weight_19 : decode cX11_weight 19 = .ok (.aload 10, 2) := by decide +kernel
theorem dX11_weight_21 : decode cX11_weight 21 = .ok (.ifnull 18, 3) := by decide +kernel
theorem dX11_weight_24 : decode cX11_weight 24 = .ok (.iload_n 3, 1) := by decide +kernel
theorem dX11_weight_25 : decode cX11_weight 25 = .ok (.invokestatic 165, 3) := by decide +kernel
theorem dX11_weight_28 : decode cX11_weight 28 = .ok (.ifCond .eq 11, 3) := by decide +kernel
theorem dX11_weight_31 : decode cX11_weight 31 = .ok (.iload 4, 2) := by decide +kernel
theorem dX11_weight_33 : decode cX11_weight 33 = .ok (.invokestatic 91, 3) := by decide +kernel
theorem dX11_weight_36 : decode cX11_weight 36 = .ok (.ifCond .ne 5, 3) := by decide +kernel
theorem dX11_weight_39 : decode cX11_weight 39 = .ok (.iconst (-1), 1) := by decide +kernel
theorem dX11_weight_40 : decode cX11_weight 40 = .ok (.ireturn, 1) := by decide +kernel
theorem dX11_weight_41 : decode cX11_weight 41 = .ok (.iload 5, 2) := by decide +kernel
theorem dX11_weight_43 : decode cX11_weight 43 = .ok (.iload 6, 2) := by decide +kernel
theorem dX11_weight_45 : decode cX11_weight 45 = .ok (.iload 7, 2) := by decide +kernel
theorem dX11_weight_47 : decode cX11_weight 47 = .ok (.iload 8, 2) := by decide +kernel
theorem dX11_weight_49 : decode cX11_weight 49 = .ok (.invokestatic 174, 3) := by decide +kernel
theorem dX11_weight_52 : decode cX11_weight 52 = .ok (.ifCond .ne 6, 3) := by decide +kernel
theorem dX11_weight_55 : decode cX11_weight 55 = .ok (.bipush (-2), 2) := by decide +kernel
theorem dX11_weight_57 : decode cX11_weight 57 = .ok (.ireturn, 1) := by decide +kernel
theorem dX11_weight_58 : decode cX11_weight 58 = .ok (.aload_n 0, 1) := by decide +kernel
theorem dX11_weight_59 : decode cX11_weight 59 = .ok (.getfield 39, 3) := by decide +kernel
theorem dX11_weight_62 : decode cX11_weight 62 = .ok (.iload 5, 2) := by decide +kernel
theorem dX11_weight_64 : decode cX11_weight 64 = .ok (.iload 6, 2) := by decide +kernel
theorem dX11_weight_66 : decode cX11_weight 66 = .ok (.iload 7, 2) := by decide +kernel
theorem dX11_weight_68 : decode cX11_weight 68 = .ok (.iload 8, 2) := by decide +kernel
theorem dX11_weight_70 : decode cX11_weight 70 = .ok (.invokevirtual 178, 3) := by decide +kernel
theorem dX11_weight_73 : decode cX11_weight 73 = .ok (.aload_n 0, 1) := by decide +kernel
theorem dX11_weight_74 : decode cX11_weight 74 = .ok (.getfield 39, 3) := by decide +kernel
theorem dX11_weight_77 : decode cX11_weight 77 = .ok (.aload 9, 2) := by decide +kernel
theorem dX11_weight_79 : decode cX11_weight 79 = .ok (.aload 10, 2) := by decide +kernel
theorem dX11_weight_81 : decode cX11_weight 81 = .ok (.invokevirtual 182, 3) := by decide +kernel
theorem dX11_weight_84 : decode cX11_weight 84 = .ok (.aload_n 0, 1) := by decide +kernel
theorem dX11_weight_85 : decode cX11_weight 85 = .ok (.getfield 39, 3) := by decide +kernel
theorem dX11_weight_88 : decode cX11_weight 88 = .ok (.getfield 186, 3) := by decide +kernel
theorem dX11_weight_91 : decode cX11_weight 91 = .ok (.iload_n 3, 1) := by decide +kernel
theorem dX11_weight_92 : decode cX11_weight 92 = .ok (.aaload, 1) := by decide +kernel
theorem dX11_weight_93 : decode cX11_weight 93 = .ok (.iload 4, 2) := by decide +kernel
theorem dX11_weight_95 : decode cX11_weight 95 = .ok (.iaload, 1) := by decide +kernel
theorem dX11_weight_96 : decode cX11_weight 96 = .ok (.ireturn, 1) := by decide +kernel
set_option maxRecDepth 20000 in
theorem rX11_weight (D : GD) (d : Nat) (a1 : Int32) (a2 : Int32) (a3 : Int32) (a4 : Int32) (a5 : Int32) (a6 : Int32) (a7 : Int32) (a8 : Int32) (M : Mm) (post : Option Value → Mm → Prop) (hL : Lay 0 62 M) 
    (h : AMq D d mX11_playerOrNull [.ref 0, .int a1] M (fun x2 M1 => AMq D d mX11_playerOrNull [.ref 0, .int a2] M1 (fun x8 M7 => ((x2 = none → post (some (.int (-1 : Int32))) M7) ∧ (∀ p14 : Nat, x2 = some p14 → ((x8 = none → post (some (.int (-1 : Int32))) M7) ∧ (∀ p16 : Nat, x8 = some p16 → AMi D d mX11_isWho [.int a3] M7 (fun x18 M17 => ((x18 = 0 → post (some (.int (-1 : Int32))) M17) ∧ (¬ x18 = 0 → AMi D d mX11_isSide [.int a4] M17 (fun x25 M24 => ((¬ x25 = 0 → AMi D d mX11_isState [.int a5, .int a6, .int a7, .int a8] M24 (fun x32 M31 => ((¬ x32 = 0 → AMv D d mX0_setState [.ref 13, .int a5, .int a6, .int a7, .int a8] M31 (fun M38 => AMv D d mX0_meet [.ref 13, .ref p14, .ref p16] M38 (fun M44 => vp_in a3 2 ∧ vp_in a4 4 ∧ post (some (.int (gI M44 (23 + a3.toNatClampNeg) a4.toNatClampNeg))) M44))) ∧ (x32 = 0 → post (some (.int (-2 : Int32))) M31)))) ∧ (x25 = 0 → post (some (.int (-1 : Int32))) M24))))))))))))) :
    AM D (d + 1) 0 0 mX11_weight [.ref 0, .int a1, .int a2, .int a3, .int a4, .int a5, .int a6, .int a7, .int a8] M post := by
  refine AM.of (by decide) (Nat.le_of_ble_eq_true rfl) ?_
  show AW D (d + 1) 0 0 mX11_weight 0 0 0 [(0, .ref 0), (1, .int a1), (2, .int a2), (3, .int a3), (4, .int a4), (5, .int a5), (6, .int a6), (7, .int a7), (8, .int a8)] [] M post
  refine ab_aload_n 0 dX11_weight_0 rfl ?_
  refine ab_iload_n 1 dX11_weight_1 rfl ?_
  refine ab_callV (a := 0) (c0 := 11) (d' := d) (mc' := 0) (ms' := 0) (vs := [.int a1]) (st := []) dX11_weight_2 ⟨cw_X11_playerOrNull, w_570⟩ w_572 w_14 (by decide) (hL.sh 0 rfl (by decide) (by decide)).1 (hL.sh 0 rfl (by decide) (by decide)).2 rfl rfl (Nat.le_of_ble_eq_true rfl) (Nat.le_refl _) (Nat.zero_le _) (Nat.zero_le _) (AM.mono h (fun r M1 ⟨x2, hr3, hc4, h⟩ => ?_))
  subst hr3
  refine ab_rs ?_
  have hm5 : Sm M M1 := (Sm.refl M).trans hc4
  have hl6 := hL.of hm5
  refine ab_astoreq (lv1 := [(9, va_rf x2), (0, .ref 0), (1, .int a1), (2, .int a2), (3, .int a3), (4, .int a4), (5, .int a5), (6, .int a6), (7, .int a7), (8, .int a8)]) dX11_weight_5 (by decide) rfl ?_
  refine ab_aload_n 1 dX11_weight_7 rfl ?_
  refine ab_iload_n 3 dX11_weight_8 rfl ?_
  refine ab_callV (a := 0) (c0 := 11) (d' := d) (mc' := 0) (ms' := 0) (vs := [.int a2]) (st := []) dX11_weight_9 ⟨cw_X11_playerOrNull, w_570⟩ w_572 w_14 (by decide) (hl6.sh 0 rfl (by decide) (by decide)).1 (hl6.sh 0 rfl (by decide) (by decide)).2 rfl rfl (Nat.le_of_ble_eq_true rfl) (Nat.le_refl _) (Nat.zero_le _) (Nat.zero_le _) (AM.mono h (fun r M7 ⟨x8, hr9, hc10, h⟩ => ?_))
  subst hr9
  refine ab_rs ?_
  have hm11 : Sm M M7 := hm5.trans hc10
  have hl12 := hL.of hm11
  refine ab_astoreq (lv1 := [(10, va_rf x8), (9, va_rf x2), (0, .ref 0), (1, .int a1), (2, .int a2), (3, .int a3), (4, .int a4), (5, .int a5), (6, .int a6), (7, .int a7), (8, .int a8)]) dX11_weight_12 (by decide) (by simp [q1, cat_rf]) ?_
  refine ab_aloadq 1 dX11_weight_14 rfl ?_
  refine ab_ifnull (tgt := 39) dX11_weight_16 (by decide) (fun c13 => ?_) (fun p14 c13 => ?_)
  · have h := h.1 c13
    refine ab_iconst (v := (-1)) dX11_weight_39 (by decide) ?_
    exact ab_iret dX11_weight_40 rfl h
  · have h := h.2 p14 c13
    rw [c13]
    refine ab_aloadq 0 dX11_weight_19 rfl ?_
    refine ab_ifnull (tgt := 39) dX11_weight_21 (by decide) (fun c15 => ?_) (fun p16 c15 => ?_)
    · have h := h.1 c15
      refine ab_iconst (v := (-1)) dX11_weight_39 (by decide) ?_
      exact ab_iret dX11_weight_40 rfl h
    · have h := h.2 p16 c15
      rw [c15]
      refine ab_iload_n 5 dX11_weight_24 rfl ?_
      refine ab_callS (d' := d) (mc' := 0) (ms' := 0) (vs := [.int a3]) (st := []) dX11_weight_25 ⟨cw_X11_isWho, w_578⟩ w_579 rfl rfl (Nat.le_of_ble_eq_true rfl) (Nat.le_refl _) (Nat.zero_le _) (Nat.zero_le _) (AM.mono h (fun r M17 ⟨x18, hr19, hc20, h⟩ => ?_))
      subst hr19
      refine ab_rs ?_
      have hm21 : Sm M M17 := hm11.trans hc20
      have hl22 := hL.of hm21
      refine ab_if_eq (tgt := 39) dX11_weight_28 (by decide) (fun c23 => ?_) (fun c23 => ?_)
      · have h := h.1 c23
        refine ab_iconst (v := (-1)) dX11_weight_39 (by decide) ?_
        exact ab_iret dX11_weight_40 rfl h
      · have h := h.2 c23
        refine ab_iload 6 dX11_weight_31 rfl ?_
        refine ab_callS (d' := d) (mc' := 0) (ms' := 0) (vs := [.int a4]) (st := []) dX11_weight_33 ⟨cw_X11_isSide, w_318⟩ w_319 rfl rfl (Nat.le_of_ble_eq_true rfl) (Nat.le_refl _) (Nat.zero_le _) (Nat.zero_le _) (AM.mono h (fun r M24 ⟨x25, hr26, hc27, h⟩ => ?_))
        subst hr26
        refine ab_rs ?_
        have hm28 : Sm M M24 := hm21.trans hc27
        have hl29 := hL.of hm28
        refine ab_if_ne (tgt := 41) dX11_weight_36 (by decide) (fun c30 => ?_) (fun c30 => ?_)
        · have h := h.1 c30
          refine ab_iload 7 dX11_weight_41 rfl ?_
          refine ab_iload 8 dX11_weight_43 rfl ?_
          refine ab_iload 9 dX11_weight_45 rfl ?_
          refine ab_iload 10 dX11_weight_47 rfl ?_
          refine ab_callS (d' := d) (mc' := 0) (ms' := 0) (vs := [.int a5, .int a6, .int a7, .int a8]) (st := []) dX11_weight_49 ⟨cw_X11_isState, w_589⟩ w_590 rfl rfl (Nat.le_of_ble_eq_true rfl) (Nat.le_refl _) (Nat.zero_le _) (Nat.zero_le _) (AM.mono h (fun r M31 ⟨x32, hr33, hc34, h⟩ => ?_))
          subst hr33
          refine ab_rs ?_
          have hm35 : Sm M M31 := hm28.trans hc34
          have hl36 := hL.of hm35
          refine ab_if_ne (tgt := 58) dX11_weight_52 (by decide) (fun c37 => ?_) (fun c37 => ?_)
          · have h := h.1 c37
            refine ab_aload_n 2 dX11_weight_58 rfl ?_
            refine ab_getP (r := 13) dX11_weight_59 fs_11_39_11 rfl (hl36.sh 0 rfl (by decide) (by decide)).1 (hl36.sh 0 rfl (by decide) (by decide)).2 (hl36.pt 3 rfl (by decide) (by decide)) ?_
            refine ab_iload 7 dX11_weight_62 rfl ?_
            refine ab_iload 8 dX11_weight_64 rfl ?_
            refine ab_iload 9 dX11_weight_66 rfl ?_
            refine ab_iload 10 dX11_weight_68 rfl ?_
            refine ab_callV (a := 13) (c0 := 0) (d' := d) (mc' := 0) (ms' := 0) (vs := [.int a5, .int a6, .int a7, .int a8]) (st := []) dX11_weight_70 ⟨cw_X0_setState, w_592⟩ w_593 w_594 (by decide) (hl36.sh 13 rfl (by decide) (by decide)).1 (hl36.sh 13 rfl (by decide) (by decide)).2 rfl rfl (Nat.le_of_ble_eq_true rfl) (Nat.le_refl _) (Nat.zero_le _) (Nat.zero_le _) (AM.mono h (fun r M38 ⟨hr40, hc41, h⟩ => ?_))
            subst hr40
            refine ab_rv ?_
            have hm42 : Sm M M38 := hm35.trans hc41
            have hl43 := hL.of hm42
            refine ab_aload_n 2 dX11_weight_73 rfl ?_
            refine ab_getP (r := 13) dX11_weight_74 fs_11_39_11 rfl (hl43.sh 0 rfl (by decide) (by decide)).1 (hl43.sh 0 rfl (by decide) (by decide)).2 (hl43.pt 3 rfl (by decide) (by decide)) ?_
            refine ab_aload 1 dX11_weight_77 rfl ?_
            refine ab_aload 0 dX11_weight_79 rfl ?_
            refine ab_callV (a := 13) (c0 := 0) (d' := d) (mc' := 0) (ms' := 0) (vs := [.ref p14, .ref p16]) (st := []) dX11_weight_81 ⟨cw_X0_meet, w_599⟩ w_600 w_601 (by decide) (hl43.sh 13 rfl (by decide) (by decide)).1 (hl43.sh 13 rfl (by decide) (by decide)).2 rfl rfl (Nat.le_of_ble_eq_true rfl) (Nat.le_refl _) (Nat.zero_le _) (Nat.zero_le _) (AM.mono h (fun r M44 ⟨hr46, hc47, h⟩ => ?_))
            subst hr46
            refine ab_rv ?_
            have hm48 : Sm M M44 := hm42.trans hc47
            have hl49 := hL.of hm48
            refine ab_aload_n 2 dX11_weight_84 rfl ?_
            refine ab_getP (r := 13) dX11_weight_85 fs_11_39_11 rfl (hl49.sh 0 rfl (by decide) (by decide)).1 (hl49.sh 0 rfl (by decide) (by decide)).2 (hl49.pt 3 rfl (by decide) (by decide)) ?_
            refine ab_getP (r := 22) dX11_weight_88 fs_11_186_0 rfl (hl49.sh 13 rfl (by decide) (by decide)).1 (hl49.sh 13 rfl (by decide) (by decide)).2 (hl49.pt 26 rfl (by decide) (by decide)) ?_
            refine ab_iload_n 5 dX11_weight_91 rfl ?_
            have hb50 := h.1
            have h := h.2
            refine ab_aald4j (j := a3.toNatClampNeg) (r := 23 + a3.toNatClampNeg) dX11_weight_92 (hl49.sh 22 rfl (by decide) (by decide)) hb50 rfl (row_22 hl49 (by decide) (by decide) (vin_lt hb50)).1 ?_
            refine ab_iload 6 dX11_weight_93 rfl ?_
            have hb51 := h.1
            have h := h.2
            refine ab_ialdj (j := a4.toNatClampNeg) dX11_weight_95 (row_22 hl49 (by decide) (by decide) (vin_lt hb50)).2 hb51 rfl ?_
            exact ab_iret dX11_weight_96 rfl h
          · have h := h.2 c37
            refine ab_bipush (v := (-2)) dX11_weight_55 (by decide) ?_
            exact ab_iret dX11_weight_57 rfl h
        · have h := h.2 c30
          refine ab_iconst (v := (-1)) dX11_weight_39 (by decide) ?_
          exact ab_iret dX11_weight_40 rfl h
theorem dX11_reply_0 : decode cX11_reply 0 = .ok (.aload_n 0, 1) := by decide +kernel
theorem dX11_reply_1 : decode cX11_reply 1 = .ok (.iload_n 1, 1) := by decide +kernel
theorem dX11_reply_2 : decode cX11_reply 2 = .ok (.invokevirtual 131, 3) := by decide +kernel
theorem dX11_reply_5 : decode cX11_reply 5 = .ok (.astore 8, 2) := by decide +kernel
theorem dX11_reply_7 : decode cX11_reply 7 = .ok (.aload_n 0, 1) := by decide +kernel
theorem dX11_reply_8 : decode cX11_reply 8 = .ok (.iload_n 2, 1) := by decide +kernel
theorem dX11_reply_9 : decode cX11_reply 9 = .ok (.invokevirtual 131, 3) := by decide +kernel
theorem dX11_reply_12 : decode cX11_reply 12 = .ok (.astore 9, 2) := by decide +kernel
theorem dX11_reply_14 : decode cX11_reply 14 = .ok (.aload 8, 2) := by decide +kernel
theorem dX11_reply_16 : decode cX11_reply 16 = .ok (.ifnull 15, 3) := by decide +kernel
theorem dX11_reply_19 : decode cX11_reply 19 = .ok (.aload 9, 2) := by decide +kernel
theorem dX11_reply_21 : decode cX11_reply 21 = .ok (.ifnull 10, 3) := by decide +kernel
theorem dX11_reply_24 : decode cX11_reply 24 = .ok (.iload_n 3, 1) := by decide +kernel
theorem dX11_reply_25 : decode cX11_reply 25 = .ok (.invokestatic 165, 3) := by decide +kernel
theorem dX11_reply_28 : decode cX11_reply 28 = .ok (.ifCond .ne 5, 3) := by decide +kernel
theorem dX11_reply_31 : decode cX11_reply 31 = .ok (.iconst (-1), 1) := by decide +kernel
theorem dX11_reply_32 : decode cX11_reply 32 = .ok (.ireturn, 1) := by decide +kernel
theorem dX11_reply_33 : decode cX11_reply 33 = .ok (.iload 4, 2) := by decide +kernel
theorem dX11_reply_35 : decode cX11_reply 35 = .ok (.iload 5, 2) := by decide +kernel
theorem dX11_reply_37 : decode cX11_reply 37 = .ok (.iload 6, 2) := by decide +kernel
theorem dX11_reply_39 : decode cX11_reply 39 = .ok (.iload 7, 2) := by decide +kernel
theorem dX11_reply_41 : decode cX11_reply 41 = .ok (.invokestatic 174, 3) := by decide +kernel
theorem dX11_reply_44 : decode cX11_reply 44 = .ok (.ifCond .ne 6, 3) := by decide +kernel
theorem dX11_reply_47 : decode cX11_reply 47 = .ok (.bipush (-2), 2) := by decide +kernel
theorem dX11_reply_49 : decode cX11_reply 49 = .ok (.ireturn, 1) := by decide +kernel
theorem dX11_reply_50 : decode cX11_reply 50 = .ok (.aload_n 0, 1) := by decide +kernel
theorem dX11_reply_51 : decode cX11_reply 51 = .ok (.getfield 39, 3) := by decide +kernel
theorem dX11_reply_54 : decode cX11_reply 54 = .ok (.iload 4, 2) := by decide +kernel
theorem dX11_reply_56 : decode cX11_reply 56 = .ok (.iload 5, 2) := by decide +kernel
theorem dX11_reply_58 : decode cX11_reply 58 = .ok (.iload 6, 2) := by decide +kernel
theorem dX11_reply_60 : decode cX11_reply 60 = .ok (.iload 7, 2) := by decide +kernel
theorem dX11_reply_62 : decode cX11_reply 62 = .ok (.invokevirtual 178, 3) := by decide +kernel
theorem dX11_reply_65 : decode cX11_reply 65 = .ok (.aload_n 0, 1) := by decide +kernel
theorem dX11_reply_66 : decode cX11_reply 66 = .ok (.getfield 39, 3) := by decide +kernel
theorem dX11_reply_69 : decode cX11_reply 69 = .ok (.aload 8, 2) := by decide +kernel
theorem dX11_reply_71 : decode cX11_reply 71 = .ok (.aload 9, 2) := by decide +kernel
theorem dX11_reply_73 : decode cX11_reply 73 = .ok (.invokevirtual 182, 3) := by decide +kernel
theorem dX11_reply_76 : decode cX11_reply 76 = .ok (.aload_n 0, 1) := by decide +kernel
theorem dX11_reply_77 : decode cX11_reply 77 = .ok (.getfield 39, 3) := by decide +kernel
theorem dX11_reply_80 : decode cX11_reply 80 = .ok (.iload_n 3, 1) := by decide +kernel
theorem dX11_reply_81 : decode cX11_reply 81 = .ok (.invokevirtual 189, 3) := by decide +kernel
theorem dX11_reply_84 : decode cX11_reply 84 = .ok (.ireturn, 1) := by decide +kernel
set_option maxRecDepth 20000 in
theorem rX11_reply (D : GD) (d : Nat) (a1 : Int32) (a2 : Int32) (a3 : Int32) (a4 : Int32) (a5 : Int32) (a6 : Int32) (a7 : Int32) (M : Mm) (post : Option Value → Mm → Prop) (hL : Lay 0 62 M) 
    (h : AMq D d mX11_playerOrNull [.ref 0, .int a1] M (fun x2 M1 => AMq D d mX11_playerOrNull [.ref 0, .int a2] M1 (fun x8 M7 => ((x2 = none → post (some (.int (-1 : Int32))) M7) ∧ (∀ p14 : Nat, x2 = some p14 → ((x8 = none → post (some (.int (-1 : Int32))) M7) ∧ (∀ p16 : Nat, x8 = some p16 → AMi D d mX11_isWho [.int a3] M7 (fun x18 M17 => ((¬ x18 = 0 → AMi D d mX11_isState [.int a4, .int a5, .int a6, .int a7] M17 (fun x25 M24 => ((¬ x25 = 0 → AMv D d mX0_setState [.ref 13, .int a4, .int a5, .int a6, .int a7] M24 (fun M31 => AMv D d mX0_meet [.ref 13, .ref p14, .ref p16] M31 (fun M37 => AMi D d mX0_replySide [.ref 13, .int a3] M37 (fun x44 M43 => post (some (.int x44)) M43)))) ∧ (x25 = 0 → post (some (.int (-2 : Int32))) M24)))) ∧ (x18 = 0 → post (some (.int (-1 : Int32))) M17)))))))))) :
    AM D (d + 1) 0 0 mX11_reply [.ref 0, .int a1, .int a2, .int a3, .int a4, .int a5, .int a6, .int a7] M post := by
  refine AM.of (by decide) (Nat.le_of_ble_eq_true rfl) ?_
  show AW D (d + 1) 0 0 mX11_reply 0 0 0 [(0, .ref 0), (1, .int a1), (2, .int a2), (3, .int a3), (4, .int a4), (5, .int a5), (6, .int a6), (7, .int a7)] [] M post
  refine ab_aload_n 0 dX11_reply_0 rfl ?_
  refine ab_iload_n 1 dX11_reply_1 rfl ?_
  refine ab_callV (a := 0) (c0 := 11) (d' := d) (mc' := 0) (ms' := 0) (vs := [.int a1]) (st := []) dX11_reply_2 ⟨cw_X11_playerOrNull, w_570⟩ w_572 w_14 (by decide) (hL.sh 0 rfl (by decide) (by decide)).1 (hL.sh 0 rfl (by decide) (by decide)).2 rfl rfl (Nat.le_of_ble_eq_true rfl) (Nat.le_refl _) (Nat.zero_le _) (Nat.zero_le _) (AM.mono h (fun r M1 ⟨x2, hr3, hc4, h⟩ => ?_))
  subst hr3
  refine ab_rs ?_
  have hm5 : Sm M M1 := (Sm.refl M).trans hc4
  have hl6 := hL.of hm5
  refine ab_astoreq (lv1 := [(8, va_rf x2), (0, .ref 0), (1, .int a1), (2, .int a2), (3, .int a3), (4, .int a4), (5, .int a5), (6, .int a6), (7, .int a7)]) dX11_reply_5 (by decide) rfl ?_
  refine ab_aload_n 1 dX11_reply_7 rfl ?_
  refine ab_iload_n 3 dX11_reply_8 rfl ?_
  refine ab_callV (a := 0) (c0 := 11) (d' := d) (mc' := 0) (ms' := 0) (vs := [.int a2]) (st := []) dX11_reply_9 ⟨cw_X11_playerOrNull, w_570⟩ w_572 w_14 (by decide) (hl6.sh 0 rfl (by decide) (by decide)).1 (hl6.sh 0 rfl (by decide) (by decide)).2 rfl rfl (Nat.le_of_ble_eq_true rfl) (Nat.le_refl _) (Nat.zero_le _) (Nat.zero_le _) (AM.mono h (fun r M7 ⟨x8, hr9, hc10, h⟩ => ?_))
  subst hr9
  refine ab_rs ?_
  have hm11 : Sm M M7 := hm5.trans hc10
  have hl12 := hL.of hm11
  refine ab_astoreq (lv1 := [(9, va_rf x8), (8, va_rf x2), (0, .ref 0), (1, .int a1), (2, .int a2), (3, .int a3), (4, .int a4), (5, .int a5), (6, .int a6), (7, .int a7)]) dX11_reply_12 (by decide) (by simp [q1, cat_rf]) ?_
  refine ab_aloadq 1 dX11_reply_14 rfl ?_
  refine ab_ifnull (tgt := 31) dX11_reply_16 (by decide) (fun c13 => ?_) (fun p14 c13 => ?_)
  · have h := h.1 c13
    refine ab_iconst (v := (-1)) dX11_reply_31 (by decide) ?_
    exact ab_iret dX11_reply_32 rfl h
  · have h := h.2 p14 c13
    rw [c13]
    refine ab_aloadq 0 dX11_reply_19 rfl ?_
    refine ab_ifnull (tgt := 31) dX11_reply_21 (by decide) (fun c15 => ?_) (fun p16 c15 => ?_)
    · have h := h.1 c15
      refine ab_iconst (v := (-1)) dX11_reply_31 (by decide) ?_
      exact ab_iret dX11_reply_32 rfl h
    · have h := h.2 p16 c15
      rw [c15]
      refine ab_iload_n 5 dX11_reply_24 rfl ?_
      refine ab_callS (d' := d) (mc' := 0) (ms' := 0) (vs := [.int a3]) (st := []) dX11_reply_25 ⟨cw_X11_isWho, w_578⟩ w_579 rfl rfl (Nat.le_of_ble_eq_true rfl) (Nat.le_refl _) (Nat.zero_le _) (Nat.zero_le _) (AM.mono h (fun r M17 ⟨x18, hr19, hc20, h⟩ => ?_))
      subst hr19
      refine ab_rs ?_
      have hm21 : Sm M M17 := hm11.trans hc20
      have hl22 := hL.of hm21
      refine ab_if_ne (tgt := 33) dX11_reply_28 (by decide) (fun c23 => ?_) (fun c23 => ?_)
      · have h := h.1 c23
        refine ab_iload 6 dX11_reply_33 rfl ?_
        refine ab_iload 7 dX11_reply_35 rfl ?_
        refine ab_iload 8 dX11_reply_37 rfl ?_
        refine ab_iload 9 dX11_reply_39 rfl ?_
        refine ab_callS (d' := d) (mc' := 0) (ms' := 0) (vs := [.int a4, .int a5, .int a6, .int a7]) (st := []) dX11_reply_41 ⟨cw_X11_isState, w_589⟩ w_590 rfl rfl (Nat.le_of_ble_eq_true rfl) (Nat.le_refl _) (Nat.zero_le _) (Nat.zero_le _) (AM.mono h (fun r M24 ⟨x25, hr26, hc27, h⟩ => ?_))
        subst hr26
        refine ab_rs ?_
        have hm28 : Sm M M24 := hm21.trans hc27
        have hl29 := hL.of hm28
        refine ab_if_ne (tgt := 50) dX11_reply_44 (by decide) (fun c30 => ?_) (fun c30 => ?_)
        · have h := h.1 c30
          refine ab_aload_n 2 dX11_reply_50 rfl ?_
          refine ab_getP (r := 13) dX11_reply_51 fs_11_39_11 rfl (hl29.sh 0 rfl (by decide) (by decide)).1 (hl29.sh 0 rfl (by decide) (by decide)).2 (hl29.pt 3 rfl (by decide) (by decide)) ?_
          refine ab_iload 6 dX11_reply_54 rfl ?_
          refine ab_iload 7 dX11_reply_56 rfl ?_
          refine ab_iload 8 dX11_reply_58 rfl ?_
          refine ab_iload 9 dX11_reply_60 rfl ?_
          refine ab_callV (a := 13) (c0 := 0) (d' := d) (mc' := 0) (ms' := 0) (vs := [.int a4, .int a5, .int a6, .int a7]) (st := []) dX11_reply_62 ⟨cw_X0_setState, w_592⟩ w_593 w_594 (by decide) (hl29.sh 13 rfl (by decide) (by decide)).1 (hl29.sh 13 rfl (by decide) (by decide)).2 rfl rfl (Nat.le_of_ble_eq_true rfl) (Nat.le_refl _) (Nat.zero_le _) (Nat.zero_le _) (AM.mono h (fun r M31 ⟨hr33, hc34, h⟩ => ?_))
          subst hr33
          refine ab_rv ?_
          have hm35 : Sm M M31 := hm28.trans hc34
          have hl36 := hL.of hm35
          refine ab_aload_n 2 dX11_reply_65 rfl ?_
          refine ab_getP (r := 13) dX11_reply_66 fs_11_39_11 rfl (hl36.sh 0 rfl (by decide) (by decide)).1 (hl36.sh 0 rfl (by decide) (by decide)).2 (hl36.pt 3 rfl (by decide) (by decide)) ?_
          refine ab_aload 1 dX11_reply_69 rfl ?_
          refine ab_aload 0 dX11_reply_71 rfl ?_
          refine ab_callV (a := 13) (c0 := 0) (d' := d) (mc' := 0) (ms' := 0) (vs := [.ref p14, .ref p16]) (st := []) dX11_reply_73 ⟨cw_X0_meet, w_599⟩ w_600 w_601 (by decide) (hl36.sh 13 rfl (by decide) (by decide)).1 (hl36.sh 13 rfl (by decide) (by decide)).2 rfl rfl (Nat.le_of_ble_eq_true rfl) (Nat.le_refl _) (Nat.zero_le _) (Nat.zero_le _) (AM.mono h (fun r M37 ⟨hr39, hc40, h⟩ => ?_))
          subst hr39
          refine ab_rv ?_
          have hm41 : Sm M M37 := hm35.trans hc40
          have hl42 := hL.of hm41
          refine ab_aload_n 2 dX11_reply_76 rfl ?_
          refine ab_getP (r := 13) dX11_reply_77 fs_11_39_11 rfl (hl42.sh 0 rfl (by decide) (by decide)).1 (hl42.sh 0 rfl (by decide) (by decide)).2 (hl42.pt 3 rfl (by decide) (by decide)) ?_
          refine ab_iload_n 5 dX11_reply_80 rfl ?_
          refine ab_callV (a := 13) (c0 := 0) (d' := d) (mc' := 0) (ms' := 0) (vs := [.int a3]) (st := []) dX11_reply_81 ⟨cw_X0_replySide, w_673⟩ w_632 w_633 (by decide) (hl42.sh 13 rfl (by decide) (by decide)).1 (hl42.sh 13 rfl (by decide) (by decide)).2 rfl rfl (Nat.le_of_ble_eq_true rfl) (Nat.le_refl _) (Nat.zero_le _) (Nat.zero_le _) (AM.mono h (fun r M43 ⟨x44, hr45, hc46, h⟩ => ?_))
          subst hr45
          refine ab_rs ?_
          have hm47 : Sm M M43 := hm41.trans hc46
          have hl48 := hL.of hm47
          exact ab_iret dX11_reply_84 rfl h
        · have h := h.2 c30
          refine ab_bipush (v := (-2)) dX11_reply_47 (by decide) ?_
          exact ab_iret dX11_reply_49 rfl h
      · have h := h.2 c23
        refine ab_iconst (v := (-1)) dX11_reply_31 (by decide) ?_
        exact ab_iret dX11_reply_32 rfl h
theorem dX11_leak_0 : decode cX11_leak 0 = .ok (.aload_n 0, 1) := by decide +kernel
theorem dX11_leak_1 : decode cX11_leak 1 = .ok (.iload_n 1, 1) := by decide +kernel
theorem dX11_leak_2 : decode cX11_leak 2 = .ok (.invokevirtual 131, 3) := by decide +kernel
theorem dX11_leak_5 : decode cX11_leak 5 = .ok (.astore 7, 2) := by decide +kernel
theorem dX11_leak_7 : decode cX11_leak 7 = .ok (.aload_n 0, 1) := by decide +kernel
theorem dX11_leak_8 : decode cX11_leak 8 = .ok (.iload_n 2, 1) := by decide +kernel
theorem dX11_leak_9 : decode cX11_leak 9 = .ok (.invokevirtual 131, 3) := by decide +kernel
theorem dX11_leak_12 : decode cX11_leak 12 = .ok (.astore 8, 2) := by decide +kernel
theorem dX11_leak_14 : decode cX11_leak 14 = .ok (.aload 7, 2) := by decide +kernel
theorem dX11_leak_16 : decode cX11_leak 16 = .ok (.ifnull 38, 3) := by decide +kernel
theorem dX11_leak_19 : decode cX11_leak 19 = .ok (.aload 8, 2) := by decide +kernel
theorem dX11_leak_21 : decode cX11_leak 21 = .ok (.ifnull 33, 3) := by decide +kernel
theorem dX11_leak_24 : decode cX11_leak 24 = .ok (.iload_n 3, 1) := by decide +kernel
theorem dX11_leak_25 : decode cX11_leak 25 = .ok (.ifCond .lt 29, 3) := by decide +kernel
theorem dX11_leak_28 : decode cX11_leak 28 = .ok (.iload_n 3, 1) := by decide +kernel
theorem dX11_leak_29 : decode cX11_leak 29 = .ok (.bipush 100, 2) := by decide +kernel
theorem dX11_leak_31 : decode cX11_leak 31 = .ok (.if_icmp .gt 23, 3) := by decide +kernel
theorem dX11_leak_34 : decode cX11_leak 34 = .ok (.iconst 3, 1) := by decide +kernel
theorem dX11_leak_35 : decode cX11_leak 35 = .ok (.iconst 3, 1) := by decide +kernel
theorem dX11_leak_36 : decode cX11_leak 36 = .ok (.iload 4, 2) := by decide +kernel
theorem dX11_leak_38 : decode cX11_leak 38 = .ok (.iload 5, 2) := by decide +kernel
theorem dX11_leak_40 : decode cX11_leak 40 = .ok (.invokestatic 174, 3) := by decide +kernel
theorem dX11_leak_43 : decode cX11_leak 43 = .ok (.ifCond .eq 11, 3) := by decide +kernel
theorem dX11_leak_46 : decode cX11_leak 46 = .ok (.iload 6, 2) := by decide +kernel
theorem dX11_leak_48 : decode cX11_leak 48 = .ok (.invokestatic 193, 3) := by decide +kernel
theorem dX11_leak_51 : decode cX11_leak 51 = .ok (.ifCond .ne 7, 3) := by decide +kernel
theorem dX11_leak_54 : decode cX11_leak 54 = .ok (.ldc2_w 196, 3) := by decide +kernel
theorem dX11_leak_57 : decode cX11_leak 57 = .ok (.lreturn, 1) := by decide +kernel
theorem dX11_leak_58 : decode cX11_leak 58 = .ok (.aload_n 0, 1) := by decide +kernel
theorem dX11_leak_59 : decode cX11_leak 59 = .ok (.getfield 39, 3) := by decide +kernel
theorem dX11_leak_62 : decode cX11_leak 62 = .ok (.iconst 3, 1) := by decide +kernel
theorem dX11_leak_63 : decode cX11_leak 63 = .ok (.iconst 3, 1) := by decide +kernel
theorem dX11_leak_64 : decode cX11_leak 64 = .ok (.iload 4, 2) := by decide +kernel
theorem dX11_leak_66 : decode cX11_leak 66 = .ok (.iload 5, 2) := by decide +kernel
theorem dX11_leak_68 : decode cX11_leak 68 = .ok (.invokevirtual 178, 3) := by decide +kernel
theorem dX11_leak_71 : decode cX11_leak 71 = .ok (.aload_n 0, 1) := by decide +kernel
theorem dX11_leak_72 : decode cX11_leak 72 = .ok (.getfield 39, 3) := by decide +kernel
theorem dX11_leak_75 : decode cX11_leak 75 = .ok (.aload 7, 2) := by decide +kernel
theorem dX11_leak_77 : decode cX11_leak 77 = .ok (.aload 8, 2) := by decide +kernel
theorem dX11_leak_79 : decode cX11_leak 79 = .ok (.iload_n 3, 1) := by decide +kernel
theorem dX11_leak_80 : decode cX11_leak 80 = .ok (.invokevirtual 198, 3) := by decide +kernel
theorem dX11_leak_83 : decode cX11_leak 83 = .ok (.iload 6, 2) := by decide +kernel
theorem dX11_leak_85 : decode cX11_leak 85 = .ok (.ifCond .ne 13, 3) := by decide +kernel
theorem dX11_leak_88 : decode cX11_leak 88 = .ok (.aload_n 0, 1) := by decide +kernel
theorem dX11_leak_89 : decode cX11_leak 89 = .ok (.getfield 39, 3) := by decide +kernel
theorem dX11_leak_92 : decode cX11_leak 92 = .ok (.getfield 205, 3) := by decide +kernel
theorem dX11_leak_95 : decode cX11_leak 95 = .ok (.goto 10, 3) := by decide +kernel
theorem dX11_leak_98 : decode cX11_leak 98 = .ok (.aload_n 0, 1) := by decide +kernel
theorem dX11_leak_99 : decode cX11_leak 99 = .ok (.getfield 39, 3) := by decide +kernel
theorem dX11_leak_102 : decode cX11_leak 102 = .ok (.getfield 209, 3) := by decide +kernel
theorem dX11_leak_105 : decode cX11_leak 105 = .ok (.lreturn, 1) := by decide +kernel
set_option maxRecDepth 20000 in
theorem rX11_leak (D : GD) (d : Nat) (a1 : Int32) (a2 : Int32) (a3 : Int32) (a4 : Int32) (a5 : Int32) (a6 : Int32) (M : Mm) (post : Option Value → Mm → Prop) (hL : Lay 0 62 M) 
    (h : AMq D d mX11_playerOrNull [.ref 0, .int a1] M (fun x2 M1 => AMq D d mX11_playerOrNull [.ref 0, .int a2] M1 (fun x8 M7 => ((x2 = none → post (some (.long (-9223372036854775808 : Int64))) M7) ∧ (∀ p14 : Nat, x2 = some p14 → ((x8 = none → post (some (.long (-9223372036854775808 : Int64))) M7) ∧ (∀ p16 : Nat, x8 = some p16 → ((a3 < 0 → post (some (.long (-9223372036854775808 : Int64))) M7) ∧ (¬ a3 < 0 → (((100 : Int32) < a3 → post (some (.long (-9223372036854775808 : Int64))) M7) ∧ (¬ (100 : Int32) < a3 → AMi D d mX11_isState [.int (3 : Int32), .int (3 : Int32), .int a4, .int a5] M7 (fun x20 M19 => ((x20 = 0 → post (some (.long (-9223372036854775808 : Int64))) M19) ∧ (¬ x20 = 0 → AMi D d mX11_isPart [.int a6] M19 (fun x27 M26 => ((¬ x27 = 0 → AMv D d mX0_setState [.ref 13, .int (3 : Int32), .int (3 : Int32), .int a4, .int a5] M26 (fun M33 => AMv D d mX0_score [.ref 13, .ref p14, .ref p16, .int a3] M33 (fun M39 => ((¬ a6 = 0 → post (some (.long (gL M39 13 7))) M39) ∧ (a6 = 0 → post (some (.long (gL M39 13 6))) M39))))) ∧ (x27 = 0 → post (some (.long (-9223372036854775808 : Int64))) M26))))))))))))))))) :
    AM D (d + 1) 0 0 mX11_leak [.ref 0, .int a1, .int a2, .int a3, .int a4, .int a5, .int a6] M post := by
  refine AM.of (by decide) (Nat.le_of_ble_eq_true rfl) ?_
  show AW D (d + 1) 0 0 mX11_leak 0 0 0 [(0, .ref 0), (1, .int a1), (2, .int a2), (3, .int a3), (4, .int a4), (5, .int a5), (6, .int a6)] [] M post
  refine ab_aload_n 0 dX11_leak_0 rfl ?_
  refine ab_iload_n 1 dX11_leak_1 rfl ?_
  refine ab_callV (a := 0) (c0 := 11) (d' := d) (mc' := 0) (ms' := 0) (vs := [.int a1]) (st := []) dX11_leak_2 ⟨cw_X11_playerOrNull, w_570⟩ w_572 w_14 (by decide) (hL.sh 0 rfl (by decide) (by decide)).1 (hL.sh 0 rfl (by decide) (by decide)).2 rfl rfl (Nat.le_of_ble_eq_true rfl) (Nat.le_refl _) (Nat.zero_le _) (Nat.zero_le _) (AM.mono h (fun r M1 ⟨x2, hr3, hc4, h⟩ => ?_))
  subst hr3
  refine ab_rs ?_
  have hm5 : Sm M M1 := (Sm.refl M).trans hc4
  have hl6 := hL.of hm5
  refine ab_astoreq (lv1 := [(7, va_rf x2), (0, .ref 0), (1, .int a1), (2, .int a2), (3, .int a3), (4, .int a4), (5, .int a5), (6, .int a6)]) dX11_leak_5 (by decide) rfl ?_
  refine ab_aload_n 1 dX11_leak_7 rfl ?_
  refine ab_iload_n 3 dX11_leak_8 rfl ?_
  refine ab_callV (a := 0) (c0 := 11) (d' := d) (mc' := 0) (ms' := 0) (vs := [.int a2]) (st := []) dX11_leak_9 ⟨cw_X11_playerOrNull, w_570⟩ w_572 w_14 (by decide) (hl6.sh 0 rfl (by decide) (by decide)).1 (hl6.sh 0 rfl (by decide) (by decide)).2 rfl rfl (Nat.le_of_ble_eq_true rfl) (Nat.le_refl _) (Nat.zero_le _) (Nat.zero_le _) (AM.mono h (fun r M7 ⟨x8, hr9, hc10, h⟩ => ?_))
  subst hr9
  refine ab_rs ?_
  have hm11 : Sm M M7 := hm5.trans hc10
  have hl12 := hL.of hm11
  refine ab_astoreq (lv1 := [(8, va_rf x8), (7, va_rf x2), (0, .ref 0), (1, .int a1), (2, .int a2), (3, .int a3), (4, .int a4), (5, .int a5), (6, .int a6)]) dX11_leak_12 (by decide) (by simp [q1, cat_rf]) ?_
  refine ab_aloadq 1 dX11_leak_14 rfl ?_
  refine ab_ifnull (tgt := 54) dX11_leak_16 (by decide) (fun c13 => ?_) (fun p14 c13 => ?_)
  · have h := h.1 c13
    refine ab_ldc2 dX11_leak_54 w_681 ?_
    exact ab_lret dX11_leak_57 rfl h
  · have h := h.2 p14 c13
    rw [c13]
    refine ab_aloadq 0 dX11_leak_19 rfl ?_
    refine ab_ifnull (tgt := 54) dX11_leak_21 (by decide) (fun c15 => ?_) (fun p16 c15 => ?_)
    · have h := h.1 c15
      refine ab_ldc2 dX11_leak_54 w_681 ?_
      exact ab_lret dX11_leak_57 rfl h
    · have h := h.2 p16 c15
      rw [c15]
      refine ab_iload_n 5 dX11_leak_24 rfl ?_
      refine ab_if_lt (tgt := 54) dX11_leak_25 (by decide) (fun c17 => ?_) (fun c17 => ?_)
      · have h := h.1 c17
        refine ab_ldc2 dX11_leak_54 w_681 ?_
        exact ab_lret dX11_leak_57 rfl h
      · have h := h.2 c17
        refine ab_iload_n 5 dX11_leak_28 rfl ?_
        refine ab_bipush (v := 100) dX11_leak_29 (by decide) ?_
        refine ab_icmp_gt (tgt := 54) dX11_leak_31 (by decide) (fun c18 => ?_) (fun c18 => ?_)
        · have h := h.1 c18
          refine ab_ldc2 dX11_leak_54 w_681 ?_
          exact ab_lret dX11_leak_57 rfl h
        · have h := h.2 c18
          refine ab_iconst (v := 3) dX11_leak_34 (by decide) ?_
          refine ab_iconst (v := 3) dX11_leak_35 (by decide) ?_
          refine ab_iload 6 dX11_leak_36 rfl ?_
          refine ab_iload 7 dX11_leak_38 rfl ?_
          refine ab_callS (d' := d) (mc' := 0) (ms' := 0) (vs := [.int (3 : Int32), .int (3 : Int32), .int a4, .int a5]) (st := []) dX11_leak_40 ⟨cw_X11_isState, w_589⟩ w_590 rfl rfl (Nat.le_of_ble_eq_true rfl) (Nat.le_refl _) (Nat.zero_le _) (Nat.zero_le _) (AM.mono h (fun r M19 ⟨x20, hr21, hc22, h⟩ => ?_))
          subst hr21
          refine ab_rs ?_
          have hm23 : Sm M M19 := hm11.trans hc22
          have hl24 := hL.of hm23
          refine ab_if_eq (tgt := 54) dX11_leak_43 (by decide) (fun c25 => ?_) (fun c25 => ?_)
          · have h := h.1 c25
            refine ab_ldc2 dX11_leak_54 w_681 ?_
            exact ab_lret dX11_leak_57 rfl h
          · have h := h.2 c25
            refine ab_iload 8 dX11_leak_46 rfl ?_
            refine ab_callS (d' := d) (mc' := 0) (ms' := 0) (vs := [.int a6]) (st := []) dX11_leak_48 ⟨cw_X11_isPart, w_678⟩ w_679 rfl rfl (Nat.le_of_ble_eq_true rfl) (Nat.le_refl _) (Nat.zero_le _) (Nat.zero_le _) (AM.mono h (fun r M26 ⟨x27, hr28, hc29, h⟩ => ?_))
            subst hr28
            refine ab_rs ?_
            have hm30 : Sm M M26 := hm23.trans hc29
            have hl31 := hL.of hm30
            refine ab_if_ne (tgt := 58) dX11_leak_51 (by decide) (fun c32 => ?_) (fun c32 => ?_)
            · have h := h.1 c32
              refine ab_aload_n 2 dX11_leak_58 rfl ?_
              refine ab_getP (r := 13) dX11_leak_59 fs_11_39_11 rfl (hl31.sh 0 rfl (by decide) (by decide)).1 (hl31.sh 0 rfl (by decide) (by decide)).2 (hl31.pt 3 rfl (by decide) (by decide)) ?_
              refine ab_iconst (v := 3) dX11_leak_62 (by decide) ?_
              refine ab_iconst (v := 3) dX11_leak_63 (by decide) ?_
              refine ab_iload 6 dX11_leak_64 rfl ?_
              refine ab_iload 7 dX11_leak_66 rfl ?_
              refine ab_callV (a := 13) (c0 := 0) (d' := d) (mc' := 0) (ms' := 0) (vs := [.int (3 : Int32), .int (3 : Int32), .int a4, .int a5]) (st := []) dX11_leak_68 ⟨cw_X0_setState, w_592⟩ w_593 w_594 (by decide) (hl31.sh 13 rfl (by decide) (by decide)).1 (hl31.sh 13 rfl (by decide) (by decide)).2 rfl rfl (Nat.le_of_ble_eq_true rfl) (Nat.le_refl _) (Nat.zero_le _) (Nat.zero_le _) (AM.mono h (fun r M33 ⟨hr35, hc36, h⟩ => ?_))
              subst hr35
              refine ab_rv ?_
              have hm37 : Sm M M33 := hm30.trans hc36
              have hl38 := hL.of hm37
              refine ab_aload_n 2 dX11_leak_71 rfl ?_
              refine ab_getP (r := 13) dX11_leak_72 fs_11_39_11 rfl (hl38.sh 0 rfl (by decide) (by decide)).1 (hl38.sh 0 rfl (by decide) (by decide)).2 (hl38.pt 3 rfl (by decide) (by decide)) ?_
              refine ab_aload 1 dX11_leak_75 rfl ?_
              refine ab_aload 0 dX11_leak_77 rfl ?_
              refine ab_iload_n 5 dX11_leak_79 rfl ?_
              refine ab_callV (a := 13) (c0 := 0) (d' := d) (mc' := 0) (ms' := 0) (vs := [.ref p14, .ref p16, .int a3]) (st := []) dX11_leak_80 ⟨cw_X0_score, w_682⟩ w_683 w_684 (by decide) (hl38.sh 13 rfl (by decide) (by decide)).1 (hl38.sh 13 rfl (by decide) (by decide)).2 rfl rfl (Nat.le_of_ble_eq_true rfl) (Nat.le_refl _) (Nat.zero_le _) (Nat.zero_le _) (AM.mono h (fun r M39 ⟨hr41, hc42, h⟩ => ?_))
              subst hr41
              refine ab_rv ?_
              have hm43 : Sm M M39 := hm37.trans hc42
              have hl44 := hL.of hm43
              refine ab_iload 8 dX11_leak_83 rfl ?_
              refine ab_if_ne (tgt := 98) dX11_leak_85 (by decide) (fun c45 => ?_) (fun c45 => ?_)
              · have h := h.1 c45
                refine ab_aload_n 2 dX11_leak_98 rfl ?_
                refine ab_getP (r := 13) dX11_leak_99 fs_11_39_11 rfl (hl44.sh 0 rfl (by decide) (by decide)).1 (hl44.sh 0 rfl (by decide) (by decide)).2 (hl44.pt 3 rfl (by decide) (by decide)) ?_
                refine ab_getL dX11_leak_102 fs_11_209_0 rfl (hl44.sh 13 rfl (by decide) (by decide)).1 (hl44.sh 13 rfl (by decide) (by decide)).2 ?_
                exact ab_lret dX11_leak_105 rfl h
              · have h := h.2 c45
                refine ab_aload_n 2 dX11_leak_88 rfl ?_
                refine ab_getP (r := 13) dX11_leak_89 fs_11_39_11 rfl (hl44.sh 0 rfl (by decide) (by decide)).1 (hl44.sh 0 rfl (by decide) (by decide)).2 (hl44.pt 3 rfl (by decide) (by decide)) ?_
                refine ab_getL dX11_leak_92 fs_11_205_0 rfl (hl44.sh 13 rfl (by decide) (by decide)).1 (hl44.sh 13 rfl (by decide) (by decide)).2 ?_
                refine ab_goto (tgt := 105) dX11_leak_95 (by decide) ?_
                exact ab_lret dX11_leak_105 rfl h
            · have h := h.2 c32
              refine ab_ldc2 dX11_leak_54 w_681 ?_
              exact ab_lret dX11_leak_57 rfl h
theorem dX11_kick_0 : decode cX11_kick 0 = .ok (.iload_n 1, 1) := by decide +kernel
theorem dX11_kick_1 : decode cX11_kick 1 = .ok (.invokestatic 91, 3) := by decide +kernel
theorem dX11_kick_4 : decode cX11_kick 4 = .ok (.ifCond .eq 10, 3) := by decide +kernel
theorem dX11_kick_7 : decode cX11_kick 7 = .ok (.iload_n 2, 1) := by decide +kernel
theorem dX11_kick_8 : decode cX11_kick 8 = .ok (.invokestatic 91, 3) := by decide +kernel
theorem dX11_kick_11 : decode cX11_kick 11 = .ok (.ifCond .ne 5, 3) := by decide +kernel
theorem dX11_kick_14 : decode cX11_kick 14 = .ok (.iconst (-1), 1) := by decide +kernel
theorem dX11_kick_15 : decode cX11_kick 15 = .ok (.ireturn, 1) := by decide +kernel
theorem dX11_kick_16 : decode cX11_kick 16 = .ok (.aload_n 0, 1) := by decide +kernel
theorem dX11_kick_17 : decode cX11_kick 17 = .ok (.getfield 46, 3) := by decide +kernel
theorem dX11_kick_20 : decode cX11_kick 20 = .ok (.getfield 212, 3) := by decide +kernel
theorem dX11_kick_23 : decode cX11_kick 23 = .ok (.bipush 30, 2) := by decide +kernel
theorem dX11_kick_25 : decode cX11_kick 25 = .ok (.if_icmp .lt 6, 3) := by decide +kernel
theorem dX11_kick_28 : decode cX11_kick 28 = .ok (.bipush (-4), 2) := by decide +kernel
theorem dX11_kick_30 : decode cX11_kick 30 = .ok (.ireturn, 1) := by decide +kernel
theorem dX11_kick_31 : decode cX11_kick 31 = .ok (.aload_n 0, 1) := by decide +kernel
theorem dX11_kick_32 : decode cX11_kick 32 = .ok (.getfield 46, 3) := by decide +kernel
theorem dX11_kick_35 : decode cX11_kick 35 = .ok (.iload_n 1, 1) := by decide +kernel
theorem dX11_kick_36 : decode cX11_kick 36 = .ok (.iload_n 3, 1) := by decide +kernel
theorem dX11_kick_37 : decode cX11_kick 37 = .ok (.invokevirtual 215, 3) := by decide +kernel
theorem dX11_kick_40 : decode cX11_kick 40 = .ok (.aload_n 0, 1) := by decide +kernel
theorem dX11_kick_41 : decode cX11_kick 41 = .ok (.getfield 46, 3) := by decide +kernel
theorem dX11_kick_44 : decode cX11_kick 44 = .ok (.getfield 212, 3) := by decide +kernel
theorem dX11_kick_47 : decode cX11_kick 47 = .ok (.ireturn, 1) := by decide +kernel
set_option maxRecDepth 20000 in
theorem rX11_kick (D : GD) (d : Nat) (a1 : Int32) (a2 : Int32) (a3 : Int32) (M : Mm) (post : Option Value → Mm → Prop) (hL : Lay 0 62 M) 
    (h : AMi D d mX11_isSide [.int a1] M (fun x2 M1 => ((x2 = 0 → post (some (.int (-1 : Int32))) M1) ∧ (¬ x2 = 0 → AMi D d mX11_isSide [.int a2] M1 (fun x9 M8 => ((¬ x9 = 0 → (((gI M8 25 2) < (30 : Int32) → AMv D d mX1_addKick [.ref 25, .int a1, .int a3] M8 (fun M16 => post (some (.int (gI M16 25 2))) M16)) ∧ (¬ (gI M8 25 2) < (30 : Int32) → post (some (.int (-4 : Int32))) M8))) ∧ (x9 = 0 → post (some (.int (-1 : Int32))) M8))))))) :
    AM D (d + 1) 0 0 mX11_kick [.ref 0, .int a1, .int a2, .int a3] M post := by
  refine AM.of (by decide) (Nat.le_of_ble_eq_true rfl) ?_
  show AW D (d + 1) 0 0 mX11_kick 0 0 0 [(0, .ref 0), (1, .int a1), (2, .int a2), (3, .int a3)] [] M post
  refine ab_iload_n 1 dX11_kick_0 rfl ?_
  refine ab_callS (d' := d) (mc' := 0) (ms' := 0) (vs := [.int a1]) (st := []) dX11_kick_1 ⟨cw_X11_isSide, w_318⟩ w_319 rfl rfl (Nat.le_of_ble_eq_true rfl) (Nat.le_refl _) (Nat.zero_le _) (Nat.zero_le _) (AM.mono h (fun r M1 ⟨x2, hr3, hc4, h⟩ => ?_))
  subst hr3
  refine ab_rs ?_
  have hm5 : Sm M M1 := (Sm.refl M).trans hc4
  have hl6 := hL.of hm5
  refine ab_if_eq (tgt := 14) dX11_kick_4 (by decide) (fun c7 => ?_) (fun c7 => ?_)
  · have h := h.1 c7
    refine ab_iconst (v := (-1)) dX11_kick_14 (by decide) ?_
    exact ab_iret dX11_kick_15 rfl h
  · have h := h.2 c7
    refine ab_iload_n 2 dX11_kick_7 rfl ?_
    refine ab_callS (d' := d) (mc' := 0) (ms' := 0) (vs := [.int a2]) (st := []) dX11_kick_8 ⟨cw_X11_isSide, w_318⟩ w_319 rfl rfl (Nat.le_of_ble_eq_true rfl) (Nat.le_refl _) (Nat.zero_le _) (Nat.zero_le _) (AM.mono h (fun r M8 ⟨x9, hr10, hc11, h⟩ => ?_))
    subst hr10
    refine ab_rs ?_
    have hm12 : Sm M M8 := hm5.trans hc11
    have hl13 := hL.of hm12
    refine ab_if_ne (tgt := 16) dX11_kick_11 (by decide) (fun c14 => ?_) (fun c14 => ?_)
    · have h := h.1 c14
      refine ab_aload_n 0 dX11_kick_16 rfl ?_
      refine ab_getP (r := 25) dX11_kick_17 fs_11_46_11 rfl (hl13.sh 0 rfl (by decide) (by decide)).1 (hl13.sh 0 rfl (by decide) (by decide)).2 (hl13.pt 4 rfl (by decide) (by decide)) ?_
      refine ab_getI dX11_kick_20 fs_11_212_1 rfl (hl13.sh 25 rfl (by decide) (by decide)).1 (hl13.sh 25 rfl (by decide) (by decide)).2 ?_
      refine ab_bipush (v := 30) dX11_kick_23 (by decide) ?_
      refine ab_icmp_lt (tgt := 31) dX11_kick_25 (by decide) (fun c15 => ?_) (fun c15 => ?_)
      · have h := h.1 c15
        refine ab_aload_n 0 dX11_kick_31 rfl ?_
        refine ab_getP (r := 25) dX11_kick_32 fs_11_46_11 rfl (hl13.sh 0 rfl (by decide) (by decide)).1 (hl13.sh 0 rfl (by decide) (by decide)).2 (hl13.pt 4 rfl (by decide) (by decide)) ?_
        refine ab_iload_n 1 dX11_kick_35 rfl ?_
        refine ab_iload_n 3 dX11_kick_36 rfl ?_
        refine ab_callV (a := 25) (c0 := 1) (d' := d) (mc' := 0) (ms' := 0) (vs := [.int a1, .int a3]) (st := []) dX11_kick_37 ⟨cw_X1_addKick, w_718⟩ w_719 w_720 (by decide) (hl13.sh 25 rfl (by decide) (by decide)).1 (hl13.sh 25 rfl (by decide) (by decide)).2 rfl rfl (Nat.le_of_ble_eq_true rfl) (Nat.le_refl _) (Nat.zero_le _) (Nat.zero_le _) (AM.mono h (fun r M16 ⟨hr18, hc19, h⟩ => ?_))
        subst hr18
        refine ab_rv ?_
        have hm20 : Sm M M16 := hm12.trans hc19
        have hl21 := hL.of hm20
        refine ab_aload_n 0 dX11_kick_40 rfl ?_
        refine ab_getP (r := 25) dX11_kick_41 fs_11_46_11 rfl (hl21.sh 0 rfl (by decide) (by decide)).1 (hl21.sh 0 rfl (by decide) (by decide)).2 (hl21.pt 4 rfl (by decide) (by decide)) ?_
        refine ab_getI dX11_kick_44 fs_11_212_1 rfl (hl21.sh 25 rfl (by decide) (by decide)).1 (hl21.sh 25 rfl (by decide) (by decide)).2 ?_
        exact ab_iret dX11_kick_47 rfl h
      · have h := h.2 c15
        refine ab_bipush (v := (-4)) dX11_kick_28 (by decide) ?_
        exact ab_iret dX11_kick_30 rfl h
    · have h := h.2 c14
      refine ab_iconst (v := (-1)) dX11_kick_14 (by decide) ?_
      exact ab_iret dX11_kick_15 rfl h
theorem dX11_clear_0 : decode cX11_clear 0 = .ok (.aload_n 0, 1) := by decide +kernel
theorem dX11_clear_1 : decode cX11_clear 1 = .ok (.getfield 46, 3) := by decide +kernel
theorem dX11_clear_4 : decode cX11_clear 4 = .ok (.getfield 212, 3) := by decide +kernel
theorem dX11_clear_7 : decode cX11_clear 7 = .ok (.istore_n 1, 1) := by decide +kernel
theorem dX11_clear_8 : decode cX11_clear 8 = .ok (.aload_n 0, 1) := by decide +kernel
theorem dX11_clear_9 : decode cX11_clear 9 = .ok (.getfield 46, 3) := by decide +kernel
theorem dX11_clear_12 : decode cX11_clear 12 = .ok (.iconst 0, 1) := by decide +kernel
theorem dX11_clear_13 : decode cX11_clear 13 = .ok (.putfield 212, 3) := by decide +kernel
theorem dX11_clear_16 : decode cX11_clear 16 = .ok (.iload_n 1, 1) := by decide +kernel
theorem dX11_clear_17 : decode cX11_clear 17 = .ok (.ireturn, 1) := by decide +kernel
set_option maxRecDepth 20000 in
theorem rX11_clear (D : GD) (d : Nat)  (M : Mm) (post : Option Value → Mm → Prop) (hL : Lay 0 62 M) 
    (h : ∀ x1 : Int32, x1 = (gI M 25 2) → ∀ M2 : Mm, M2 = sI M 25 2 (0 : Int32) → post (some (.int x1)) M2) :
    AM D d 0 0 mX11_clear [.ref 0] M post := by
  refine AM.of (by decide) (Nat.le_of_ble_eq_true rfl) ?_
  show AW D d 0 0 mX11_clear 0 0 0 [(0, .ref 0)] [] M post
  refine ab_aload_n 0 dX11_clear_0 rfl ?_
  refine ab_getP (r := 25) dX11_clear_1 fs_11_46_11 rfl (hL.sh 0 rfl (by decide) (by decide)).1 (hL.sh 0 rfl (by decide) (by decide)).2 (hL.pt 4 rfl (by decide) (by decide)) ?_
  refine ab_getI dX11_clear_4 fs_11_212_1 rfl (hL.sh 25 rfl (by decide) (by decide)).1 (hL.sh 25 rfl (by decide) (by decide)).2 ?_
  refine ab_topi (fun x1 hx1 => ?_)
  have h := h x1 hx1
  refine ab_istore_n (lv1 := [(1, .int x1), (0, .ref 0)]) dX11_clear_7 (by decide) rfl ?_
  refine ab_aload_n 1 dX11_clear_8 rfl ?_
  refine ab_getP (r := 25) dX11_clear_9 fs_11_46_11 rfl (hL.sh 0 rfl (by decide) (by decide)).1 (hL.sh 0 rfl (by decide) (by decide)).2 (hL.pt 4 rfl (by decide) (by decide)) ?_
  refine ab_iconst (v := 0) dX11_clear_12 (by decide) ?_
  refine ab_putI dX11_clear_13 fs_11_212_1 rfl rfl (hL.sh 25 rfl (by decide) (by decide)).1 (hL.sh 25 rfl (by decide) (by decide)).2 ?_
  refine ab_nameM (fun M2 hM2 => ?_)
  have h := h M2 hM2
  have hs5 : Sm M M2 := hM2 ▸ (Sm.refl _).i
  have hm3 : Sm M M2 := (Sm.refl M).trans hs5
  have hl4 := hL.of hm3
  refine ab_iload_n 0 dX11_clear_16 rfl ?_
  exact ab_iret dX11_clear_17 rfl h
theorem dX11_does_0 : decode cX11_does 0 = .ok (.iload_n 1, 1) := by decide +kernel
theorem dX11_does_1 : decode cX11_does 1 = .ok (.invokestatic 91, 3) := by decide +kernel
theorem dX11_does_4 : decode cX11_does 4 = .ok (.ifCond .eq 14, 3) := by decide +kernel
theorem dX11_does_7 : decode cX11_does 7 = .ok (.aload_n 0, 1) := by decide +kernel
theorem dX11_does_8 : decode cX11_does 8 = .ok (.getfield 46, 3) := by decide +kernel
theorem dX11_does_11 : decode cX11_does 11 = .ok (.iload_n 1, 1) := by decide +kernel
theorem dX11_does_12 : decode cX11_does 12 = .ok (.invokevirtual 219, 3) := by decide +kernel
theorem dX11_does_15 : decode cX11_does 15 = .ok (.goto 4, 3) := by decide +kernel
theorem dX11_does_18 : decode cX11_does 18 = .ok (.iconst (-1), 1) := by decide +kernel
theorem dX11_does_19 : decode cX11_does 19 = .ok (.ireturn, 1) := by decide +kernel
set_option maxRecDepth 20000 in
theorem rX11_does (D : GD) (d : Nat) (a1 : Int32) (M : Mm) (post : Option Value → Mm → Prop) (hL : Lay 0 62 M) 
    (h : AMi D d mX11_isSide [.int a1] M (fun x2 M1 => ((x2 = 0 → post (some (.int (-1 : Int32))) M1) ∧ (¬ x2 = 0 → AMi D d mX1_goalsOfThousand [.ref 25, .int a1] M1 (fun x9 M8 => post (some (.int x9)) M8))))) :
    AM D (d + 1) 0 0 mX11_does [.ref 0, .int a1] M post := by
  refine AM.of (by decide) (Nat.le_of_ble_eq_true rfl) ?_
  show AW D (d + 1) 0 0 mX11_does 0 0 0 [(0, .ref 0), (1, .int a1)] [] M post
  refine ab_iload_n 1 dX11_does_0 rfl ?_
  refine ab_callS (d' := d) (mc' := 0) (ms' := 0) (vs := [.int a1]) (st := []) dX11_does_1 ⟨cw_X11_isSide, w_318⟩ w_319 rfl rfl (Nat.le_of_ble_eq_true rfl) (Nat.le_refl _) (Nat.zero_le _) (Nat.zero_le _) (AM.mono h (fun r M1 ⟨x2, hr3, hc4, h⟩ => ?_))
  subst hr3
  refine ab_rs ?_
  have hm5 : Sm M M1 := (Sm.refl M).trans hc4
  have hl6 := hL.of hm5
  refine ab_if_eq (tgt := 18) dX11_does_4 (by decide) (fun c7 => ?_) (fun c7 => ?_)
  · have h := h.1 c7
    refine ab_iconst (v := (-1)) dX11_does_18 (by decide) ?_
    exact ab_iret dX11_does_19 rfl h
  · have h := h.2 c7
    refine ab_aload_n 0 dX11_does_7 rfl ?_
    refine ab_getP (r := 25) dX11_does_8 fs_11_46_11 rfl (hl6.sh 0 rfl (by decide) (by decide)).1 (hl6.sh 0 rfl (by decide) (by decide)).2 (hl6.pt 4 rfl (by decide) (by decide)) ?_
    refine ab_iload_n 1 dX11_does_11 rfl ?_
    refine ab_callV (a := 25) (c0 := 1) (d' := d) (mc' := 0) (ms' := 0) (vs := [.int a1]) (st := []) dX11_does_12 ⟨cw_X1_goalsOfThousand, w_730⟩ w_731 w_732 (by decide) (hl6.sh 25 rfl (by decide) (by decide)).1 (hl6.sh 25 rfl (by decide) (by decide)).2 rfl rfl (Nat.le_of_ble_eq_true rfl) (Nat.le_refl _) (Nat.zero_le _) (Nat.zero_le _) (AM.mono h (fun r M8 ⟨x9, hr10, hc11, h⟩ => ?_))
    subst hr10
    refine ab_rs ?_
    have hm12 : Sm M M8 := hm5.trans hc11
    have hl13 := hL.of hm12
    refine ab_goto (tgt := 19) dX11_does_15 (by decide) ?_
    exact ab_iret dX11_does_19 rfl h
theorem dX11_shows_0 : decode cX11_shows 0 = .ok (.iload_n 1, 1) := by decide +kernel
theorem dX11_shows_1 : decode cX11_shows 1 = .ok (.lookupswitch 43 #[(0, 27), (1, 35)], 27) := by decide +kernel
theorem dX11_shows_28 : decode cX11_shows 28 = .ok (.aload_n 0, 1) := by decide +kernel
theorem dX11_shows_29 : decode cX11_shows 29 = .ok (.getfield 46, 3) := by decide +kernel
theorem dX11_shows_32 : decode cX11_shows 32 = .ok (.invokevirtual 222, 3) := by decide +kernel
theorem dX11_shows_35 : decode cX11_shows 35 = .ok (.ireturn, 1) := by decide +kernel
theorem dX11_shows_36 : decode cX11_shows 36 = .ok (.aload_n 0, 1) := by decide +kernel
theorem dX11_shows_37 : decode cX11_shows 37 = .ok (.getfield 46, 3) := by decide +kernel
theorem dX11_shows_40 : decode cX11_shows 40 = .ok (.invokevirtual 226, 3) := by decide +kernel
theorem dX11_shows_43 : decode cX11_shows 43 = .ok (.ireturn, 1) := by decide +kernel
theorem dX11_shows_44 : decode cX11_shows 44 = .ok (.iconst (-1), 1) := by decide +kernel
theorem dX11_shows_45 : decode cX11_shows 45 = .ok (.ireturn, 1) := by decide +kernel
set_option maxRecDepth 20000 in
theorem rX11_shows (D : GD) (d : Nat) (a1 : Int32) (M : Mm) (post : Option Value → Mm → Prop) (hL : Lay 0 62 M) 
    (h : ((a1 = (0 : Int32) → AMi D d mX1_farApart [.ref 25] M (fun x3 M2 => post (some (.int x3)) M2)) ∧ ((a1 = (1 : Int32) → AMi D d mX1_runs [.ref 25] M (fun x10 M9 => post (some (.int x10)) M9)) ∧ ((¬ a1 = (0 : Int32) → ¬ a1 = (1 : Int32) → post (some (.int (-1 : Int32))) M))))) :
    AM D (d + 1) 0 0 mX11_shows [.ref 0, .int a1] M post := by
  refine AM.of (by decide) (Nat.le_of_ble_eq_true rfl) ?_
  show AW D (d + 1) 0 0 mX11_shows 0 0 0 [(0, .ref 0), (1, .int a1)] [] M post
  refine ab_iload_n 1 dX11_shows_0 rfl ?_
  by_cases c1 : a1 = (0 : Int32)
  · have h := h.1 c1
    refine ab_lookup (off := (27)) (tgt := 28) dX11_shows_1 (by decide) (by rw [c1]; decide) (by decide) ?_
    refine ab_aload_n 0 dX11_shows_28 rfl ?_
    refine ab_getP (r := 25) dX11_shows_29 fs_11_46_11 rfl (hL.sh 0 rfl (by decide) (by decide)).1 (hL.sh 0 rfl (by decide) (by decide)).2 (hL.pt 4 rfl (by decide) (by decide)) ?_
    refine ab_callV (a := 25) (c0 := 1) (d' := d) (mc' := 0) (ms' := 0) (vs := []) (st := []) dX11_shows_32 ⟨cw_X1_farApart, w_738⟩ w_739 w_740 (by decide) (hL.sh 25 rfl (by decide) (by decide)).1 (hL.sh 25 rfl (by decide) (by decide)).2 rfl rfl (Nat.le_of_ble_eq_true rfl) (Nat.le_refl _) (Nat.zero_le _) (Nat.zero_le _) (AM.mono h (fun r M2 ⟨x3, hr4, hc5, h⟩ => ?_))
    subst hr4
    refine ab_rs ?_
    have hm6 : Sm M M2 := (Sm.refl M).trans hc5
    have hl7 := hL.of hm6
    exact ab_iret dX11_shows_35 rfl h
  · have h := h.2
    by_cases c8 : a1 = (1 : Int32)
    · have h := h.1 c8
      refine ab_lookup (off := (35)) (tgt := 36) dX11_shows_1 (by decide) (by rw [c8]; decide) (by decide) ?_
      refine ab_aload_n 0 dX11_shows_36 rfl ?_
      refine ab_getP (r := 25) dX11_shows_37 fs_11_46_11 rfl (hL.sh 0 rfl (by decide) (by decide)).1 (hL.sh 0 rfl (by decide) (by decide)).2 (hL.pt 4 rfl (by decide) (by decide)) ?_
      refine ab_callV (a := 25) (c0 := 1) (d' := d) (mc' := 0) (ms' := 0) (vs := []) (st := []) dX11_shows_40 ⟨cw_X1_runs, w_747⟩ w_748 w_749 (by decide) (hL.sh 25 rfl (by decide) (by decide)).1 (hL.sh 25 rfl (by decide) (by decide)).2 rfl rfl (Nat.le_of_ble_eq_true rfl) (Nat.le_refl _) (Nat.zero_le _) (Nat.zero_le _) (AM.mono h (fun r M9 ⟨x10, hr11, hc12, h⟩ => ?_))
      subst hr11
      refine ab_rs ?_
      have hm13 : Sm M M9 := (Sm.refl M).trans hc12
      have hl14 := hL.of hm13
      exact ab_iret dX11_shows_43 rfl h
    · have h := h.2
      have h := h c1 c8
      refine ab_lookup (off := (43)) (tgt := 44) dX11_shows_1 (by decide) (by show Op.lookupswitch.offset [(0, 27), (1, 35)] _ _ = _; rw [lv_osw c1 (by decide), lv_osw c8 (by decide)]; rfl) (by decide) ?_
      refine ab_iconst (v := (-1)) dX11_shows_44 (by decide) ?_
      exact ab_iret dX11_shows_45 rfl h
theorem dX11_likely_0 : decode cX11_likely 0 = .ok (.iload_n 1, 1) := by decide +kernel
theorem dX11_likely_1 : decode cX11_likely 1 = .ok (.invokestatic 193, 3) := by decide +kernel
theorem dX11_likely_4 : decode cX11_likely 4 = .ok (.ifCond .ne 5, 3) := by decide +kernel
theorem dX11_likely_7 : decode cX11_likely 7 = .ok (.iconst (-1), 1) := by decide +kernel
theorem dX11_likely_8 : decode cX11_likely 8 = .ok (.ireturn, 1) := by decide +kernel
theorem dX11_likely_9 : decode cX11_likely 9 = .ok (.aload_n 0, 1) := by decide +kernel
theorem dX11_likely_10 : decode cX11_likely 10 = .ok (.getfield 46, 3) := by decide +kernel
theorem dX11_likely_13 : decode cX11_likely 13 = .ok (.getfield 212, 3) := by decide +kernel
theorem dX11_likely_16 : decode cX11_likely 16 = .ok (.bipush 9, 2) := by decide +kernel
theorem dX11_likely_18 : decode cX11_likely 18 = .ok (.if_icmp .le 8, 3) := by decide +kernel
theorem dX11_likely_21 : decode cX11_likely 21 = .ok (.bipush (-9), 2) := by decide +kernel
theorem dX11_likely_23 : decode cX11_likely 23 = .ok (.goto 11, 3) := by decide +kernel
theorem dX11_likely_26 : decode cX11_likely 26 = .ok (.aload_n 0, 1) := by decide +kernel
theorem dX11_likely_27 : decode cX11_likely 27 = .ok (.getfield 46, 3) := by decide +kernel
theorem dX11_likely_30 : decode cX11_likely 30 = .ok (.iload_n 1, 1) := by decide +kernel
theorem dX11_likely_31 : decode cX11_likely 31 = .ok (.invokevirtual 229, 3) := by decide +kernel
theorem dX11_likely_34 : decode cX11_likely 34 = .ok (.ireturn, 1) := by decide +kernel
set_option maxRecDepth 20000 in
theorem rX11_likely (D : GD) (d : Nat) (a1 : Int32) (M : Mm) (post : Option Value → Mm → Prop) (hL : Lay 0 62 M) 
    (h : AMi D d mX11_isPart [.int a1] M (fun x2 M1 => ((¬ x2 = 0 → (((gI M1 25 2) ≤ (9 : Int32) → AMi D d mX1_runsShare [.ref 25, .int a1] M1 (fun x10 M9 => post (some (.int x10)) M9)) ∧ (¬ (gI M1 25 2) ≤ (9 : Int32) → post (some (.int (-9 : Int32))) M1))) ∧ (x2 = 0 → post (some (.int (-1 : Int32))) M1)))) :
    AM D (d + 1) 0 0 mX11_likely [.ref 0, .int a1] M post := by
  refine AM.of (by decide) (Nat.le_of_ble_eq_true rfl) ?_
  show AW D (d + 1) 0 0 mX11_likely 0 0 0 [(0, .ref 0), (1, .int a1)] [] M post
  refine ab_iload_n 1 dX11_likely_0 rfl ?_
  refine ab_callS (d' := d) (mc' := 0) (ms' := 0) (vs := [.int a1]) (st := []) dX11_likely_1 ⟨cw_X11_isPart, w_678⟩ w_679 rfl rfl (Nat.le_of_ble_eq_true rfl) (Nat.le_refl _) (Nat.zero_le _) (Nat.zero_le _) (AM.mono h (fun r M1 ⟨x2, hr3, hc4, h⟩ => ?_))
  subst hr3
  refine ab_rs ?_
  have hm5 : Sm M M1 := (Sm.refl M).trans hc4
  have hl6 := hL.of hm5
  refine ab_if_ne (tgt := 9) dX11_likely_4 (by decide) (fun c7 => ?_) (fun c7 => ?_)
  · have h := h.1 c7
    refine ab_aload_n 0 dX11_likely_9 rfl ?_
    refine ab_getP (r := 25) dX11_likely_10 fs_11_46_11 rfl (hl6.sh 0 rfl (by decide) (by decide)).1 (hl6.sh 0 rfl (by decide) (by decide)).2 (hl6.pt 4 rfl (by decide) (by decide)) ?_
    refine ab_getI dX11_likely_13 fs_11_212_1 rfl (hl6.sh 25 rfl (by decide) (by decide)).1 (hl6.sh 25 rfl (by decide) (by decide)).2 ?_
    refine ab_bipush (v := 9) dX11_likely_16 (by decide) ?_
    refine ab_icmp_le (tgt := 26) dX11_likely_18 (by decide) (fun c8 => ?_) (fun c8 => ?_)
    · have h := h.1 c8
      refine ab_aload_n 0 dX11_likely_26 rfl ?_
      refine ab_getP (r := 25) dX11_likely_27 fs_11_46_11 rfl (hl6.sh 0 rfl (by decide) (by decide)).1 (hl6.sh 0 rfl (by decide) (by decide)).2 (hl6.pt 4 rfl (by decide) (by decide)) ?_
      refine ab_iload_n 1 dX11_likely_30 rfl ?_
      refine ab_callV (a := 25) (c0 := 1) (d' := d) (mc' := 0) (ms' := 0) (vs := [.int a1]) (st := []) dX11_likely_31 ⟨cw_X1_runsShare, w_755⟩ w_756 w_757 (by decide) (hl6.sh 25 rfl (by decide) (by decide)).1 (hl6.sh 25 rfl (by decide) (by decide)).2 rfl rfl (Nat.le_of_ble_eq_true rfl) (Nat.le_refl _) (Nat.zero_le _) (Nat.zero_le _) (AM.mono h (fun r M9 ⟨x10, hr11, hc12, h⟩ => ?_))
      subst hr11
      refine ab_rs ?_
      have hm13 : Sm M M9 := hm5.trans hc12
      have hl14 := hL.of hm13
      exact ab_iret dX11_likely_34 rfl h
    · have h := h.2 c8
      refine ab_bipush (v := (-9)) dX11_likely_21 (by decide) ?_
      refine ab_goto (tgt := 34) dX11_likely_23 (by decide) ?_
      exact ab_iret dX11_likely_34 rfl h
  · have h := h.2 c7
    refine ab_iconst (v := (-1)) dX11_likely_7 (by decide) ?_
    exact ab_iret dX11_likely_8 rfl h
theorem dX11_win_0 : decode cX11_win 0 = .ok (.iload_n 1, 1) := by decide +kernel
theorem dX11_win_1 : decode cX11_win 1 = .ok (.ifCond .lt 8, 3) := by decide +kernel
theorem dX11_win_4 : decode cX11_win 4 = .ok (.iload_n 1, 1) := by decide +kernel
theorem dX11_win_5 : decode cX11_win 5 = .ok (.iconst 1, 1) := by decide +kernel
theorem dX11_win_6 : decode cX11_win 6 = .ok (.if_icmp .le 6, 3) := by decide +kernel
theorem dX11_win_9 : decode cX11_win 9 = .ok (.ldc 238, 2) := by decide +kernel
theorem dX11_win_11 : decode cX11_win 11 = .ok (.ireturn, 1) := by decide +kernel
theorem dX11_win_12 : decode cX11_win 12 = .ok (.aload_n 0, 1) := by decide +kernel
theorem dX11_win_13 : decode cX11_win 13 = .ok (.getfield 53, 3) := by decide +kernel
theorem dX11_win_16 : decode cX11_win 16 = .ok (.invokevirtual 239, 3) := by decide +kernel
theorem dX11_win_19 : decode cX11_win 19 = .ok (.ifCond .ne 6, 3) := by decide +kernel
theorem dX11_win_22 : decode cX11_win 22 = .ok (.ldc 242, 2) := by decide +kernel
theorem dX11_win_24 : decode cX11_win 24 = .ok (.ireturn, 1) := by decide +kernel
theorem dX11_win_25 : decode cX11_win 25 = .ok (.aload_n 0, 1) := by decide +kernel
theorem dX11_win_26 : decode cX11_win 26 = .ok (.getfield 53, 3) := by decide +kernel
theorem dX11_win_29 : decode cX11_win 29 = .ok (.aload_n 0, 1) := by decide +kernel
theorem dX11_win_30 : decode cX11_win 30 = .ok (.getfield 39, 3) := by decide +kernel
theorem dX11_win_33 : decode cX11_win 33 = .ok (.iconst 0, 1) := by decide +kernel
theorem dX11_win_34 : decode cX11_win 34 = .ok (.invokevirtual 243, 3) := by decide +kernel
theorem dX11_win_37 : decode cX11_win 37 = .ok (.aload_n 0, 1) := by decide +kernel
theorem dX11_win_38 : decode cX11_win 38 = .ok (.getfield 53, 3) := by decide +kernel
theorem dX11_win_41 : decode cX11_win 41 = .ok (.getfield 247, 3) := by decide +kernel
theorem dX11_win_44 : decode cX11_win 44 = .ok (.iconst 0, 1) := by decide +kernel
theorem dX11_win_45 : decode cX11_win 45 = .ok (.aaload, 1) := by decide +kernel
theorem dX11_win_46 : decode cX11_win 46 = .ok (.iconst 0, 1) := by decide +kernel
theorem dX11_win_47 : decode cX11_win 47 = .ok (.iaload, 1) := by decide +kernel
theorem dX11_win_48 : decode cX11_win 48 = .ok (.istore_n 2, 1) := by decide +kernel
theorem dX11_win_49 : decode cX11_win 49 = .ok (.iload_n 1, 1) := by decide +kernel
theorem dX11_win_50 : decode cX11_win 50 = .ok (.ifCond .ne 5, 3) := by decide +kernel
theorem dX11_win_53 : decode cX11_win 53 = .ok (.iload_n 2, 1) := by decide +kernel
theorem dX11_win_54 : decode cX11_win 54 = .ok (.ireturn, 1) := by decide +kernel
theorem dX11_win_55 : decode cX11_win 55 = .ok (.aload_n 0, 1) := by decide +kernel
theorem dX11_win_56 : decode cX11_win 56 = .ok (.getfield 53, 3) := by decide +kernel
theorem dX11_win_59 : decode cX11_win 59 = .ok (.aload_n 0, 1) := by decide +kernel
theorem dX11_win_60 : decode cX11_win 60 = .ok (.getfield 39, 3) := by decide +kernel
theorem dX11_win_63 : decode cX11_win 63 = .ok (.iconst 1, 1) := by decide +kernel
theorem dX11_win_64 : decode cX11_win 64 = .ok (.invokevirtual 243, 3) := by decide +kernel
theorem dX11_win_67 : decode cX11_win 67 = .ok (.iload_n 2, 1) := by decide +kernel
theorem dX11_win_68 : decode cX11_win 68 = .ok (.ldc 250, 2) := by decide +kernel
theorem dX11_win_70 : decode cX11_win 70 = .ok (.aload_n 0, 1) := by decide +kernel
theorem dX11_win_71 : decode cX11_win 71 = .ok (.getfield 53, 3) := by decide +kernel
theorem dX11_win_74 : decode cX11_win 74 = .ok (.getfield 247, 3) := by decide +kernel
theorem dX11_win_77 : decode cX11_win 77 = .ok (.iconst 0, 1) := by decide +kernel
theorem dX11_win_78 : decode cX11_win 78 = .ok (.aaload, 1) := by decide +kernel
theorem dX11_win_79 : decode cX11_win 79 = .ok (.iconst 0, 1) := by decide +kernel
theorem dX11_win_80 : decode cX11_win 80 = .ok (.iaload, 1) := by decide +kernel
theorem dX11_win_81 : decode cX11_win 81 = .ok (.isub, 1) := by decide +kernel
theorem dX11_win_82 : decode cX11_win 82 = .ok (.isub, 1) := by decide +kernel
theorem dX11_win_83 : decode cX11_win 83 = .ok (.ireturn, 1) := by decide +kernel
set_option maxRecDepth 20000 in
theorem rX11_win (D : GD) (d : Nat) (a1 : Int32) (M : Mm) (post : Option Value → Mm → Prop) (hL : Lay 0 62 M) 
    (h : ((a1 < 0 → post (some (.int (-1000001 : Int32))) M) ∧ (¬ a1 < 0 → ((a1 ≤ (1 : Int32) → AMi D d mX7_isManned [.ref 29] M (fun x4 M3 => ((¬ x4 = 0 → AMv D d mX7_playBack [.ref 29, .ref 13, .int (0 : Int32)] M3 (fun M10 => ∀ x16 : Int32, x16 = (gI M10 35 0) → ((¬ a1 = 0 → AMv D d mX7_playBack [.ref 29, .ref 13, .int (1 : Int32)] M10 (fun M18 => post (some (.int (x16 - ((1000000 : Int32) - (gI M18 35 0))))) M18)) ∧ (a1 = 0 → post (some (.int x16)) M10)))) ∧ (x4 = 0 → post (some (.int (-1000002 : Int32))) M3)))) ∧ (¬ a1 ≤ (1 : Int32) → post (some (.int (-1000001 : Int32))) M))))) :
    AM D (d + 1) 0 0 mX11_win [.ref 0, .int a1] M post := by
  refine AM.of (by decide) (Nat.le_of_ble_eq_true rfl) ?_
  show AW D (d + 1) 0 0 mX11_win 0 0 0 [(0, .ref 0), (1, .int a1)] [] M post
  refine ab_iload_n 1 dX11_win_0 rfl ?_
  refine ab_if_lt (tgt := 9) dX11_win_1 (by decide) (fun c1 => ?_) (fun c1 => ?_)
  · have h := h.1 c1
    refine ab_ldc dX11_win_9 w_776 ?_
    exact ab_iret dX11_win_11 rfl h
  · have h := h.2 c1
    refine ab_iload_n 1 dX11_win_4 rfl ?_
    refine ab_iconst (v := 1) dX11_win_5 (by decide) ?_
    refine ab_icmp_le (tgt := 12) dX11_win_6 (by decide) (fun c2 => ?_) (fun c2 => ?_)
    · have h := h.1 c2
      refine ab_aload_n 0 dX11_win_12 rfl ?_
      refine ab_getP (r := 29) dX11_win_13 fs_11_53_11 rfl (hL.sh 0 rfl (by decide) (by decide)).1 (hL.sh 0 rfl (by decide) (by decide)).2 (hL.pt 5 rfl (by decide) (by decide)) ?_
      refine ab_callV (a := 29) (c0 := 7) (d' := d) (mc' := 0) (ms' := 0) (vs := []) (st := []) dX11_win_16 ⟨cw_X7_isManned, w_777⟩ w_778 w_779 (by decide) (hL.sh 29 rfl (by decide) (by decide)).1 (hL.sh 29 rfl (by decide) (by decide)).2 rfl rfl (Nat.le_of_ble_eq_true rfl) (Nat.le_refl _) (Nat.zero_le _) (Nat.zero_le _) (AM.mono h (fun r M3 ⟨x4, hr5, hc6, h⟩ => ?_))
      subst hr5
      refine ab_rs ?_
      have hm7 : Sm M M3 := (Sm.refl M).trans hc6
      have hl8 := hL.of hm7
      refine ab_if_ne (tgt := 25) dX11_win_19 (by decide) (fun c9 => ?_) (fun c9 => ?_)
      · have h := h.1 c9
        refine ab_aload_n 0 dX11_win_25 rfl ?_
        refine ab_getP (r := 29) dX11_win_26 fs_11_53_11 rfl (hl8.sh 0 rfl (by decide) (by decide)).1 (hl8.sh 0 rfl (by decide) (by decide)).2 (hl8.pt 5 rfl (by decide) (by decide)) ?_
        refine ab_aload_n 0 dX11_win_29 rfl ?_
        refine ab_getP (r := 13) dX11_win_30 fs_11_39_11 rfl (hl8.sh 0 rfl (by decide) (by decide)).1 (hl8.sh 0 rfl (by decide) (by decide)).2 (hl8.pt 3 rfl (by decide) (by decide)) ?_
        refine ab_iconst (v := 0) dX11_win_33 (by decide) ?_
        refine ab_callV (a := 29) (c0 := 7) (d' := d) (mc' := 0) (ms' := 0) (vs := [.ref 13, .int (0 : Int32)]) (st := []) dX11_win_34 ⟨cw_X7_playBack, w_782⟩ w_783 w_784 (by decide) (hl8.sh 29 rfl (by decide) (by decide)).1 (hl8.sh 29 rfl (by decide) (by decide)).2 rfl rfl (Nat.le_of_ble_eq_true rfl) (Nat.le_refl _) (Nat.zero_le _) (Nat.zero_le _) (AM.mono h (fun r M10 ⟨hr12, hc13, h⟩ => ?_))
        subst hr12
        refine ab_rv ?_
        have hm14 : Sm M M10 := hm7.trans hc13
        have hl15 := hL.of hm14
        refine ab_aload_n 0 dX11_win_37 rfl ?_
        refine ab_getP (r := 29) dX11_win_38 fs_11_53_11 rfl (hl15.sh 0 rfl (by decide) (by decide)).1 (hl15.sh 0 rfl (by decide) (by decide)).2 (hl15.pt 5 rfl (by decide) (by decide)) ?_
        refine ab_getP (r := 34) dX11_win_41 fs_11_247_7 rfl (hl15.sh 29 rfl (by decide) (by decide)).1 (hl15.sh 29 rfl (by decide) (by decide)).2 (hl15.pt 38 rfl (by decide) (by decide)) ?_
        refine ab_iconst (v := 0) dX11_win_44 (by decide) ?_
        refine ab_aald4j (j := 0) (r := 35) dX11_win_45 (hl15.sh 34 rfl (by decide) (by decide)) (vin (by decide)) (by decide) (hl15.pt 41 rfl (by decide) (by decide)) ?_
        refine ab_iconst (v := 0) dX11_win_46 (by decide) ?_
        refine ab_ialdj (j := 0) dX11_win_47 (hl15.sh 35 rfl (by decide) (by decide)) (vin (by decide)) (by decide) ?_
        refine ab_topi (fun x16 hx16 => ?_)
        have h := h x16 hx16
        refine ab_istore_n (lv1 := [(2, .int x16), (0, .ref 0), (1, .int a1)]) dX11_win_48 (by decide) rfl ?_
        refine ab_iload_n 2 dX11_win_49 rfl ?_
        refine ab_if_ne (tgt := 55) dX11_win_50 (by decide) (fun c17 => ?_) (fun c17 => ?_)
        · have h := h.1 c17
          refine ab_aload_n 1 dX11_win_55 rfl ?_
          refine ab_getP (r := 29) dX11_win_56 fs_11_53_11 rfl (hl15.sh 0 rfl (by decide) (by decide)).1 (hl15.sh 0 rfl (by decide) (by decide)).2 (hl15.pt 5 rfl (by decide) (by decide)) ?_
          refine ab_aload_n 1 dX11_win_59 rfl ?_
          refine ab_getP (r := 13) dX11_win_60 fs_11_39_11 rfl (hl15.sh 0 rfl (by decide) (by decide)).1 (hl15.sh 0 rfl (by decide) (by decide)).2 (hl15.pt 3 rfl (by decide) (by decide)) ?_
          refine ab_iconst (v := 1) dX11_win_63 (by decide) ?_
          refine ab_callV (a := 29) (c0 := 7) (d' := d) (mc' := 0) (ms' := 0) (vs := [.ref 13, .int (1 : Int32)]) (st := []) dX11_win_64 ⟨cw_X7_playBack, w_782⟩ w_783 w_784 (by decide) (hl15.sh 29 rfl (by decide) (by decide)).1 (hl15.sh 29 rfl (by decide) (by decide)).2 rfl rfl (Nat.le_of_ble_eq_true rfl) (Nat.le_refl _) (Nat.zero_le _) (Nat.zero_le _) (AM.mono h (fun r M18 ⟨hr20, hc21, h⟩ => ?_))
          subst hr20
          refine ab_rv ?_
          have hm22 : Sm M M18 := hm14.trans hc21
          have hl23 := hL.of hm22
          refine ab_iload_n 0 dX11_win_67 rfl ?_
          refine ab_ldc dX11_win_68 w_804 ?_
          refine ab_aload_n 1 dX11_win_70 rfl ?_
          refine ab_getP (r := 29) dX11_win_71 fs_11_53_11 rfl (hl23.sh 0 rfl (by decide) (by decide)).1 (hl23.sh 0 rfl (by decide) (by decide)).2 (hl23.pt 5 rfl (by decide) (by decide)) ?_
          refine ab_getP (r := 34) dX11_win_74 fs_11_247_7 rfl (hl23.sh 29 rfl (by decide) (by decide)).1 (hl23.sh 29 rfl (by decide) (by decide)).2 (hl23.pt 38 rfl (by decide) (by decide)) ?_
          refine ab_iconst (v := 0) dX11_win_77 (by decide) ?_
          refine ab_aald4j (j := 0) (r := 35) dX11_win_78 (hl23.sh 34 rfl (by decide) (by decide)) (vin (by decide)) (by decide) (hl23.pt 41 rfl (by decide) (by decide)) ?_
          refine ab_iconst (v := 0) dX11_win_79 (by decide) ?_
          refine ab_ialdj (j := 0) dX11_win_80 (hl23.sh 35 rfl (by decide) (by decide)) (vin (by decide)) (by decide) ?_
          refine ab_isub dX11_win_81 ?_
          refine ab_isub dX11_win_82 ?_
          exact ab_iret dX11_win_83 rfl h
        · have h := h.2 c17
          refine ab_iload_n 0 dX11_win_53 rfl ?_
          exact ab_iret dX11_win_54 rfl h
      · have h := h.2 c9
        refine ab_ldc dX11_win_22 w_781 ?_
        exact ab_iret dX11_win_24 rfl h
    · have h := h.2 c2
      refine ab_ldc dX11_win_9 w_776 ?_
      exact ab_iret dX11_win_11 rfl h
theorem dX11_at_0 : decode cX11_at 0 = .ok (.iload_n 1, 1) := by decide +kernel
theorem dX11_at_1 : decode cX11_at 1 = .ok (.ifCond .lt 33, 3) := by decide +kernel
theorem dX11_at_4 : decode cX11_at 4 = .ok (.iload_n 1, 1) := by decide +kernel
theorem dX11_at_5 : decode cX11_at 5 = .ok (.bipush 10, 2) := by decide +kernel
theorem dX11_at_7 : decode cX11_at 7 = .ok (.if_icmp .gt 27, 3) := by decide +kernel
theorem dX11_at_10 : decode cX11_at 10 = .ok (.iload_n 2, 1) := by decide +kernel
theorem dX11_at_11 : decode cX11_at 11 = .ok (.ifCond .lt 23, 3) := by decide +kernel
theorem dX11_at_14 : decode cX11_at 14 = .ok (.iload_n 2, 1) := by decide +kernel
theorem dX11_at_15 : decode cX11_at 15 = .ok (.iload_n 1, 1) := by decide +kernel
theorem dX11_at_16 : decode cX11_at 16 = .ok (.iconst 1, 1) := by decide +kernel
theorem dX11_at_17 : decode cX11_at 17 = .ok (.iadd, 1) := by decide +kernel
theorem dX11_at_18 : decode cX11_at 18 = .ok (.iconst 2, 1) := by decide +kernel
theorem dX11_at_19 : decode cX11_at 19 = .ok (.idiv, 1) := by decide +kernel
theorem dX11_at_20 : decode cX11_at 20 = .ok (.if_icmp .gt 14, 3) := by decide +kernel
theorem dX11_at_23 : decode cX11_at 23 = .ok (.iload_n 3, 1) := by decide +kernel
theorem dX11_at_24 : decode cX11_at 24 = .ok (.ifCond .lt 10, 3) := by decide +kernel
theorem dX11_at_27 : decode cX11_at 27 = .ok (.iload_n 3, 1) := by decide +kernel
theorem dX11_at_28 : decode cX11_at 28 = .ok (.iload_n 1, 1) := by decide +kernel
theorem dX11_at_29 : decode cX11_at 29 = .ok (.iconst 2, 1) := by decide +kernel
theorem dX11_at_30 : decode cX11_at 30 = .ok (.idiv, 1) := by decide +kernel
theorem dX11_at_31 : decode cX11_at 31 = .ok (.if_icmp .le 6, 3) := by decide +kernel
theorem dX11_at_34 : decode cX11_at 34 = .ok (.ldc 238, 2) := by decide +kernel
theorem dX11_at_36 : decode cX11_at 36 = .ok (.ireturn, 1) := by decide +kernel
theorem dX11_at_37 : decode cX11_at 37 = .ok (.aload_n 0, 1) := by decide +kernel
theorem dX11_at_38 : decode cX11_at 38 = .ok (.getfield 53, 3) := by decide +kernel
theorem dX11_at_41 : decode cX11_at 41 = .ok (.invokevirtual 239, 3) := by decide +kernel
theorem dX11_at_44 : decode cX11_at 44 = .ok (.ifCond .ne 6, 3) := by decide +kernel
theorem dX11_at_47 : decode cX11_at 47 = .ok (.ldc 242, 2) := by decide +kernel
theorem dX11_at_49 : decode cX11_at 49 = .ok (.ireturn, 1) := by decide +kernel
theorem dX11_at_50 : decode cX11_at 50 = .ok (.aload_n 0, 1) := by decide +kernel
theorem dX11_at_51 : decode cX11_at 51 = .ok (.getfield 53, 3) := by decide +kernel
theorem dX11_at_54 : decode cX11_at 54 = .ok (.aload_n 0, 1) := by decide +kernel
theorem dX11_at_55 : decode cX11_at 55 = .ok (.getfield 39, 3) := by decide +kernel
theorem dX11_at_58 : decode cX11_at 58 = .ok (.iconst 0, 1) := by decide +kernel
theorem dX11_at_59 : decode cX11_at 59 = .ok (.invokevirtual 243, 3) := by decide +kernel
theorem dX11_at_62 : decode cX11_at 62 = .ok (.aload_n 0, 1) := by decide +kernel
theorem dX11_at_63 : decode cX11_at 63 = .ok (.getfield 53, 3) := by decide +kernel
theorem dX11_at_66 : decode cX11_at 66 = .ok (.getfield 247, 3) := by decide +kernel
theorem dX11_at_69 : decode cX11_at 69 = .ok (.iload_n 1, 1) := by decide +kernel
theorem dX11_at_70 : decode cX11_at 70 = .ok (.aaload, 1) := by decide +kernel
theorem dX11_at_71 : decode cX11_at 71 = .ok (.iload_n 2, 1) := by decide +kernel
theorem dX11_at_72 : decode cX11_at 72 = .ok (.iload_n 3, 1) := by decide +kernel
theorem dX11_at_73 : decode cX11_at 73 = .ok (.invokestatic 251, 3) := by decide +kernel
theorem dX11_at_76 : decode cX11_at 76 = .ok (.iaload, 1) := by decide +kernel
theorem dX11_at_77 : decode cX11_at 77 = .ok (.ireturn, 1) := by decide +kernel
set_option maxRecDepth 20000 in
theorem rX11_at (D : GD) (d : Nat) (a1 : Int32) (a2 : Int32) (a3 : Int32) (M : Mm) (post : Option Value → Mm → Prop) (hL : Lay 0 62 M) 
    (h : ((a1 < 0 → post (some (.int (-1000001 : Int32))) M) ∧ (¬ a1 < 0 → (((10 : Int32) < a1 → post (some (.int (-1000001 : Int32))) M) ∧ (¬ (10 : Int32) < a1 → ((a2 < 0 → post (some (.int (-1000001 : Int32))) M) ∧ (¬ a2 < 0 → ((((a1 + (1 : Int32)) / (2 : Int32)) < a2 → post (some (.int (-1000001 : Int32))) M) ∧ (¬ ((a1 + (1 : Int32)) / (2 : Int32)) < a2 → ((a3 < 0 → post (some (.int (-1000001 : Int32))) M) ∧ (¬ a3 < 0 → ((a3 ≤ (a1 / (2 : Int32)) → AMi D d mX7_isManned [.ref 29] M (fun x8 M7 => ((¬ x8 = 0 → AMv D d mX7_playBack [.ref 29, .ref 13, .int (0 : Int32)] M7 (fun M14 => vp_in a1 11 ∧ AMi D d mX7_scoreIndex [.int a2, .int a3] M14 (fun x22 M21 => vp_in x22 36 ∧ post (some (.int (gI M21 (35 + a1.toNatClampNeg) x22.toNatClampNeg))) M21))) ∧ (x8 = 0 → post (some (.int (-1000002 : Int32))) M7)))) ∧ (¬ a3 ≤ (a1 / (2 : Int32)) → post (some (.int (-1000001 : Int32))) M))))))))))))) :
    AM D (d + 1) 0 0 mX11_at [.ref 0, .int a1, .int a2, .int a3] M post := by
  refine AM.of (by decide) (Nat.le_of_ble_eq_true rfl) ?_
  show AW D (d + 1) 0 0 mX11_at 0 0 0 [(0, .ref 0), (1, .int a1), (2, .int a2), (3, .int a3)] [] M post
  refine ab_iload_n 1 dX11_at_0 rfl ?_
  refine ab_if_lt (tgt := 34) dX11_at_1 (by decide) (fun c1 => ?_) (fun c1 => ?_)
  · have h := h.1 c1
    refine ab_ldc dX11_at_34 w_776 ?_
    exact ab_iret dX11_at_36 rfl h
  · have h := h.2 c1
    refine ab_iload_n 1 dX11_at_4 rfl ?_
    refine ab_bipush (v := 10) dX11_at_5 (by decide) ?_
    refine ab_icmp_gt (tgt := 34) dX11_at_7 (by decide) (fun c2 => ?_) (fun c2 => ?_)
    · have h := h.1 c2
      refine ab_ldc dX11_at_34 w_776 ?_
      exact ab_iret dX11_at_36 rfl h
    · have h := h.2 c2
      refine ab_iload_n 2 dX11_at_10 rfl ?_
      refine ab_if_lt (tgt := 34) dX11_at_11 (by decide) (fun c3 => ?_) (fun c3 => ?_)
      · have h := h.1 c3
        refine ab_ldc dX11_at_34 w_776 ?_
        exact ab_iret dX11_at_36 rfl h
      · have h := h.2 c3
        refine ab_iload_n 2 dX11_at_14 rfl ?_
        refine ab_iload_n 1 dX11_at_15 rfl ?_
        refine ab_iconst (v := 1) dX11_at_16 (by decide) ?_
        refine ab_iadd dX11_at_17 ?_
        refine ab_iconst (v := 2) dX11_at_18 (by decide) ?_
        refine ab_idiv dX11_at_19 (by decide) ?_
        refine ab_icmp_gt (tgt := 34) dX11_at_20 (by decide) (fun c4 => ?_) (fun c4 => ?_)
        · have h := h.1 c4
          refine ab_ldc dX11_at_34 w_776 ?_
          exact ab_iret dX11_at_36 rfl h
        · have h := h.2 c4
          refine ab_iload_n 3 dX11_at_23 rfl ?_
          refine ab_if_lt (tgt := 34) dX11_at_24 (by decide) (fun c5 => ?_) (fun c5 => ?_)
          · have h := h.1 c5
            refine ab_ldc dX11_at_34 w_776 ?_
            exact ab_iret dX11_at_36 rfl h
          · have h := h.2 c5
            refine ab_iload_n 3 dX11_at_27 rfl ?_
            refine ab_iload_n 1 dX11_at_28 rfl ?_
            refine ab_iconst (v := 2) dX11_at_29 (by decide) ?_
            refine ab_idiv dX11_at_30 (by decide) ?_
            refine ab_icmp_le (tgt := 37) dX11_at_31 (by decide) (fun c6 => ?_) (fun c6 => ?_)
            · have h := h.1 c6
              refine ab_aload_n 0 dX11_at_37 rfl ?_
              refine ab_getP (r := 29) dX11_at_38 fs_11_53_11 rfl (hL.sh 0 rfl (by decide) (by decide)).1 (hL.sh 0 rfl (by decide) (by decide)).2 (hL.pt 5 rfl (by decide) (by decide)) ?_
              refine ab_callV (a := 29) (c0 := 7) (d' := d) (mc' := 0) (ms' := 0) (vs := []) (st := []) dX11_at_41 ⟨cw_X7_isManned, w_777⟩ w_778 w_779 (by decide) (hL.sh 29 rfl (by decide) (by decide)).1 (hL.sh 29 rfl (by decide) (by decide)).2 rfl rfl (Nat.le_of_ble_eq_true rfl) (Nat.le_refl _) (Nat.zero_le _) (Nat.zero_le _) (AM.mono h (fun r M7 ⟨x8, hr9, hc10, h⟩ => ?_))
              subst hr9
              refine ab_rs ?_
              have hm11 : Sm M M7 := (Sm.refl M).trans hc10
              have hl12 := hL.of hm11
              refine ab_if_ne (tgt := 50) dX11_at_44 (by decide) (fun c13 => ?_) (fun c13 => ?_)
              · have h := h.1 c13
                refine ab_aload_n 0 dX11_at_50 rfl ?_
                refine ab_getP (r := 29) dX11_at_51 fs_11_53_11 rfl (hl12.sh 0 rfl (by decide) (by decide)).1 (hl12.sh 0 rfl (by decide) (by decide)).2 (hl12.pt 5 rfl (by decide) (by decide)) ?_
                refine ab_aload_n 0 dX11_at_54 rfl ?_
                refine ab_getP (r := 13) dX11_at_55 fs_11_39_11 rfl (hl12.sh 0 rfl (by decide) (by decide)).1 (hl12.sh 0 rfl (by decide) (by decide)).2 (hl12.pt 3 rfl (by decide) (by decide)) ?_
                refine ab_iconst (v := 0) dX11_at_58 (by decide) ?_
                refine ab_callV (a := 29) (c0 := 7) (d' := d) (mc' := 0) (ms' := 0) (vs := [.ref 13, .int (0 : Int32)]) (st := []) dX11_at_59 ⟨cw_X7_playBack, w_782⟩ w_783 w_784 (by decide) (hl12.sh 29 rfl (by decide) (by decide)).1 (hl12.sh 29 rfl (by decide) (by decide)).2 rfl rfl (Nat.le_of_ble_eq_true rfl) (Nat.le_refl _) (Nat.zero_le _) (Nat.zero_le _) (AM.mono h (fun r M14 ⟨hr16, hc17, h⟩ => ?_))
                subst hr16
                refine ab_rv ?_
                have hm18 : Sm M M14 := hm11.trans hc17
                have hl19 := hL.of hm18
                refine ab_aload_n 0 dX11_at_62 rfl ?_
                refine ab_getP (r := 29) dX11_at_63 fs_11_53_11 rfl (hl19.sh 0 rfl (by decide) (by decide)).1 (hl19.sh 0 rfl (by decide) (by decide)).2 (hl19.pt 5 rfl (by decide) (by decide)) ?_
                refine ab_getP (r := 34) dX11_at_66 fs_11_247_7 rfl (hl19.sh 29 rfl (by decide) (by decide)).1 (hl19.sh 29 rfl (by decide) (by decide)).2 (hl19.pt 38 rfl (by decide) (by decide)) ?_
                refine ab_iload_n 1 dX11_at_69 rfl ?_
                have hb20 := h.1
                have h := h.2
                refine ab_aald4j (j := a1.toNatClampNeg) (r := 35 + a1.toNatClampNeg) dX11_at_70 (hl19.sh 34 rfl (by decide) (by decide)) hb20 rfl (row_34 hl19 (by decide) (by decide) (vin_lt hb20)).1 ?_
                refine ab_iload_n 2 dX11_at_71 rfl ?_
                refine ab_iload_n 3 dX11_at_72 rfl ?_
                refine ab_callS (d' := d) (mc' := 0) (ms' := 0) (vs := [.int a2, .int a3]) (st := [.ref (35 + a1.toNatClampNeg)]) dX11_at_73 ⟨cw_X7_scoreIndex, w_809⟩ w_237 rfl rfl (Nat.le_of_ble_eq_true rfl) (Nat.le_refl _) (Nat.zero_le _) (Nat.zero_le _) (AM.mono h (fun r M21 ⟨x22, hr23, hc24, h⟩ => ?_))
                subst hr23
                refine ab_rs ?_
                have hm25 : Sm M M21 := hm18.trans hc24
                have hl26 := hL.of hm25
                have hb27 := h.1
                have h := h.2
                refine ab_ialdj (j := x22.toNatClampNeg) dX11_at_76 (row_34 hl26 (by decide) (by decide) (vin_lt hb20)).2 hb27 rfl ?_
                exact ab_iret dX11_at_77 rfl h
              · have h := h.2 c13
                refine ab_ldc dX11_at_47 w_781 ?_
                exact ab_iret dX11_at_49 rfl h
            · have h := h.2 c6
              refine ab_ldc dX11_at_34 w_776 ?_
              exact ab_iret dX11_at_36 rfl h
theorem dX11_judge_0 : decode cX11_judge 0 = .ok (.iload_n 1, 1) := by decide +kernel
theorem dX11_judge_1 : decode cX11_judge 1 = .ok (.invokestatic 268, 3) := by decide +kernel
theorem dX11_judge_4 : decode cX11_judge 4 = .ok (.ifCond .ne 5, 3) := by decide +kernel
theorem dX11_judge_7 : decode cX11_judge 7 = .ok (.iconst (-1), 1) := by decide +kernel
theorem dX11_judge_8 : decode cX11_judge 8 = .ok (.ireturn, 1) := by decide +kernel
theorem dX11_judge_9 : decode cX11_judge 9 = .ok (.aload_n 0, 1) := by decide +kernel
theorem dX11_judge_10 : decode cX11_judge 10 = .ok (.getfield 74, 3) := by decide +kernel
theorem dX11_judge_13 : decode cX11_judge 13 = .ok (.iload_n 1, 1) := by decide +kernel
theorem dX11_judge_14 : decode cX11_judge 14 = .ok (.iaload, 1) := by decide +kernel
theorem dX11_judge_15 : decode cX11_judge 15 = .ok (.iconst (-1), 1) := by decide +kernel
theorem dX11_judge_16 : decode cX11_judge 16 = .ok (.if_icmp .ne 7, 3) := by decide +kernel
theorem dX11_judge_19 : decode cX11_judge 19 = .ok (.sipush 1000, 3) := by decide +kernel
theorem dX11_judge_22 : decode cX11_judge 22 = .ok (.ireturn, 1) := by decide +kernel
theorem dX11_judge_23 : decode cX11_judge 23 = .ok (.aload_n 0, 1) := by decide +kernel
theorem dX11_judge_24 : decode cX11_judge 24 = .ok (.getfield 74, 3) := by decide +kernel
theorem dX11_judge_27 : decode cX11_judge 27 = .ok (.iload_n 1, 1) := by decide +kernel
theorem dX11_judge_28 : decode cX11_judge 28 = .ok (.iaload, 1) := by decide +kernel
theorem dX11_judge_29 : decode cX11_judge 29 = .ok (.ifCond .ne 22, 3) := by decide +kernel
theorem dX11_judge_32 : decode cX11_judge 32 = .ok (.aload_n 0, 1) := by decide +kernel
theorem dX11_judge_33 : decode cX11_judge 33 = .ok (.getfield 82, 3) := by decide +kernel
theorem dX11_judge_36 : decode cX11_judge 36 = .ok (.iload_n 1, 1) := by decide +kernel
theorem dX11_judge_37 : decode cX11_judge 37 = .ok (.aaload, 1) := by decide +kernel
theorem dX11_judge_38 : decode cX11_judge 38 = .ok (.aload_n 0, 1) := by decide +kernel
theorem dX11_judge_39 : decode cX11_judge 39 = .ok (.getfield 77, 3) := by decide +kernel
theorem dX11_judge_42 : decode cX11_judge 42 = .ok (.iload_n 1, 1) := by decide +kernel
theorem dX11_judge_43 : decode cX11_judge 43 = .ok (.iaload, 1) := by decide +kernel
theorem dX11_judge_44 : decode cX11_judge 44 = .ok (.iload_n 2, 1) := by decide +kernel
theorem dX11_judge_45 : decode cX11_judge 45 = .ok (.invokestatic 271, 3) := by decide +kernel
theorem dX11_judge_48 : decode cX11_judge 48 = .ok (.goto 5, 3) := by decide +kernel
theorem dX11_judge_51 : decode cX11_judge 51 = .ok (.bipush (-12), 2) := by decide +kernel
theorem dX11_judge_53 : decode cX11_judge 53 = .ok (.ireturn, 1) := by decide +kernel
set_option maxRecDepth 20000 in
theorem rX11_judge (D : GD) (d : Nat) (a1 : Int32) (a2 : Int32) (M : Mm) (post : Option Value → Mm → Prop) (hL : Lay 0 62 M) 
    (h : AMi D d mX11_isTape [.int a1] M (fun x2 M1 => ((¬ x2 = 0 → vp_in a1 6 ∧ ((¬ (gI M1 53 a1.toNatClampNeg) = (-1 : Int32) → ((¬ (gI M1 53 a1.toNatClampNeg) = 0 → post (some (.int (-12 : Int32))) M1) ∧ ((gI M1 53 a1.toNatClampNeg) = 0 → AMi D d mX7_judged [.ref (56 + a1.toNatClampNeg), .int (gI M1 54 a1.toNatClampNeg), .int a2] M1 (fun x12 M11 => post (some (.int x12)) M11)))) ∧ ((gI M1 53 a1.toNatClampNeg) = (-1 : Int32) → post (some (.int (1000 : Int32))) M1))) ∧ (x2 = 0 → post (some (.int (-1 : Int32))) M1)))) :
    AM D (d + 1) 0 0 mX11_judge [.ref 0, .int a1, .int a2] M post := by
  refine AM.of (by decide) (Nat.le_of_ble_eq_true rfl) ?_
  show AW D (d + 1) 0 0 mX11_judge 0 0 0 [(0, .ref 0), (1, .int a1), (2, .int a2)] [] M post
  refine ab_iload_n 1 dX11_judge_0 rfl ?_
  refine ab_callS (d' := d) (mc' := 0) (ms' := 0) (vs := [.int a1]) (st := []) dX11_judge_1 ⟨cw_X11_isTape, w_829⟩ w_830 rfl rfl (Nat.le_of_ble_eq_true rfl) (Nat.le_refl _) (Nat.zero_le _) (Nat.zero_le _) (AM.mono h (fun r M1 ⟨x2, hr3, hc4, h⟩ => ?_))
  subst hr3
  refine ab_rs ?_
  have hm5 : Sm M M1 := (Sm.refl M).trans hc4
  have hl6 := hL.of hm5
  refine ab_if_ne (tgt := 9) dX11_judge_4 (by decide) (fun c7 => ?_) (fun c7 => ?_)
  · have h := h.1 c7
    refine ab_aload_n 0 dX11_judge_9 rfl ?_
    refine ab_getP (r := 53) dX11_judge_10 fs_11_74_11 rfl (hl6.sh 0 rfl (by decide) (by decide)).1 (hl6.sh 0 rfl (by decide) (by decide)).2 (hl6.pt 10 rfl (by decide) (by decide)) ?_
    refine ab_iload_n 1 dX11_judge_13 rfl ?_
    have hb8 := h.1
    have h := h.2
    refine ab_ialdj (j := a1.toNatClampNeg) dX11_judge_14 (hl6.sh 53 rfl (by decide) (by decide)) hb8 rfl ?_
    refine ab_iconst (v := (-1)) dX11_judge_15 (by decide) ?_
    refine ab_icmp_ne (tgt := 23) dX11_judge_16 (by decide) (fun c9 => ?_) (fun c9 => ?_)
    · have h := h.1 c9
      refine ab_aload_n 0 dX11_judge_23 rfl ?_
      refine ab_getP (r := 53) dX11_judge_24 fs_11_74_11 rfl (hl6.sh 0 rfl (by decide) (by decide)).1 (hl6.sh 0 rfl (by decide) (by decide)).2 (hl6.pt 10 rfl (by decide) (by decide)) ?_
      refine ab_iload_n 1 dX11_judge_27 rfl ?_
      refine ab_ialdj (j := a1.toNatClampNeg) dX11_judge_28 (hl6.sh 53 rfl (by decide) (by decide)) hb8 rfl ?_
      refine ab_if_ne (tgt := 51) dX11_judge_29 (by decide) (fun c10 => ?_) (fun c10 => ?_)
      · have h := h.1 c10
        refine ab_bipush (v := (-12)) dX11_judge_51 (by decide) ?_
        exact ab_iret dX11_judge_53 rfl h
      · have h := h.2 c10
        refine ab_aload_n 0 dX11_judge_32 rfl ?_
        refine ab_getP (r := 55) dX11_judge_33 fs_11_82_11 rfl (hl6.sh 0 rfl (by decide) (by decide)).1 (hl6.sh 0 rfl (by decide) (by decide)).2 (hl6.pt 12 rfl (by decide) (by decide)) ?_
        refine ab_iload_n 1 dX11_judge_36 rfl ?_
        refine ab_aald5j (j := a1.toNatClampNeg) (r := 56 + a1.toNatClampNeg) dX11_judge_37 (hl6.sh 55 rfl (by decide) (by decide)) hb8 rfl (row_55 hl6 (by decide) (by decide) (vin_lt hb8)).1 ?_
        refine ab_aload_n 0 dX11_judge_38 rfl ?_
        refine ab_getP (r := 54) dX11_judge_39 fs_11_77_11 rfl (hl6.sh 0 rfl (by decide) (by decide)).1 (hl6.sh 0 rfl (by decide) (by decide)).2 (hl6.pt 11 rfl (by decide) (by decide)) ?_
        refine ab_iload_n 1 dX11_judge_42 rfl ?_
        refine ab_ialdj (j := a1.toNatClampNeg) dX11_judge_43 (hl6.sh 54 rfl (by decide) (by decide)) hb8 rfl ?_
        refine ab_iload_n 2 dX11_judge_44 rfl ?_
        refine ab_callS (d' := d) (mc' := 0) (ms' := 0) (vs := [.ref (56 + a1.toNatClampNeg), .int (gI M1 54 a1.toNatClampNeg), .int a2]) (st := []) dX11_judge_45 ⟨cw_X7_judged, w_832⟩ w_833 rfl rfl (Nat.le_of_ble_eq_true rfl) (Nat.le_refl _) (Nat.zero_le _) (Nat.zero_le _) (AM.mono h (fun r M11 ⟨x12, hr13, hc14, h⟩ => ?_))
        subst hr13
        refine ab_rs ?_
        have hm15 : Sm M M11 := hm5.trans hc14
        have hl16 := hL.of hm15
        refine ab_goto (tgt := 53) dX11_judge_48 (by decide) ?_
        exact ab_iret dX11_judge_53 rfl h
    · have h := h.2 c9
      refine ab_sipush (v := 1000) dX11_judge_19 (by decide) ?_
      exact ab_iret dX11_judge_22 rfl h
  · have h := h.2 c7
    refine ab_iconst (v := (-1)) dX11_judge_7 (by decide) ?_
    exact ab_iret dX11_judge_8 rfl h
theorem dX11_trace_0 : decode cX11_trace 0 = .ok (.iload_n 1, 1) := by decide +kernel
theorem dX11_trace_1 : decode cX11_trace 1 = .ok (.ifCond .lt 30, 3) := by decide +kernel
theorem dX11_trace_4 : decode cX11_trace 4 = .ok (.iload_n 1, 1) := by decide +kernel
theorem dX11_trace_5 : decode cX11_trace 5 = .ok (.bipush 20, 2) := by decide +kernel
theorem dX11_trace_7 : decode cX11_trace 7 = .ok (.if_icmp .ge 24, 3) := by decide +kernel
theorem dX11_trace_10 : decode cX11_trace 10 = .ok (.iload_n 1, 1) := by decide +kernel
theorem dX11_trace_11 : decode cX11_trace 11 = .ok (.aload_n 0, 1) := by decide +kernel
theorem dX11_trace_12 : decode cX11_trace 12 = .ok (.getfield 57, 3) := by decide +kernel
theorem dX11_trace_15 : decode cX11_trace 15 = .ok (.iconst 0, 1) := by decide +kernel
theorem dX11_trace_16 : decode cX11_trace 16 = .ok (.iaload, 1) := by decide +kernel
theorem dX11_trace_17 : decode cX11_trace 17 = .ok (.if_icmp .ge 14, 3) := by decide +kernel
theorem dX11_trace_20 : decode cX11_trace 20 = .ok (.aload_n 0, 1) := by decide +kernel
theorem dX11_trace_21 : decode cX11_trace 21 = .ok (.getfield 57, 3) := by decide +kernel
theorem dX11_trace_24 : decode cX11_trace 24 = .ok (.iconst 1, 1) := by decide +kernel
theorem dX11_trace_25 : decode cX11_trace 25 = .ok (.iload_n 1, 1) := by decide +kernel
theorem dX11_trace_26 : decode cX11_trace 26 = .ok (.iadd, 1) := by decide +kernel
theorem dX11_trace_27 : decode cX11_trace 27 = .ok (.iaload, 1) := by decide +kernel
theorem dX11_trace_28 : decode cX11_trace 28 = .ok (.goto 4, 3) := by decide +kernel
theorem dX11_trace_31 : decode cX11_trace 31 = .ok (.iconst (-1), 1) := by decide +kernel
theorem dX11_trace_32 : decode cX11_trace 32 = .ok (.ireturn, 1) := by decide +kernel
set_option maxRecDepth 20000 in
theorem rX11_trace (D : GD) (d : Nat) (a1 : Int32) (M : Mm) (post : Option Value → Mm → Prop) (hL : Lay 0 62 M) 
    (h : ((a1 < 0 → post (some (.int (-1 : Int32))) M) ∧ (¬ a1 < 0 → (((20 : Int32) ≤ a1 → post (some (.int (-1 : Int32))) M) ∧ (¬ (20 : Int32) ≤ a1 → (((gI M 46 0) ≤ a1 → post (some (.int (-1 : Int32))) M) ∧ (¬ (gI M 46 0) ≤ a1 → vp_in ((1 : Int32) + a1) 21 ∧ post (some (.int (gI M 46 (((1 : Int32) + a1).toNatClampNeg)))) M))))))) :
    AM D d 0 0 mX11_trace [.ref 0, .int a1] M post := by
  refine AM.of (by decide) (Nat.le_of_ble_eq_true rfl) ?_
  show AW D d 0 0 mX11_trace 0 0 0 [(0, .ref 0), (1, .int a1)] [] M post
  refine ab_iload_n 1 dX11_trace_0 rfl ?_
  refine ab_if_lt (tgt := 31) dX11_trace_1 (by decide) (fun c1 => ?_) (fun c1 => ?_)
  · have h := h.1 c1
    refine ab_iconst (v := (-1)) dX11_trace_31 (by decide) ?_
    exact ab_iret dX11_trace_32 rfl h
  · have h := h.2 c1
    refine ab_iload_n 1 dX11_trace_4 rfl ?_
    refine ab_bipush (v := 20) dX11_trace_5 (by decide) ?_
    refine ab_icmp_ge (tgt := 31) dX11_trace_7 (by decide) (fun c2 => ?_) (fun c2 => ?_)
    · have h := h.1 c2
      refine ab_iconst (v := (-1)) dX11_trace_31 (by decide) ?_
      exact ab_iret dX11_trace_32 rfl h
    · have h := h.2 c2
      refine ab_iload_n 1 dX11_trace_10 rfl ?_
      refine ab_aload_n 0 dX11_trace_11 rfl ?_
      refine ab_getP (r := 46) dX11_trace_12 fs_11_57_11 rfl (hL.sh 0 rfl (by decide) (by decide)).1 (hL.sh 0 rfl (by decide) (by decide)).2 (hL.pt 6 rfl (by decide) (by decide)) ?_
      refine ab_iconst (v := 0) dX11_trace_15 (by decide) ?_
      refine ab_ialdj (j := 0) dX11_trace_16 (hL.sh 46 rfl (by decide) (by decide)) (vin (by decide)) (by decide) ?_
      refine ab_icmp_ge (tgt := 31) dX11_trace_17 (by decide) (fun c3 => ?_) (fun c3 => ?_)
      · have h := h.1 c3
        refine ab_iconst (v := (-1)) dX11_trace_31 (by decide) ?_
        exact ab_iret dX11_trace_32 rfl h
      · have h := h.2 c3
        refine ab_aload_n 0 dX11_trace_20 rfl ?_
        refine ab_getP (r := 46) dX11_trace_21 fs_11_57_11 rfl (hL.sh 0 rfl (by decide) (by decide)).1 (hL.sh 0 rfl (by decide) (by decide)).2 (hL.pt 6 rfl (by decide) (by decide)) ?_
        refine ab_iconst (v := 1) dX11_trace_24 (by decide) ?_
        refine ab_iload_n 1 dX11_trace_25 rfl ?_
        refine ab_iadd dX11_trace_26 ?_
        have hb4 := h.1
        have h := h.2
        refine ab_ialdj (j := ((1 : Int32) + a1).toNatClampNeg) dX11_trace_27 (hL.sh 46 rfl (by decide) (by decide)) hb4 rfl ?_
        refine ab_goto (tgt := 32) dX11_trace_28 (by decide) ?_
        exact ab_iret dX11_trace_32 rfl h
theorem dX11_count_0 : decode cX11_count 0 = .ok (.iload_n 1, 1) := by decide +kernel
theorem dX11_count_1 : decode cX11_count 1 = .ok (.tableswitch 68 0 4 #[35, 40, 45, 53, 61], 35) := by decide +kernel
theorem dX11_count_36 : decode cX11_count 36 = .ok (.aload_n 0, 1) := by decide +kernel
theorem dX11_count_37 : decode cX11_count 37 = .ok (.getfield 33, 3) := by decide +kernel
theorem dX11_count_40 : decode cX11_count 40 = .ok (.ireturn, 1) := by decide +kernel
theorem dX11_count_41 : decode cX11_count 41 = .ok (.aload_n 0, 1) := by decide +kernel
theorem dX11_count_42 : decode cX11_count 42 = .ok (.getfield 23, 3) := by decide +kernel
theorem dX11_count_45 : decode cX11_count 45 = .ok (.ireturn, 1) := by decide +kernel
theorem dX11_count_46 : decode cX11_count 46 = .ok (.aload_n 0, 1) := by decide +kernel
theorem dX11_count_47 : decode cX11_count 47 = .ok (.getfield 46, 3) := by decide +kernel
theorem dX11_count_50 : decode cX11_count 50 = .ok (.getfield 212, 3) := by decide +kernel
theorem dX11_count_53 : decode cX11_count 53 = .ok (.ireturn, 1) := by decide +kernel
theorem dX11_count_54 : decode cX11_count 54 = .ok (.aload_n 0, 1) := by decide +kernel
theorem dX11_count_55 : decode cX11_count 55 = .ok (.getfield 12, 3) := by decide +kernel
theorem dX11_count_58 : decode cX11_count 58 = .ok (.getfield 101, 3) := by decide +kernel
theorem dX11_count_61 : decode cX11_count 61 = .ok (.ireturn, 1) := by decide +kernel
theorem dX11_count_62 : decode cX11_count 62 = .ok (.aload_n 0, 1) := by decide +kernel
theorem dX11_count_63 : decode cX11_count 63 = .ok (.getfield 57, 3) := by decide +kernel
theorem dX11_count_66 : decode cX11_count 66 = .ok (.iconst 0, 1) := by decide +kernel
theorem dX11_count_67 : decode cX11_count 67 = .ok (.iaload, 1) := by decide +kernel
theorem dX11_count_68 : decode cX11_count 68 = .ok (.ireturn, 1) := by decide +kernel
theorem dX11_count_69 : decode cX11_count 69 = .ok (.bipush (-2), 2) := by decide +kernel
theorem dX11_count_71 : decode cX11_count 71 = .ok (.ireturn, 1) := by decide +kernel
set_option maxRecDepth 20000 in
theorem rX11_count (D : GD) (d : Nat) (a1 : Int32) (M : Mm) (post : Option Value → Mm → Prop) (hL : Lay 0 62 M) 
    (h : ((a1 = (0 : Int32) → post (some (.int (gI M 0 4))) M) ∧ ((a1 = (1 : Int32) → post (some (.int (gI M 0 2))) M) ∧ ((a1 = (2 : Int32) → post (some (.int (gI M 25 2))) M) ∧ ((a1 = (3 : Int32) → post (some (.int (gI M 1 2))) M) ∧ ((a1 = (4 : Int32) → post (some (.int (gI M 46 0))) M) ∧ ((¬ a1 = (0 : Int32) → ¬ a1 = (1 : Int32) → ¬ a1 = (2 : Int32) → ¬ a1 = (3 : Int32) → ¬ a1 = (4 : Int32) → post (some (.int (-2 : Int32))) M)))))))) :
    AM D d 0 0 mX11_count [.ref 0, .int a1] M post := by
  refine AM.of (by decide) (Nat.le_of_ble_eq_true rfl) ?_
  show AW D d 0 0 mX11_count 0 0 0 [(0, .ref 0), (1, .int a1)] [] M post
  refine ab_iload_n 1 dX11_count_0 rfl ?_
  by_cases c1 : a1 = (0 : Int32)
  · have h := h.1 c1
    refine ab_tableIn (off := (35)) (tgt := 36) dX11_count_1 (by rw [c1]; decide) (by rw [c1]; decide) (by rw [c1]; decide) (by decide) ?_
    refine ab_aload_n 0 dX11_count_36 rfl ?_
    refine ab_getI dX11_count_37 fs_11_33_11 rfl (hL.sh 0 rfl (by decide) (by decide)).1 (hL.sh 0 rfl (by decide) (by decide)).2 ?_
    exact ab_iret dX11_count_40 rfl h
  · have h := h.2
    by_cases c2 : a1 = (1 : Int32)
    · have h := h.1 c2
      refine ab_tableIn (off := (40)) (tgt := 41) dX11_count_1 (by rw [c2]; decide) (by rw [c2]; decide) (by rw [c2]; decide) (by decide) ?_
      refine ab_aload_n 0 dX11_count_41 rfl ?_
      refine ab_getI dX11_count_42 fs_11_23_11 rfl (hL.sh 0 rfl (by decide) (by decide)).1 (hL.sh 0 rfl (by decide) (by decide)).2 ?_
      exact ab_iret dX11_count_45 rfl h
    · have h := h.2
      by_cases c3 : a1 = (2 : Int32)
      · have h := h.1 c3
        refine ab_tableIn (off := (45)) (tgt := 46) dX11_count_1 (by rw [c3]; decide) (by rw [c3]; decide) (by rw [c3]; decide) (by decide) ?_
        refine ab_aload_n 0 dX11_count_46 rfl ?_
        refine ab_getP (r := 25) dX11_count_47 fs_11_46_11 rfl (hL.sh 0 rfl (by decide) (by decide)).1 (hL.sh 0 rfl (by decide) (by decide)).2 (hL.pt 4 rfl (by decide) (by decide)) ?_
        refine ab_getI dX11_count_50 fs_11_212_1 rfl (hL.sh 25 rfl (by decide) (by decide)).1 (hL.sh 25 rfl (by decide) (by decide)).2 ?_
        exact ab_iret dX11_count_53 rfl h
      · have h := h.2
        by_cases c4 : a1 = (3 : Int32)
        · have h := h.1 c4
          refine ab_tableIn (off := (53)) (tgt := 54) dX11_count_1 (by rw [c4]; decide) (by rw [c4]; decide) (by rw [c4]; decide) (by decide) ?_
          refine ab_aload_n 0 dX11_count_54 rfl ?_
          refine ab_getP (r := 1) dX11_count_55 fs_11_12_11 rfl (hL.sh 0 rfl (by decide) (by decide)).1 (hL.sh 0 rfl (by decide) (by decide)).2 (hL.pt 0 rfl (by decide) (by decide)) ?_
          refine ab_getI dX11_count_58 fs_11_101_6 rfl (hL.sh 1 rfl (by decide) (by decide)).1 (hL.sh 1 rfl (by decide) (by decide)).2 ?_
          exact ab_iret dX11_count_61 rfl h
        · have h := h.2
          by_cases c5 : a1 = (4 : Int32)
          · have h := h.1 c5
            refine ab_tableIn (off := (61)) (tgt := 62) dX11_count_1 (by rw [c5]; decide) (by rw [c5]; decide) (by rw [c5]; decide) (by decide) ?_
            refine ab_aload_n 0 dX11_count_62 rfl ?_
            refine ab_getP (r := 46) dX11_count_63 fs_11_57_11 rfl (hL.sh 0 rfl (by decide) (by decide)).1 (hL.sh 0 rfl (by decide) (by decide)).2 (hL.pt 6 rfl (by decide) (by decide)) ?_
            refine ab_iconst (v := 0) dX11_count_66 (by decide) ?_
            refine ab_ialdj (j := 0) dX11_count_67 (hL.sh 46 rfl (by decide) (by decide)) (vin (by decide)) (by decide) ?_
            exact ab_iret dX11_count_68 rfl h
          · have h := h.2
            have h := h c1 c2 c3 c4 c5
            refine ab_tableOut (tgt := 69) dX11_count_1 (by have e0 := lv_neT (a := 0) c1 (by decide); have e1 := lv_neT (a := 1) c2 (by decide); have e2 := lv_neT (a := 2) c3 (by decide); have e3 := lv_neT (a := 3) c4 (by decide); have e4 := lv_neT (a := 4) c5 (by decide); omega) (by decide) ?_
            refine ab_bipush (v := (-2)) dX11_count_69 (by decide) ?_
            exact ab_iret dX11_count_71 rfl h
theorem dX11_tape_0 : decode cX11_tape 0 = .ok (.iload_n 1, 1) := by decide +kernel
theorem dX11_tape_1 : decode cX11_tape 1 = .ok (.invokestatic 268, 3) := by decide +kernel
theorem dX11_tape_4 : decode cX11_tape 4 = .ok (.ifCond .ne 5, 3) := by decide +kernel
theorem dX11_tape_7 : decode cX11_tape 7 = .ok (.iconst (-1), 1) := by decide +kernel
theorem dX11_tape_8 : decode cX11_tape 8 = .ok (.ireturn, 1) := by decide +kernel
theorem dX11_tape_9 : decode cX11_tape 9 = .ok (.iload_n 2, 1) := by decide +kernel
theorem dX11_tape_10 : decode cX11_tape 10 = .ok (.iconst (-1), 1) := by decide +kernel
theorem dX11_tape_11 : decode cX11_tape 11 = .ok (.if_icmp .ne 19, 3) := by decide +kernel
theorem dX11_tape_14 : decode cX11_tape 14 = .ok (.aload_n 0, 1) := by decide +kernel
theorem dX11_tape_15 : decode cX11_tape 15 = .ok (.getfield 74, 3) := by decide +kernel
theorem dX11_tape_18 : decode cX11_tape 18 = .ok (.iload_n 1, 1) := by decide +kernel
theorem dX11_tape_19 : decode cX11_tape 19 = .ok (.iconst (-1), 1) := by decide +kernel
theorem dX11_tape_20 : decode cX11_tape 20 = .ok (.iastore, 1) := by decide +kernel
theorem dX11_tape_21 : decode cX11_tape 21 = .ok (.aload_n 0, 1) := by decide +kernel
theorem dX11_tape_22 : decode cX11_tape 22 = .ok (.getfield 77, 3) := by decide +kernel
theorem dX11_tape_25 : decode cX11_tape 25 = .ok (.iload_n 1, 1) := by decide +kernel
theorem dX11_tape_26 : decode cX11_tape 26 = .ok (.iconst 0, 1) := by decide +kernel
theorem dX11_tape_27 : decode cX11_tape 27 = .ok (.iastore, 1) := by decide +kernel
theorem dX11_tape_28 : decode cX11_tape 28 = .ok (.iconst 1, 1) := by decide +kernel
theorem dX11_tape_29 : decode cX11_tape 29 = .ok (.ireturn, 1) := by decide +kernel
theorem dX11_tape_30 : decode cX11_tape 30 = .ok (.iload_n 2, 1) := by decide +kernel
theorem dX11_tape_31 : decode cX11_tape 31 = .ok (.ifCond .lt 14, 3) := by decide +kernel
theorem dX11_tape_34 : decode cX11_tape 34 = .ok (.iload_n 2, 1) := by decide +kernel
theorem dX11_tape_35 : decode cX11_tape 35 = .ok (.iconst 5, 1) := by decide +kernel
theorem dX11_tape_36 : decode cX11_tape 36 = .ok (.if_icmp .ge 9, 3) := by decide +kernel
theorem dX11_tape_39 : decode cX11_tape 39 = .ok (.iload_n 3, 1) := by decide +kernel
theorem dX11_tape_40 : decode cX11_tape 40 = .ok (.bipush 60, 2) := by decide +kernel
theorem dX11_tape_42 : decode cX11_tape 42 = .ok (.if_icmp .le 6, 3) := by decide +kernel
theorem dX11_tape_45 : decode cX11_tape 45 = .ok (.bipush (-2), 2) := by decide +kernel
theorem dX11_tape_47 : decode cX11_tape 47 = .ok (.ireturn, 1) := by decide +kernel
theorem dX11_tape_48 : decode cX11_tape 48 = .ok (.iload_n 3, 1) := by decide +kernel
theorem dX11_tape_49 : decode cX11_tape 49 = .ok (.ifCond .ge 6, 3) := by decide +kernel
theorem dX11_tape_52 : decode cX11_tape 52 = .ok (.bipush (-14), 2) := by decide +kernel
theorem dX11_tape_54 : decode cX11_tape 54 = .ok (.ireturn, 1) := by decide +kernel
theorem dX11_tape_55 : decode cX11_tape 55 = .ok (.aload_n 0, 1) := by decide +kernel
theorem dX11_tape_56 : decode cX11_tape 56 = .ok (.getfield 74, 3) := by decide +kernel
theorem dX11_tape_59 : decode cX11_tape 59 = .ok (.iload_n 1, 1) := by decide +kernel
theorem dX11_tape_60 : decode cX11_tape 60 = .ok (.iload_n 2, 1) := by decide +kernel
theorem dX11_tape_61 : decode cX11_tape 61 = .ok (.iastore, 1) := by decide +kernel
theorem dX11_tape_62 : decode cX11_tape 62 = .ok (.aload_n 0, 1) := by decide +kernel
theorem dX11_tape_63 : decode cX11_tape 63 = .ok (.getfield 77, 3) := by decide +kernel
theorem dX11_tape_66 : decode cX11_tape 66 = .ok (.iload_n 1, 1) := by decide +kernel
theorem dX11_tape_67 : decode cX11_tape 67 = .ok (.iload_n 3, 1) := by decide +kernel
theorem dX11_tape_68 : decode cX11_tape 68 = .ok (.iastore, 1) := by decide +kernel
theorem dX11_tape_69 : decode cX11_tape 69 = .ok (.aload_n 0, 1) := by decide +kernel
theorem dX11_tape_70 : decode cX11_tape 70 = .ok (.getfield 82, 3) := by decide +kernel
theorem dX11_tape_73 : decode cX11_tape 73 = .ok (.iload_n 1, 1) := by decide +kernel
theorem dX11_tape_74 : decode cX11_tape 74 = .ok (.aaload, 1) := by decide +kernel
theorem dX11_tape_75 : decode cX11_tape 75 = .ok (.lconst 0, 1) := by decide +kernel
theorem dX11_tape_76 : decode cX11_tape 76 = .ok (.invokestatic 296, 3) := by decide +kernel
theorem dX11_tape_79 : decode cX11_tape 79 = .ok (.iconst 1, 1) := by decide +kernel
theorem dX11_tape_80 : decode cX11_tape 80 = .ok (.ireturn, 1) := by decide +kernel
set_option maxRecDepth 20000 in
theorem rX11_tape (D : GD) (d : Nat) (a1 : Int32) (a2 : Int32) (a3 : Int32) (M : Mm) (post : Option Value → Mm → Prop) (hL : Lay 0 62 M) 
    (h : AMi D d mX11_isTape [.int a1] M (fun x2 M1 => ((¬ x2 = 0 → ((¬ a2 = (-1 : Int32) → ((a2 < 0 → post (some (.int (-2 : Int32))) M1) ∧ (¬ a2 < 0 → (((5 : Int32) ≤ a2 → post (some (.int (-2 : Int32))) M1) ∧ (¬ (5 : Int32) ≤ a2 → ((a3 ≤ (60 : Int32) → ((0 ≤ a3 → vp_in a1 6 ∧ ∀ M14 : Mm, M14 = sI M1 53 a1.toNatClampNeg a2 → ∀ M18 : Mm, M18 = sI M14 54 a1.toNatClampNeg a3 → AMv D d mJ7_fill_d0a16 [.ref (56 + a1.toNatClampNeg), .long (0 : Int64)] M18 (fun M22 => post (some (.int (1 : Int32))) M22)) ∧ (¬ 0 ≤ a3 → post (some (.int (-14 : Int32))) M1))) ∧ (¬ a3 ≤ (60 : Int32) → post (some (.int (-2 : Int32))) M1))))))) ∧ (a2 = (-1 : Int32) → vp_in a1 6 ∧ ∀ M29 : Mm, M29 = sI M1 53 a1.toNatClampNeg (-1 : Int32) → ∀ M33 : Mm, M33 = sI M29 54 a1.toNatClampNeg (0 : Int32) → post (some (.int (1 : Int32))) M33))) ∧ (x2 = 0 → post (some (.int (-1 : Int32))) M1)))) :
    AM D (d + 1) 0 0 mX11_tape [.ref 0, .int a1, .int a2, .int a3] M post := by
  refine AM.of (by decide) (Nat.le_of_ble_eq_true rfl) ?_
  show AW D (d + 1) 0 0 mX11_tape 0 0 0 [(0, .ref 0), (1, .int a1), (2, .int a2), (3, .int a3)] [] M post
  refine ab_iload_n 1 dX11_tape_0 rfl ?_
  refine ab_callS (d' := d) (mc' := 0) (ms' := 0) (vs := [.int a1]) (st := []) dX11_tape_1 ⟨cw_X11_isTape, w_829⟩ w_830 rfl rfl (Nat.le_of_ble_eq_true rfl) (Nat.le_refl _) (Nat.zero_le _) (Nat.zero_le _) (AM.mono h (fun r M1 ⟨x2, hr3, hc4, h⟩ => ?_))
  subst hr3
  refine ab_rs ?_
  have hm5 : Sm M M1 := (Sm.refl M).trans hc4
  have hl6 := hL.of hm5
  refine ab_if_ne (tgt := 9) dX11_tape_4 (by decide) (fun c7 => ?_) (fun c7 => ?_)
  · have h := h.1 c7
    refine ab_iload_n 2 dX11_tape_9 rfl ?_
    refine ab_iconst (v := (-1)) dX11_tape_10 (by decide) ?_
    refine ab_icmp_ne (tgt := 30) dX11_tape_11 (by decide) (fun c8 => ?_) (fun c8 => ?_)
    · have h := h.1 c8
      refine ab_iload_n 2 dX11_tape_30 rfl ?_
      refine ab_if_lt (tgt := 45) dX11_tape_31 (by decide) (fun c9 => ?_) (fun c9 => ?_)
      · have h := h.1 c9
        refine ab_bipush (v := (-2)) dX11_tape_45 (by decide) ?_
        exact ab_iret dX11_tape_47 rfl h
      · have h := h.2 c9
        refine ab_iload_n 2 dX11_tape_34 rfl ?_
        refine ab_iconst (v := 5) dX11_tape_35 (by decide) ?_
        refine ab_icmp_ge (tgt := 45) dX11_tape_36 (by decide) (fun c10 => ?_) (fun c10 => ?_)
        · have h := h.1 c10
          refine ab_bipush (v := (-2)) dX11_tape_45 (by decide) ?_
          exact ab_iret dX11_tape_47 rfl h
        · have h := h.2 c10
          refine ab_iload_n 3 dX11_tape_39 rfl ?_
          refine ab_bipush (v := 60) dX11_tape_40 (by decide) ?_
          refine ab_icmp_le (tgt := 48) dX11_tape_42 (by decide) (fun c11 => ?_) (fun c11 => ?_)
          · have h := h.1 c11
            refine ab_iload_n 3 dX11_tape_48 rfl ?_
            refine ab_if_ge (tgt := 55) dX11_tape_49 (by decide) (fun c12 => ?_) (fun c12 => ?_)
            · have h := h.1 c12
              refine ab_aload_n 0 dX11_tape_55 rfl ?_
              refine ab_getP (r := 53) dX11_tape_56 fs_11_74_11 rfl (hl6.sh 0 rfl (by decide) (by decide)).1 (hl6.sh 0 rfl (by decide) (by decide)).2 (hl6.pt 10 rfl (by decide) (by decide)) ?_
              refine ab_iload_n 1 dX11_tape_59 rfl ?_
              refine ab_iload_n 2 dX11_tape_60 rfl ?_
              have hb13 := h.1
              have h := h.2
              refine ab_iastj (j := a1.toNatClampNeg) dX11_tape_61 (hl6.sh 53 rfl (by decide) (by decide)) hb13 rfl ?_
              refine ab_nameM (fun M14 hM14 => ?_)
              have h := h M14 hM14
              have hs17 : Sm M1 M14 := hM14 ▸ (Sm.refl _).i
              have hm15 : Sm M M14 := hm5.trans hs17
              have hl16 := hL.of hm15
              refine ab_aload_n 0 dX11_tape_62 rfl ?_
              refine ab_getP (r := 54) dX11_tape_63 fs_11_77_11 rfl (hl16.sh 0 rfl (by decide) (by decide)).1 (hl16.sh 0 rfl (by decide) (by decide)).2 (hl16.pt 11 rfl (by decide) (by decide)) ?_
              refine ab_iload_n 1 dX11_tape_66 rfl ?_
              refine ab_iload_n 3 dX11_tape_67 rfl ?_
              refine ab_iastj (j := a1.toNatClampNeg) dX11_tape_68 (hl16.sh 54 rfl (by decide) (by decide)) hb13 rfl ?_
              refine ab_nameM (fun M18 hM18 => ?_)
              have h := h M18 hM18
              have hs21 : Sm M14 M18 := hM18 ▸ (Sm.refl _).i
              have hm19 : Sm M M18 := hm15.trans hs21
              have hl20 := hL.of hm19
              refine ab_aload_n 0 dX11_tape_69 rfl ?_
              refine ab_getP (r := 55) dX11_tape_70 fs_11_82_11 rfl (hl20.sh 0 rfl (by decide) (by decide)).1 (hl20.sh 0 rfl (by decide) (by decide)).2 (hl20.pt 12 rfl (by decide) (by decide)) ?_
              refine ab_iload_n 1 dX11_tape_73 rfl ?_
              refine ab_aald5j (j := a1.toNatClampNeg) (r := 56 + a1.toNatClampNeg) dX11_tape_74 (hl20.sh 55 rfl (by decide) (by decide)) hb13 rfl (row_55 hl20 (by decide) (by decide) (vin_lt hb13)).1 ?_
              refine ab_lconst (v := 0) dX11_tape_75 (by decide) ?_
              refine ab_callS (d' := d) (mc' := 0) (ms' := 0) (vs := [.ref (56 + a1.toNatClampNeg), .long (0 : Int64)]) (st := []) dX11_tape_76 ⟨cw_J7_fill_d0a16, w_968⟩ w_969 rfl rfl (Nat.le_of_ble_eq_true rfl) (Nat.le_refl _) (Nat.zero_le _) (Nat.zero_le _) (AM.mono h (fun r M22 ⟨hr24, hc25, h⟩ => ?_))
              subst hr24
              refine ab_rv ?_
              have hm26 : Sm M M22 := hm19.trans hc25
              have hl27 := hL.of hm26
              refine ab_iconst (v := 1) dX11_tape_79 (by decide) ?_
              exact ab_iret dX11_tape_80 rfl h
            · have h := h.2 c12
              refine ab_bipush (v := (-14)) dX11_tape_52 (by decide) ?_
              exact ab_iret dX11_tape_54 rfl h
          · have h := h.2 c11
            refine ab_bipush (v := (-2)) dX11_tape_45 (by decide) ?_
            exact ab_iret dX11_tape_47 rfl h
    · have h := h.2 c8
      refine ab_aload_n 0 dX11_tape_14 rfl ?_
      refine ab_getP (r := 53) dX11_tape_15 fs_11_74_11 rfl (hl6.sh 0 rfl (by decide) (by decide)).1 (hl6.sh 0 rfl (by decide) (by decide)).2 (hl6.pt 10 rfl (by decide) (by decide)) ?_
      refine ab_iload_n 1 dX11_tape_18 rfl ?_
      refine ab_iconst (v := (-1)) dX11_tape_19 (by decide) ?_
      have hb28 := h.1
      have h := h.2
      refine ab_iastj (j := a1.toNatClampNeg) dX11_tape_20 (hl6.sh 53 rfl (by decide) (by decide)) hb28 rfl ?_
      refine ab_nameM (fun M29 hM29 => ?_)
      have h := h M29 hM29
      have hs32 : Sm M1 M29 := hM29 ▸ (Sm.refl _).i
      have hm30 : Sm M M29 := hm5.trans hs32
      have hl31 := hL.of hm30
      refine ab_aload_n 0 dX11_tape_21 rfl ?_
      refine ab_getP (r := 54) dX11_tape_22 fs_11_77_11 rfl (hl31.sh 0 rfl (by decide) (by decide)).1 (hl31.sh 0 rfl (by decide) (by decide)).2 (hl31.pt 11 rfl (by decide) (by decide)) ?_
      refine ab_iload_n 1 dX11_tape_25 rfl ?_
      refine ab_iconst (v := 0) dX11_tape_26 (by decide) ?_
      refine ab_iastj (j := a1.toNatClampNeg) dX11_tape_27 (hl31.sh 54 rfl (by decide) (by decide)) hb28 rfl ?_
      refine ab_nameM (fun M33 hM33 => ?_)
      have h := h M33 hM33
      have hs36 : Sm M29 M33 := hM33 ▸ (Sm.refl _).i
      have hm34 : Sm M M33 := hm30.trans hs36
      have hl35 := hL.of hm34
      refine ab_iconst (v := 1) dX11_tape_28 (by decide) ?_
      exact ab_iret dX11_tape_29 rfl h
  · have h := h.2 c7
    refine ab_iconst (v := (-1)) dX11_tape_7 (by decide) ?_
    exact ab_iret dX11_tape_8 rfl h
theorem dX11_item_0 : decode cX11_item 0 = .ok (.iload_n 1, 1) := by decide +kernel
theorem dX11_item_1 : decode cX11_item 1 = .ok (.invokestatic 268, 3) := by decide +kernel
theorem dX11_item_4 : decode cX11_item 4 = .ok (.ifCond .ne 5, 3) := by decide +kernel
theorem dX11_item_7 : decode cX11_item 7 = .ok (.iconst (-1), 1) := by decide +kernel
theorem dX11_item_8 : decode cX11_item 8 = .ok (.ireturn, 1) := by decide +kernel
theorem dX11_item_9 : decode cX11_item 9 = .ok (.aload_n 0, 1) := by decide +kernel
theorem dX11_item_10 : decode cX11_item 10 = .ok (.getfield 74, 3) := by decide +kernel
theorem dX11_item_13 : decode cX11_item 13 = .ok (.iload_n 1, 1) := by decide +kernel
theorem dX11_item_14 : decode cX11_item 14 = .ok (.iaload, 1) := by decide +kernel
theorem dX11_item_15 : decode cX11_item 15 = .ok (.iconst (-1), 1) := by decide +kernel
theorem dX11_item_16 : decode cX11_item 16 = .ok (.if_icmp .ne 6, 3) := by decide +kernel
theorem dX11_item_19 : decode cX11_item 19 = .ok (.bipush (-11), 2) := by decide +kernel
theorem dX11_item_21 : decode cX11_item 21 = .ok (.ireturn, 1) := by decide +kernel
theorem dX11_item_22 : decode cX11_item 22 = .ok (.iload_n 2, 1) := by decide +kernel
theorem dX11_item_23 : decode cX11_item 23 = .ok (.ifCond .lt 13, 3) := by decide +kernel
theorem dX11_item_26 : decode cX11_item 26 = .ok (.iload_n 2, 1) := by decide +kernel
theorem dX11_item_27 : decode cX11_item 27 = .ok (.aload_n 0, 1) := by decide +kernel
theorem dX11_item_28 : decode cX11_item 28 = .ok (.getfield 77, 3) := by decide +kernel
theorem dX11_item_31 : decode cX11_item 31 = .ok (.iload_n 1, 1) := by decide +kernel
theorem dX11_item_32 : decode cX11_item 32 = .ok (.iaload, 1) := by decide +kernel
theorem dX11_item_33 : decode cX11_item 33 = .ok (.if_icmp .lt 6, 3) := by decide +kernel
theorem dX11_item_36 : decode cX11_item 36 = .ok (.bipush (-13), 2) := by decide +kernel
theorem dX11_item_38 : decode cX11_item 38 = .ok (.ireturn, 1) := by decide +kernel
theorem dX11_item_39 : decode cX11_item 39 = .ok (.aload_n 0, 1) := by decide +kernel
theorem dX11_item_40 : decode cX11_item 40 = .ok (.getfield 82, 3) := by decide +kernel
theorem dX11_item_43 : decode cX11_item 43 = .ok (.iload_n 1, 1) := by decide +kernel
theorem dX11_item_44 : decode cX11_item 44 = .ok (.aaload, 1) := by decide +kernel
theorem dX11_item_45 : decode cX11_item 45 = .ok (.iload_n 2, 1) := by decide +kernel
theorem dX11_item_46 : decode cX11_item 46 = .ok (.aload_n 0, 1) := by decide +kernel
theorem dX11_item_47 : decode cX11_item 47 = .ok (.getfield 74, 3) := by decide +kernel
theorem dX11_item_50 : decode cX11_item 50 = .ok (.iload_n 1, 1) := by decide +kernel
theorem dX11_item_51 : decode cX11_item 51 = .ok (.iaload, 1) := by decide +kernel
theorem dX11_item_52 : decode cX11_item 52 = .ok (.lload_n 3, 1) := by decide +kernel
theorem dX11_item_53 : decode cX11_item 53 = .ok (.invokestatic 299, 3) := by decide +kernel
theorem dX11_item_56 : decode cX11_item 56 = .ok (.lastore, 1) := by decide +kernel
theorem dX11_item_57 : decode cX11_item 57 = .ok (.iconst 1, 1) := by decide +kernel
theorem dX11_item_58 : decode cX11_item 58 = .ok (.ireturn, 1) := by decide +kernel
set_option maxRecDepth 20000 in
theorem rX11_item (D : GD) (d : Nat) (a1 : Int32) (a2 : Int32) (a3 : Int64) (M : Mm) (post : Option Value → Mm → Prop) (hL : Lay 0 62 M) 
    (h : AMi D d mX11_isTape [.int a1] M (fun x2 M1 => ((¬ x2 = 0 → vp_in a1 6 ∧ ((¬ (gI M1 53 a1.toNatClampNeg) = (-1 : Int32) → ((a2 < 0 → post (some (.int (-13 : Int32))) M1) ∧ (¬ a2 < 0 → ((a2 < (gI M1 54 a1.toNatClampNeg) → AMl D d mX11_lowestBits [.int (gI M1 53 a1.toNatClampNeg), .long a3] M1 (fun x13 M12 => vp_in a2 60 ∧ ∀ M19 : Mm, M19 = sL M12 (56 + a1.toNatClampNeg) a2.toNatClampNeg x13 → post (some (.int (1 : Int32))) M19)) ∧ (¬ a2 < (gI M1 54 a1.toNatClampNeg) → post (some (.int (-13 : Int32))) M1))))) ∧ ((gI M1 53 a1.toNatClampNeg) = (-1 : Int32) → post (some (.int (-11 : Int32))) M1))) ∧ (x2 = 0 → post (some (.int (-1 : Int32))) M1)))) :
    AM D (d + 1) 0 0 mX11_item [.ref 0, .int a1, .int a2, .long a3] M post := by
  refine AM.of (by decide) (Nat.le_of_ble_eq_true rfl) ?_
  show AW D (d + 1) 0 0 mX11_item 0 0 0 [(0, .ref 0), (1, .int a1), (2, .int a2), (3, .long a3)] [] M post
  refine ab_iload_n 1 dX11_item_0 rfl ?_
  refine ab_callS (d' := d) (mc' := 0) (ms' := 0) (vs := [.int a1]) (st := []) dX11_item_1 ⟨cw_X11_isTape, w_829⟩ w_830 rfl rfl (Nat.le_of_ble_eq_true rfl) (Nat.le_refl _) (Nat.zero_le _) (Nat.zero_le _) (AM.mono h (fun r M1 ⟨x2, hr3, hc4, h⟩ => ?_))
  subst hr3
  refine ab_rs ?_
  have hm5 : Sm M M1 := (Sm.refl M).trans hc4
  have hl6 := hL.of hm5
  refine ab_if_ne (tgt := 9) dX11_item_4 (by decide) (fun c7 => ?_) (fun c7 => ?_)
  · have h := h.1 c7
    refine ab_aload_n 0 dX11_item_9 rfl ?_
    refine ab_getP (r := 53) dX11_item_10 fs_11_74_11 rfl (hl6.sh 0 rfl (by decide) (by decide)).1 (hl6.sh 0 rfl (by decide) (by decide)).2 (hl6.pt 10 rfl (by decide) (by decide)) ?_
    refine ab_iload_n 1 dX11_item_13 rfl ?_
    have hb8 := h.1
    have h := h.2
    refine ab_ialdj (j := a1.toNatClampNeg) dX11_item_14 (hl6.sh 53 rfl (by decide) (by decide)) hb8 rfl ?_
    refine ab_iconst (v := (-1)) dX11_item_15 (by decide) ?_
    refine ab_icmp_ne (tgt := 22) dX11_item_16 (by decide) (fun c9 => ?_) (fun c9 => ?_)
    · have h := h.1 c9
      refine ab_iload_n 2 dX11_item_22 rfl ?_
      refine ab_if_lt (tgt := 36) dX11_item_23 (by decide) (fun c10 => ?_) (fun c10 => ?_)
      · have h := h.1 c10
        refine ab_bipush (v := (-13)) dX11_item_36 (by decide) ?_
        exact ab_iret dX11_item_38 rfl h
      · have h := h.2 c10
        refine ab_iload_n 2 dX11_item_26 rfl ?_
        refine ab_aload_n 0 dX11_item_27 rfl ?_
        refine ab_getP (r := 54) dX11_item_28 fs_11_77_11 rfl (hl6.sh 0 rfl (by decide) (by decide)).1 (hl6.sh 0 rfl (by decide) (by decide)).2 (hl6.pt 11 rfl (by decide) (by decide)) ?_
        refine ab_iload_n 1 dX11_item_31 rfl ?_
        refine ab_ialdj (j := a1.toNatClampNeg) dX11_item_32 (hl6.sh 54 rfl (by decide) (by decide)) hb8 rfl ?_
        refine ab_icmp_lt (tgt := 39) dX11_item_33 (by decide) (fun c11 => ?_) (fun c11 => ?_)
        · have h := h.1 c11
          refine ab_aload_n 0 dX11_item_39 rfl ?_
          refine ab_getP (r := 55) dX11_item_40 fs_11_82_11 rfl (hl6.sh 0 rfl (by decide) (by decide)).1 (hl6.sh 0 rfl (by decide) (by decide)).2 (hl6.pt 12 rfl (by decide) (by decide)) ?_
          refine ab_iload_n 1 dX11_item_43 rfl ?_
          refine ab_aald5j (j := a1.toNatClampNeg) (r := 56 + a1.toNatClampNeg) dX11_item_44 (hl6.sh 55 rfl (by decide) (by decide)) hb8 rfl (row_55 hl6 (by decide) (by decide) (vin_lt hb8)).1 ?_
          refine ab_iload_n 2 dX11_item_45 rfl ?_
          refine ab_aload_n 0 dX11_item_46 rfl ?_
          refine ab_getP (r := 53) dX11_item_47 fs_11_74_11 rfl (hl6.sh 0 rfl (by decide) (by decide)).1 (hl6.sh 0 rfl (by decide) (by decide)).2 (hl6.pt 10 rfl (by decide) (by decide)) ?_
          refine ab_iload_n 1 dX11_item_50 rfl ?_
          refine ab_ialdj (j := a1.toNatClampNeg) dX11_item_51 (hl6.sh 53 rfl (by decide) (by decide)) hb8 rfl ?_
          refine ab_lload_n 3 dX11_item_52 rfl ?_
          refine ab_callS (d' := d) (mc' := 0) (ms' := 0) (vs := [.int (gI M1 53 a1.toNatClampNeg), .long a3]) (st := [.int a2, .ref (56 + a1.toNatClampNeg)]) dX11_item_53 ⟨cw_X11_lowestBits, w_975⟩ w_976 rfl rfl (Nat.le_of_ble_eq_true rfl) (Nat.le_refl _) (Nat.zero_le _) (Nat.zero_le _) (AM.mono h (fun r M12 ⟨x13, hr14, hc15, h⟩ => ?_))
          subst hr14
          refine ab_rs ?_
          have hm16 : Sm M M12 := hm5.trans hc15
          have hl17 := hL.of hm16
          have hb18 := h.1
          have h := h.2
          refine ab_lastj (j := a2.toNatClampNeg) dX11_item_56 (row_55 hl17 (by decide) (by decide) (vin_lt hb8)).2 hb18 rfl ?_
          refine ab_nameM (fun M19 hM19 => ?_)
          have h := h M19 hM19
          have hs22 : Sm M12 M19 := hM19 ▸ (Sm.refl _).l
          have hm20 : Sm M M19 := hm16.trans hs22
          have hl21 := hL.of hm20
          refine ab_iconst (v := 1) dX11_item_57 (by decide) ?_
          exact ab_iret dX11_item_58 rfl h
        · have h := h.2 c11
          refine ab_bipush (v := (-13)) dX11_item_36 (by decide) ?_
          exact ab_iret dX11_item_38 rfl h
    · have h := h.2 c9
      refine ab_bipush (v := (-11)) dX11_item_19 (by decide) ?_
      exact ab_iret dX11_item_21 rfl h
  · have h := h.2 c7
    refine ab_iconst (v := (-1)) dX11_item_7 (by decide) ?_
    exact ab_iret dX11_item_8 rfl h
theorem dX11_read_0 : decode cX11_read 0 = .ok (.iload_n 1, 1) := by decide +kernel
theorem dX11_read_1 : decode cX11_read 1 = .ok (.invokestatic 268, 3) := by decide +kernel
theorem dX11_read_4 : decode cX11_read 4 = .ok (.ifCond .eq 17, 3) := by decide +kernel
theorem dX11_read_7 : decode cX11_read 7 = .ok (.iload_n 2, 1) := by decide +kernel
theorem dX11_read_8 : decode cX11_read 8 = .ok (.ifCond .lt 13, 3) := by decide +kernel
theorem dX11_read_11 : decode cX11_read 11 = .ok (.iload_n 2, 1) := by decide +kernel
theorem dX11_read_12 : decode cX11_read 12 = .ok (.aload_n 0, 1) := by decide +kernel
theorem dX11_read_13 : decode cX11_read 13 = .ok (.getfield 77, 3) := by decide +kernel
theorem dX11_read_16 : decode cX11_read 16 = .ok (.iload_n 1, 1) := by decide +kernel
theorem dX11_read_17 : decode cX11_read 17 = .ok (.iaload, 1) := by decide +kernel
theorem dX11_read_18 : decode cX11_read 18 = .ok (.if_icmp .lt 7, 3) := by decide +kernel
theorem dX11_read_21 : decode cX11_read 21 = .ok (.ldc2_w 196, 3) := by decide +kernel
theorem dX11_read_24 : decode cX11_read 24 = .ok (.lreturn, 1) := by decide +kernel
theorem dX11_read_25 : decode cX11_read 25 = .ok (.aload_n 0, 1) := by decide +kernel
theorem dX11_read_26 : decode cX11_read 26 = .ok (.getfield 82, 3) := by decide +kernel
theorem dX11_read_29 : decode cX11_read 29 = .ok (.iload_n 1, 1) := by decide +kernel
theorem dX11_read_30 : decode cX11_read 30 = .ok (.aaload, 1) := by decide +kernel
theorem dX11_read_31 : decode cX11_read 31 = .ok (.iload_n 2, 1) := by decide +kernel
theorem dX11_read_32 : decode cX11_read 32 = .ok (.laload, 1) := by decide +kernel
theorem dX11_read_33 : decode cX11_read 33 = .ok (.lreturn, 1) := by decide +kernel
set_option maxRecDepth 20000 in
theorem rX11_read (D : GD) (d : Nat) (a1 : Int32) (a2 : Int32) (M : Mm) (post : Option Value → Mm → Prop) (hL : Lay 0 62 M) 
    (h : AMi D d mX11_isTape [.int a1] M (fun x2 M1 => ((x2 = 0 → post (some (.long (-9223372036854775808 : Int64))) M1) ∧ (¬ x2 = 0 → ((a2 < 0 → post (some (.long (-9223372036854775808 : Int64))) M1) ∧ (¬ a2 < 0 → vp_in a1 6 ∧ ((a2 < (gI M1 54 a1.toNatClampNeg) → vp_in a2 60 ∧ post (some (.long (gL M1 (56 + a1.toNatClampNeg) a2.toNatClampNeg))) M1) ∧ (¬ a2 < (gI M1 54 a1.toNatClampNeg) → post (some (.long (-9223372036854775808 : Int64))) M1)))))))) :
    AM D (d + 1) 0 0 mX11_read [.ref 0, .int a1, .int a2] M post := by
  refine AM.of (by decide) (Nat.le_of_ble_eq_true rfl) ?_
  show AW D (d + 1) 0 0 mX11_read 0 0 0 [(0, .ref 0), (1, .int a1), (2, .int a2)] [] M post
  refine ab_iload_n 1 dX11_read_0 rfl ?_
  refine ab_callS (d' := d) (mc' := 0) (ms' := 0) (vs := [.int a1]) (st := []) dX11_read_1 ⟨cw_X11_isTape, w_829⟩ w_830 rfl rfl (Nat.le_of_ble_eq_true rfl) (Nat.le_refl _) (Nat.zero_le _) (Nat.zero_le _) (AM.mono h (fun r M1 ⟨x2, hr3, hc4, h⟩ => ?_))
  subst hr3
  refine ab_rs ?_
  have hm5 : Sm M M1 := (Sm.refl M).trans hc4
  have hl6 := hL.of hm5
  refine ab_if_eq (tgt := 21) dX11_read_4 (by decide) (fun c7 => ?_) (fun c7 => ?_)
  · have h := h.1 c7
    refine ab_ldc2 dX11_read_21 w_681 ?_
    exact ab_lret dX11_read_24 rfl h
  · have h := h.2 c7
    refine ab_iload_n 2 dX11_read_7 rfl ?_
    refine ab_if_lt (tgt := 21) dX11_read_8 (by decide) (fun c8 => ?_) (fun c8 => ?_)
    · have h := h.1 c8
      refine ab_ldc2 dX11_read_21 w_681 ?_
      exact ab_lret dX11_read_24 rfl h
    · have h := h.2 c8
      refine ab_iload_n 2 dX11_read_11 rfl ?_
      refine ab_aload_n 0 dX11_read_12 rfl ?_
      refine ab_getP (r := 54) dX11_read_13 fs_11_77_11 rfl (hl6.sh 0 rfl (by decide) (by decide)).1 (hl6.sh 0 rfl (by decide) (by decide)).2 (hl6.pt 11 rfl (by decide) (by decide)) ?_
      refine ab_iload_n 1 dX11_read_16 rfl ?_
      have hb9 := h.1
      have h := h.2
      refine ab_ialdj (j := a1.toNatClampNeg) dX11_read_17 (hl6.sh 54 rfl (by decide) (by decide)) hb9 rfl ?_
      refine ab_icmp_lt (tgt := 25) dX11_read_18 (by decide) (fun c10 => ?_) (fun c10 => ?_)
      · have h := h.1 c10
        refine ab_aload_n 0 dX11_read_25 rfl ?_
        refine ab_getP (r := 55) dX11_read_26 fs_11_82_11 rfl (hl6.sh 0 rfl (by decide) (by decide)).1 (hl6.sh 0 rfl (by decide) (by decide)).2 (hl6.pt 12 rfl (by decide) (by decide)) ?_
        refine ab_iload_n 1 dX11_read_29 rfl ?_
        refine ab_aald5j (j := a1.toNatClampNeg) (r := 56 + a1.toNatClampNeg) dX11_read_30 (hl6.sh 55 rfl (by decide) (by decide)) hb9 rfl (row_55 hl6 (by decide) (by decide) (vin_lt hb9)).1 ?_
        refine ab_iload_n 2 dX11_read_31 rfl ?_
        have hb11 := h.1
        have h := h.2
        refine ab_laldj (j := a2.toNatClampNeg) dX11_read_32 (row_55 hl6 (by decide) (by decide) (vin_lt hb9)).2 hb11 rfl ?_
        exact ab_lret dX11_read_33 rfl h
      · have h := h.2 c10
        refine ab_ldc2 dX11_read_21 w_681 ?_
        exact ab_lret dX11_read_24 rfl h
theorem dX11_isTape_0 : decode cX11_isTape 0 = .ok (.iload_n 0, 1) := by decide +kernel
theorem dX11_isTape_1 : decode cX11_isTape 1 = .ok (.ifCond .lt 13, 3) := by decide +kernel
theorem dX11_isTape_4 : decode cX11_isTape 4 = .ok (.iload_n 0, 1) := by decide +kernel
theorem dX11_isTape_5 : decode cX11_isTape 5 = .ok (.bipush 6, 2) := by decide +kernel
theorem dX11_isTape_7 : decode cX11_isTape 7 = .ok (.if_icmp .ge 7, 3) := by decide +kernel
theorem dX11_isTape_10 : decode cX11_isTape 10 = .ok (.iconst 1, 1) := by decide +kernel
theorem dX11_isTape_11 : decode cX11_isTape 11 = .ok (.goto 4, 3) := by decide +kernel
theorem dX11_isTape_14 : decode cX11_isTape 14 = .ok (.iconst 0, 1) := by decide +kernel
theorem dX11_isTape_15 : decode cX11_isTape 15 = .ok (.ireturn, 1) := by decide +kernel
set_option maxRecDepth 20000 in
theorem rX11_isTape (D : GD) (d : Nat) (a1 : Int32) (M : Mm) (post : Option Value → Mm → Prop) (hL : Lay 0 62 M) 
    (h : ((a1 < 0 → post (some (.int (0 : Int32))) M) ∧ (¬ a1 < 0 → (((6 : Int32) ≤ a1 → post (some (.int (0 : Int32))) M) ∧ (¬ (6 : Int32) ≤ a1 → post (some (.int (1 : Int32))) M))))) :
    AM D d 0 0 mX11_isTape [.int a1] M post := by
  refine AM.of (by decide) (Nat.le_of_ble_eq_true rfl) ?_
  show AW D d 0 0 mX11_isTape 0 0 0 [(0, .int a1)] [] M post
  refine ab_iload_n 0 dX11_isTape_0 rfl ?_
  refine ab_if_lt (tgt := 14) dX11_isTape_1 (by decide) (fun c1 => ?_) (fun c1 => ?_)
  · have h := h.1 c1
    refine ab_iconst (v := 0) dX11_isTape_14 (by decide) ?_
    exact ab_zret dX11_isTape_15 rfl rfl h
  · have h := h.2 c1
    refine ab_iload_n 0 dX11_isTape_4 rfl ?_
    refine ab_bipush (v := 6) dX11_isTape_5 (by decide) ?_
    refine ab_icmp_ge (tgt := 14) dX11_isTape_7 (by decide) (fun c2 => ?_) (fun c2 => ?_)
    · have h := h.1 c2
      refine ab_iconst (v := 0) dX11_isTape_14 (by decide) ?_
      exact ab_zret dX11_isTape_15 rfl rfl h
    · have h := h.2 c2
      refine ab_iconst (v := 1) dX11_isTape_10 (by decide) ?_
      refine ab_goto (tgt := 15) dX11_isTape_11 (by decide) ?_
      exact ab_zret dX11_isTape_15 rfl rfl h
theorem dX11_isStretch_0 : decode cX11_isStretch 0 = .ok (.iload_n 0, 1) := by decide +kernel
theorem dX11_isStretch_1 : decode cX11_isStretch 1 = .ok (.ifCond .lt 23, 3) := by decide +kernel
theorem dX11_isStretch_4 : decode cX11_isStretch 4 = .ok (.iload_n 1, 1) := by decide +kernel
theorem dX11_isStretch_5 : decode cX11_isStretch 5 = .ok (.ifCond .lt 19, 3) := by decide +kernel
theorem dX11_isStretch_8 : decode cX11_isStretch 8 = .ok (.iload_n 0, 1) := by decide +kernel
theorem dX11_isStretch_9 : decode cX11_isStretch 9 = .ok (.iload_n 2, 1) := by decide +kernel
theorem dX11_isStretch_10 : decode cX11_isStretch 10 = .ok (.if_icmp .gt 14, 3) := by decide +kernel
theorem dX11_isStretch_13 : decode cX11_isStretch 13 = .ok (.iload_n 1, 1) := by decide +kernel
theorem dX11_isStretch_14 : decode cX11_isStretch 14 = .ok (.iload_n 2, 1) := by decide +kernel
theorem dX11_isStretch_15 : decode cX11_isStretch 15 = .ok (.iload_n 0, 1) := by decide +kernel
theorem dX11_isStretch_16 : decode cX11_isStretch 16 = .ok (.isub, 1) := by decide +kernel
theorem dX11_isStretch_17 : decode cX11_isStretch 17 = .ok (.if_icmp .gt 7, 3) := by decide +kernel
theorem dX11_isStretch_20 : decode cX11_isStretch 20 = .ok (.iconst 1, 1) := by decide +kernel
theorem dX11_isStretch_21 : decode cX11_isStretch 21 = .ok (.goto 4, 3) := by decide +kernel
theorem dX11_isStretch_24 : decode cX11_isStretch 24 = .ok (.iconst 0, 1) := by decide +kernel
theorem dX11_isStretch_25 : decode cX11_isStretch 25 = .ok (.ireturn, 1) := by decide +kernel
set_option maxRecDepth 20000 in
theorem rX11_isStretch (D : GD) (d : Nat) (a1 : Int32) (a2 : Int32) (a3 : Int32) (M : Mm) (post : Option Value → Mm → Prop) (hL : Lay 0 62 M) 
    (h : ((a1 < 0 → post (some (.int (0 : Int32))) M) ∧ (¬ a1 < 0 → ((a2 < 0 → post (some (.int (0 : Int32))) M) ∧ (¬ a2 < 0 → ((a3 < a1 → post (some (.int (0 : Int32))) M) ∧ (¬ a3 < a1 → (((a3 - a1) < a2 → post (some (.int (0 : Int32))) M) ∧ (¬ (a3 - a1) < a2 → post (some (.int (1 : Int32))) M))))))))) :
    AM D d 0 0 mX11_isStretch [.int a1, .int a2, .int a3] M post := by
  refine AM.of (by decide) (Nat.le_of_ble_eq_true rfl) ?_
  show AW D d 0 0 mX11_isStretch 0 0 0 [(0, .int a1), (1, .int a2), (2, .int a3)] [] M post
  refine ab_iload_n 0 dX11_isStretch_0 rfl ?_
  refine ab_if_lt (tgt := 24) dX11_isStretch_1 (by decide) (fun c1 => ?_) (fun c1 => ?_)
  · have h := h.1 c1
    refine ab_iconst (v := 0) dX11_isStretch_24 (by decide) ?_
    exact ab_zret dX11_isStretch_25 rfl rfl h
  · have h := h.2 c1
    refine ab_iload_n 1 dX11_isStretch_4 rfl ?_
    refine ab_if_lt (tgt := 24) dX11_isStretch_5 (by decide) (fun c2 => ?_) (fun c2 => ?_)
    · have h := h.1 c2
      refine ab_iconst (v := 0) dX11_isStretch_24 (by decide) ?_
      exact ab_zret dX11_isStretch_25 rfl rfl h
    · have h := h.2 c2
      refine ab_iload_n 0 dX11_isStretch_8 rfl ?_
      refine ab_iload_n 2 dX11_isStretch_9 rfl ?_
      refine ab_icmp_gt (tgt := 24) dX11_isStretch_10 (by decide) (fun c3 => ?_) (fun c3 => ?_)
      · have h := h.1 c3
        refine ab_iconst (v := 0) dX11_isStretch_24 (by decide) ?_
        exact ab_zret dX11_isStretch_25 rfl rfl h
      · have h := h.2 c3
        refine ab_iload_n 1 dX11_isStretch_13 rfl ?_
        refine ab_iload_n 2 dX11_isStretch_14 rfl ?_
        refine ab_iload_n 0 dX11_isStretch_15 rfl ?_
        refine ab_isub dX11_isStretch_16 ?_
        refine ab_icmp_gt (tgt := 24) dX11_isStretch_17 (by decide) (fun c4 => ?_) (fun c4 => ?_)
        · have h := h.1 c4
          refine ab_iconst (v := 0) dX11_isStretch_24 (by decide) ?_
          exact ab_zret dX11_isStretch_25 rfl rfl h
        · have h := h.2 c4
          refine ab_iconst (v := 1) dX11_isStretch_20 (by decide) ?_
          refine ab_goto (tgt := 25) dX11_isStretch_21 (by decide) ?_
          exact ab_zret dX11_isStretch_25 rfl rfl h
