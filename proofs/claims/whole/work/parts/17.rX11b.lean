theorem dX11_read_0 : decode cX11_read 0 = .ok (.iload_n 1, 1) := by decide +kernel
theorem dX11_read_1 : decode cX11_read 1 = .ok (.invokestatic 268, 3) := by decide +kernel
theorem dX11_read_4 : decode cX11_read 4 = .ok (.ifCond .eq 17, 3) := by decide +kernel
theorem dX11_read_7 : decode cX11_read 7 = .ok (.iload_n 2, 1) := by decide +kernel
theorem dX11_read_8 : decode cX11_read 8 = .ok (.ifCond .lt 13, 3) := by decide +kernel
theorem dX11_read_11 : decode cX11_read 11 = .ok (.iload_n 2, 1) := by decide +kernel
theorem dX11_read_12 : decode cX11_read 12 = .ok (.aload_n 0, 1) := by decide +kernel
theorem dX11_read_13 : decode cX11_read 13 = .ok (.getfield 77, 3) := by decide +kernel
theorem dX11_read_16 : decode cX11_read 16 = .ok (.iload_n 1, 1) := by decide +kernel
theorem dX11_read_17 : decode cX11_read 17 = .ok (.iaload, 1) := by decide +kernel
theorem dX11_read_18 : decode cX11_read 18 = .ok (.if_icmp .lt 7, 3) := by decide +kernel
theorem dX11_read_21 : decode cX11_read 21 = .ok (.ldc2_w 196, 3) := by decide +kernel
theorem dX11_read_24 : decode cX11_read 24 = .ok (.lreturn, 1) := by decide +kernel
theorem dX11_read_25 : decode cX11_read 25 = .ok (.aload_n 0, 1) := by decide +kernel
theorem dX11_read_26 : decode cX11_read 26 = .ok (.getfield 82, 3) := by decide +kernel
theorem dX11_read_29 : decode cX11_read 29 = .ok (.iload_n 1, 1) := by decide +kernel
theorem dX11_read_30 : decode cX11_read 30 = .ok (.aaload, 1) := by decide +kernel
theorem dX11_read_31 : decode cX11_read 31 = .ok (.iload_n 2, 1) := by decide +kernel
theorem dX11_read_32 : decode cX11_read 32 = .ok (.laload, 1) := by decide +kernel
theorem dX11_read_33 : decode cX11_read 33 = .ok (.lreturn, 1) := by decide +kernel
set_option maxRecDepth 20000 in
theorem rX11_read (D : GD) (d : Nat) (a1 : Int32) (a2 : Int32) (M : Mm) (post : Option Value → Mm → Prop) (hL : Lay 0 62 M) 
    (h : AMi D d mX11_isTape [.int a1] M (fun x2 M1 => ((x2 = 0 → post (some (.long (-9223372036854775808 : Int64))) M1) ∧ (¬ x2 = 0 → ((a2 < 0 → post (some (.long (-9223372036854775808 : Int64))) M1) ∧ (¬ a2 < 0 → vp_in a1 6 ∧ ((a2 < (gI M1 54 a1.toNatClampNeg) → vp_in a2 60 ∧ post (some (.long (gL M1 (56 + a1.toNatClampNeg) a2.toNatClampNeg))) M1) ∧ (¬ a2 < (gI M1 54 a1.toNatClampNeg) → post (some (.long (-9223372036854775808 : Int64))) M1)))))))) :
    AM D (d + 1) 0 0 mX11_read [.ref 0, .int a1, .int a2] M post := by
  refine AM.of (by decide) (Nat.le_of_ble_eq_true rfl) ?_
  show AW D (d + 1) 0 0 mX11_read 0 0 0 [(0, .ref 0), (1, .int a1), (2, .int a2)] [] M post
  refine ab_iload_n 1 dX11_read_0 rfl ?_
  refine ab_callS (d' := d) (mc' := 0) (ms' := 0) (vs := [.int a1]) (st := []) dX11_read_1 ⟨cw_X11_isTape, w_829⟩ w_830 rfl rfl (Nat.le_of_ble_eq_true rfl) (Nat.le_refl _) (Nat.zero_le _) (Nat.zero_le _) (AM.mono h (fun r M1 ⟨x2, hr3, hc4, h⟩ => ?_))
  subst hr3
  refine ab_rs ?_
  have hm5 : Sm M M1 := (Sm.refl M).trans hc4
  have hl6 := hL.of hm5
  refine ab_if_eq (tgt := 21) dX11_read_4 (by decide) (fun c7 => ?_) (fun c7 => ?_)
  · have h := h.1 c7
    refine ab_ldc2 dX11_read_21 w_681 ?_
    exact ab_lret dX11_read_24 rfl h
  · have h := h.2 c7
    refine ab_iload_n 2 dX11_read_7 rfl ?_
    refine ab_if_lt (tgt := 21) dX11_read_8 (by decide) (fun c8 => ?_) (fun c8 => ?_)
    · have h := h.1 c8
      refine ab_ldc2 dX11_read_21 w_681 ?_
      exact ab_lret dX11_read_24 rfl h
    · have h := h.2 c8
      refine ab_iload_n 2 dX11_read_11 rfl ?_
      refine ab_aload_n 0 dX11_read_12 rfl ?_
      refine ab_getP (r := 54) dX11_read_13 fs_11_77_11 rfl (hl6.sh 0 rfl (by decide) (by decide)).1 (hl6.sh 0 rfl (by decide) (by decide)).2 (hl6.pt 11 rfl (by decide) (by decide)) ?_
      refine ab_iload_n 1 dX11_read_16 rfl ?_
      have hb9 := h.1
      have h := h.2
      refine ab_ialdj (j := a1.toNatClampNeg) dX11_read_17 (hl6.sh 54 rfl (by decide) (by decide)) hb9 rfl ?_
      refine ab_icmp_lt (tgt := 25) dX11_read_18 (by decide) (fun c10 => ?_) (fun c10 => ?_)
      · have h := h.1 c10
        refine ab_aload_n 0 dX11_read_25 rfl ?_
        refine ab_getP (r := 55) dX11_read_26 fs_11_82_11 rfl (hl6.sh 0 rfl (by decide) (by decide)).1 (hl6.sh 0 rfl (by decide) (by decide)).2 (hl6.pt 12 rfl (by decide) (by decide)) ?_
        refine ab_iload_n 1 dX11_read_29 rfl ?_
        refine ab_aald5j (j := a1.toNatClampNeg) (r := 56 + a1.toNatClampNeg) dX11_read_30 (hl6.sh 55 rfl (by decide) (by decide)) hb9 rfl (row_55 hl6 (by decide) (by decide) (vin_lt hb9)).1 ?_
        refine ab_iload_n 2 dX11_read_31 rfl ?_
        have hb11 := h.1
        have h := h.2
        refine ab_laldj (j := a2.toNatClampNeg) dX11_read_32 (row_55 hl6 (by decide) (by decide) (vin_lt hb9)).2 hb11 rfl ?_
        exact ab_lret dX11_read_33 rfl h
      · have h := h.2 c10
        refine ab_ldc2 dX11_read_21 w_681 ?_
        exact ab_lret dX11_read_24 rfl h
theorem dX11_isTape_0 : decode cX11_isTape 0 = .ok (.iload_n 0, 1) := by decide +kernel
theorem dX11_isTape_1 : decode cX11_isTape 1 = .ok (.ifCond .lt 13, 3) := by decide +kernel
theorem dX11_isTape_4 : decode cX11_isTape 4 = .ok (.iload_n 0, 1) := by decide +kernel
theorem dX11_isTape_5 : decode cX11_isTape 5 = .ok (.bipush 6, 2) := by decide +kernel
theorem dX11_isTape_7 : decode cX11_isTape 7 = .ok (.if_icmp .ge 7, 3) := by decide +kernel
theorem dX11_isTape_10 : decode cX11_isTape 10 = .ok (.iconst 1, 1) := by decide +kernel
theorem dX11_isTape_11 : decode cX11_isTape 11 = .ok (.goto 4, 3) := by decide +kernel
theorem dX11_isTape_14 : decode cX11_isTape 14 = .ok (.iconst 0, 1) := by decide +kernel
theorem dX11_isTape_15 : decode cX11_isTape 15 = .ok (.ireturn, 1) := by decide +kernel
set_option maxRecDepth 20000 in
theorem rX11_isTape (D : GD) (d : Nat) (a1 : Int32) (M : Mm) (post : Option Value → Mm → Prop) (hL : Lay 0 62 M) 
    (h : ((a1 < 0 → post (some (.int (0 : Int32))) M) ∧ (¬ a1 < 0 → (((6 : Int32) ≤ a1 → post (some (.int (0 : Int32))) M) ∧ (¬ (6 : Int32) ≤ a1 → post (some (.int (1 : Int32))) M))))) :
    AM D d 0 0 mX11_isTape [.int a1] M post := by
  refine AM.of (by decide) (Nat.le_of_ble_eq_true rfl) ?_
  show AW D d 0 0 mX11_isTape 0 0 0 [(0, .int a1)] [] M post
  refine ab_iload_n 0 dX11_isTape_0 rfl ?_
  refine ab_if_lt (tgt := 14) dX11_isTape_1 (by decide) (fun c1 => ?_) (fun c1 => ?_)
  · have h := h.1 c1
    refine ab_iconst (v := 0) dX11_isTape_14 (by decide) ?_
    exact ab_zret dX11_isTape_15 rfl rfl h
  · have h := h.2 c1
    refine ab_iload_n 0 dX11_isTape_4 rfl ?_
    refine ab_bipush (v := 6) dX11_isTape_5 (by decide) ?_
    refine ab_icmp_ge (tgt := 14) dX11_isTape_7 (by decide) (fun c2 => ?_) (fun c2 => ?_)
    · have h := h.1 c2
      refine ab_iconst (v := 0) dX11_isTape_14 (by decide) ?_
      exact ab_zret dX11_isTape_15 rfl rfl h
    · have h := h.2 c2
      refine ab_iconst (v := 1) dX11_isTape_10 (by decide) ?_
      refine ab_goto (tgt := 15) dX11_isTape_11 (by decide) ?_
      exact ab_zret dX11_isTape_15 rfl rfl h
theorem dX11_isStretch_0 : decode cX11_isStretch 0 = .ok (.iload_n 0, 1) := by decide +kernel
theorem dX11_isStretch_1 : decode cX11_isStretch 1 = .ok (.ifCond .lt 23, 3) := by decide +kernel
theorem dX11_isStretch_4 : decode cX11_isStretch 4 = .ok (.iload_n 1, 1) := by decide +kernel
theorem dX11_isStretch_5 : decode cX11_isStretch 5 = .ok (.ifCond .lt 19, 3) := by decide +kernel
theorem dX11_isStretch_8 : decode cX11_isStretch 8 = .ok (.iload_n 0, 1) := by decide +kernel
theorem dX11_isStretch_9 : decode cX11_isStretch 9 = .ok (.iload_n 2, 1) := by decide +kernel
theorem dX11_isStretch_10 : decode cX11_isStretch 10 = .ok (.if_icmp .gt 14, 3) := by decide +kernel
theorem dX11_isStretch_13 : decode cX11_isStretch 13 = .ok (.iload_n 1, 1) := by decide +kernel
theorem dX11_isStretch_14 : decode cX11_isStretch 14 = .ok (.iload_n 2, 1) := by decide +kernel
theorem dX11_isStretch_15 : decode cX11_isStretch 15 = .ok (.iload_n 0, 1) := by decide +kernel
theorem dX11_isStretch_16 : decode cX11_isStretch 16 = .ok (.isub, 1) := by decide +kernel
theorem dX11_isStretch_17 : decode cX11_isStretch 17 = .ok (.if_icmp .gt 7, 3) := by decide +kernel
theorem dX11_isStretch_20 : decode cX11_isStretch 20 = .ok (.iconst 1, 1) := by decide +kernel
theorem dX11_isStretch_21 : decode cX11_isStretch 21 = .ok (.goto 4, 3) := by decide +kernel
theorem dX11_isStretch_24 : decode cX11_isStretch 24 = .ok (.iconst 0, 1) := by decide +kernel
theorem dX11_isStretch_25 : decode cX11_isStretch 25 = .ok (.ireturn, 1) := by decide +kernel
set_option maxRecDepth 20000 in
theorem rX11_isStretch (D : GD) (d : Nat) (a1 : Int32) (a2 : Int32) (a3 : Int32) (M : Mm) (post : Option Value → Mm → Prop) (hL : Lay 0 62 M) 
    (h : ((a1 < 0 → post (some (.int (0 : Int32))) M) ∧ (¬ a1 < 0 → ((a2 < 0 → post (some (.int (0 : Int32))) M) ∧ (¬ a2 < 0 → ((a3 < a1 → post (some (.int (0 : Int32))) M) ∧ (¬ a3 < a1 → (((a3 - a1) < a2 → post (some (.int (0 : Int32))) M) ∧ (¬ (a3 - a1) < a2 → post (some (.int (1 : Int32))) M))))))))) :
    AM D d 0 0 mX11_isStretch [.int a1, .int a2, .int a3] M post := by
  refine AM.of (by decide) (Nat.le_of_ble_eq_true rfl) ?_
  show AW D d 0 0 mX11_isStretch 0 0 0 [(0, .int a1), (1, .int a2), (2, .int a3)] [] M post
  refine ab_iload_n 0 dX11_isStretch_0 rfl ?_
  refine ab_if_lt (tgt := 24) dX11_isStretch_1 (by decide) (fun c1 => ?_) (fun c1 => ?_)
  · have h := h.1 c1
    refine ab_iconst (v := 0) dX11_isStretch_24 (by decide) ?_
    exact ab_zret dX11_isStretch_25 rfl rfl h
  · have h := h.2 c1
    refine ab_iload_n 1 dX11_isStretch_4 rfl ?_
    refine ab_if_lt (tgt := 24) dX11_isStretch_5 (by decide) (fun c2 => ?_) (fun c2 => ?_)
    · have h := h.1 c2
      refine ab_iconst (v := 0) dX11_isStretch_24 (by decide) ?_
      exact ab_zret dX11_isStretch_25 rfl rfl h
    · have h := h.2 c2
      refine ab_iload_n 0 dX11_isStretch_8 rfl ?_
      refine ab_iload_n 2 dX11_isStretch_9 rfl ?_
      refine ab_icmp_gt (tgt := 24) dX11_isStretch_10 (by decide) (fun c3 => ?_) (fun c3 => ?_)
      · have h := h.1 c3
        refine ab_iconst (v := 0) dX11_isStretch_24 (by decide) ?_
        exact ab_zret dX11_isStretch_25 rfl rfl h
      · have h := h.2 c3
        refine ab_iload_n 1 dX11_isStretch_13 rfl ?_
        refine ab_iload_n 2 dX11_isStretch_14 rfl ?_
        refine ab_iload_n 0 dX11_isStretch_15 rfl ?_
        refine ab_isub dX11_isStretch_16 ?_
        refine ab_icmp_gt (tgt := 24) dX11_isStretch_17 (by decide) (fun c4 => ?_) (fun c4 => ?_)
        · have h := h.1 c4
          refine ab_iconst (v := 0) dX11_isStretch_24 (by decide) ?_
          exact ab_zret dX11_isStretch_25 rfl rfl h
        · have h := h.2 c4
          refine ab_iconst (v := 1) dX11_isStretch_20 (by decide) ?_
          refine ab_goto (tgt := 25) dX11_isStretch_21 (by decide) ?_
          exact ab_zret dX11_isStretch_25 rfl rfl h
theorem dX11_lowestBits_0 : decode cX11_lowestBits 0 = .ok (.iload_n 0, 1) := by decide +kernel
theorem dX11_lowestBits_1 : decode cX11_lowestBits 1 = .ok (.tableswitch 61 0 4 #[35, 40, 45, 61, 49], 35) := by decide +kernel
theorem dX11_lowestBits_36 : decode cX11_lowestBits 36 = .ok (.lload_n 1, 1) := by decide +kernel
theorem dX11_lowestBits_37 : decode cX11_lowestBits 37 = .ok (.l2i, 1) := by decide +kernel
theorem dX11_lowestBits_38 : decode cX11_lowestBits 38 = .ok (.i2b, 1) := by decide +kernel
theorem dX11_lowestBits_39 : decode cX11_lowestBits 39 = .ok (.i2l, 1) := by decide +kernel
theorem dX11_lowestBits_40 : decode cX11_lowestBits 40 = .ok (.lreturn, 1) := by decide +kernel
theorem dX11_lowestBits_41 : decode cX11_lowestBits 41 = .ok (.lload_n 1, 1) := by decide +kernel
theorem dX11_lowestBits_42 : decode cX11_lowestBits 42 = .ok (.l2i, 1) := by decide +kernel
theorem dX11_lowestBits_43 : decode cX11_lowestBits 43 = .ok (.i2s, 1) := by decide +kernel
theorem dX11_lowestBits_44 : decode cX11_lowestBits 44 = .ok (.i2l, 1) := by decide +kernel
theorem dX11_lowestBits_45 : decode cX11_lowestBits 45 = .ok (.lreturn, 1) := by decide +kernel
theorem dX11_lowestBits_46 : decode cX11_lowestBits 46 = .ok (.lload_n 1, 1) := by decide +kernel
theorem dX11_lowestBits_47 : decode cX11_lowestBits 47 = .ok (.l2i, 1) := by decide +kernel
theorem dX11_lowestBits_48 : decode cX11_lowestBits 48 = .ok (.i2l, 1) := by decide +kernel
theorem dX11_lowestBits_49 : decode cX11_lowestBits 49 = .ok (.lreturn, 1) := by decide +kernel
theorem dX11_lowestBits_50 : decode cX11_lowestBits 50 = .ok (.lload_n 1, 1) := by decide +kernel
theorem dX11_lowestBits_51 : decode cX11_lowestBits 51 = .ok (.lconst 0, 1) := by decide +kernel
theorem dX11_lowestBits_52 : decode cX11_lowestBits 52 = .ok (.lcmp, 1) := by decide +kernel
theorem dX11_lowestBits_53 : decode cX11_lowestBits 53 = .ok (.ifCond .eq 7, 3) := by decide +kernel
theorem dX11_lowestBits_56 : decode cX11_lowestBits 56 = .ok (.lconst 1, 1) := by decide +kernel
theorem dX11_lowestBits_57 : decode cX11_lowestBits 57 = .ok (.goto 4, 3) := by decide +kernel
theorem dX11_lowestBits_60 : decode cX11_lowestBits 60 = .ok (.lconst 0, 1) := by decide +kernel
theorem dX11_lowestBits_61 : decode cX11_lowestBits 61 = .ok (.lreturn, 1) := by decide +kernel
theorem dX11_lowestBits_62 : decode cX11_lowestBits 62 = .ok (.lload_n 1, 1) := by decide +kernel
theorem dX11_lowestBits_63 : decode cX11_lowestBits 63 = .ok (.lreturn, 1) := by decide +kernel
set_option maxRecDepth 20000 in
theorem rX11_lowestBits (D : GD) (d : Nat) (a1 : Int32) (a2 : Int64) (M : Mm) (post : Option Value → Mm → Prop) (hL : Lay 0 62 M) 
    (h : ((a1 = (0 : Int32) → post (some (.long ((((a2).toInt32).toInt8.toInt32).toInt64))) M) ∧ ((a1 = (1 : Int32) → post (some (.long ((((a2).toInt32).toInt16.toInt32).toInt64))) M) ∧ ((a1 = (2 : Int32) → post (some (.long (((a2).toInt32).toInt64))) M) ∧ ((a1 = (3 : Int32) → post (some (.long a2)) M) ∧ ((a1 = (4 : Int32) → (((lg_cmp a2 (0 : Int64)) = 0 → post (some (.long (0 : Int64))) M) ∧ (¬ (lg_cmp a2 (0 : Int64)) = 0 → post (some (.long (1 : Int64))) M))) ∧ ((¬ a1 = (0 : Int32) → ¬ a1 = (1 : Int32) → ¬ a1 = (2 : Int32) → ¬ a1 = (3 : Int32) → ¬ a1 = (4 : Int32) → post (some (.long a2)) M)))))))) :
    AM D d 0 0 mX11_lowestBits [.int a1, .long a2] M post := by
  refine AM.of (by decide) (Nat.le_of_ble_eq_true rfl) ?_
  show AW D d 0 0 mX11_lowestBits 0 0 0 [(0, .int a1), (1, .long a2)] [] M post
  refine ab_iload_n 0 dX11_lowestBits_0 rfl ?_
  by_cases c1 : a1 = (0 : Int32)
  · have h := h.1 c1
    refine ab_tableIn (off := (35)) (tgt := 36) dX11_lowestBits_1 (by rw [c1]; decide) (by rw [c1]; decide) (by rw [c1]; decide) (by decide) ?_
    refine ab_lload_n 1 dX11_lowestBits_36 rfl ?_
    refine ab_l2i dX11_lowestBits_37 ?_
    refine ab_i2b dX11_lowestBits_38 ?_
    refine ab_i2l dX11_lowestBits_39 ?_
    exact ab_lret dX11_lowestBits_40 rfl h
  · have h := h.2
    by_cases c2 : a1 = (1 : Int32)
    · have h := h.1 c2
      refine ab_tableIn (off := (40)) (tgt := 41) dX11_lowestBits_1 (by rw [c2]; decide) (by rw [c2]; decide) (by rw [c2]; decide) (by decide) ?_
      refine ab_lload_n 1 dX11_lowestBits_41 rfl ?_
      refine ab_l2i dX11_lowestBits_42 ?_
      refine ab_i2s dX11_lowestBits_43 ?_
      refine ab_i2l dX11_lowestBits_44 ?_
      exact ab_lret dX11_lowestBits_45 rfl h
    · have h := h.2
      by_cases c3 : a1 = (2 : Int32)
      · have h := h.1 c3
        refine ab_tableIn (off := (45)) (tgt := 46) dX11_lowestBits_1 (by rw [c3]; decide) (by rw [c3]; decide) (by rw [c3]; decide) (by decide) ?_
        refine ab_lload_n 1 dX11_lowestBits_46 rfl ?_
        refine ab_l2i dX11_lowestBits_47 ?_
        refine ab_i2l dX11_lowestBits_48 ?_
        exact ab_lret dX11_lowestBits_49 rfl h
      · have h := h.2
        by_cases c4 : a1 = (3 : Int32)
        · have h := h.1 c4
          refine ab_tableIn (off := (61)) (tgt := 62) dX11_lowestBits_1 (by rw [c4]; decide) (by rw [c4]; decide) (by rw [c4]; decide) (by decide) ?_
          refine ab_lload_n 1 dX11_lowestBits_62 rfl ?_
          exact ab_lret dX11_lowestBits_63 rfl h
        · have h := h.2
          by_cases c5 : a1 = (4 : Int32)
          · have h := h.1 c5
            refine ab_tableIn (off := (49)) (tgt := 50) dX11_lowestBits_1 (by rw [c5]; decide) (by rw [c5]; decide) (by rw [c5]; decide) (by decide) ?_
            refine ab_lload_n 1 dX11_lowestBits_50 rfl ?_
            refine ab_lconst (v := 0) dX11_lowestBits_51 (by decide) ?_
            refine ab_lcmp dX11_lowestBits_52 ?_
            refine ab_if_eq (tgt := 60) dX11_lowestBits_53 (by decide) (fun c6 => ?_) (fun c6 => ?_)
            · have h := h.1 c6
              refine ab_lconst (v := 0) dX11_lowestBits_60 (by decide) ?_
              exact ab_lret dX11_lowestBits_61 rfl h
            · have h := h.2 c6
              refine ab_lconst (v := 1) dX11_lowestBits_56 (by decide) ?_
              refine ab_goto (tgt := 61) dX11_lowestBits_57 (by decide) ?_
              exact ab_lret dX11_lowestBits_61 rfl h
          · have h := h.2
            have h := h c1 c2 c3 c4 c5
            refine ab_tableOut (tgt := 62) dX11_lowestBits_1 (by have e0 := lv_neT (a := 0) c1 (by decide); have e1 := lv_neT (a := 1) c2 (by decide); have e2 := lv_neT (a := 2) c3 (by decide); have e3 := lv_neT (a := 3) c4 (by decide); have e4 := lv_neT (a := 4) c5 (by decide); omega) (by decide) ?_
            refine ab_lload_n 1 dX11_lowestBits_62 rfl ?_
            exact ab_lret dX11_lowestBits_63 rfl h
