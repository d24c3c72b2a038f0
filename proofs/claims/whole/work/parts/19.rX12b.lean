theorem dX12_isPlayer_0 : decode cX12_isPlayer 0 = .ok (.aload_n 0, 1) := by decide +kernel
theorem dX12_isPlayer_1 : decode cX12_isPlayer 1 = .ok (.iload_n 1, 1) := by decide +kernel
theorem dX12_isPlayer_2 : decode cX12_isPlayer 2 = .ok (.iconst 0, 1) := by decide +kernel
theorem dX12_isPlayer_3 : decode cX12_isPlayer 3 = .ok (.aload_n 0, 1) := by decide +kernel
theorem dX12_isPlayer_4 : decode cX12_isPlayer 4 = .ok (.getfield 66, 3) := by decide +kernel
theorem dX12_isPlayer_7 : decode cX12_isPlayer 7 = .ok (.iconst 1, 1) := by decide +kernel
theorem dX12_isPlayer_8 : decode cX12_isPlayer 8 = .ok (.isub, 1) := by decide +kernel
theorem dX12_isPlayer_9 : decode cX12_isPlayer 9 = .ok (.invokevirtual 180, 3) := by decide +kernel
theorem dX12_isPlayer_12 : decode cX12_isPlayer 12 = .ok (.ireturn, 1) := by decide +kernel
set_option maxRecDepth 20000 in
theorem rX12_isPlayer (D : GD) (d : Nat) (a1 : Int32) (M : Mm) (post : Option Value → Mm → Prop) (hL : Lay 62 98 M) 
    (h : AMi D d mX12_in [.ref 62, .int a1, .int (0 : Int32), .int ((gI M 62 18) - (1 : Int32))] M (fun x2 M1 => (x2 = 0 ∨ x2 = 1) ∧ post (some (.int x2)) M1)) :
    AM D (d + 1) 0 0 mX12_isPlayer [.ref 62, .int a1] M post := by
  refine AM.of (by decide) (Nat.le_of_ble_eq_true rfl) ?_
  show AW D (d + 1) 0 0 mX12_isPlayer 0 0 0 [(0, .ref 62), (1, .int a1)] [] M post
  refine ab_aload_n 0 dX12_isPlayer_0 rfl ?_
  refine ab_iload_n 1 dX12_isPlayer_1 rfl ?_
  refine ab_iconst (v := 0) dX12_isPlayer_2 (by decide) ?_
  refine ab_aload_n 0 dX12_isPlayer_3 rfl ?_
  refine ab_getI dX12_isPlayer_4 fs_12_66_12 rfl (hL.sh 62 rfl (by decide) (by decide)).1 (hL.sh 62 rfl (by decide) (by decide)).2 ?_
  refine ab_iconst (v := 1) dX12_isPlayer_7 (by decide) ?_
  refine ab_isub dX12_isPlayer_8 ?_
  refine ab_callV (a := 62) (c0 := 12) (d' := d) (mc' := 0) (ms' := 0) (vs := [.int a1, .int (0 : Int32), .int ((gI M 62 18) - (1 : Int32))]) (st := []) dX12_isPlayer_9 ⟨cw_X12_in, w_1170⟩ w_1172 w_23 (by decide) (hL.sh 62 rfl (by decide) (by decide)).1 (hL.sh 62 rfl (by decide) (by decide)).2 rfl rfl (Nat.le_of_ble_eq_true rfl) (Nat.le_refl _) (Nat.zero_le _) (Nat.zero_le _) (AM.mono h (fun r M1 ⟨x2, hr3, hc4, h⟩ => ?_))
  subst hr3
  refine ab_rs ?_
  have hm5 : Sm M M1 := (Sm.refl M).trans hc4
  have hl6 := hL.of hm5
  exact ab_zret dX12_isPlayer_12 rfl (nar_z h.1) h.2
theorem dX12_player_0 : decode cX12_player 0 = .ok (.aload_n 0, 1) := by decide +kernel
theorem dX12_player_1 : decode cX12_player 1 = .ok (.iload_n 1, 1) := by decide +kernel
theorem dX12_player_2 : decode cX12_player 2 = .ok (.iconst 0, 1) := by decide +kernel
theorem dX12_player_3 : decode cX12_player 3 = .ok (.bipush 6, 2) := by decide +kernel
theorem dX12_player_5 : decode cX12_player 5 = .ok (.invokevirtual 180, 3) := by decide +kernel
theorem dX12_player_8 : decode cX12_player 8 = .ok (.ifCond .eq 18, 3) := by decide +kernel
theorem dX12_player_11 : decode cX12_player 11 = .ok (.aload_n 0, 1) := by decide +kernel
theorem dX12_player_12 : decode cX12_player 12 = .ok (.iload_n 3, 1) := by decide +kernel
theorem dX12_player_13 : decode cX12_player 13 = .ok (.iconst 0, 1) := by decide +kernel
theorem dX12_player_14 : decode cX12_player 14 = .ok (.aload_n 0, 1) := by decide +kernel
theorem dX12_player_15 : decode cX12_player 15 = .ok (.getfield 13, 3) := by decide +kernel
theorem dX12_player_18 : decode cX12_player 18 = .ok (.iconst 1, 1) := by decide +kernel
theorem dX12_player_19 : decode cX12_player 19 = .ok (.isub, 1) := by decide +kernel
theorem dX12_player_20 : decode cX12_player 20 = .ok (.invokevirtual 180, 3) := by decide +kernel
theorem dX12_player_23 : decode cX12_player 23 = .ok (.ifCond .ne 5, 3) := by decide +kernel
theorem dX12_player_26 : decode cX12_player 26 = .ok (.iconst (-1), 1) := by decide +kernel
theorem dX12_player_27 : decode cX12_player 27 = .ok (.ireturn, 1) := by decide +kernel
theorem dX12_player_28 : decode cX12_player 28 = .ok (.aload_n 0, 1) := by decide +kernel
theorem dX12_player_29 : decode cX12_player 29 = .ok (.iload_n 2, 1) := by decide +kernel
theorem dX12_player_30 : decode cX12_player 30 = .ok (.iconst 0, 1) := by decide +kernel
theorem dX12_player_31 : decode cX12_player 31 = .ok (.iconst 2, 1) := by decide +kernel
theorem dX12_player_32 : decode cX12_player 32 = .ok (.invokevirtual 180, 3) := by decide +kernel
theorem dX12_player_35 : decode cX12_player 35 = .ok (.ifCond .ne 6, 3) := by decide +kernel
theorem dX12_player_38 : decode cX12_player 38 = .ok (.bipush (-2), 2) := by decide +kernel
theorem dX12_player_40 : decode cX12_player 40 = .ok (.ireturn, 1) := by decide +kernel
theorem dX12_player_41 : decode cX12_player 41 = .ok (.aload_n 0, 1) := by decide +kernel
theorem dX12_player_42 : decode cX12_player 42 = .ok (.getfield 66, 3) := by decide +kernel
theorem dX12_player_45 : decode cX12_player 45 = .ok (.bipush 10, 2) := by decide +kernel
theorem dX12_player_47 : decode cX12_player 47 = .ok (.if_icmp .ne 6, 3) := by decide +kernel
theorem dX12_player_50 : decode cX12_player 50 = .ok (.bipush (-4), 2) := by decide +kernel
theorem dX12_player_52 : decode cX12_player 52 = .ok (.ireturn, 1) := by decide +kernel
theorem dX12_player_53 : decode cX12_player 53 = .ok (.aload_n 0, 1) := by decide +kernel
theorem dX12_player_54 : decode cX12_player 54 = .ok (.getfield 69, 3) := by decide +kernel
theorem dX12_player_57 : decode cX12_player 57 = .ok (.aload_n 0, 1) := by decide +kernel
theorem dX12_player_58 : decode cX12_player 58 = .ok (.getfield 66, 3) := by decide +kernel
theorem dX12_player_61 : decode cX12_player 61 = .ok (.iload_n 1, 1) := by decide +kernel
theorem dX12_player_62 : decode cX12_player 62 = .ok (.iastore, 1) := by decide +kernel
theorem dX12_player_63 : decode cX12_player 63 = .ok (.aload_n 0, 1) := by decide +kernel
theorem dX12_player_64 : decode cX12_player 64 = .ok (.getfield 72, 3) := by decide +kernel
theorem dX12_player_67 : decode cX12_player 67 = .ok (.aload_n 0, 1) := by decide +kernel
theorem dX12_player_68 : decode cX12_player 68 = .ok (.getfield 66, 3) := by decide +kernel
theorem dX12_player_71 : decode cX12_player 71 = .ok (.iload_n 2, 1) := by decide +kernel
theorem dX12_player_72 : decode cX12_player 72 = .ok (.iastore, 1) := by decide +kernel
theorem dX12_player_73 : decode cX12_player 73 = .ok (.aload_n 0, 1) := by decide +kernel
theorem dX12_player_74 : decode cX12_player 74 = .ok (.getfield 75, 3) := by decide +kernel
theorem dX12_player_77 : decode cX12_player 77 = .ok (.aload_n 0, 1) := by decide +kernel
theorem dX12_player_78 : decode cX12_player 78 = .ok (.getfield 66, 3) := by decide +kernel
theorem dX12_player_81 : decode cX12_player 81 = .ok (.iload_n 3, 1) := by decide +kernel
theorem dX12_player_82 : decode cX12_player 82 = .ok (.iastore, 1) := by decide +kernel
theorem dX12_player_83 : decode cX12_player 83 = .ok (.aload_n 0, 1) := by decide +kernel
theorem dX12_player_84 : decode cX12_player 84 = .ok (.dup, 1) := by decide +kernel
theorem dX12_player_85 : decode cX12_player 85 = .ok (.getfield 66, 3) := by decide +kernel
theorem dX12_player_88 : decode cX12_player 88 = .ok (.iconst 1, 1) := by decide +kernel
theorem dX12_player_89 : decode cX12_player 89 = .ok (.iadd, 1) := by decide +kernel
theorem dX12_player_90 : decode cX12_player 90 = .ok (.putfield 66, 3) := by decide +kernel
theorem dX12_player_93 : decode cX12_player 93 = .ok (.aload_n 0, 1) := by decide +kernel
theorem dX12_player_94 : decode cX12_player 94 = .ok (.getfield 66, 3) := by decide +kernel
theorem dX12_player_97 : decode cX12_player 97 = .ok (.iconst 1, 1) := by decide +kernel
theorem dX12_player_98 : decode cX12_player 98 = .ok (.isub, 1) := by decide +kernel
theorem dX12_player_99 : decode cX12_player 99 = .ok (.ireturn, 1) := by decide +kernel
set_option maxRecDepth 20000 in
theorem rX12_player (D : GD) (d : Nat) (a1 : Int32) (a2 : Int32) (a3 : Int32) (M : Mm) (post : Option Value → Mm → Prop) (hL : Lay 62 98 M) 
    (h : AMi D d mX12_in [.ref 62, .int a1, .int (0 : Int32), .int (6 : Int32)] M (fun x2 M1 => ((x2 = 0 → post (some (.int (-1 : Int32))) M1) ∧ (¬ x2 = 0 → AMi D d mX12_in [.ref 62, .int a3, .int (0 : Int32), .int ((gI M1 62 1) - (1 : Int32))] M1 (fun x9 M8 => ((¬ x9 = 0 → AMi D d mX12_in [.ref 62, .int a2, .int (0 : Int32), .int (2 : Int32)] M8 (fun x16 M15 => ((¬ x16 = 0 → ((¬ (gI M15 62 18) = (10 : Int32) → vp_in (gI M15 62 18) 11 ∧ ∀ M24 : Mm, M24 = sI M15 74 ((gI M15 62 18).toNatClampNeg) a1 → vp_in (gI M24 62 18) 11 ∧ ∀ M29 : Mm, M29 = sI M24 75 ((gI M24 62 18).toNatClampNeg) a2 → vp_in (gI M29 62 18) 11 ∧ ∀ M34 : Mm, M34 = sI M29 76 ((gI M29 62 18).toNatClampNeg) a3 → ∀ M38 : Mm, M38 = sI M34 62 18 ((gI M34 62 18) + (1 : Int32)) → post (some (.int ((gI M38 62 18) - (1 : Int32)))) M38) ∧ ((gI M15 62 18) = (10 : Int32) → post (some (.int (-4 : Int32))) M15))) ∧ (x16 = 0 → post (some (.int (-2 : Int32))) M15)))) ∧ (x9 = 0 → post (some (.int (-1 : Int32))) M8))))))) :
    AM D (d + 1) 0 0 mX12_player [.ref 62, .int a1, .int a2, .int a3] M post := by
  refine AM.of (by decide) (Nat.le_of_ble_eq_true rfl) ?_
  show AW D (d + 1) 0 0 mX12_player 0 0 0 [(0, .ref 62), (1, .int a1), (2, .int a2), (3, .int a3)] [] M post
  refine ab_aload_n 0 dX12_player_0 rfl ?_
  refine ab_iload_n 1 dX12_player_1 rfl ?_
  refine ab_iconst (v := 0) dX12_player_2 (by decide) ?_
  refine ab_bipush (v := 6) dX12_player_3 (by decide) ?_
  refine ab_callV (a := 62) (c0 := 12) (d' := d) (mc' := 0) (ms' := 0) (vs := [.int a1, .int (0 : Int32), .int (6 : Int32)]) (st := []) dX12_player_5 ⟨cw_X12_in, w_1170⟩ w_1172 w_23 (by decide) (hL.sh 62 rfl (by decide) (by decide)).1 (hL.sh 62 rfl (by decide) (by decide)).2 rfl rfl (Nat.le_of_ble_eq_true rfl) (Nat.le_refl _) (Nat.zero_le _) (Nat.zero_le _) (AM.mono h (fun r M1 ⟨x2, hr3, hc4, h⟩ => ?_))
  subst hr3
  refine ab_rs ?_
  have hm5 : Sm M M1 := (Sm.refl M).trans hc4
  have hl6 := hL.of hm5
  refine ab_if_eq (tgt := 26) dX12_player_8 (by decide) (fun c7 => ?_) (fun c7 => ?_)
  · have h := h.1 c7
    refine ab_iconst (v := (-1)) dX12_player_26 (by decide) ?_
    exact ab_iret dX12_player_27 rfl h
  · have h := h.2 c7
    refine ab_aload_n 0 dX12_player_11 rfl ?_
    refine ab_iload_n 3 dX12_player_12 rfl ?_
    refine ab_iconst (v := 0) dX12_player_13 (by decide) ?_
    refine ab_aload_n 0 dX12_player_14 rfl ?_
    refine ab_getI dX12_player_15 fs_12_13_12 rfl (hl6.sh 62 rfl (by decide) (by decide)).1 (hl6.sh 62 rfl (by decide) (by decide)).2 ?_
    refine ab_iconst (v := 1) dX12_player_18 (by decide) ?_
    refine ab_isub dX12_player_19 ?_
    refine ab_callV (a := 62) (c0 := 12) (d' := d) (mc' := 0) (ms' := 0) (vs := [.int a3, .int (0 : Int32), .int ((gI M1 62 1) - (1 : Int32))]) (st := []) dX12_player_20 ⟨cw_X12_in, w_1170⟩ w_1172 w_23 (by decide) (hl6.sh 62 rfl (by decide) (by decide)).1 (hl6.sh 62 rfl (by decide) (by decide)).2 rfl rfl (Nat.le_of_ble_eq_true rfl) (Nat.le_refl _) (Nat.zero_le _) (Nat.zero_le _) (AM.mono h (fun r M8 ⟨x9, hr10, hc11, h⟩ => ?_))
    subst hr10
    refine ab_rs ?_
    have hm12 : Sm M M8 := hm5.trans hc11
    have hl13 := hL.of hm12
    refine ab_if_ne (tgt := 28) dX12_player_23 (by decide) (fun c14 => ?_) (fun c14 => ?_)
    · have h := h.1 c14
      refine ab_aload_n 0 dX12_player_28 rfl ?_
      refine ab_iload_n 2 dX12_player_29 rfl ?_
      refine ab_iconst (v := 0) dX12_player_30 (by decide) ?_
      refine ab_iconst (v := 2) dX12_player_31 (by decide) ?_
      refine ab_callV (a := 62) (c0 := 12) (d' := d) (mc' := 0) (ms' := 0) (vs := [.int a2, .int (0 : Int32), .int (2 : Int32)]) (st := []) dX12_player_32 ⟨cw_X12_in, w_1170⟩ w_1172 w_23 (by decide) (hl13.sh 62 rfl (by decide) (by decide)).1 (hl13.sh 62 rfl (by decide) (by decide)).2 rfl rfl (Nat.le_of_ble_eq_true rfl) (Nat.le_refl _) (Nat.zero_le _) (Nat.zero_le _) (AM.mono h (fun r M15 ⟨x16, hr17, hc18, h⟩ => ?_))
      subst hr17
      refine ab_rs ?_
      have hm19 : Sm M M15 := hm12.trans hc18
      have hl20 := hL.of hm19
      refine ab_if_ne (tgt := 41) dX12_player_35 (by decide) (fun c21 => ?_) (fun c21 => ?_)
      · have h := h.1 c21
        refine ab_aload_n 0 dX12_player_41 rfl ?_
        refine ab_getI dX12_player_42 fs_12_66_12 rfl (hl20.sh 62 rfl (by decide) (by decide)).1 (hl20.sh 62 rfl (by decide) (by decide)).2 ?_
        refine ab_bipush (v := 10) dX12_player_45 (by decide) ?_
        refine ab_icmp_ne (tgt := 53) dX12_player_47 (by decide) (fun c22 => ?_) (fun c22 => ?_)
        · have h := h.1 c22
          refine ab_aload_n 0 dX12_player_53 rfl ?_
          refine ab_getP (r := 74) dX12_player_54 fs_12_69_12 rfl (hl20.sh 62 rfl (by decide) (by decide)).1 (hl20.sh 62 rfl (by decide) (by decide)).2 (hl20.pt 72 rfl (by decide) (by decide)) ?_
          refine ab_aload_n 0 dX12_player_57 rfl ?_
          refine ab_getI dX12_player_58 fs_12_66_12 rfl (hl20.sh 62 rfl (by decide) (by decide)).1 (hl20.sh 62 rfl (by decide) (by decide)).2 ?_
          refine ab_iload_n 1 dX12_player_61 rfl ?_
          have hb23 := h.1
          have h := h.2
          refine ab_iastj (j := (gI M15 62 18).toNatClampNeg) dX12_player_62 (hl20.sh 74 rfl (by decide) (by decide)) hb23 rfl ?_
          refine ab_nameM (fun M24 hM24 => ?_)
          have h := h M24 hM24
          have hs27 : Sm M15 M24 := hM24 ▸ (Sm.refl _).i
          have hm25 : Sm M M24 := hm19.trans hs27
          have hl26 := hL.of hm25
          refine ab_aload_n 0 dX12_player_63 rfl ?_
          refine ab_getP (r := 75) dX12_player_64 fs_12_72_12 rfl (hl26.sh 62 rfl (by decide) (by decide)).1 (hl26.sh 62 rfl (by decide) (by decide)).2 (hl26.pt 73 rfl (by decide) (by decide)) ?_
          refine ab_aload_n 0 dX12_player_67 rfl ?_
          refine ab_getI dX12_player_68 fs_12_66_12 rfl (hl26.sh 62 rfl (by decide) (by decide)).1 (hl26.sh 62 rfl (by decide) (by decide)).2 ?_
          refine ab_iload_n 2 dX12_player_71 rfl ?_
          have hb28 := h.1
          have h := h.2
          refine ab_iastj (j := (gI M24 62 18).toNatClampNeg) dX12_player_72 (hl26.sh 75 rfl (by decide) (by decide)) hb28 rfl ?_
          refine ab_nameM (fun M29 hM29 => ?_)
          have h := h M29 hM29
          have hs32 : Sm M24 M29 := hM29 ▸ (Sm.refl _).i
          have hm30 : Sm M M29 := hm25.trans hs32
          have hl31 := hL.of hm30
          refine ab_aload_n 0 dX12_player_73 rfl ?_
          refine ab_getP (r := 76) dX12_player_74 fs_12_75_12 rfl (hl31.sh 62 rfl (by decide) (by decide)).1 (hl31.sh 62 rfl (by decide) (by decide)).2 (hl31.pt 74 rfl (by decide) (by decide)) ?_
          refine ab_aload_n 0 dX12_player_77 rfl ?_
          refine ab_getI dX12_player_78 fs_12_66_12 rfl (hl31.sh 62 rfl (by decide) (by decide)).1 (hl31.sh 62 rfl (by decide) (by decide)).2 ?_
          refine ab_iload_n 3 dX12_player_81 rfl ?_
          have hb33 := h.1
          have h := h.2
          refine ab_iastj (j := (gI M29 62 18).toNatClampNeg) dX12_player_82 (hl31.sh 76 rfl (by decide) (by decide)) hb33 rfl ?_
          refine ab_nameM (fun M34 hM34 => ?_)
          have h := h M34 hM34
          have hs37 : Sm M29 M34 := hM34 ▸ (Sm.refl _).i
          have hm35 : Sm M M34 := hm30.trans hs37
          have hl36 := hL.of hm35
          refine ab_aload_n 0 dX12_player_83 rfl ?_
          refine ab_dup dX12_player_84 rfl ?_
          refine ab_getI dX12_player_85 fs_12_66_12 rfl (hl36.sh 62 rfl (by decide) (by decide)).1 (hl36.sh 62 rfl (by decide) (by decide)).2 ?_
          refine ab_iconst (v := 1) dX12_player_88 (by decide) ?_
          refine ab_iadd dX12_player_89 ?_
          refine ab_putI dX12_player_90 fs_12_66_12 rfl rfl (hl36.sh 62 rfl (by decide) (by decide)).1 (hl36.sh 62 rfl (by decide) (by decide)).2 ?_
          refine ab_nameM (fun M38 hM38 => ?_)
          have h := h M38 hM38
          have hs41 : Sm M34 M38 := hM38 ▸ (Sm.refl _).i
          have hm39 : Sm M M38 := hm35.trans hs41
          have hl40 := hL.of hm39
          refine ab_aload_n 0 dX12_player_93 rfl ?_
          refine ab_getI dX12_player_94 fs_12_66_12 rfl (hl40.sh 62 rfl (by decide) (by decide)).1 (hl40.sh 62 rfl (by decide) (by decide)).2 ?_
          refine ab_iconst (v := 1) dX12_player_97 (by decide) ?_
          refine ab_isub dX12_player_98 ?_
          exact ab_iret dX12_player_99 rfl h
        · have h := h.2 c22
          refine ab_bipush (v := (-4)) dX12_player_50 (by decide) ?_
          exact ab_iret dX12_player_52 rfl h
      · have h := h.2 c21
        refine ab_bipush (v := (-2)) dX12_player_38 (by decide) ?_
        exact ab_iret dX12_player_40 rfl h
    · have h := h.2 c14
      refine ab_iconst (v := (-1)) dX12_player_26 (by decide) ?_
      exact ab_iret dX12_player_27 rfl h
theorem dX12_of_0 : decode cX12_of 0 = .ok (.aload_n 0, 1) := by decide +kernel
theorem dX12_of_1 : decode cX12_of 1 = .ok (.iload_n 1, 1) := by decide +kernel
theorem dX12_of_2 : decode cX12_of 2 = .ok (.invokevirtual 233, 3) := by decide +kernel
theorem dX12_of_5 : decode cX12_of 5 = .ok (.ifCond .ne 5, 3) := by decide +kernel
theorem dX12_of_8 : decode cX12_of 8 = .ok (.iconst (-1), 1) := by decide +kernel
theorem dX12_of_9 : decode cX12_of 9 = .ok (.ireturn, 1) := by decide +kernel
theorem dX12_of_10 : decode cX12_of 10 = .ok (.iload_n 2, 1) := by decide +kernel
theorem dX12_of_11 : decode cX12_of 11 = .ok (.tableswitch 46 0 2 #[25, 32, 39], 25) := by decide +kernel
theorem dX12_of_36 : decode cX12_of 36 = .ok (.aload_n 0, 1) := by decide +kernel
theorem dX12_of_37 : decode cX12_of 37 = .ok (.getfield 69, 3) := by decide +kernel
theorem dX12_of_40 : decode cX12_of 40 = .ok (.iload_n 1, 1) := by decide +kernel
theorem dX12_of_41 : decode cX12_of 41 = .ok (.iaload, 1) := by decide +kernel
theorem dX12_of_42 : decode cX12_of 42 = .ok (.ireturn, 1) := by decide +kernel
theorem dX12_of_43 : decode cX12_of 43 = .ok (.aload_n 0, 1) := by decide +kernel
theorem dX12_of_44 : decode cX12_of 44 = .ok (.getfield 72, 3) := by decide +kernel
theorem dX12_of_47 : decode cX12_of 47 = .ok (.iload_n 1, 1) := by decide +kernel
theorem dX12_of_48 : decode cX12_of 48 = .ok (.iaload, 1) := by decide +kernel
theorem dX12_of_49 : decode cX12_of 49 = .ok (.ireturn, 1) := by decide +kernel
theorem dX12_of_50 : decode cX12_of 50 = .ok (.aload_n 0, 1) := by decide +kernel
theorem dX12_of_51 : decode cX12_of 51 = .ok (.getfield 75, 3) := by decide +kernel
theorem dX12_of_54 : decode cX12_of 54 = .ok (.iload_n 1, 1) := by decide +kernel
theorem dX12_of_55 : decode cX12_of 55 = .ok (.iaload, 1) := by decide +kernel
theorem dX12_of_56 : decode cX12_of 56 = .ok (.ireturn, 1) := by decide +kernel
theorem dX12_of_57 : decode cX12_of 57 = .ok (.iconst (-1), 1) := by decide +kernel
theorem dX12_of_58 : decode cX12_of 58 = .ok (.ireturn, 1) := by decide +kernel
set_option maxRecDepth 20000 in
theorem rX12_of (D : GD) (d : Nat) (a1 : Int32) (a2 : Int32) (M : Mm) (post : Option Value → Mm → Prop) (hL : Lay 62 98 M) 
    (h : AMi D d mX12_isPlayer [.ref 62, .int a1] M (fun x2 M1 => ((¬ x2 = 0 → ((a2 = (0 : Int32) → vp_in a1 11 ∧ post (some (.int (gI M1 74 a1.toNatClampNeg))) M1) ∧ ((a2 = (1 : Int32) → vp_in a1 11 ∧ post (some (.int (gI M1 75 a1.toNatClampNeg))) M1) ∧ ((a2 = (2 : Int32) → vp_in a1 11 ∧ post (some (.int (gI M1 76 a1.toNatClampNeg))) M1) ∧ ((¬ a2 = (0 : Int32) → ¬ a2 = (1 : Int32) → ¬ a2 = (2 : Int32) → post (some (.int (-1 : Int32))) M1)))))) ∧ (x2 = 0 → post (some (.int (-1 : Int32))) M1)))) :
    AM D (d + 1) 0 0 mX12_of [.ref 62, .int a1, .int a2] M post := by
  refine AM.of (by decide) (Nat.le_of_ble_eq_true rfl) ?_
  show AW D (d + 1) 0 0 mX12_of 0 0 0 [(0, .ref 62), (1, .int a1), (2, .int a2)] [] M post
  refine ab_aload_n 0 dX12_of_0 rfl ?_
  refine ab_iload_n 1 dX12_of_1 rfl ?_
  refine ab_callV (a := 62) (c0 := 12) (d' := d) (mc' := 0) (ms' := 0) (vs := [.int a1]) (st := []) dX12_of_2 ⟨cw_X12_isPlayer, w_1247⟩ w_1249 w_37 (by decide) (hL.sh 62 rfl (by decide) (by decide)).1 (hL.sh 62 rfl (by decide) (by decide)).2 rfl rfl (Nat.le_of_ble_eq_true rfl) (Nat.le_refl _) (Nat.zero_le _) (Nat.zero_le _) (AM.mono h (fun r M1 ⟨x2, hr3, hc4, h⟩ => ?_))
  subst hr3
  refine ab_rs ?_
  have hm5 : Sm M M1 := (Sm.refl M).trans hc4
  have hl6 := hL.of hm5
  refine ab_if_ne (tgt := 10) dX12_of_5 (by decide) (fun c7 => ?_) (fun c7 => ?_)
  · have h := h.1 c7
    refine ab_iload_n 2 dX12_of_10 rfl ?_
    by_cases c8 : a2 = (0 : Int32)
    · have h := h.1 c8
      refine ab_tableIn (off := (25)) (tgt := 36) dX12_of_11 (by rw [c8]; decide) (by rw [c8]; decide) (by rw [c8]; decide) (by decide) ?_
      refine ab_aload_n 0 dX12_of_36 rfl ?_
      refine ab_getP (r := 74) dX12_of_37 fs_12_69_12 rfl (hl6.sh 62 rfl (by decide) (by decide)).1 (hl6.sh 62 rfl (by decide) (by decide)).2 (hl6.pt 72 rfl (by decide) (by decide)) ?_
      refine ab_iload_n 1 dX12_of_40 rfl ?_
      have hb9 := h.1
      have h := h.2
      refine ab_ialdj (j := a1.toNatClampNeg) dX12_of_41 (hl6.sh 74 rfl (by decide) (by decide)) hb9 rfl ?_
      exact ab_iret dX12_of_42 rfl h
    · have h := h.2
      by_cases c10 : a2 = (1 : Int32)
      · have h := h.1 c10
        refine ab_tableIn (off := (32)) (tgt := 43) dX12_of_11 (by rw [c10]; decide) (by rw [c10]; decide) (by rw [c10]; decide) (by decide) ?_
        refine ab_aload_n 0 dX12_of_43 rfl ?_
        refine ab_getP (r := 75) dX12_of_44 fs_12_72_12 rfl (hl6.sh 62 rfl (by decide) (by decide)).1 (hl6.sh 62 rfl (by decide) (by decide)).2 (hl6.pt 73 rfl (by decide) (by decide)) ?_
        refine ab_iload_n 1 dX12_of_47 rfl ?_
        have hb11 := h.1
        have h := h.2
        refine ab_ialdj (j := a1.toNatClampNeg) dX12_of_48 (hl6.sh 75 rfl (by decide) (by decide)) hb11 rfl ?_
        exact ab_iret dX12_of_49 rfl h
      · have h := h.2
        by_cases c12 : a2 = (2 : Int32)
        · have h := h.1 c12
          refine ab_tableIn (off := (39)) (tgt := 50) dX12_of_11 (by rw [c12]; decide) (by rw [c12]; decide) (by rw [c12]; decide) (by decide) ?_
          refine ab_aload_n 0 dX12_of_50 rfl ?_
          refine ab_getP (r := 76) dX12_of_51 fs_12_75_12 rfl (hl6.sh 62 rfl (by decide) (by decide)).1 (hl6.sh 62 rfl (by decide) (by decide)).2 (hl6.pt 74 rfl (by decide) (by decide)) ?_
          refine ab_iload_n 1 dX12_of_54 rfl ?_
          have hb13 := h.1
          have h := h.2
          refine ab_ialdj (j := a1.toNatClampNeg) dX12_of_55 (hl6.sh 76 rfl (by decide) (by decide)) hb13 rfl ?_
          exact ab_iret dX12_of_56 rfl h
        · have h := h.2
          have h := h c8 c10 c12
          refine ab_tableOut (tgt := 57) dX12_of_11 (by have e0 := lv_neT (a := 0) c8 (by decide); have e1 := lv_neT (a := 1) c10 (by decide); have e2 := lv_neT (a := 2) c12 (by decide); omega) (by decide) ?_
          refine ab_iconst (v := (-1)) dX12_of_57 (by decide) ?_
          exact ab_iret dX12_of_58 rfl h
  · have h := h.2 c7
    refine ab_iconst (v := (-1)) dX12_of_8 (by decide) ?_
    exact ab_iret dX12_of_9 rfl h
theorem dX12_chanceOf_0 : decode cX12_chanceOf 0 = .ok (.iload 4, 2) := by decide +kernel
theorem dX12_chanceOf_2 : decode cX12_chanceOf 2 = .ok (.ifCond .ne 40, 3) := by decide +kernel
theorem dX12_chanceOf_5 : decode cX12_chanceOf 5 = .ok (.iload_n 1, 1) := by decide +kernel
theorem dX12_chanceOf_6 : decode cX12_chanceOf 6 = .ok (.aload_n 0, 1) := by decide +kernel
theorem dX12_chanceOf_7 : decode cX12_chanceOf 7 = .ok (.getfield 7, 3) := by decide +kernel
theorem dX12_chanceOf_10 : decode cX12_chanceOf 10 = .ok (.iload 5, 2) := by decide +kernel
theorem dX12_chanceOf_12 : decode cX12_chanceOf 12 = .ok (.iaload, 1) := by decide +kernel
theorem dX12_chanceOf_13 : decode cX12_chanceOf 13 = .ok (.imul, 1) := by decide +kernel
theorem dX12_chanceOf_14 : decode cX12_chanceOf 14 = .ok (.iload_n 2, 1) := by decide +kernel
theorem dX12_chanceOf_15 : decode cX12_chanceOf 15 = .ok (.aload_n 0, 1) := by decide +kernel
theorem dX12_chanceOf_16 : decode cX12_chanceOf 16 = .ok (.getfield 7, 3) := by decide +kernel
theorem dX12_chanceOf_19 : decode cX12_chanceOf 19 = .ok (.iconst 3, 1) := by decide +kernel
theorem dX12_chanceOf_20 : decode cX12_chanceOf 20 = .ok (.iload 5, 2) := by decide +kernel
theorem dX12_chanceOf_22 : decode cX12_chanceOf 22 = .ok (.iadd, 1) := by decide +kernel
theorem dX12_chanceOf_23 : decode cX12_chanceOf 23 = .ok (.iaload, 1) := by decide +kernel
theorem dX12_chanceOf_24 : decode cX12_chanceOf 24 = .ok (.imul, 1) := by decide +kernel
theorem dX12_chanceOf_25 : decode cX12_chanceOf 25 = .ok (.iadd, 1) := by decide +kernel
theorem dX12_chanceOf_26 : decode cX12_chanceOf 26 = .ok (.iload_n 3, 1) := by decide +kernel
theorem dX12_chanceOf_27 : decode cX12_chanceOf 27 = .ok (.aload_n 0, 1) := by decide +kernel
theorem dX12_chanceOf_28 : decode cX12_chanceOf 28 = .ok (.getfield 7, 3) := by decide +kernel
theorem dX12_chanceOf_31 : decode cX12_chanceOf 31 = .ok (.bipush 6, 2) := by decide +kernel
theorem dX12_chanceOf_33 : decode cX12_chanceOf 33 = .ok (.iload 5, 2) := by decide +kernel
theorem dX12_chanceOf_35 : decode cX12_chanceOf 35 = .ok (.iadd, 1) := by decide +kernel
theorem dX12_chanceOf_36 : decode cX12_chanceOf 36 = .ok (.iaload, 1) := by decide +kernel
theorem dX12_chanceOf_37 : decode cX12_chanceOf 37 = .ok (.imul, 1) := by decide +kernel
theorem dX12_chanceOf_38 : decode cX12_chanceOf 38 = .ok (.iadd, 1) := by decide +kernel
theorem dX12_chanceOf_39 : decode cX12_chanceOf 39 = .ok (.goto 42, 3) := by decide +kernel
theorem dX12_chanceOf_42 : decode cX12_chanceOf 42 = .ok (.iload_n 1, 1) := by decide +kernel
theorem dX12_chanceOf_43 : decode cX12_chanceOf 43 = .ok (.aload_n 0, 1) := by decide +kernel
theorem dX12_chanceOf_44 : decode cX12_chanceOf 44 = .ok (.getfield 7, 3) := by decide +kernel
theorem dX12_chanceOf_47 : decode cX12_chanceOf 47 = .ok (.iconst 3, 1) := by decide +kernel
theorem dX12_chanceOf_48 : decode cX12_chanceOf 48 = .ok (.iload 5, 2) := by decide +kernel
theorem dX12_chanceOf_50 : decode cX12_chanceOf 50 = .ok (.imul, 1) := by decide +kernel
theorem dX12_chanceOf_51 : decode cX12_chanceOf 51 = .ok (.iaload, 1) := by decide +kernel
theorem dX12_chanceOf_52 : decode cX12_chanceOf 52 = .ok (.imul, 1) := by decide +kernel
theorem dX12_chanceOf_53 : decode cX12_chanceOf 53 = .ok (.iload_n 2, 1) := by decide +kernel
theorem dX12_chanceOf_54 : decode cX12_chanceOf 54 = .ok (.aload_n 0, 1) := by decide +kernel
theorem dX12_chanceOf_55 : decode cX12_chanceOf 55 = .ok (.getfield 7, 3) := by decide +kernel
theorem dX12_chanceOf_58 : decode cX12_chanceOf 58 = .ok (.iconst 3, 1) := by decide +kernel
theorem dX12_chanceOf_59 : decode cX12_chanceOf 59 = .ok (.iload 5, 2) := by decide +kernel
theorem dX12_chanceOf_61 : decode cX12_chanceOf 61 = .ok (.imul, 1) := by decide +kernel
theorem dX12_chanceOf_62 : decode cX12_chanceOf 62 = .ok (.iconst 1, 1) := by decide +kernel
theorem dX12_chanceOf_63 : decode cX12_chanceOf 63 = .ok (.iadd, 1) := by decide +kernel
theorem dX12_chanceOf_64 : decode cX12_chanceOf 64 = .ok (.iaload, 1) := by decide +kernel
theorem dX12_chanceOf_65 : decode cX12_chanceOf 65 = .ok (.imul, 1) := by decide +kernel
theorem dX12_chanceOf_66 : decode cX12_chanceOf 66 = .ok (.iadd, 1) := by decide +kernel
theorem dX12_chanceOf_67 : decode cX12_chanceOf 67 = .ok (.iload_n 3, 1) := by decide +kernel
theorem dX12_chanceOf_68 : decode cX12_chanceOf 68 = .ok (.aload_n 0, 1) := by decide +kernel
theorem dX12_chanceOf_69 : decode cX12_chanceOf 69 = .ok (.getfield 7, 3) := by decide +kernel
theorem dX12_chanceOf_72 : decode cX12_chanceOf 72 = .ok (.iconst 3, 1) := by decide +kernel
theorem dX12_chanceOf_73 : decode cX12_chanceOf 73 = .ok (.iload 5, 2) := by decide +kernel
theorem dX12_chanceOf_75 : decode cX12_chanceOf 75 = .ok (.imul, 1) := by decide +kernel
theorem dX12_chanceOf_76 : decode cX12_chanceOf 76 = .ok (.iconst 2, 1) := by decide +kernel
theorem dX12_chanceOf_77 : decode cX12_chanceOf 77 = .ok (.iadd, 1) := by decide +kernel
theorem dX12_chanceOf_78 : decode cX12_chanceOf 78 = .ok (.iaload, 1) := by decide +kernel
theorem dX12_chanceOf_79 : decode cX12_chanceOf 79 = .ok (.imul, 1) := by decide +kernel
theorem dX12_chanceOf_80 : decode cX12_chanceOf 80 = .ok (.iadd, 1) := by decide +kernel
theorem dX12_chanceOf_81 : decode cX12_chanceOf 81 = .ok (.ireturn, 1) := by decide +kernel
set_option maxRecDepth 20000 in
theorem rX12_chanceOf (D : GD) (d : Nat) (a1 : Int32) (a2 : Int32) (a3 : Int32) (a4 : Int32) (a5 : Int32) (M : Mm) (post : Option Value → Mm → Prop) (hL : Lay 62 98 M) 
    (h : ((¬ a4 = 0 → vp_in ((3 : Int32) * a5) 9 ∧ vp_in (((3 : Int32) * a5) + (1 : Int32)) 9 ∧ vp_in (((3 : Int32) * a5) + (2 : Int32)) 9 ∧ post (some (.int (((a1 * (gI M 63 (((3 : Int32) * a5).toNatClampNeg))) + (a2 * (gI M 63 ((((3 : Int32) * a5) + (1 : Int32)).toNatClampNeg)))) + (a3 * (gI M 63 ((((3 : Int32) * a5) + (2 : Int32)).toNatClampNeg)))))) M) ∧ (a4 = 0 → vp_in a5 9 ∧ vp_in ((3 : Int32) + a5) 9 ∧ vp_in ((6 : Int32) + a5) 9 ∧ post (some (.int (((a1 * (gI M 63 a5.toNatClampNeg)) + (a2 * (gI M 63 (((3 : Int32) + a5).toNatClampNeg)))) + (a3 * (gI M 63 (((6 : Int32) + a5).toNatClampNeg)))))) M))) :
    AM D d 0 0 mX12_chanceOf [.ref 62, .int a1, .int a2, .int a3, .int a4, .int a5] M post := by
  refine AM.of (by decide) (Nat.le_of_ble_eq_true rfl) ?_
  show AW D d 0 0 mX12_chanceOf 0 0 0 [(0, .ref 62), (1, .int a1), (2, .int a2), (3, .int a3), (4, .int a4), (5, .int a5)] [] M post
  refine ab_iload 4 dX12_chanceOf_0 rfl ?_
  refine ab_if_ne (tgt := 42) dX12_chanceOf_2 (by decide) (fun c1 => ?_) (fun c1 => ?_)
  · have h := h.1 c1
    refine ab_iload_n 1 dX12_chanceOf_42 rfl ?_
    refine ab_aload_n 0 dX12_chanceOf_43 rfl ?_
    refine ab_getP (r := 63) dX12_chanceOf_44 fs_12_7_12 rfl (hL.sh 62 rfl (by decide) (by decide)).1 (hL.sh 62 rfl (by decide) (by decide)).2 (hL.pt 61 rfl (by decide) (by decide)) ?_
    refine ab_iconst (v := 3) dX12_chanceOf_47 (by decide) ?_
    refine ab_iload 5 dX12_chanceOf_48 rfl ?_
    refine ab_imul dX12_chanceOf_50 ?_
    have hb2 := h.1
    have h := h.2
    refine ab_ialdj (j := ((3 : Int32) * a5).toNatClampNeg) dX12_chanceOf_51 (hL.sh 63 rfl (by decide) (by decide)) hb2 rfl ?_
    refine ab_imul dX12_chanceOf_52 ?_
    refine ab_iload_n 2 dX12_chanceOf_53 rfl ?_
    refine ab_aload_n 0 dX12_chanceOf_54 rfl ?_
    refine ab_getP (r := 63) dX12_chanceOf_55 fs_12_7_12 rfl (hL.sh 62 rfl (by decide) (by decide)).1 (hL.sh 62 rfl (by decide) (by decide)).2 (hL.pt 61 rfl (by decide) (by decide)) ?_
    refine ab_iconst (v := 3) dX12_chanceOf_58 (by decide) ?_
    refine ab_iload 5 dX12_chanceOf_59 rfl ?_
    refine ab_imul dX12_chanceOf_61 ?_
    refine ab_iconst (v := 1) dX12_chanceOf_62 (by decide) ?_
    refine ab_iadd dX12_chanceOf_63 ?_
    have hb3 := h.1
    have h := h.2
    refine ab_ialdj (j := (((3 : Int32) * a5) + (1 : Int32)).toNatClampNeg) dX12_chanceOf_64 (hL.sh 63 rfl (by decide) (by decide)) hb3 rfl ?_
    refine ab_imul dX12_chanceOf_65 ?_
    refine ab_iadd dX12_chanceOf_66 ?_
    refine ab_iload_n 3 dX12_chanceOf_67 rfl ?_
    refine ab_aload_n 0 dX12_chanceOf_68 rfl ?_
    refine ab_getP (r := 63) dX12_chanceOf_69 fs_12_7_12 rfl (hL.sh 62 rfl (by decide) (by decide)).1 (hL.sh 62 rfl (by decide) (by decide)).2 (hL.pt 61 rfl (by decide) (by decide)) ?_
    refine ab_iconst (v := 3) dX12_chanceOf_72 (by decide) ?_
    refine ab_iload 5 dX12_chanceOf_73 rfl ?_
    refine ab_imul dX12_chanceOf_75 ?_
    refine ab_iconst (v := 2) dX12_chanceOf_76 (by decide) ?_
    refine ab_iadd dX12_chanceOf_77 ?_
    have hb4 := h.1
    have h := h.2
    refine ab_ialdj (j := (((3 : Int32) * a5) + (2 : Int32)).toNatClampNeg) dX12_chanceOf_78 (hL.sh 63 rfl (by decide) (by decide)) hb4 rfl ?_
    refine ab_imul dX12_chanceOf_79 ?_
    refine ab_iadd dX12_chanceOf_80 ?_
    exact ab_iret dX12_chanceOf_81 rfl h
  · have h := h.2 c1
    refine ab_iload_n 1 dX12_chanceOf_5 rfl ?_
    refine ab_aload_n 0 dX12_chanceOf_6 rfl ?_
    refine ab_getP (r := 63) dX12_chanceOf_7 fs_12_7_12 rfl (hL.sh 62 rfl (by decide) (by decide)).1 (hL.sh 62 rfl (by decide) (by decide)).2 (hL.pt 61 rfl (by decide) (by decide)) ?_
    refine ab_iload 5 dX12_chanceOf_10 rfl ?_
    have hb5 := h.1
    have h := h.2
    refine ab_ialdj (j := a5.toNatClampNeg) dX12_chanceOf_12 (hL.sh 63 rfl (by decide) (by decide)) hb5 rfl ?_
    refine ab_imul dX12_chanceOf_13 ?_
    refine ab_iload_n 2 dX12_chanceOf_14 rfl ?_
    refine ab_aload_n 0 dX12_chanceOf_15 rfl ?_
    refine ab_getP (r := 63) dX12_chanceOf_16 fs_12_7_12 rfl (hL.sh 62 rfl (by decide) (by decide)).1 (hL.sh 62 rfl (by decide) (by decide)).2 (hL.pt 61 rfl (by decide) (by decide)) ?_
    refine ab_iconst (v := 3) dX12_chanceOf_19 (by decide) ?_
    refine ab_iload 5 dX12_chanceOf_20 rfl ?_
    refine ab_iadd dX12_chanceOf_22 ?_
    have hb6 := h.1
    have h := h.2
    refine ab_ialdj (j := ((3 : Int32) + a5).toNatClampNeg) dX12_chanceOf_23 (hL.sh 63 rfl (by decide) (by decide)) hb6 rfl ?_
    refine ab_imul dX12_chanceOf_24 ?_
    refine ab_iadd dX12_chanceOf_25 ?_
    refine ab_iload_n 3 dX12_chanceOf_26 rfl ?_
    refine ab_aload_n 0 dX12_chanceOf_27 rfl ?_
    refine ab_getP (r := 63) dX12_chanceOf_28 fs_12_7_12 rfl (hL.sh 62 rfl (by decide) (by decide)).1 (hL.sh 62 rfl (by decide) (by decide)).2 (hL.pt 61 rfl (by decide) (by decide)) ?_
    refine ab_bipush (v := 6) dX12_chanceOf_31 (by decide) ?_
    refine ab_iload 5 dX12_chanceOf_33 rfl ?_
    refine ab_iadd dX12_chanceOf_35 ?_
    have hb7 := h.1
    have h := h.2
    refine ab_ialdj (j := ((6 : Int32) + a5).toNatClampNeg) dX12_chanceOf_36 (hL.sh 63 rfl (by decide) (by decide)) hb7 rfl ?_
    refine ab_imul dX12_chanceOf_37 ?_
    refine ab_iadd dX12_chanceOf_38 ?_
    refine ab_goto (tgt := 81) dX12_chanceOf_39 (by decide) ?_
    exact ab_iret dX12_chanceOf_81 rfl h
theorem dX12_findRest_0 : decode cX12_findRest 0 = .ok (.aload_n 0, 1) := by decide +kernel
theorem dX12_findRest_1 : decode cX12_findRest 1 = .ok (.iconst (-1), 1) := by decide +kernel
theorem dX12_findRest_2 : decode cX12_findRest 2 = .ok (.putfield 81, 3) := by decide +kernel
theorem dX12_findRest_5 : decode cX12_findRest 5 = .ok (.aload_n 0, 1) := by decide +kernel
theorem dX12_findRest_6 : decode cX12_findRest 6 = .ok (.sipush 2001, 3) := by decide +kernel
theorem dX12_findRest_9 : decode cX12_findRest 9 = .ok (.putfield 84, 3) := by decide +kernel
theorem dX12_findRest_12 : decode cX12_findRest 12 = .ok (.iconst 0, 1) := by decide +kernel
theorem dX12_findRest_13 : decode cX12_findRest 13 = .ok (.istore_n 1, 1) := by decide +kernel
theorem dX12_findRest_14 : decode cX12_findRest 14 = .ok (.iload_n 1, 1) := by decide +kernel
theorem dX12_findRest_15 : decode cX12_findRest 15 = .ok (.bipush 21, 2) := by decide +kernel
theorem dX12_findRest_17 : decode cX12_findRest 17 = .ok (.if_icmp .ge 157, 3) := by decide +kernel
theorem dX12_findRest_20 : decode cX12_findRest 20 = .ok (.iconst 0, 1) := by decide +kernel
theorem dX12_findRest_21 : decode cX12_findRest 21 = .ok (.istore_n 2, 1) := by decide +kernel
theorem dX12_findRest_22 : decode cX12_findRest 22 = .ok (.iload_n 2, 1) := by decide +kernel
theorem dX12_findRest_23 : decode cX12_findRest 23 = .ok (.bipush 21, 2) := by decide +kernel
theorem dX12_findRest_25 : decode cX12_findRest 25 = .ok (.iload_n 1, 1) := by decide +kernel
theorem dX12_findRest_26 : decode cX12_findRest 26 = .ok (.isub, 1) := by decide +kernel
theorem dX12_findRest_27 : decode cX12_findRest 27 = .ok (.if_icmp .ge 141, 3) := by decide +kernel
theorem dX12_findRest_30 : decode cX12_findRest 30 = .ok (.bipush 20, 2) := by decide +kernel
theorem dX12_findRest_32 : decode cX12_findRest 32 = .ok (.iload_n 1, 1) := by decide +kernel
theorem dX12_findRest_33 : decode cX12_findRest 33 = .ok (.isub, 1) := by decide +kernel
theorem dX12_findRest_34 : decode cX12_findRest 34 = .ok (.iload_n 2, 1) := by decide +kernel
theorem dX12_findRest_35 : decode cX12_findRest 35 = .ok (.isub, 1) := by decide +kernel
theorem dX12_findRest_36 : decode cX12_findRest 36 = .ok (.istore_n 3, 1) := by decide +kernel
theorem dX12_findRest_37 : decode cX12_findRest 37 = .ok (.sipush 2001, 3) := by decide +kernel
theorem dX12_findRest_40 : decode cX12_findRest 40 = .ok (.istore 4, 2) := by decide +kernel
theorem dX12_findRest_42 : decode cX12_findRest 42 = .ok (.iconst (-1), 1) := by decide +kernel
theorem dX12_findRest_43 : decode cX12_findRest 43 = .ok (.istore 5, 2) := by decide +kernel
theorem dX12_findRest_45 : decode cX12_findRest 45 = .ok (.iconst 0, 1) := by decide +kernel
theorem dX12_findRest_46 : decode cX12_findRest 46 = .ok (.istore 6, 2) := by decide +kernel
theorem dX12_findRest_48 : decode cX12_findRest 48 = .ok (.iload 6, 2) := by decide +kernel
theorem dX12_findRest_50 : decode cX12_findRest 50 = .ok (.iconst 3, 1) := by decide +kernel
theorem dX12_findRest_51 : decode cX12_findRest 51 = .ok (.if_icmp .ge 65, 3) := by decide +kernel
theorem dX12_findRest_54 : decode cX12_findRest 54 = .ok (.aload_n 0, 1) := by decide +kernel
theorem dX12_findRest_55 : decode cX12_findRest 55 = .ok (.iload_n 1, 1) := by decide +kernel
theorem dX12_findRest_56 : decode cX12_findRest 56 = .ok (.iload_n 2, 1) := by decide +kernel
theorem dX12_findRest_57 : decode cX12_findRest 57 = .ok (.iload_n 3, 1) := by decide +kernel
theorem dX12_findRest_58 : decode cX12_findRest 58 = .ok (.iconst 0, 1) := by decide +kernel
theorem dX12_findRest_59 : decode cX12_findRest 59 = .ok (.iload 6, 2) := by decide +kernel
theorem dX12_findRest_61 : decode cX12_findRest 61 = .ok (.invokevirtual 236, 3) := by decide +kernel
theorem dX12_findRest_64 : decode cX12_findRest 64 = .ok (.istore 7, 2) := by decide +kernel
theorem dX12_findRest_66 : decode cX12_findRest 66 = .ok (.aload_n 0, 1) := by decide +kernel
theorem dX12_findRest_67 : decode cX12_findRest 67 = .ok (.iload_n 1, 1) := by decide +kernel
theorem dX12_findRest_68 : decode cX12_findRest 68 = .ok (.iload_n 2, 1) := by decide +kernel
theorem dX12_findRest_69 : decode cX12_findRest 69 = .ok (.iload_n 3, 1) := by decide +kernel
theorem dX12_findRest_70 : decode cX12_findRest 70 = .ok (.iconst 1, 1) := by decide +kernel
theorem dX12_findRest_71 : decode cX12_findRest 71 = .ok (.iload 6, 2) := by decide +kernel
theorem dX12_findRest_73 : decode cX12_findRest 73 = .ok (.invokevirtual 236, 3) := by decide +kernel
theorem dX12_findRest_76 : decode cX12_findRest 76 = .ok (.istore 8, 2) := by decide +kernel
theorem dX12_findRest_78 : decode cX12_findRest 78 = .ok (.iload 7, 2) := by decide +kernel
theorem dX12_findRest_80 : decode cX12_findRest 80 = .ok (.iload 4, 2) := by decide +kernel
theorem dX12_findRest_82 : decode cX12_findRest 82 = .ok (.if_icmp .ge 8, 3) := by decide +kernel
theorem dX12_findRest_85 : decode cX12_findRest 85 = .ok (.iload 7, 2) := by decide +kernel
theorem dX12_findRest_87 : decode cX12_findRest 87 = .ok (.goto 5, 3) := by decide +kernel
theorem dX12_findRest_90 : decode cX12_findRest 90 = .ok (.iload 4, 2) := by decide +kernel
theorem dX12_findRest_92 : decode cX12_findRest 92 = .ok (.istore 4, 2) := by decide +kernel
theorem dX12_findRest_94 : decode cX12_findRest 94 = .ok (.iload 8, 2) := by decide +kernel
theorem dX12_findRest_96 : decode cX12_findRest 96 = .ok (.iload 5, 2) := by decide +kernel
theorem dX12_findRest_98 : decode cX12_findRest 98 = .ok (.if_icmp .le 8, 3) := by decide +kernel
theorem dX12_findRest_101 : decode cX12_findRest 101 = .ok (.iload 8, 2) := by decide +kernel
theorem dX12_findRest_103 : decode cX12_findRest 103 = .ok (.goto 5, 3) := by decide +kernel
theorem dX12_findRest_106 : decode cX12_findRest 106 = .ok (.iload 5, 2) := by decide +kernel
theorem dX12_findRest_108 : decode cX12_findRest 108 = .ok (.istore 5, 2) := by decide +kernel
theorem dX12_findRest_110 : decode cX12_findRest 110 = .ok (.iinc 6 1, 3) := by decide +kernel
theorem dX12_findRest_113 : decode cX12_findRest 113 = .ok (.goto (-65), 3) := by decide +kernel
theorem dX12_findRest_116 : decode cX12_findRest 116 = .ok (.iload 4, 2) := by decide +kernel
theorem dX12_findRest_118 : decode cX12_findRest 118 = .ok (.aload_n 0, 1) := by decide +kernel
theorem dX12_findRest_119 : decode cX12_findRest 119 = .ok (.getfield 81, 3) := by decide +kernel
theorem dX12_findRest_122 : decode cX12_findRest 122 = .ok (.if_icmp .le 17, 3) := by decide +kernel
theorem dX12_findRest_125 : decode cX12_findRest 125 = .ok (.aload_n 0, 1) := by decide +kernel
theorem dX12_findRest_126 : decode cX12_findRest 126 = .ok (.iload 4, 2) := by decide +kernel
theorem dX12_findRest_128 : decode cX12_findRest 128 = .ok (.putfield 81, 3) := by decide +kernel
theorem dX12_findRest_131 : decode cX12_findRest 131 = .ok (.aload_n 0, 1) := by decide +kernel
theorem dX12_findRest_132 : decode cX12_findRest 132 = .ok (.iconst 0, 1) := by decide +kernel
theorem dX12_findRest_133 : decode cX12_findRest 133 = .ok (.iload_n 1, 1) := by decide +kernel
theorem dX12_findRest_134 : decode cX12_findRest 134 = .ok (.iload_n 2, 1) := by decide +kernel
theorem dX12_findRest_135 : decode cX12_findRest 135 = .ok (.iload_n 3, 1) := by decide +kernel
theorem dX12_findRest_136 : decode cX12_findRest 136 = .ok (.invokevirtual 240, 3) := by decide +kernel
theorem dX12_findRest_139 : decode cX12_findRest 139 = .ok (.iload 5, 2) := by decide +kernel
theorem dX12_findRest_141 : decode cX12_findRest 141 = .ok (.aload_n 0, 1) := by decide +kernel
theorem dX12_findRest_142 : decode cX12_findRest 142 = .ok (.getfield 84, 3) := by decide +kernel
theorem dX12_findRest_145 : decode cX12_findRest 145 = .ok (.if_icmp .ge 17, 3) := by decide +kernel
theorem dX12_findRest_148 : decode cX12_findRest 148 = .ok (.aload_n 0, 1) := by decide +kernel
theorem dX12_findRest_149 : decode cX12_findRest 149 = .ok (.iload 5, 2) := by decide +kernel
theorem dX12_findRest_151 : decode cX12_findRest 151 = .ok (.putfield 84, 3) := by decide +kernel
theorem dX12_findRest_154 : decode cX12_findRest 154 = .ok (.aload_n 0, 1) := by decide +kernel
theorem dX12_findRest_155 : decode cX12_findRest 155 = .ok (.iconst 3, 1) := by decide +kernel
theorem dX12_findRest_156 : decode cX12_findRest 156 = .ok (.iload_n 1, 1) := by decide +kernel
theorem dX12_findRest_157 : decode cX12_findRest 157 = .ok (.iload_n 2, 1) := by decide +kernel
theorem dX12_findRest_158 : decode cX12_findRest 158 = .ok (.iload_n 3, 1) := by decide +kernel
theorem dX12_findRest_159 : decode cX12_findRest 159 = .ok (.invokevirtual 240, 3) := by decide +kernel
theorem dX12_findRest_162 : decode cX12_findRest 162 = .ok (.iinc 2 1, 3) := by decide +kernel
theorem dX12_findRest_165 : decode cX12_findRest 165 = .ok (.goto (-143), 3) := by decide +kernel
theorem dX12_findRest_168 : decode cX12_findRest 168 = .ok (.iinc 1 1, 3) := by decide +kernel
theorem dX12_findRest_171 : decode cX12_findRest 171 = .ok (.goto (-157), 3) := by decide +kernel
theorem dX12_findRest_174 : decode cX12_findRest 174 = .ok (.return_, 1) := by decide +kernel
def LX12_findRest_14 (D : GD) (d : Nat) (v1 : Int32) (M : Mm) (post : Option Value → Mm → Prop) : Prop := AW D (d + 1) 0 0 mX12_findRest 0 0 14 [(0, .ref 62), (1, .int v1)] [] M post
def LX12_findRest_22 (D : GD) (d : Nat) (v1 : Int32) (v2 : Int32) (M : Mm) (post : Option Value → Mm → Prop) : Prop := AW D (d + 1) 0 0 mX12_findRest 0 0 22 [(0, .ref 62), (1, .int v1), (2, .int v2)] [] M post
def LX12_findRest_48 (D : GD) (d : Nat) (v1 : Int32) (v2 : Int32) (v3 : Int32) (v4 : Int32) (v5 : Int32) (v6 : Int32) (M : Mm) (post : Option Value → Mm → Prop) : Prop := AW D (d + 1) 0 0 mX12_findRest 0 0 48 [(0, .ref 62), (1, .int v1), (2, .int v2), (3, .int v3), (4, .int v4), (5, .int v5), (6, .int v6)] [] M post
set_option maxRecDepth 20000 in
theorem rX12_findRest (D : GD) (d : Nat)  (M : Mm) (post : Option Value → Mm → Prop) (hL : Lay 62 98 M) 
    (h : ∀ M1 : Mm, M1 = sI M 62 23 (-1 : Int32) → ∀ M5 : Mm, M5 = sI M1 62 24 (2001 : Int32) → LX12_findRest_14 D d (0 : Int32) M5 post) :
    AM D (d + 1) 0 0 mX12_findRest [.ref 62] M post := by
  refine AM.of (by decide) (Nat.le_of_ble_eq_true rfl) ?_
  show AW D (d + 1) 0 0 mX12_findRest 0 0 0 [(0, .ref 62)] [] M post
  refine ab_aload_n 0 dX12_findRest_0 rfl ?_
  refine ab_iconst (v := (-1)) dX12_findRest_1 (by decide) ?_
  refine ab_putI dX12_findRest_2 fs_12_81_12 rfl rfl (hL.sh 62 rfl (by decide) (by decide)).1 (hL.sh 62 rfl (by decide) (by decide)).2 ?_
  refine ab_nameM (fun M1 hM1 => ?_)
  have h := h M1 hM1
  have hs4 : Sm M M1 := hM1 ▸ (Sm.refl _).i
  have hm2 : Sm M M1 := (Sm.refl M).trans hs4
  have hl3 := hL.of hm2
  refine ab_aload_n 0 dX12_findRest_5 rfl ?_
  refine ab_sipush (v := 2001) dX12_findRest_6 (by decide) ?_
  refine ab_putI dX12_findRest_9 fs_12_84_12 rfl rfl (hl3.sh 62 rfl (by decide) (by decide)).1 (hl3.sh 62 rfl (by decide) (by decide)).2 ?_
  refine ab_nameM (fun M5 hM5 => ?_)
  have h := h M5 hM5
  have hs8 : Sm M1 M5 := hM5 ▸ (Sm.refl _).i
  have hm6 : Sm M M5 := hm2.trans hs8
  have hl7 := hL.of hm6
  refine ab_iconst (v := 0) dX12_findRest_12 (by decide) ?_
  refine ab_istore_n (lv1 := [(1, .int (0 : Int32)), (0, .ref 62)]) dX12_findRest_13 (by decide) rfl ?_
  exact ab_sub [1, 0] rfl h
set_option maxRecDepth 20000 in
theorem rX12_findRest_14 (D : GD) (d : Nat)  (v1 : Int32) (M : Mm) (post : Option Value → Mm → Prop) (hL : Lay 62 98 M) 
    (h : (((21 : Int32) ≤ v1 → post none M) ∧ (¬ (21 : Int32) ≤ v1 → LX12_findRest_22 D d v1 (0 : Int32) M post))) :
    LX12_findRest_14 D d v1 M post := by
  show AW D (d + 1) 0 0 mX12_findRest 0 0 14 [(0, .ref 62), (1, .int v1)] [] M post
  refine ab_iload_n 1 dX12_findRest_14 rfl ?_
  refine ab_bipush (v := 21) dX12_findRest_15 (by decide) ?_
  refine ab_icmp_ge (tgt := 174) dX12_findRest_17 (by decide) (fun c1 => ?_) (fun c1 => ?_)
  · have h := h.1 c1
    exact ab_vret dX12_findRest_174 rfl h
  · have h := h.2 c1
    refine ab_iconst (v := 0) dX12_findRest_20 (by decide) ?_
    refine ab_istore_n (lv1 := [(2, .int (0 : Int32)), (0, .ref 62), (1, .int v1)]) dX12_findRest_21 (by decide) rfl ?_
    exact ab_sub [1, 2, 0] rfl h
set_option maxRecDepth 20000 in
theorem rX12_findRest_22 (D : GD) (d : Nat)  (v1 : Int32) (v2 : Int32) (M : Mm) (post : Option Value → Mm → Prop) (hL : Lay 62 98 M) 
    (h : ((((21 : Int32) - v1) ≤ v2 → ∀ x2 : Int32, x2 = v1 + (1 : Int32) → LX12_findRest_14 D d x2 M post) ∧ (¬ ((21 : Int32) - v1) ≤ v2 → ∀ x3 : Int32, x3 = (((20 : Int32) - v1) - v2) → LX12_findRest_48 D d v1 v2 x3 (2001 : Int32) (-1 : Int32) (0 : Int32) M post))) :
    LX12_findRest_22 D d v1 v2 M post := by
  show AW D (d + 1) 0 0 mX12_findRest 0 0 22 [(0, .ref 62), (1, .int v1), (2, .int v2)] [] M post
  refine ab_iload_n 2 dX12_findRest_22 rfl ?_
  refine ab_bipush (v := 21) dX12_findRest_23 (by decide) ?_
  refine ab_iload_n 1 dX12_findRest_25 rfl ?_
  refine ab_isub dX12_findRest_26 ?_
  refine ab_icmp_ge (tgt := 168) dX12_findRest_27 (by decide) (fun c1 => ?_) (fun c1 => ?_)
  · have h := h.1 c1
    obtain ⟨x2, hx2⟩ : ∃ y : Int32, y = v1 + (1 : Int32) := ⟨_, rfl⟩
    have h := h x2 hx2
    refine ab_iinc (v := x2) 1 (lv1 := [(1, .int x2), (0, .ref 62), (2, .int v2)]) dX12_findRest_168 rfl (by rw [hx2]; rfl) (by decide) rfl ?_
    refine ab_goto (tgt := 14) dX12_findRest_171 (by decide) ?_
    exact ab_sub [1, 0] rfl h
  · have h := h.2 c1
    refine ab_bipush (v := 20) dX12_findRest_30 (by decide) ?_
    refine ab_iload_n 1 dX12_findRest_32 rfl ?_
    refine ab_isub dX12_findRest_33 ?_
    refine ab_iload_n 2 dX12_findRest_34 rfl ?_
    refine ab_isub dX12_findRest_35 ?_
    refine ab_topi (fun x3 hx3 => ?_)
    have h := h x3 hx3
    refine ab_istore_n (lv1 := [(3, .int x3), (0, .ref 62), (1, .int v1), (2, .int v2)]) dX12_findRest_36 (by decide) rfl ?_
    refine ab_sipush (v := 2001) dX12_findRest_37 (by decide) ?_
    refine ab_istore (lv1 := [(4, .int (2001 : Int32)), (3, .int x3), (0, .ref 62), (1, .int v1), (2, .int v2)]) dX12_findRest_40 (by decide) rfl ?_
    refine ab_iconst (v := (-1)) dX12_findRest_42 (by decide) ?_
    refine ab_istore (lv1 := [(5, .int (-1 : Int32)), (4, .int (2001 : Int32)), (3, .int x3), (0, .ref 62), (1, .int v1), (2, .int v2)]) dX12_findRest_43 (by decide) rfl ?_
    refine ab_iconst (v := 0) dX12_findRest_45 (by decide) ?_
    refine ab_istore (lv1 := [(6, .int (0 : Int32)), (5, .int (-1 : Int32)), (4, .int (2001 : Int32)), (3, .int x3), (0, .ref 62), (1, .int v1), (2, .int v2)]) dX12_findRest_46 (by decide) rfl ?_
    exact ab_sub [4, 5, 6, 3, 2, 1, 0] rfl h
set_option maxRecDepth 20000 in
theorem rX12_findRest_48 (D : GD) (d : Nat)  (v1 : Int32) (v2 : Int32) (v3 : Int32) (v4 : Int32) (v5 : Int32) (v6 : Int32) (M : Mm) (post : Option Value → Mm → Prop) (hL : Lay 62 98 M) 
    (h : (((3 : Int32) ≤ v6 → ((v4 ≤ (gI M 62 23) → (((gI M 62 24) ≤ v5 → ∀ x4 : Int32, x4 = v2 + (1 : Int32) → LX12_findRest_22 D d v1 x4 M post) ∧ (¬ (gI M 62 24) ≤ v5 → ∀ M5 : Mm, M5 = sI M 62 24 v5 → AMv D d mX12_layRest [.ref 62, .int (3 : Int32), .int v1, .int v2, .int v3] M5 (fun M9 => ∀ x15 : Int32, x15 = v2 + (1 : Int32) → LX12_findRest_22 D d v1 x15 M9 post)))) ∧ (¬ v4 ≤ (gI M 62 23) → ∀ M16 : Mm, M16 = sI M 62 23 v4 → AMv D d mX12_layRest [.ref 62, .int (0 : Int32), .int v1, .int v2, .int v3] M16 (fun M20 => (((gI M20 62 24) ≤ v5 → ∀ x27 : Int32, x27 = v2 + (1 : Int32) → LX12_findRest_22 D d v1 x27 M20 post) ∧ (¬ (gI M20 62 24) ≤ v5 → ∀ M28 : Mm, M28 = sI M20 62 24 v5 → AMv D d mX12_layRest [.ref 62, .int (3 : Int32), .int v1, .int v2, .int v3] M28 (fun M32 => ∀ x38 : Int32, x38 = v2 + (1 : Int32) → LX12_findRest_22 D d v1 x38 M32 post))))))) ∧ (¬ (3 : Int32) ≤ v6 → AMi D d mX12_chanceOf [.ref 62, .int v1, .int v2, .int v3, .int (0 : Int32), .int v6] M (fun x40 M39 => AMi D d mX12_chanceOf [.ref 62, .int v1, .int v2, .int v3, .int (1 : Int32), .int v6] M39 (fun x46 M45 => ((v4 ≤ x40 → ((x46 ≤ v5 → ∀ x53 : Int32, x53 = v6 + (1 : Int32) → LX12_findRest_48 D d v1 v2 v3 v4 v5 x53 M45 post) ∧ (¬ x46 ≤ v5 → ∀ x54 : Int32, x54 = v6 + (1 : Int32) → LX12_findRest_48 D d v1 v2 v3 v4 x46 x54 M45 post))) ∧ (¬ v4 ≤ x40 → ((x46 ≤ v5 → ∀ x56 : Int32, x56 = v6 + (1 : Int32) → LX12_findRest_48 D d v1 v2 v3 x40 v5 x56 M45 post) ∧ (¬ x46 ≤ v5 → ∀ x57 : Int32, x57 = v6 + (1 : Int32) → LX12_findRest_48 D d v1 v2 v3 x40 x46 x57 M45 post))))))))) :
    LX12_findRest_48 D d v1 v2 v3 v4 v5 v6 M post := by
  show AW D (d + 1) 0 0 mX12_findRest 0 0 48 [(0, .ref 62), (1, .int v1), (2, .int v2), (3, .int v3), (4, .int v4), (5, .int v5), (6, .int v6)] [] M post
  refine ab_iload 6 dX12_findRest_48 rfl ?_
  refine ab_iconst (v := 3) dX12_findRest_50 (by decide) ?_
  refine ab_icmp_ge (tgt := 116) dX12_findRest_51 (by decide) (fun c1 => ?_) (fun c1 => ?_)
  · have h := h.1 c1
    refine ab_iload 4 dX12_findRest_116 rfl ?_
    refine ab_aload_n 0 dX12_findRest_118 rfl ?_
    refine ab_getI dX12_findRest_119 fs_12_81_12 rfl (hL.sh 62 rfl (by decide) (by decide)).1 (hL.sh 62 rfl (by decide) (by decide)).2 ?_
    refine ab_icmp_le (tgt := 139) dX12_findRest_122 (by decide) (fun c2 => ?_) (fun c2 => ?_)
    · have h := h.1 c2
      refine ab_iload 5 dX12_findRest_139 rfl ?_
      refine ab_aload_n 0 dX12_findRest_141 rfl ?_
      refine ab_getI dX12_findRest_142 fs_12_84_12 rfl (hL.sh 62 rfl (by decide) (by decide)).1 (hL.sh 62 rfl (by decide) (by decide)).2 ?_
      refine ab_icmp_ge (tgt := 162) dX12_findRest_145 (by decide) (fun c3 => ?_) (fun c3 => ?_)
      · have h := h.1 c3
        obtain ⟨x4, hx4⟩ : ∃ y : Int32, y = v2 + (1 : Int32) := ⟨_, rfl⟩
        have h := h x4 hx4
        refine ab_iinc (v := x4) 2 (lv1 := [(2, .int x4), (0, .ref 62), (1, .int v1), (3, .int v3), (4, .int v4), (5, .int v5), (6, .int v6)]) dX12_findRest_162 rfl (by rw [hx4]; rfl) (by decide) rfl ?_
        refine ab_goto (tgt := 22) dX12_findRest_165 (by decide) ?_
        exact ab_sub [1, 2, 0] rfl h
      · have h := h.2 c3
        refine ab_aload_n 0 dX12_findRest_148 rfl ?_
        refine ab_iload 5 dX12_findRest_149 rfl ?_
        refine ab_putI dX12_findRest_151 fs_12_84_12 rfl rfl (hL.sh 62 rfl (by decide) (by decide)).1 (hL.sh 62 rfl (by decide) (by decide)).2 ?_
        refine ab_nameM (fun M5 hM5 => ?_)
        have h := h M5 hM5
        have hs8 : Sm M M5 := hM5 ▸ (Sm.refl _).i
        have hm6 : Sm M M5 := (Sm.refl M).trans hs8
        have hl7 := hL.of hm6
        refine ab_aload_n 0 dX12_findRest_154 rfl ?_
        refine ab_iconst (v := 3) dX12_findRest_155 (by decide) ?_
        refine ab_iload_n 1 dX12_findRest_156 rfl ?_
        refine ab_iload_n 2 dX12_findRest_157 rfl ?_
        refine ab_iload_n 3 dX12_findRest_158 rfl ?_
        refine ab_callV (a := 62) (c0 := 12) (d' := d) (mc' := 0) (ms' := 0) (vs := [.int (3 : Int32), .int v1, .int v2, .int v3]) (st := []) dX12_findRest_159 ⟨cw_X12_layRest, w_1263⟩ w_1265 w_40 (by decide) (hl7.sh 62 rfl (by decide) (by decide)).1 (hl7.sh 62 rfl (by decide) (by decide)).2 rfl rfl (Nat.le_of_ble_eq_true rfl) (Nat.le_refl _) (Nat.zero_le _) (Nat.zero_le _) (AM.mono h (fun r M9 ⟨hr11, hc12, h⟩ => ?_))
        subst hr11
        refine ab_rv ?_
        have hm13 : Sm M M9 := hm6.trans hc12
        have hl14 := hL.of hm13
        obtain ⟨x15, hx15⟩ : ∃ y : Int32, y = v2 + (1 : Int32) := ⟨_, rfl⟩
        have h := h x15 hx15
        refine ab_iinc (v := x15) 2 (lv1 := [(2, .int x15), (0, .ref 62), (1, .int v1), (3, .int v3), (4, .int v4), (5, .int v5), (6, .int v6)]) dX12_findRest_162 rfl (by rw [hx15]; rfl) (by decide) rfl ?_
        refine ab_goto (tgt := 22) dX12_findRest_165 (by decide) ?_
        exact ab_sub [1, 2, 0] rfl h
    · have h := h.2 c2
      refine ab_aload_n 0 dX12_findRest_125 rfl ?_
      refine ab_iload 4 dX12_findRest_126 rfl ?_
      refine ab_putI dX12_findRest_128 fs_12_81_12 rfl rfl (hL.sh 62 rfl (by decide) (by decide)).1 (hL.sh 62 rfl (by decide) (by decide)).2 ?_
      refine ab_nameM (fun M16 hM16 => ?_)
      have h := h M16 hM16
      have hs19 : Sm M M16 := hM16 ▸ (Sm.refl _).i
      have hm17 : Sm M M16 := (Sm.refl M).trans hs19
      have hl18 := hL.of hm17
      refine ab_aload_n 0 dX12_findRest_131 rfl ?_
      refine ab_iconst (v := 0) dX12_findRest_132 (by decide) ?_
      refine ab_iload_n 1 dX12_findRest_133 rfl ?_
      refine ab_iload_n 2 dX12_findRest_134 rfl ?_
      refine ab_iload_n 3 dX12_findRest_135 rfl ?_
      refine ab_callV (a := 62) (c0 := 12) (d' := d) (mc' := 0) (ms' := 0) (vs := [.int (0 : Int32), .int v1, .int v2, .int v3]) (st := []) dX12_findRest_136 ⟨cw_X12_layRest, w_1263⟩ w_1265 w_40 (by decide) (hl18.sh 62 rfl (by decide) (by decide)).1 (hl18.sh 62 rfl (by decide) (by decide)).2 rfl rfl (Nat.le_of_ble_eq_true rfl) (Nat.le_refl _) (Nat.zero_le _) (Nat.zero_le _) (AM.mono h (fun r M20 ⟨hr22, hc23, h⟩ => ?_))
      subst hr22
      refine ab_rv ?_
      have hm24 : Sm M M20 := hm17.trans hc23
      have hl25 := hL.of hm24
      refine ab_iload 5 dX12_findRest_139 rfl ?_
      refine ab_aload_n 0 dX12_findRest_141 rfl ?_
      refine ab_getI dX12_findRest_142 fs_12_84_12 rfl (hl25.sh 62 rfl (by decide) (by decide)).1 (hl25.sh 62 rfl (by decide) (by decide)).2 ?_
      refine ab_icmp_ge (tgt := 162) dX12_findRest_145 (by decide) (fun c26 => ?_) (fun c26 => ?_)
      · have h := h.1 c26
        obtain ⟨x27, hx27⟩ : ∃ y : Int32, y = v2 + (1 : Int32) := ⟨_, rfl⟩
        have h := h x27 hx27
        refine ab_iinc (v := x27) 2 (lv1 := [(2, .int x27), (0, .ref 62), (1, .int v1), (3, .int v3), (4, .int v4), (5, .int v5), (6, .int v6)]) dX12_findRest_162 rfl (by rw [hx27]; rfl) (by decide) rfl ?_
        refine ab_goto (tgt := 22) dX12_findRest_165 (by decide) ?_
        exact ab_sub [1, 2, 0] rfl h
      · have h := h.2 c26
        refine ab_aload_n 0 dX12_findRest_148 rfl ?_
        refine ab_iload 5 dX12_findRest_149 rfl ?_
        refine ab_putI dX12_findRest_151 fs_12_84_12 rfl rfl (hl25.sh 62 rfl (by decide) (by decide)).1 (hl25.sh 62 rfl (by decide) (by decide)).2 ?_
        refine ab_nameM (fun M28 hM28 => ?_)
        have h := h M28 hM28
        have hs31 : Sm M20 M28 := hM28 ▸ (Sm.refl _).i
        have hm29 : Sm M M28 := hm24.trans hs31
        have hl30 := hL.of hm29
        refine ab_aload_n 0 dX12_findRest_154 rfl ?_
        refine ab_iconst (v := 3) dX12_findRest_155 (by decide) ?_
        refine ab_iload_n 1 dX12_findRest_156 rfl ?_
        refine ab_iload_n 2 dX12_findRest_157 rfl ?_
        refine ab_iload_n 3 dX12_findRest_158 rfl ?_
        refine ab_callV (a := 62) (c0 := 12) (d' := d) (mc' := 0) (ms' := 0) (vs := [.int (3 : Int32), .int v1, .int v2, .int v3]) (st := []) dX12_findRest_159 ⟨cw_X12_layRest, w_1263⟩ w_1265 w_40 (by decide) (hl30.sh 62 rfl (by decide) (by decide)).1 (hl30.sh 62 rfl (by decide) (by decide)).2 rfl rfl (Nat.le_of_ble_eq_true rfl) (Nat.le_refl _) (Nat.zero_le _) (Nat.zero_le _) (AM.mono h (fun r M32 ⟨hr34, hc35, h⟩ => ?_))
        subst hr34
        refine ab_rv ?_
        have hm36 : Sm M M32 := hm29.trans hc35
        have hl37 := hL.of hm36
        obtain ⟨x38, hx38⟩ : ∃ y : Int32, y = v2 + (1 : Int32) := ⟨_, rfl⟩
        have h := h x38 hx38
        refine ab_iinc (v := x38) 2 (lv1 := [(2, .int x38), (0, .ref 62), (1, .int v1), (3, .int v3), (4, .int v4), (5, .int v5), (6, .int v6)]) dX12_findRest_162 rfl (by rw [hx38]; rfl) (by decide) rfl ?_
        refine ab_goto (tgt := 22) dX12_findRest_165 (by decide) ?_
        exact ab_sub [1, 2, 0] rfl h
  · have h := h.2 c1
    refine ab_aload_n 0 dX12_findRest_54 rfl ?_
    refine ab_iload_n 1 dX12_findRest_55 rfl ?_
    refine ab_iload_n 2 dX12_findRest_56 rfl ?_
    refine ab_iload_n 3 dX12_findRest_57 rfl ?_
    refine ab_iconst (v := 0) dX12_findRest_58 (by decide) ?_
    refine ab_iload 6 dX12_findRest_59 rfl ?_
    refine ab_callV (a := 62) (c0 := 12) (d' := d) (mc' := 0) (ms' := 0) (vs := [.int v1, .int v2, .int v3, .int (0 : Int32), .int v6]) (st := []) dX12_findRest_61 ⟨cw_X12_chanceOf, w_1259⟩ w_1261 w_39 (by decide) (hL.sh 62 rfl (by decide) (by decide)).1 (hL.sh 62 rfl (by decide) (by decide)).2 rfl rfl (Nat.le_of_ble_eq_true rfl) (Nat.le_refl _) (Nat.zero_le _) (Nat.zero_le _) (AM.mono h (fun r M39 ⟨x40, hr41, hc42, h⟩ => ?_))
    subst hr41
    refine ab_rs ?_
    have hm43 : Sm M M39 := (Sm.refl M).trans hc42
    have hl44 := hL.of hm43
    refine ab_istore (lv1 := [(7, .int x40), (0, .ref 62), (1, .int v1), (2, .int v2), (3, .int v3), (4, .int v4), (5, .int v5), (6, .int v6)]) dX12_findRest_64 (by decide) rfl ?_
    refine ab_aload_n 1 dX12_findRest_66 rfl ?_
    refine ab_iload_n 2 dX12_findRest_67 rfl ?_
    refine ab_iload_n 3 dX12_findRest_68 rfl ?_
    refine ab_iload_n 4 dX12_findRest_69 rfl ?_
    refine ab_iconst (v := 1) dX12_findRest_70 (by decide) ?_
    refine ab_iload 7 dX12_findRest_71 rfl ?_
    refine ab_callV (a := 62) (c0 := 12) (d' := d) (mc' := 0) (ms' := 0) (vs := [.int v1, .int v2, .int v3, .int (1 : Int32), .int v6]) (st := []) dX12_findRest_73 ⟨cw_X12_chanceOf, w_1259⟩ w_1261 w_39 (by decide) (hl44.sh 62 rfl (by decide) (by decide)).1 (hl44.sh 62 rfl (by decide) (by decide)).2 rfl rfl (Nat.le_of_ble_eq_true rfl) (Nat.le_refl _) (Nat.zero_le _) (Nat.zero_le _) (AM.mono h (fun r M45 ⟨x46, hr47, hc48, h⟩ => ?_))
    subst hr47
    refine ab_rs ?_
    have hm49 : Sm M M45 := hm43.trans hc48
    have hl50 := hL.of hm49
    refine ab_istore (lv1 := [(8, .int x46), (7, .int x40), (0, .ref 62), (1, .int v1), (2, .int v2), (3, .int v3), (4, .int v4), (5, .int v5), (6, .int v6)]) dX12_findRest_76 (by decide) rfl ?_
    refine ab_iload 1 dX12_findRest_78 rfl ?_
    refine ab_iload 6 dX12_findRest_80 rfl ?_
    refine ab_icmp_ge (tgt := 90) dX12_findRest_82 (by decide) (fun c51 => ?_) (fun c51 => ?_)
    · have h := h.1 c51
      refine ab_iload 6 dX12_findRest_90 rfl ?_
      refine ab_istore (lv1 := [(4, .int v4), (8, .int x46), (7, .int x40), (0, .ref 62), (1, .int v1), (2, .int v2), (3, .int v3), (5, .int v5), (6, .int v6)]) dX12_findRest_92 (by decide) rfl ?_
      refine ab_iload 1 dX12_findRest_94 rfl ?_
      refine ab_iload 7 dX12_findRest_96 rfl ?_
      refine ab_icmp_le (tgt := 106) dX12_findRest_98 (by decide) (fun c52 => ?_) (fun c52 => ?_)
      · have h := h.1 c52
        refine ab_iload 7 dX12_findRest_106 rfl ?_
        refine ab_istore (lv1 := [(5, .int v5), (4, .int v4), (8, .int x46), (7, .int x40), (0, .ref 62), (1, .int v1), (2, .int v2), (3, .int v3), (6, .int v6)]) dX12_findRest_108 (by decide) rfl ?_
        obtain ⟨x53, hx53⟩ : ∃ y : Int32, y = v6 + (1 : Int32) := ⟨_, rfl⟩
        have h := h x53 hx53
        refine ab_iinc (v := x53) 8 (lv1 := [(6, .int x53), (5, .int v5), (4, .int v4), (8, .int x46), (7, .int x40), (0, .ref 62), (1, .int v1), (2, .int v2), (3, .int v3)]) dX12_findRest_110 rfl (by rw [hx53]; rfl) (by decide) rfl ?_
        refine ab_goto (tgt := 48) dX12_findRest_113 (by decide) ?_
        exact ab_sub [5, 6, 7, 8, 2, 1, 0] rfl h
      · have h := h.2 c52
        refine ab_iload 1 dX12_findRest_101 rfl ?_
        refine ab_goto (tgt := 108) dX12_findRest_103 (by decide) ?_
        refine ab_istore (lv1 := [(5, .int x46), (4, .int v4), (8, .int x46), (7, .int x40), (0, .ref 62), (1, .int v1), (2, .int v2), (3, .int v3), (6, .int v6)]) dX12_findRest_108 (by decide) rfl ?_
        obtain ⟨x54, hx54⟩ : ∃ y : Int32, y = v6 + (1 : Int32) := ⟨_, rfl⟩
        have h := h x54 hx54
        refine ab_iinc (v := x54) 8 (lv1 := [(6, .int x54), (5, .int x46), (4, .int v4), (8, .int x46), (7, .int x40), (0, .ref 62), (1, .int v1), (2, .int v2), (3, .int v3)]) dX12_findRest_110 rfl (by rw [hx54]; rfl) (by decide) rfl ?_
        refine ab_goto (tgt := 48) dX12_findRest_113 (by decide) ?_
        exact ab_sub [5, 6, 7, 8, 2, 1, 0] rfl h
    · have h := h.2 c51
      refine ab_iload 1 dX12_findRest_85 rfl ?_
      refine ab_goto (tgt := 92) dX12_findRest_87 (by decide) ?_
      refine ab_istore (lv1 := [(4, .int x40), (8, .int x46), (7, .int x40), (0, .ref 62), (1, .int v1), (2, .int v2), (3, .int v3), (5, .int v5), (6, .int v6)]) dX12_findRest_92 (by decide) rfl ?_
      refine ab_iload 1 dX12_findRest_94 rfl ?_
      refine ab_iload 7 dX12_findRest_96 rfl ?_
      refine ab_icmp_le (tgt := 106) dX12_findRest_98 (by decide) (fun c55 => ?_) (fun c55 => ?_)
      · have h := h.1 c55
        refine ab_iload 7 dX12_findRest_106 rfl ?_
        refine ab_istore (lv1 := [(5, .int v5), (4, .int x40), (8, .int x46), (7, .int x40), (0, .ref 62), (1, .int v1), (2, .int v2), (3, .int v3), (6, .int v6)]) dX12_findRest_108 (by decide) rfl ?_
        obtain ⟨x56, hx56⟩ : ∃ y : Int32, y = v6 + (1 : Int32) := ⟨_, rfl⟩
        have h := h x56 hx56
        refine ab_iinc (v := x56) 8 (lv1 := [(6, .int x56), (5, .int v5), (4, .int x40), (8, .int x46), (7, .int x40), (0, .ref 62), (1, .int v1), (2, .int v2), (3, .int v3)]) dX12_findRest_110 rfl (by rw [hx56]; rfl) (by decide) rfl ?_
        refine ab_goto (tgt := 48) dX12_findRest_113 (by decide) ?_
        exact ab_sub [5, 6, 7, 8, 2, 1, 0] rfl h
      · have h := h.2 c55
        refine ab_iload 1 dX12_findRest_101 rfl ?_
        refine ab_goto (tgt := 108) dX12_findRest_103 (by decide) ?_
        refine ab_istore (lv1 := [(5, .int x46), (4, .int x40), (8, .int x46), (7, .int x40), (0, .ref 62), (1, .int v1), (2, .int v2), (3, .int v3), (6, .int v6)]) dX12_findRest_108 (by decide) rfl ?_
        obtain ⟨x57, hx57⟩ : ∃ y : Int32, y = v6 + (1 : Int32) := ⟨_, rfl⟩
        have h := h x57 hx57
        refine ab_iinc (v := x57) 8 (lv1 := [(6, .int x57), (5, .int x46), (4, .int x40), (8, .int x46), (7, .int x40), (0, .ref 62), (1, .int v1), (2, .int v2), (3, .int v3)]) dX12_findRest_110 rfl (by rw [hx57]; rfl) (by decide) rfl ?_
        refine ab_goto (tgt := 48) dX12_findRest_113 (by decide) ?_
        exact ab_sub [5, 6, 7, 8, 2, 1, 0] rfl h
theorem dX12_layRest_0 : decode cX12_layRest 0 = .ok (.aload_n 0, 1) := by decide +kernel
theorem dX12_layRest_1 : decode cX12_layRest 1 = .ok (.getfield 78, 3) := by decide +kernel
theorem dX12_layRest_4 : decode cX12_layRest 4 = .ok (.iload_n 1, 1) := by decide +kernel
theorem dX12_layRest_5 : decode cX12_layRest 5 = .ok (.iload_n 2, 1) := by decide +kernel
theorem dX12_layRest_6 : decode cX12_layRest 6 = .ok (.iastore, 1) := by decide +kernel
theorem dX12_layRest_7 : decode cX12_layRest 7 = .ok (.aload_n 0, 1) := by decide +kernel
theorem dX12_layRest_8 : decode cX12_layRest 8 = .ok (.getfield 78, 3) := by decide +kernel
theorem dX12_layRest_11 : decode cX12_layRest 11 = .ok (.iload_n 1, 1) := by decide +kernel
theorem dX12_layRest_12 : decode cX12_layRest 12 = .ok (.iconst 1, 1) := by decide +kernel
theorem dX12_layRest_13 : decode cX12_layRest 13 = .ok (.iadd, 1) := by decide +kernel
theorem dX12_layRest_14 : decode cX12_layRest 14 = .ok (.iload_n 3, 1) := by decide +kernel
theorem dX12_layRest_15 : decode cX12_layRest 15 = .ok (.iastore, 1) := by decide +kernel
theorem dX12_layRest_16 : decode cX12_layRest 16 = .ok (.aload_n 0, 1) := by decide +kernel
theorem dX12_layRest_17 : decode cX12_layRest 17 = .ok (.getfield 78, 3) := by decide +kernel
theorem dX12_layRest_20 : decode cX12_layRest 20 = .ok (.iload_n 1, 1) := by decide +kernel
theorem dX12_layRest_21 : decode cX12_layRest 21 = .ok (.iconst 2, 1) := by decide +kernel
theorem dX12_layRest_22 : decode cX12_layRest 22 = .ok (.iadd, 1) := by decide +kernel
theorem dX12_layRest_23 : decode cX12_layRest 23 = .ok (.iload 4, 2) := by decide +kernel
theorem dX12_layRest_25 : decode cX12_layRest 25 = .ok (.iastore, 1) := by decide +kernel
theorem dX12_layRest_26 : decode cX12_layRest 26 = .ok (.return_, 1) := by decide +kernel
set_option maxRecDepth 20000 in
theorem rX12_layRest (D : GD) (d : Nat) (a1 : Int32) (a2 : Int32) (a3 : Int32) (a4 : Int32) (M : Mm) (post : Option Value → Mm → Prop) (hL : Lay 62 98 M) 
    (h : vp_in a1 6 ∧ ∀ M2 : Mm, M2 = sI M 77 a1.toNatClampNeg a2 → vp_in (a1 + (1 : Int32)) 6 ∧ ∀ M7 : Mm, M7 = sI M2 77 ((a1 + (1 : Int32)).toNatClampNeg) a3 → vp_in (a1 + (2 : Int32)) 6 ∧ ∀ M12 : Mm, M12 = sI M7 77 ((a1 + (2 : Int32)).toNatClampNeg) a4 → post none M12) :
    AM D d 0 0 mX12_layRest [.ref 62, .int a1, .int a2, .int a3, .int a4] M post := by
  refine AM.of (by decide) (Nat.le_of_ble_eq_true rfl) ?_
  show AW D d 0 0 mX12_layRest 0 0 0 [(0, .ref 62), (1, .int a1), (2, .int a2), (3, .int a3), (4, .int a4)] [] M post
  refine ab_aload_n 0 dX12_layRest_0 rfl ?_
  refine ab_getP (r := 77) dX12_layRest_1 fs_12_78_12 rfl (hL.sh 62 rfl (by decide) (by decide)).1 (hL.sh 62 rfl (by decide) (by decide)).2 (hL.pt 75 rfl (by decide) (by decide)) ?_
  refine ab_iload_n 1 dX12_layRest_4 rfl ?_
  refine ab_iload_n 2 dX12_layRest_5 rfl ?_
  have hb1 := h.1
  have h := h.2
  refine ab_iastj (j := a1.toNatClampNeg) dX12_layRest_6 (hL.sh 77 rfl (by decide) (by decide)) hb1 rfl ?_
  refine ab_nameM (fun M2 hM2 => ?_)
  have h := h M2 hM2
  have hs5 : Sm M M2 := hM2 ▸ (Sm.refl _).i
  have hm3 : Sm M M2 := (Sm.refl M).trans hs5
  have hl4 := hL.of hm3
  refine ab_aload_n 0 dX12_layRest_7 rfl ?_
  refine ab_getP (r := 77) dX12_layRest_8 fs_12_78_12 rfl (hl4.sh 62 rfl (by decide) (by decide)).1 (hl4.sh 62 rfl (by decide) (by decide)).2 (hl4.pt 75 rfl (by decide) (by decide)) ?_
  refine ab_iload_n 1 dX12_layRest_11 rfl ?_
  refine ab_iconst (v := 1) dX12_layRest_12 (by decide) ?_
  refine ab_iadd dX12_layRest_13 ?_
  refine ab_iload_n 3 dX12_layRest_14 rfl ?_
  have hb6 := h.1
  have h := h.2
  refine ab_iastj (j := (a1 + (1 : Int32)).toNatClampNeg) dX12_layRest_15 (hl4.sh 77 rfl (by decide) (by decide)) hb6 rfl ?_
  refine ab_nameM (fun M7 hM7 => ?_)
  have h := h M7 hM7
  have hs10 : Sm M2 M7 := hM7 ▸ (Sm.refl _).i
  have hm8 : Sm M M7 := hm3.trans hs10
  have hl9 := hL.of hm8
  refine ab_aload_n 0 dX12_layRest_16 rfl ?_
  refine ab_getP (r := 77) dX12_layRest_17 fs_12_78_12 rfl (hl9.sh 62 rfl (by decide) (by decide)).1 (hl9.sh 62 rfl (by decide) (by decide)).2 (hl9.pt 75 rfl (by decide) (by decide)) ?_
  refine ab_iload_n 1 dX12_layRest_20 rfl ?_
  refine ab_iconst (v := 2) dX12_layRest_21 (by decide) ?_
  refine ab_iadd dX12_layRest_22 ?_
  refine ab_iload 4 dX12_layRest_23 rfl ?_
  have hb11 := h.1
  have h := h.2
  refine ab_iastj (j := (a1 + (2 : Int32)).toNatClampNeg) dX12_layRest_25 (hl9.sh 77 rfl (by decide) (by decide)) hb11 rfl ?_
  refine ab_nameM (fun M12 hM12 => ?_)
  have h := h M12 hM12
  have hs15 : Sm M7 M12 := hM12 ▸ (Sm.refl _).i
  have hm13 : Sm M M12 := hm8.trans hs15
  have hl14 := hL.of hm13
  exact ab_vret dX12_layRest_26 rfl h
theorem dX12_rest_0 : decode cX12_rest 0 = .ok (.aload_n 0, 1) := by decide +kernel
theorem dX12_rest_1 : decode cX12_rest 1 = .ok (.iload_n 1, 1) := by decide +kernel
theorem dX12_rest_2 : decode cX12_rest 2 = .ok (.iconst 0, 1) := by decide +kernel
theorem dX12_rest_3 : decode cX12_rest 3 = .ok (.iconst 1, 1) := by decide +kernel
theorem dX12_rest_4 : decode cX12_rest 4 = .ok (.invokevirtual 180, 3) := by decide +kernel
theorem dX12_rest_7 : decode cX12_rest 7 = .ok (.ifCond .eq 13, 3) := by decide +kernel
theorem dX12_rest_10 : decode cX12_rest 10 = .ok (.aload_n 0, 1) := by decide +kernel
theorem dX12_rest_11 : decode cX12_rest 11 = .ok (.iload_n 2, 1) := by decide +kernel
theorem dX12_rest_12 : decode cX12_rest 12 = .ok (.iconst 0, 1) := by decide +kernel
theorem dX12_rest_13 : decode cX12_rest 13 = .ok (.iconst 3, 1) := by decide +kernel
theorem dX12_rest_14 : decode cX12_rest 14 = .ok (.invokevirtual 180, 3) := by decide +kernel
theorem dX12_rest_17 : decode cX12_rest 17 = .ok (.ifCond .ne 5, 3) := by decide +kernel
theorem dX12_rest_20 : decode cX12_rest 20 = .ok (.iconst (-1), 1) := by decide +kernel
theorem dX12_rest_21 : decode cX12_rest 21 = .ok (.ireturn, 1) := by decide +kernel
theorem dX12_rest_22 : decode cX12_rest 22 = .ok (.aload_n 0, 1) := by decide +kernel
theorem dX12_rest_23 : decode cX12_rest 23 = .ok (.invokevirtual 244, 3) := by decide +kernel
theorem dX12_rest_26 : decode cX12_rest 26 = .ok (.iload_n 2, 1) := by decide +kernel
theorem dX12_rest_27 : decode cX12_rest 27 = .ok (.iconst 3, 1) := by decide +kernel
theorem dX12_rest_28 : decode cX12_rest 28 = .ok (.if_icmp .ne 21, 3) := by decide +kernel
theorem dX12_rest_31 : decode cX12_rest 31 = .ok (.iload_n 1, 1) := by decide +kernel
theorem dX12_rest_32 : decode cX12_rest 32 = .ok (.ifCond .ne 10, 3) := by decide +kernel
theorem dX12_rest_35 : decode cX12_rest 35 = .ok (.aload_n 0, 1) := by decide +kernel
theorem dX12_rest_36 : decode cX12_rest 36 = .ok (.getfield 81, 3) := by decide +kernel
theorem dX12_rest_39 : decode cX12_rest 39 = .ok (.goto 20, 3) := by decide +kernel
theorem dX12_rest_42 : decode cX12_rest 42 = .ok (.aload_n 0, 1) := by decide +kernel
theorem dX12_rest_43 : decode cX12_rest 43 = .ok (.getfield 84, 3) := by decide +kernel
theorem dX12_rest_46 : decode cX12_rest 46 = .ok (.goto 13, 3) := by decide +kernel
theorem dX12_rest_49 : decode cX12_rest 49 = .ok (.aload_n 0, 1) := by decide +kernel
theorem dX12_rest_50 : decode cX12_rest 50 = .ok (.getfield 78, 3) := by decide +kernel
theorem dX12_rest_53 : decode cX12_rest 53 = .ok (.iconst 3, 1) := by decide +kernel
theorem dX12_rest_54 : decode cX12_rest 54 = .ok (.iload_n 1, 1) := by decide +kernel
theorem dX12_rest_55 : decode cX12_rest 55 = .ok (.imul, 1) := by decide +kernel
theorem dX12_rest_56 : decode cX12_rest 56 = .ok (.iload_n 2, 1) := by decide +kernel
theorem dX12_rest_57 : decode cX12_rest 57 = .ok (.iadd, 1) := by decide +kernel
theorem dX12_rest_58 : decode cX12_rest 58 = .ok (.iaload, 1) := by decide +kernel
theorem dX12_rest_59 : decode cX12_rest 59 = .ok (.ireturn, 1) := by decide +kernel
set_option maxRecDepth 20000 in
theorem rX12_rest (D : GD) (d : Nat) (a1 : Int32) (a2 : Int32) (M : Mm) (post : Option Value → Mm → Prop) (hL : Lay 62 98 M) 
    (h : AMi D d mX12_in [.ref 62, .int a1, .int (0 : Int32), .int (1 : Int32)] M (fun x2 M1 => ((x2 = 0 → post (some (.int (-1 : Int32))) M1) ∧ (¬ x2 = 0 → AMi D d mX12_in [.ref 62, .int a2, .int (0 : Int32), .int (3 : Int32)] M1 (fun x9 M8 => ((¬ x9 = 0 → AMv D d mX12_findRest [.ref 62] M8 (fun M15 => ((¬ a2 = (3 : Int32) → vp_in (((3 : Int32) * a1) + a2) 6 ∧ post (some (.int (gI M15 77 ((((3 : Int32) * a1) + a2).toNatClampNeg)))) M15) ∧ (a2 = (3 : Int32) → ((¬ a1 = 0 → post (some (.int (gI M15 62 24))) M15) ∧ (a1 = 0 → post (some (.int (gI M15 62 23))) M15)))))) ∧ (x9 = 0 → post (some (.int (-1 : Int32))) M8))))))) :
    AM D (d + 1) 0 0 mX12_rest [.ref 62, .int a1, .int a2] M post := by
  refine AM.of (by decide) (Nat.le_of_ble_eq_true rfl) ?_
  show AW D (d + 1) 0 0 mX12_rest 0 0 0 [(0, .ref 62), (1, .int a1), (2, .int a2)] [] M post
  refine ab_aload_n 0 dX12_rest_0 rfl ?_
  refine ab_iload_n 1 dX12_rest_1 rfl ?_
  refine ab_iconst (v := 0) dX12_rest_2 (by decide) ?_
  refine ab_iconst (v := 1) dX12_rest_3 (by decide) ?_
  refine ab_callV (a := 62) (c0 := 12) (d' := d) (mc' := 0) (ms' := 0) (vs := [.int a1, .int (0 : Int32), .int (1 : Int32)]) (st := []) dX12_rest_4 ⟨cw_X12_in, w_1170⟩ w_1172 w_23 (by decide) (hL.sh 62 rfl (by decide) (by decide)).1 (hL.sh 62 rfl (by decide) (by decide)).2 rfl rfl (Nat.le_of_ble_eq_true rfl) (Nat.le_refl _) (Nat.zero_le _) (Nat.zero_le _) (AM.mono h (fun r M1 ⟨x2, hr3, hc4, h⟩ => ?_))
  subst hr3
  refine ab_rs ?_
  have hm5 : Sm M M1 := (Sm.refl M).trans hc4
  have hl6 := hL.of hm5
  refine ab_if_eq (tgt := 20) dX12_rest_7 (by decide) (fun c7 => ?_) (fun c7 => ?_)
  · have h := h.1 c7
    refine ab_iconst (v := (-1)) dX12_rest_20 (by decide) ?_
    exact ab_iret dX12_rest_21 rfl h
  · have h := h.2 c7
    refine ab_aload_n 0 dX12_rest_10 rfl ?_
    refine ab_iload_n 2 dX12_rest_11 rfl ?_
    refine ab_iconst (v := 0) dX12_rest_12 (by decide) ?_
    refine ab_iconst (v := 3) dX12_rest_13 (by decide) ?_
    refine ab_callV (a := 62) (c0 := 12) (d' := d) (mc' := 0) (ms' := 0) (vs := [.int a2, .int (0 : Int32), .int (3 : Int32)]) (st := []) dX12_rest_14 ⟨cw_X12_in, w_1170⟩ w_1172 w_23 (by decide) (hl6.sh 62 rfl (by decide) (by decide)).1 (hl6.sh 62 rfl (by decide) (by decide)).2 rfl rfl (Nat.le_of_ble_eq_true rfl) (Nat.le_refl _) (Nat.zero_le _) (Nat.zero_le _) (AM.mono h (fun r M8 ⟨x9, hr10, hc11, h⟩ => ?_))
    subst hr10
    refine ab_rs ?_
    have hm12 : Sm M M8 := hm5.trans hc11
    have hl13 := hL.of hm12
    refine ab_if_ne (tgt := 22) dX12_rest_17 (by decide) (fun c14 => ?_) (fun c14 => ?_)
    · have h := h.1 c14
      refine ab_aload_n 0 dX12_rest_22 rfl ?_
      refine ab_callV (a := 62) (c0 := 12) (d' := d) (mc' := 0) (ms' := 0) (vs := []) (st := []) dX12_rest_23 ⟨cw_X12_findRest, w_1255⟩ w_1257 w_38 (by decide) (hl13.sh 62 rfl (by decide) (by decide)).1 (hl13.sh 62 rfl (by decide) (by decide)).2 rfl rfl (Nat.le_of_ble_eq_true rfl) (Nat.le_refl _) (Nat.zero_le _) (Nat.zero_le _) (AM.mono h (fun r M15 ⟨hr17, hc18, h⟩ => ?_))
      subst hr17
      refine ab_rv ?_
      have hm19 : Sm M M15 := hm12.trans hc18
      have hl20 := hL.of hm19
      refine ab_iload_n 2 dX12_rest_26 rfl ?_
      refine ab_iconst (v := 3) dX12_rest_27 (by decide) ?_
      refine ab_icmp_ne (tgt := 49) dX12_rest_28 (by decide) (fun c21 => ?_) (fun c21 => ?_)
      · have h := h.1 c21
        refine ab_aload_n 0 dX12_rest_49 rfl ?_
        refine ab_getP (r := 77) dX12_rest_50 fs_12_78_12 rfl (hl20.sh 62 rfl (by decide) (by decide)).1 (hl20.sh 62 rfl (by decide) (by decide)).2 (hl20.pt 75 rfl (by decide) (by decide)) ?_
        refine ab_iconst (v := 3) dX12_rest_53 (by decide) ?_
        refine ab_iload_n 1 dX12_rest_54 rfl ?_
        refine ab_imul dX12_rest_55 ?_
        refine ab_iload_n 2 dX12_rest_56 rfl ?_
        refine ab_iadd dX12_rest_57 ?_
        have hb22 := h.1
        have h := h.2
        refine ab_ialdj (j := (((3 : Int32) * a1) + a2).toNatClampNeg) dX12_rest_58 (hl20.sh 77 rfl (by decide) (by decide)) hb22 rfl ?_
        exact ab_iret dX12_rest_59 rfl h
      · have h := h.2 c21
        refine ab_iload_n 1 dX12_rest_31 rfl ?_
        refine ab_if_ne (tgt := 42) dX12_rest_32 (by decide) (fun c23 => ?_) (fun c23 => ?_)
        · have h := h.1 c23
          refine ab_aload_n 0 dX12_rest_42 rfl ?_
          refine ab_getI dX12_rest_43 fs_12_84_12 rfl (hl20.sh 62 rfl (by decide) (by decide)).1 (hl20.sh 62 rfl (by decide) (by decide)).2 ?_
          refine ab_goto (tgt := 59) dX12_rest_46 (by decide) ?_
          exact ab_iret dX12_rest_59 rfl h
        · have h := h.2 c23
          refine ab_aload_n 0 dX12_rest_35 rfl ?_
          refine ab_getI dX12_rest_36 fs_12_81_12 rfl (hl20.sh 62 rfl (by decide) (by decide)).1 (hl20.sh 62 rfl (by decide) (by decide)).2 ?_
          refine ab_goto (tgt := 59) dX12_rest_39 (by decide) ?_
          exact ab_iret dX12_rest_59 rfl h
    · have h := h.2 c14
      refine ab_iconst (v := (-1)) dX12_rest_20 (by decide) ?_
      exact ab_iret dX12_rest_21 rfl h
theorem dX12_gap_0 : decode cX12_gap 0 = .ok (.aload_n 0, 1) := by decide +kernel
theorem dX12_gap_1 : decode cX12_gap 1 = .ok (.invokevirtual 244, 3) := by decide +kernel
theorem dX12_gap_4 : decode cX12_gap 4 = .ok (.aload_n 0, 1) := by decide +kernel
theorem dX12_gap_5 : decode cX12_gap 5 = .ok (.getfield 84, 3) := by decide +kernel
theorem dX12_gap_8 : decode cX12_gap 8 = .ok (.aload_n 0, 1) := by decide +kernel
theorem dX12_gap_9 : decode cX12_gap 9 = .ok (.getfield 81, 3) := by decide +kernel
theorem dX12_gap_12 : decode cX12_gap 12 = .ok (.isub, 1) := by decide +kernel
theorem dX12_gap_13 : decode cX12_gap 13 = .ok (.ireturn, 1) := by decide +kernel
set_option maxRecDepth 20000 in
theorem rX12_gap (D : GD) (d : Nat)  (M : Mm) (post : Option Value → Mm → Prop) (hL : Lay 62 98 M) 
    (h : AMv D d mX12_findRest [.ref 62] M (fun M1 => post (some (.int ((gI M1 62 24) - (gI M1 62 23)))) M1)) :
    AM D (d + 1) 0 0 mX12_gap [.ref 62] M post := by
  refine AM.of (by decide) (Nat.le_of_ble_eq_true rfl) ?_
  show AW D (d + 1) 0 0 mX12_gap 0 0 0 [(0, .ref 62)] [] M post
  refine ab_aload_n 0 dX12_gap_0 rfl ?_
  refine ab_callV (a := 62) (c0 := 12) (d' := d) (mc' := 0) (ms' := 0) (vs := []) (st := []) dX12_gap_1 ⟨cw_X12_findRest, w_1255⟩ w_1257 w_38 (by decide) (hL.sh 62 rfl (by decide) (by decide)).1 (hL.sh 62 rfl (by decide) (by decide)).2 rfl rfl (Nat.le_of_ble_eq_true rfl) (Nat.le_refl _) (Nat.zero_le _) (Nat.zero_le _) (AM.mono h (fun r M1 ⟨hr3, hc4, h⟩ => ?_))
  subst hr3
  refine ab_rv ?_
  have hm5 : Sm M M1 := (Sm.refl M).trans hc4
  have hl6 := hL.of hm5
  refine ab_aload_n 0 dX12_gap_4 rfl ?_
  refine ab_getI dX12_gap_5 fs_12_84_12 rfl (hl6.sh 62 rfl (by decide) (by decide)).1 (hl6.sh 62 rfl (by decide) (by decide)).2 ?_
  refine ab_aload_n 0 dX12_gap_8 rfl ?_
  refine ab_getI dX12_gap_9 fs_12_81_12 rfl (hl6.sh 62 rfl (by decide) (by decide)).1 (hl6.sh 62 rfl (by decide) (by decide)).2 ?_
  refine ab_isub dX12_gap_12 ?_
  exact ab_iret dX12_gap_13 rfl h
theorem dX12_isState_0 : decode cX12_isState 0 = .ok (.aload_n 0, 1) := by decide +kernel
theorem dX12_isState_1 : decode cX12_isState 1 = .ok (.iload_n 1, 1) := by decide +kernel
theorem dX12_isState_2 : decode cX12_isState 2 = .ok (.iconst 0, 1) := by decide +kernel
theorem dX12_isState_3 : decode cX12_isState 3 = .ok (.iconst 3, 1) := by decide +kernel
theorem dX12_isState_4 : decode cX12_isState 4 = .ok (.invokevirtual 180, 3) := by decide +kernel
theorem dX12_isState_7 : decode cX12_isState 7 = .ok (.ifCond .eq 40, 3) := by decide +kernel
theorem dX12_isState_10 : decode cX12_isState 10 = .ok (.aload_n 0, 1) := by decide +kernel
theorem dX12_isState_11 : decode cX12_isState 11 = .ok (.iload_n 2, 1) := by decide +kernel
theorem dX12_isState_12 : decode cX12_isState 12 = .ok (.iconst 0, 1) := by decide +kernel
theorem dX12_isState_13 : decode cX12_isState 13 = .ok (.iconst 3, 1) := by decide +kernel
theorem dX12_isState_14 : decode cX12_isState 14 = .ok (.invokevirtual 180, 3) := by decide +kernel
theorem dX12_isState_17 : decode cX12_isState 17 = .ok (.ifCond .eq 30, 3) := by decide +kernel
theorem dX12_isState_20 : decode cX12_isState 20 = .ok (.aload_n 0, 1) := by decide +kernel
theorem dX12_isState_21 : decode cX12_isState 21 = .ok (.iload_n 3, 1) := by decide +kernel
theorem dX12_isState_22 : decode cX12_isState 22 = .ok (.iconst 0, 1) := by decide +kernel
theorem dX12_isState_23 : decode cX12_isState 23 = .ok (.bipush 99, 2) := by decide +kernel
theorem dX12_isState_25 : decode cX12_isState 25 = .ok (.invokevirtual 180, 3) := by decide +kernel
theorem dX12_isState_28 : decode cX12_isState 28 = .ok (.ifCond .eq 19, 3) := by decide +kernel
theorem dX12_isState_31 : decode cX12_isState 31 = .ok (.aload_n 0, 1) := by decide +kernel
theorem dX12_isState_32 : decode cX12_isState 32 = .ok (.iload 4, 2) := by decide +kernel
theorem dX12_isState_34 : decode cX12_isState 34 = .ok (.iconst 0, 1) := by decide +kernel
theorem dX12_isState_35 : decode cX12_isState 35 = .ok (.bipush 20, 2) := by decide +kernel
theorem dX12_isState_37 : decode cX12_isState 37 = .ok (.invokevirtual 180, 3) := by decide +kernel
theorem dX12_isState_40 : decode cX12_isState 40 = .ok (.ifCond .eq 7, 3) := by decide +kernel
theorem dX12_isState_43 : decode cX12_isState 43 = .ok (.iconst 1, 1) := by decide +kernel
theorem dX12_isState_44 : decode cX12_isState 44 = .ok (.goto 4, 3) := by decide +kernel
theorem dX12_isState_47 : decode cX12_isState 47 = .ok (.iconst 0, 1) := by decide +kernel
theorem dX12_isState_48 : decode cX12_isState 48 = .ok (.ireturn, 1) := by decide +kernel
set_option maxRecDepth 20000 in
theorem rX12_isState (D : GD) (d : Nat) (a1 : Int32) (a2 : Int32) (a3 : Int32) (a4 : Int32) (M : Mm) (post : Option Value → Mm → Prop) (hL : Lay 62 98 M) 
    (h : AMi D d mX12_in [.ref 62, .int a1, .int (0 : Int32), .int (3 : Int32)] M (fun x2 M1 => ((x2 = 0 → post (some (.int (0 : Int32))) M1) ∧ (¬ x2 = 0 → AMi D d mX12_in [.ref 62, .int a2, .int (0 : Int32), .int (3 : Int32)] M1 (fun x9 M8 => ((x9 = 0 → post (some (.int (0 : Int32))) M8) ∧ (¬ x9 = 0 → AMi D d mX12_in [.ref 62, .int a3, .int (0 : Int32), .int (99 : Int32)] M8 (fun x16 M15 => ((x16 = 0 → post (some (.int (0 : Int32))) M15) ∧ (¬ x16 = 0 → AMi D d mX12_in [.ref 62, .int a4, .int (0 : Int32), .int (20 : Int32)] M15 (fun x23 M22 => ((x23 = 0 → post (some (.int (0 : Int32))) M22) ∧ (¬ x23 = 0 → post (some (.int (1 : Int32))) M22))))))))))))) :
    AM D (d + 1) 0 0 mX12_isState [.ref 62, .int a1, .int a2, .int a3, .int a4] M post := by
  refine AM.of (by decide) (Nat.le_of_ble_eq_true rfl) ?_
  show AW D (d + 1) 0 0 mX12_isState 0 0 0 [(0, .ref 62), (1, .int a1), (2, .int a2), (3, .int a3), (4, .int a4)] [] M post
  refine ab_aload_n 0 dX12_isState_0 rfl ?_
  refine ab_iload_n 1 dX12_isState_1 rfl ?_
  refine ab_iconst (v := 0) dX12_isState_2 (by decide) ?_
  refine ab_iconst (v := 3) dX12_isState_3 (by decide) ?_
  refine ab_callV (a := 62) (c0 := 12) (d' := d) (mc' := 0) (ms' := 0) (vs := [.int a1, .int (0 : Int32), .int (3 : Int32)]) (st := []) dX12_isState_4 ⟨cw_X12_in, w_1170⟩ w_1172 w_23 (by decide) (hL.sh 62 rfl (by decide) (by decide)).1 (hL.sh 62 rfl (by decide) (by decide)).2 rfl rfl (Nat.le_of_ble_eq_true rfl) (Nat.le_refl _) (Nat.zero_le _) (Nat.zero_le _) (AM.mono h (fun r M1 ⟨x2, hr3, hc4, h⟩ => ?_))
  subst hr3
  refine ab_rs ?_
  have hm5 : Sm M M1 := (Sm.refl M).trans hc4
  have hl6 := hL.of hm5
  refine ab_if_eq (tgt := 47) dX12_isState_7 (by decide) (fun c7 => ?_) (fun c7 => ?_)
  · have h := h.1 c7
    refine ab_iconst (v := 0) dX12_isState_47 (by decide) ?_
    exact ab_zret dX12_isState_48 rfl rfl h
  · have h := h.2 c7
    refine ab_aload_n 0 dX12_isState_10 rfl ?_
    refine ab_iload_n 2 dX12_isState_11 rfl ?_
    refine ab_iconst (v := 0) dX12_isState_12 (by decide) ?_
    refine ab_iconst (v := 3) dX12_isState_13 (by decide) ?_
    refine ab_callV (a := 62) (c0 := 12) (d' := d) (mc' := 0) (ms' := 0) (vs := [.int a2, .int (0 : Int32), .int (3 : Int32)]) (st := []) dX12_isState_14 ⟨cw_X12_in, w_1170⟩ w_1172 w_23 (by decide) (hl6.sh 62 rfl (by decide) (by decide)).1 (hl6.sh 62 rfl (by decide) (by decide)).2 rfl rfl (Nat.le_of_ble_eq_true rfl) (Nat.le_refl _) (Nat.zero_le _) (Nat.zero_le _) (AM.mono h (fun r M8 ⟨x9, hr10, hc11, h⟩ => ?_))
    subst hr10
    refine ab_rs ?_
    have hm12 : Sm M M8 := hm5.trans hc11
    have hl13 := hL.of hm12
    refine ab_if_eq (tgt := 47) dX12_isState_17 (by decide) (fun c14 => ?_) (fun c14 => ?_)
    · have h := h.1 c14
      refine ab_iconst (v := 0) dX12_isState_47 (by decide) ?_
      exact ab_zret dX12_isState_48 rfl rfl h
    · have h := h.2 c14
      refine ab_aload_n 0 dX12_isState_20 rfl ?_
      refine ab_iload_n 3 dX12_isState_21 rfl ?_
      refine ab_iconst (v := 0) dX12_isState_22 (by decide) ?_
      refine ab_bipush (v := 99) dX12_isState_23 (by decide) ?_
      refine ab_callV (a := 62) (c0 := 12) (d' := d) (mc' := 0) (ms' := 0) (vs := [.int a3, .int (0 : Int32), .int (99 : Int32)]) (st := []) dX12_isState_25 ⟨cw_X12_in, w_1170⟩ w_1172 w_23 (by decide) (hl13.sh 62 rfl (by decide) (by decide)).1 (hl13.sh 62 rfl (by decide) (by decide)).2 rfl rfl (Nat.le_of_ble_eq_true rfl) (Nat.le_refl _) (Nat.zero_le _) (Nat.zero_le _) (AM.mono h (fun r M15 ⟨x16, hr17, hc18, h⟩ => ?_))
      subst hr17
      refine ab_rs ?_
      have hm19 : Sm M M15 := hm12.trans hc18
      have hl20 := hL.of hm19
      refine ab_if_eq (tgt := 47) dX12_isState_28 (by decide) (fun c21 => ?_) (fun c21 => ?_)
      · have h := h.1 c21
        refine ab_iconst (v := 0) dX12_isState_47 (by decide) ?_
        exact ab_zret dX12_isState_48 rfl rfl h
      · have h := h.2 c21
        refine ab_aload_n 0 dX12_isState_31 rfl ?_
        refine ab_iload 4 dX12_isState_32 rfl ?_
        refine ab_iconst (v := 0) dX12_isState_34 (by decide) ?_
        refine ab_bipush (v := 20) dX12_isState_35 (by decide) ?_
        refine ab_callV (a := 62) (c0 := 12) (d' := d) (mc' := 0) (ms' := 0) (vs := [.int a4, .int (0 : Int32), .int (20 : Int32)]) (st := []) dX12_isState_37 ⟨cw_X12_in, w_1170⟩ w_1172 w_23 (by decide) (hl20.sh 62 rfl (by decide) (by decide)).1 (hl20.sh 62 rfl (by decide) (by decide)).2 rfl rfl (Nat.le_of_ble_eq_true rfl) (Nat.le_refl _) (Nat.zero_le _) (Nat.zero_le _) (AM.mono h (fun r M22 ⟨x23, hr24, hc25, h⟩ => ?_))
        subst hr24
        refine ab_rs ?_
        have hm26 : Sm M M22 := hm19.trans hc25
        have hl27 := hL.of hm26
        refine ab_if_eq (tgt := 47) dX12_isState_40 (by decide) (fun c28 => ?_) (fun c28 => ?_)
        · have h := h.1 c28
          refine ab_iconst (v := 0) dX12_isState_47 (by decide) ?_
          exact ab_zret dX12_isState_48 rfl rfl h
        · have h := h.2 c28
          refine ab_iconst (v := 1) dX12_isState_43 (by decide) ?_
          refine ab_goto (tgt := 48) dX12_isState_44 (by decide) ?_
          exact ab_zret dX12_isState_48 rfl rfl h
theorem dX12_layState_0 : decode cX12_layState 0 = .ok (.aload_n 0, 1) := by decide +kernel
theorem dX12_layState_1 : decode cX12_layState 1 = .ok (.iload_n 1, 1) := by decide +kernel
theorem dX12_layState_2 : decode cX12_layState 2 = .ok (.putfield 90, 3) := by decide +kernel
theorem dX12_layState_5 : decode cX12_layState 5 = .ok (.aload_n 0, 1) := by decide +kernel
theorem dX12_layState_6 : decode cX12_layState 6 = .ok (.iload_n 2, 1) := by decide +kernel
theorem dX12_layState_7 : decode cX12_layState 7 = .ok (.putfield 93, 3) := by decide +kernel
theorem dX12_layState_10 : decode cX12_layState 10 = .ok (.aload_n 0, 1) := by decide +kernel
theorem dX12_layState_11 : decode cX12_layState 11 = .ok (.iload_n 3, 1) := by decide +kernel
theorem dX12_layState_12 : decode cX12_layState 12 = .ok (.putfield 96, 3) := by decide +kernel
theorem dX12_layState_15 : decode cX12_layState 15 = .ok (.aload_n 0, 1) := by decide +kernel
theorem dX12_layState_16 : decode cX12_layState 16 = .ok (.iload 4, 2) := by decide +kernel
theorem dX12_layState_18 : decode cX12_layState 18 = .ok (.putfield 99, 3) := by decide +kernel
theorem dX12_layState_21 : decode cX12_layState 21 = .ok (.return_, 1) := by decide +kernel
set_option maxRecDepth 20000 in
theorem rX12_layState (D : GD) (d : Nat) (a1 : Int32) (a2 : Int32) (a3 : Int32) (a4 : Int32) (M : Mm) (post : Option Value → Mm → Prop) (hL : Lay 62 98 M) 
    (h : ∀ M1 : Mm, M1 = sI M 62 26 a1 → ∀ M5 : Mm, M5 = sI M1 62 27 a2 → ∀ M9 : Mm, M9 = sI M5 62 28 a3 → ∀ M13 : Mm, M13 = sI M9 62 29 a4 → post none M13) :
    AM D d 0 0 mX12_layState [.ref 62, .int a1, .int a2, .int a3, .int a4] M post := by
  refine AM.of (by decide) (Nat.le_of_ble_eq_true rfl) ?_
  show AW D d 0 0 mX12_layState 0 0 0 [(0, .ref 62), (1, .int a1), (2, .int a2), (3, .int a3), (4, .int a4)] [] M post
  refine ab_aload_n 0 dX12_layState_0 rfl ?_
  refine ab_iload_n 1 dX12_layState_1 rfl ?_
  refine ab_putI dX12_layState_2 fs_12_90_12 rfl rfl (hL.sh 62 rfl (by decide) (by decide)).1 (hL.sh 62 rfl (by decide) (by decide)).2 ?_
  refine ab_nameM (fun M1 hM1 => ?_)
  have h := h M1 hM1
  have hs4 : Sm M M1 := hM1 ▸ (Sm.refl _).i
  have hm2 : Sm M M1 := (Sm.refl M).trans hs4
  have hl3 := hL.of hm2
  refine ab_aload_n 0 dX12_layState_5 rfl ?_
  refine ab_iload_n 2 dX12_layState_6 rfl ?_
  refine ab_putI dX12_layState_7 fs_12_93_12 rfl rfl (hl3.sh 62 rfl (by decide) (by decide)).1 (hl3.sh 62 rfl (by decide) (by decide)).2 ?_
  refine ab_nameM (fun M5 hM5 => ?_)
  have h := h M5 hM5
  have hs8 : Sm M1 M5 := hM5 ▸ (Sm.refl _).i
  have hm6 : Sm M M5 := hm2.trans hs8
  have hl7 := hL.of hm6
  refine ab_aload_n 0 dX12_layState_10 rfl ?_
  refine ab_iload_n 3 dX12_layState_11 rfl ?_
  refine ab_putI dX12_layState_12 fs_12_96_12 rfl rfl (hl7.sh 62 rfl (by decide) (by decide)).1 (hl7.sh 62 rfl (by decide) (by decide)).2 ?_
  refine ab_nameM (fun M9 hM9 => ?_)
  have h := h M9 hM9
  have hs12 : Sm M5 M9 := hM9 ▸ (Sm.refl _).i
  have hm10 : Sm M M9 := hm6.trans hs12
  have hl11 := hL.of hm10
  refine ab_aload_n 0 dX12_layState_15 rfl ?_
  refine ab_iload 4 dX12_layState_16 rfl ?_
  refine ab_putI dX12_layState_18 fs_12_99_12 rfl rfl (hl11.sh 62 rfl (by decide) (by decide)).1 (hl11.sh 62 rfl (by decide) (by decide)).2 ?_
  refine ab_nameM (fun M13 hM13 => ?_)
  have h := h M13 hM13
  have hs16 : Sm M9 M13 := hM13 ▸ (Sm.refl _).i
  have hm14 : Sm M M13 := hm10.trans hs16
  have hl15 := hL.of hm14
  exact ab_vret dX12_layState_21 rfl h
theorem dX12_layFacts_0 : decode cX12_layFacts 0 = .ok (.aload_n 0, 1) := by decide +kernel
theorem dX12_layFacts_1 : decode cX12_layFacts 1 = .ok (.getfield 59, 3) := by decide +kernel
theorem dX12_layFacts_4 : decode cX12_layFacts 4 = .ok (.iconst 0, 1) := by decide +kernel
theorem dX12_layFacts_5 : decode cX12_layFacts 5 = .ok (.iload_n 1, 1) := by decide +kernel
theorem dX12_layFacts_6 : decode cX12_layFacts 6 = .ok (.ifCond .ne 10, 3) := by decide +kernel
theorem dX12_layFacts_9 : decode cX12_layFacts 9 = .ok (.aload_n 0, 1) := by decide +kernel
theorem dX12_layFacts_10 : decode cX12_layFacts 10 = .ok (.getfield 90, 3) := by decide +kernel
theorem dX12_layFacts_13 : decode cX12_layFacts 13 = .ok (.goto 7, 3) := by decide +kernel
theorem dX12_layFacts_16 : decode cX12_layFacts 16 = .ok (.aload_n 0, 1) := by decide +kernel
theorem dX12_layFacts_17 : decode cX12_layFacts 17 = .ok (.getfield 93, 3) := by decide +kernel
theorem dX12_layFacts_20 : decode cX12_layFacts 20 = .ok (.iastore, 1) := by decide +kernel
theorem dX12_layFacts_21 : decode cX12_layFacts 21 = .ok (.aload_n 0, 1) := by decide +kernel
theorem dX12_layFacts_22 : decode cX12_layFacts 22 = .ok (.getfield 59, 3) := by decide +kernel
theorem dX12_layFacts_25 : decode cX12_layFacts 25 = .ok (.iconst 1, 1) := by decide +kernel
theorem dX12_layFacts_26 : decode cX12_layFacts 26 = .ok (.iload_n 1, 1) := by decide +kernel
theorem dX12_layFacts_27 : decode cX12_layFacts 27 = .ok (.ifCond .ne 10, 3) := by decide +kernel
theorem dX12_layFacts_30 : decode cX12_layFacts 30 = .ok (.aload_n 0, 1) := by decide +kernel
theorem dX12_layFacts_31 : decode cX12_layFacts 31 = .ok (.getfield 93, 3) := by decide +kernel
theorem dX12_layFacts_34 : decode cX12_layFacts 34 = .ok (.goto 7, 3) := by decide +kernel
theorem dX12_layFacts_37 : decode cX12_layFacts 37 = .ok (.aload_n 0, 1) := by decide +kernel
theorem dX12_layFacts_38 : decode cX12_layFacts 38 = .ok (.getfield 90, 3) := by decide +kernel
theorem dX12_layFacts_41 : decode cX12_layFacts 41 = .ok (.iastore, 1) := by decide +kernel
theorem dX12_layFacts_42 : decode cX12_layFacts 42 = .ok (.aload_n 0, 1) := by decide +kernel
theorem dX12_layFacts_43 : decode cX12_layFacts 43 = .ok (.getfield 59, 3) := by decide +kernel
theorem dX12_layFacts_46 : decode cX12_layFacts 46 = .ok (.iconst 2, 1) := by decide +kernel
theorem dX12_layFacts_47 : decode cX12_layFacts 47 = .ok (.aload_n 0, 1) := by decide +kernel
theorem dX12_layFacts_48 : decode cX12_layFacts 48 = .ok (.getfield 96, 3) := by decide +kernel
theorem dX12_layFacts_51 : decode cX12_layFacts 51 = .ok (.iastore, 1) := by decide +kernel
theorem dX12_layFacts_52 : decode cX12_layFacts 52 = .ok (.aload_n 0, 1) := by decide +kernel
theorem dX12_layFacts_53 : decode cX12_layFacts 53 = .ok (.getfield 59, 3) := by decide +kernel
theorem dX12_layFacts_56 : decode cX12_layFacts 56 = .ok (.iconst 3, 1) := by decide +kernel
theorem dX12_layFacts_57 : decode cX12_layFacts 57 = .ok (.iload_n 1, 1) := by decide +kernel
theorem dX12_layFacts_58 : decode cX12_layFacts 58 = .ok (.ifCond .ne 10, 3) := by decide +kernel
theorem dX12_layFacts_61 : decode cX12_layFacts 61 = .ok (.aload_n 0, 1) := by decide +kernel
theorem dX12_layFacts_62 : decode cX12_layFacts 62 = .ok (.getfield 99, 3) := by decide +kernel
theorem dX12_layFacts_65 : decode cX12_layFacts 65 = .ok (.goto 10, 3) := by decide +kernel
theorem dX12_layFacts_68 : decode cX12_layFacts 68 = .ok (.bipush 20, 2) := by decide +kernel
theorem dX12_layFacts_70 : decode cX12_layFacts 70 = .ok (.aload_n 0, 1) := by decide +kernel
theorem dX12_layFacts_71 : decode cX12_layFacts 71 = .ok (.getfield 99, 3) := by decide +kernel
theorem dX12_layFacts_74 : decode cX12_layFacts 74 = .ok (.isub, 1) := by decide +kernel
theorem dX12_layFacts_75 : decode cX12_layFacts 75 = .ok (.iastore, 1) := by decide +kernel
theorem dX12_layFacts_76 : decode cX12_layFacts 76 = .ok (.return_, 1) := by decide +kernel
set_option maxRecDepth 20000 in
theorem rX12_layFacts (D : GD) (d : Nat) (a1 : Int32) (M : Mm) (post : Option Value → Mm → Prop) (hL : Lay 62 98 M) 
    (h : ((¬ a1 = 0 → ∀ M2 : Mm, M2 = sI M 72 0 (gI M 62 27) → ((¬ a1 = 0 → ∀ M7 : Mm, M7 = sI M2 72 1 (gI M2 62 26) → ∀ M11 : Mm, M11 = sI M7 72 2 (gI M7 62 28) → ((¬ a1 = 0 → ∀ M16 : Mm, M16 = sI M11 72 3 ((20 : Int32) - (gI M11 62 29)) → post none M16) ∧ (a1 = 0 → ∀ M20 : Mm, M20 = sI M11 72 3 (gI M11 62 29) → post none M20))) ∧ (a1 = 0 → ∀ M24 : Mm, M24 = sI M2 72 1 (gI M2 62 27) → ∀ M28 : Mm, M28 = sI M24 72 2 (gI M24 62 28) → ((¬ a1 = 0 → ∀ M33 : Mm, M33 = sI M28 72 3 ((20 : Int32) - (gI M28 62 29)) → post none M33) ∧ (a1 = 0 → ∀ M37 : Mm, M37 = sI M28 72 3 (gI M28 62 29) → post none M37))))) ∧ (a1 = 0 → ∀ M41 : Mm, M41 = sI M 72 0 (gI M 62 26) → ((¬ a1 = 0 → ∀ M46 : Mm, M46 = sI M41 72 1 (gI M41 62 26) → ∀ M50 : Mm, M50 = sI M46 72 2 (gI M46 62 28) → ((¬ a1 = 0 → ∀ M55 : Mm, M55 = sI M50 72 3 ((20 : Int32) - (gI M50 62 29)) → post none M55) ∧ (a1 = 0 → ∀ M59 : Mm, M59 = sI M50 72 3 (gI M50 62 29) → post none M59))) ∧ (a1 = 0 → ∀ M63 : Mm, M63 = sI M41 72 1 (gI M41 62 27) → ∀ M67 : Mm, M67 = sI M63 72 2 (gI M63 62 28) → ((¬ a1 = 0 → ∀ M72 : Mm, M72 = sI M67 72 3 ((20 : Int32) - (gI M67 62 29)) → post none M72) ∧ (a1 = 0 → ∀ M76 : Mm, M76 = sI M67 72 3 (gI M67 62 29) → post none M76))))))) :
    AM D d 0 0 mX12_layFacts [.ref 62, .int a1] M post := by
  refine AM.of (by decide) (Nat.le_of_ble_eq_true rfl) ?_
  show AW D d 0 0 mX12_layFacts 0 0 0 [(0, .ref 62), (1, .int a1)] [] M post
  refine ab_aload_n 0 dX12_layFacts_0 rfl ?_
  refine ab_getP (r := 72) dX12_layFacts_1 fs_12_59_12 rfl (hL.sh 62 rfl (by decide) (by decide)).1 (hL.sh 62 rfl (by decide) (by decide)).2 (hL.pt 70 rfl (by decide) (by decide)) ?_
  refine ab_iconst (v := 0) dX12_layFacts_4 (by decide) ?_
  refine ab_iload_n 1 dX12_layFacts_5 rfl ?_
  refine ab_if_ne (tgt := 16) dX12_layFacts_6 (by decide) (fun c1 => ?_) (fun c1 => ?_)
  · have h := h.1 c1
    refine ab_aload_n 0 dX12_layFacts_16 rfl ?_
    refine ab_getI dX12_layFacts_17 fs_12_93_12 rfl (hL.sh 62 rfl (by decide) (by decide)).1 (hL.sh 62 rfl (by decide) (by decide)).2 ?_
    refine ab_iastj (j := 0) dX12_layFacts_20 (hL.sh 72 rfl (by decide) (by decide)) (vin (by decide)) (by decide) ?_
    refine ab_nameM (fun M2 hM2 => ?_)
    have h := h M2 hM2
    have hs5 : Sm M M2 := hM2 ▸ (Sm.refl _).i
    have hm3 : Sm M M2 := (Sm.refl M).trans hs5
    have hl4 := hL.of hm3
    refine ab_aload_n 0 dX12_layFacts_21 rfl ?_
    refine ab_getP (r := 72) dX12_layFacts_22 fs_12_59_12 rfl (hl4.sh 62 rfl (by decide) (by decide)).1 (hl4.sh 62 rfl (by decide) (by decide)).2 (hl4.pt 70 rfl (by decide) (by decide)) ?_
    refine ab_iconst (v := 1) dX12_layFacts_25 (by decide) ?_
    refine ab_iload_n 1 dX12_layFacts_26 rfl ?_
    refine ab_if_ne (tgt := 37) dX12_layFacts_27 (by decide) (fun c6 => ?_) (fun c6 => ?_)
    · have h := h.1 c6
      refine ab_aload_n 0 dX12_layFacts_37 rfl ?_
      refine ab_getI dX12_layFacts_38 fs_12_90_12 rfl (hl4.sh 62 rfl (by decide) (by decide)).1 (hl4.sh 62 rfl (by decide) (by decide)).2 ?_
      refine ab_iastj (j := 1) dX12_layFacts_41 (hl4.sh 72 rfl (by decide) (by decide)) (vin (by decide)) (by decide) ?_
      refine ab_nameM (fun M7 hM7 => ?_)
      have h := h M7 hM7
      have hs10 : Sm M2 M7 := hM7 ▸ (Sm.refl _).i
      have hm8 : Sm M M7 := hm3.trans hs10
      have hl9 := hL.of hm8
      refine ab_aload_n 0 dX12_layFacts_42 rfl ?_
      refine ab_getP (r := 72) dX12_layFacts_43 fs_12_59_12 rfl (hl9.sh 62 rfl (by decide) (by decide)).1 (hl9.sh 62 rfl (by decide) (by decide)).2 (hl9.pt 70 rfl (by decide) (by decide)) ?_
      refine ab_iconst (v := 2) dX12_layFacts_46 (by decide) ?_
      refine ab_aload_n 0 dX12_layFacts_47 rfl ?_
      refine ab_getI dX12_layFacts_48 fs_12_96_12 rfl (hl9.sh 62 rfl (by decide) (by decide)).1 (hl9.sh 62 rfl (by decide) (by decide)).2 ?_
      refine ab_iastj (j := 2) dX12_layFacts_51 (hl9.sh 72 rfl (by decide) (by decide)) (vin (by decide)) (by decide) ?_
      refine ab_nameM (fun M11 hM11 => ?_)
      have h := h M11 hM11
      have hs14 : Sm M7 M11 := hM11 ▸ (Sm.refl _).i
      have hm12 : Sm M M11 := hm8.trans hs14
      have hl13 := hL.of hm12
      refine ab_aload_n 0 dX12_layFacts_52 rfl ?_
      refine ab_getP (r := 72) dX12_layFacts_53 fs_12_59_12 rfl (hl13.sh 62 rfl (by decide) (by decide)).1 (hl13.sh 62 rfl (by decide) (by decide)).2 (hl13.pt 70 rfl (by decide) (by decide)) ?_
      refine ab_iconst (v := 3) dX12_layFacts_56 (by decide) ?_
      refine ab_iload_n 1 dX12_layFacts_57 rfl ?_
      refine ab_if_ne (tgt := 68) dX12_layFacts_58 (by decide) (fun c15 => ?_) (fun c15 => ?_)
      · have h := h.1 c15
        refine ab_bipush (v := 20) dX12_layFacts_68 (by decide) ?_
        refine ab_aload_n 0 dX12_layFacts_70 rfl ?_
        refine ab_getI dX12_layFacts_71 fs_12_99_12 rfl (hl13.sh 62 rfl (by decide) (by decide)).1 (hl13.sh 62 rfl (by decide) (by decide)).2 ?_
        refine ab_isub dX12_layFacts_74 ?_
        refine ab_iastj (j := 3) dX12_layFacts_75 (hl13.sh 72 rfl (by decide) (by decide)) (vin (by decide)) (by decide) ?_
        refine ab_nameM (fun M16 hM16 => ?_)
        have h := h M16 hM16
        have hs19 : Sm M11 M16 := hM16 ▸ (Sm.refl _).i
        have hm17 : Sm M M16 := hm12.trans hs19
        have hl18 := hL.of hm17
        exact ab_vret dX12_layFacts_76 rfl h
      · have h := h.2 c15
        refine ab_aload_n 0 dX12_layFacts_61 rfl ?_
        refine ab_getI dX12_layFacts_62 fs_12_99_12 rfl (hl13.sh 62 rfl (by decide) (by decide)).1 (hl13.sh 62 rfl (by decide) (by decide)).2 ?_
        refine ab_goto (tgt := 75) dX12_layFacts_65 (by decide) ?_
        refine ab_iastj (j := 3) dX12_layFacts_75 (hl13.sh 72 rfl (by decide) (by decide)) (vin (by decide)) (by decide) ?_
        refine ab_nameM (fun M20 hM20 => ?_)
        have h := h M20 hM20
        have hs23 : Sm M11 M20 := hM20 ▸ (Sm.refl _).i
        have hm21 : Sm M M20 := hm12.trans hs23
        have hl22 := hL.of hm21
        exact ab_vret dX12_layFacts_76 rfl h
    · have h := h.2 c6
      refine ab_aload_n 0 dX12_layFacts_30 rfl ?_
      refine ab_getI dX12_layFacts_31 fs_12_93_12 rfl (hl4.sh 62 rfl (by decide) (by decide)).1 (hl4.sh 62 rfl (by decide) (by decide)).2 ?_
      refine ab_goto (tgt := 41) dX12_layFacts_34 (by decide) ?_
      refine ab_iastj (j := 1) dX12_layFacts_41 (hl4.sh 72 rfl (by decide) (by decide)) (vin (by decide)) (by decide) ?_
      refine ab_nameM (fun M24 hM24 => ?_)
      have h := h M24 hM24
      have hs27 : Sm M2 M24 := hM24 ▸ (Sm.refl _).i
      have hm25 : Sm M M24 := hm3.trans hs27
      have hl26 := hL.of hm25
      refine ab_aload_n 0 dX12_layFacts_42 rfl ?_
      refine ab_getP (r := 72) dX12_layFacts_43 fs_12_59_12 rfl (hl26.sh 62 rfl (by decide) (by decide)).1 (hl26.sh 62 rfl (by decide) (by decide)).2 (hl26.pt 70 rfl (by decide) (by decide)) ?_
      refine ab_iconst (v := 2) dX12_layFacts_46 (by decide) ?_
      refine ab_aload_n 0 dX12_layFacts_47 rfl ?_
      refine ab_getI dX12_layFacts_48 fs_12_96_12 rfl (hl26.sh 62 rfl (by decide) (by decide)).1 (hl26.sh 62 rfl (by decide) (by decide)).2 ?_
      refine ab_iastj (j := 2) dX12_layFacts_51 (hl26.sh 72 rfl (by decide) (by decide)) (vin (by decide)) (by decide) ?_
      refine ab_nameM (fun M28 hM28 => ?_)
      have h := h M28 hM28
      have hs31 : Sm M24 M28 := hM28 ▸ (Sm.refl _).i
      have hm29 : Sm M M28 := hm25.trans hs31
      have hl30 := hL.of hm29
      refine ab_aload_n 0 dX12_layFacts_52 rfl ?_
      refine ab_getP (r := 72) dX12_layFacts_53 fs_12_59_12 rfl (hl30.sh 62 rfl (by decide) (by decide)).1 (hl30.sh 62 rfl (by decide) (by decide)).2 (hl30.pt 70 rfl (by decide) (by decide)) ?_
      refine ab_iconst (v := 3) dX12_layFacts_56 (by decide) ?_
      refine ab_iload_n 1 dX12_layFacts_57 rfl ?_
      refine ab_if_ne (tgt := 68) dX12_layFacts_58 (by decide) (fun c32 => ?_) (fun c32 => ?_)
      · have h := h.1 c32
        refine ab_bipush (v := 20) dX12_layFacts_68 (by decide) ?_
        refine ab_aload_n 0 dX12_layFacts_70 rfl ?_
        refine ab_getI dX12_layFacts_71 fs_12_99_12 rfl (hl30.sh 62 rfl (by decide) (by decide)).1 (hl30.sh 62 rfl (by decide) (by decide)).2 ?_
        refine ab_isub dX12_layFacts_74 ?_
        refine ab_iastj (j := 3) dX12_layFacts_75 (hl30.sh 72 rfl (by decide) (by decide)) (vin (by decide)) (by decide) ?_
        refine ab_nameM (fun M33 hM33 => ?_)
        have h := h M33 hM33
        have hs36 : Sm M28 M33 := hM33 ▸ (Sm.refl _).i
        have hm34 : Sm M M33 := hm29.trans hs36
        have hl35 := hL.of hm34
        exact ab_vret dX12_layFacts_76 rfl h
      · have h := h.2 c32
        refine ab_aload_n 0 dX12_layFacts_61 rfl ?_
        refine ab_getI dX12_layFacts_62 fs_12_99_12 rfl (hl30.sh 62 rfl (by decide) (by decide)).1 (hl30.sh 62 rfl (by decide) (by decide)).2 ?_
        refine ab_goto (tgt := 75) dX12_layFacts_65 (by decide) ?_
        refine ab_iastj (j := 3) dX12_layFacts_75 (hl30.sh 72 rfl (by decide) (by decide)) (vin (by decide)) (by decide) ?_
        refine ab_nameM (fun M37 hM37 => ?_)
        have h := h M37 hM37
        have hs40 : Sm M28 M37 := hM37 ▸ (Sm.refl _).i
        have hm38 : Sm M M37 := hm29.trans hs40
        have hl39 := hL.of hm38
        exact ab_vret dX12_layFacts_76 rfl h
  · have h := h.2 c1
    refine ab_aload_n 0 dX12_layFacts_9 rfl ?_
    refine ab_getI dX12_layFacts_10 fs_12_90_12 rfl (hL.sh 62 rfl (by decide) (by decide)).1 (hL.sh 62 rfl (by decide) (by decide)).2 ?_
    refine ab_goto (tgt := 20) dX12_layFacts_13 (by decide) ?_
    refine ab_iastj (j := 0) dX12_layFacts_20 (hL.sh 72 rfl (by decide) (by decide)) (vin (by decide)) (by decide) ?_
    refine ab_nameM (fun M41 hM41 => ?_)
    have h := h M41 hM41
    have hs44 : Sm M M41 := hM41 ▸ (Sm.refl _).i
    have hm42 : Sm M M41 := (Sm.refl M).trans hs44
    have hl43 := hL.of hm42
    refine ab_aload_n 0 dX12_layFacts_21 rfl ?_
    refine ab_getP (r := 72) dX12_layFacts_22 fs_12_59_12 rfl (hl43.sh 62 rfl (by decide) (by decide)).1 (hl43.sh 62 rfl (by decide) (by decide)).2 (hl43.pt 70 rfl (by decide) (by decide)) ?_
    refine ab_iconst (v := 1) dX12_layFacts_25 (by decide) ?_
    refine ab_iload_n 1 dX12_layFacts_26 rfl ?_
    refine ab_if_ne (tgt := 37) dX12_layFacts_27 (by decide) (fun c45 => ?_) (fun c45 => ?_)
    · have h := h.1 c45
      refine ab_aload_n 0 dX12_layFacts_37 rfl ?_
      refine ab_getI dX12_layFacts_38 fs_12_90_12 rfl (hl43.sh 62 rfl (by decide) (by decide)).1 (hl43.sh 62 rfl (by decide) (by decide)).2 ?_
      refine ab_iastj (j := 1) dX12_layFacts_41 (hl43.sh 72 rfl (by decide) (by decide)) (vin (by decide)) (by decide) ?_
      refine ab_nameM (fun M46 hM46 => ?_)
      have h := h M46 hM46
      have hs49 : Sm M41 M46 := hM46 ▸ (Sm.refl _).i
      have hm47 : Sm M M46 := hm42.trans hs49
      have hl48 := hL.of hm47
      refine ab_aload_n 0 dX12_layFacts_42 rfl ?_
      refine ab_getP (r := 72) dX12_layFacts_43 fs_12_59_12 rfl (hl48.sh 62 rfl (by decide) (by decide)).1 (hl48.sh 62 rfl (by decide) (by decide)).2 (hl48.pt 70 rfl (by decide) (by decide)) ?_
      refine ab_iconst (v := 2) dX12_layFacts_46 (by decide) ?_
      refine ab_aload_n 0 dX12_layFacts_47 rfl ?_
      refine ab_getI dX12_layFacts_48 fs_12_96_12 rfl (hl48.sh 62 rfl (by decide) (by decide)).1 (hl48.sh 62 rfl (by decide) (by decide)).2 ?_
      refine ab_iastj (j := 2) dX12_layFacts_51 (hl48.sh 72 rfl (by decide) (by decide)) (vin (by decide)) (by decide) ?_
      refine ab_nameM (fun M50 hM50 => ?_)
      have h := h M50 hM50
      have hs53 : Sm M46 M50 := hM50 ▸ (Sm.refl _).i
      have hm51 : Sm M M50 := hm47.trans hs53
      have hl52 := hL.of hm51
      refine ab_aload_n 0 dX12_layFacts_52 rfl ?_
      refine ab_getP (r := 72) dX12_layFacts_53 fs_12_59_12 rfl (hl52.sh 62 rfl (by decide) (by decide)).1 (hl52.sh 62 rfl (by decide) (by decide)).2 (hl52.pt 70 rfl (by decide) (by decide)) ?_
      refine ab_iconst (v := 3) dX12_layFacts_56 (by decide) ?_
      refine ab_iload_n 1 dX12_layFacts_57 rfl ?_
      refine ab_if_ne (tgt := 68) dX12_layFacts_58 (by decide) (fun c54 => ?_) (fun c54 => ?_)
      · have h := h.1 c54
        refine ab_bipush (v := 20) dX12_layFacts_68 (by decide) ?_
        refine ab_aload_n 0 dX12_layFacts_70 rfl ?_
        refine ab_getI dX12_layFacts_71 fs_12_99_12 rfl (hl52.sh 62 rfl (by decide) (by decide)).1 (hl52.sh 62 rfl (by decide) (by decide)).2 ?_
        refine ab_isub dX12_layFacts_74 ?_
        refine ab_iastj (j := 3) dX12_layFacts_75 (hl52.sh 72 rfl (by decide) (by decide)) (vin (by decide)) (by decide) ?_
        refine ab_nameM (fun M55 hM55 => ?_)
        have h := h M55 hM55
        have hs58 : Sm M50 M55 := hM55 ▸ (Sm.refl _).i
        have hm56 : Sm M M55 := hm51.trans hs58
        have hl57 := hL.of hm56
        exact ab_vret dX12_layFacts_76 rfl h
      · have h := h.2 c54
        refine ab_aload_n 0 dX12_layFacts_61 rfl ?_
        refine ab_getI dX12_layFacts_62 fs_12_99_12 rfl (hl52.sh 62 rfl (by decide) (by decide)).1 (hl52.sh 62 rfl (by decide) (by decide)).2 ?_
        refine ab_goto (tgt := 75) dX12_layFacts_65 (by decide) ?_
        refine ab_iastj (j := 3) dX12_layFacts_75 (hl52.sh 72 rfl (by decide) (by decide)) (vin (by decide)) (by decide) ?_
        refine ab_nameM (fun M59 hM59 => ?_)
        have h := h M59 hM59
        have hs62 : Sm M50 M59 := hM59 ▸ (Sm.refl _).i
        have hm60 : Sm M M59 := hm51.trans hs62
        have hl61 := hL.of hm60
        exact ab_vret dX12_layFacts_76 rfl h
    · have h := h.2 c45
      refine ab_aload_n 0 dX12_layFacts_30 rfl ?_
      refine ab_getI dX12_layFacts_31 fs_12_93_12 rfl (hl43.sh 62 rfl (by decide) (by decide)).1 (hl43.sh 62 rfl (by decide) (by decide)).2 ?_
      refine ab_goto (tgt := 41) dX12_layFacts_34 (by decide) ?_
      refine ab_iastj (j := 1) dX12_layFacts_41 (hl43.sh 72 rfl (by decide) (by decide)) (vin (by decide)) (by decide) ?_
      refine ab_nameM (fun M63 hM63 => ?_)
      have h := h M63 hM63
      have hs66 : Sm M41 M63 := hM63 ▸ (Sm.refl _).i
      have hm64 : Sm M M63 := hm42.trans hs66
      have hl65 := hL.of hm64
      refine ab_aload_n 0 dX12_layFacts_42 rfl ?_
      refine ab_getP (r := 72) dX12_layFacts_43 fs_12_59_12 rfl (hl65.sh 62 rfl (by decide) (by decide)).1 (hl65.sh 62 rfl (by decide) (by decide)).2 (hl65.pt 70 rfl (by decide) (by decide)) ?_
      refine ab_iconst (v := 2) dX12_layFacts_46 (by decide) ?_
      refine ab_aload_n 0 dX12_layFacts_47 rfl ?_
      refine ab_getI dX12_layFacts_48 fs_12_96_12 rfl (hl65.sh 62 rfl (by decide) (by decide)).1 (hl65.sh 62 rfl (by decide) (by decide)).2 ?_
      refine ab_iastj (j := 2) dX12_layFacts_51 (hl65.sh 72 rfl (by decide) (by decide)) (vin (by decide)) (by decide) ?_
      refine ab_nameM (fun M67 hM67 => ?_)
      have h := h M67 hM67
      have hs70 : Sm M63 M67 := hM67 ▸ (Sm.refl _).i
      have hm68 : Sm M M67 := hm64.trans hs70
      have hl69 := hL.of hm68
      refine ab_aload_n 0 dX12_layFacts_52 rfl ?_
      refine ab_getP (r := 72) dX12_layFacts_53 fs_12_59_12 rfl (hl69.sh 62 rfl (by decide) (by decide)).1 (hl69.sh 62 rfl (by decide) (by decide)).2 (hl69.pt 70 rfl (by decide) (by decide)) ?_
      refine ab_iconst (v := 3) dX12_layFacts_56 (by decide) ?_
      refine ab_iload_n 1 dX12_layFacts_57 rfl ?_
      refine ab_if_ne (tgt := 68) dX12_layFacts_58 (by decide) (fun c71 => ?_) (fun c71 => ?_)
      · have h := h.1 c71
        refine ab_bipush (v := 20) dX12_layFacts_68 (by decide) ?_
        refine ab_aload_n 0 dX12_layFacts_70 rfl ?_
        refine ab_getI dX12_layFacts_71 fs_12_99_12 rfl (hl69.sh 62 rfl (by decide) (by decide)).1 (hl69.sh 62 rfl (by decide) (by decide)).2 ?_
        refine ab_isub dX12_layFacts_74 ?_
        refine ab_iastj (j := 3) dX12_layFacts_75 (hl69.sh 72 rfl (by decide) (by decide)) (vin (by decide)) (by decide) ?_
        refine ab_nameM (fun M72 hM72 => ?_)
        have h := h M72 hM72
        have hs75 : Sm M67 M72 := hM72 ▸ (Sm.refl _).i
        have hm73 : Sm M M72 := hm68.trans hs75
        have hl74 := hL.of hm73
        exact ab_vret dX12_layFacts_76 rfl h
      · have h := h.2 c71
        refine ab_aload_n 0 dX12_layFacts_61 rfl ?_
        refine ab_getI dX12_layFacts_62 fs_12_99_12 rfl (hl69.sh 62 rfl (by decide) (by decide)).1 (hl69.sh 62 rfl (by decide) (by decide)).2 ?_
        refine ab_goto (tgt := 75) dX12_layFacts_65 (by decide) ?_
        refine ab_iastj (j := 3) dX12_layFacts_75 (hl69.sh 72 rfl (by decide) (by decide)) (vin (by decide)) (by decide) ?_
        refine ab_nameM (fun M76 hM76 => ?_)
        have h := h M76 hM76
        have hs79 : Sm M67 M76 := hM76 ▸ (Sm.refl _).i
        have hm77 : Sm M M76 := hm68.trans hs79
        have hl78 := hL.of hm77
        exact ab_vret dX12_layFacts_76 rfl h
theorem dX12_sumOf_0 : decode cX12_sumOf 0 = .ok (.iconst 0, 1) := by decide +kernel
theorem dX12_sumOf_1 : decode cX12_sumOf 1 = .ok (.istore_n 3, 1) := by decide +kernel
theorem dX12_sumOf_2 : decode cX12_sumOf 2 = .ok (.bipush 8, 2) := by decide +kernel
theorem dX12_sumOf_4 : decode cX12_sumOf 4 = .ok (.aload_n 0, 1) := by decide +kernel
theorem dX12_sumOf_5 : decode cX12_sumOf 5 = .ok (.getfield 75, 3) := by decide +kernel
theorem dX12_sumOf_8 : decode cX12_sumOf 8 = .ok (.iload_n 1, 1) := by decide +kernel
theorem dX12_sumOf_9 : decode cX12_sumOf 9 = .ok (.iaload, 1) := by decide +kernel
theorem dX12_sumOf_10 : decode cX12_sumOf 10 = .ok (.imul, 1) := by decide +kernel
theorem dX12_sumOf_11 : decode cX12_sumOf 11 = .ok (.istore 4, 2) := by decide +kernel
theorem dX12_sumOf_13 : decode cX12_sumOf 13 = .ok (.iload 4, 2) := by decide +kernel
theorem dX12_sumOf_15 : decode cX12_sumOf 15 = .ok (.bipush 8, 2) := by decide +kernel
theorem dX12_sumOf_17 : decode cX12_sumOf 17 = .ok (.aload_n 0, 1) := by decide +kernel
theorem dX12_sumOf_18 : decode cX12_sumOf 18 = .ok (.getfield 75, 3) := by decide +kernel
theorem dX12_sumOf_21 : decode cX12_sumOf 21 = .ok (.iload_n 1, 1) := by decide +kernel
theorem dX12_sumOf_22 : decode cX12_sumOf 22 = .ok (.iaload, 1) := by decide +kernel
theorem dX12_sumOf_23 : decode cX12_sumOf 23 = .ok (.imul, 1) := by decide +kernel
theorem dX12_sumOf_24 : decode cX12_sumOf 24 = .ok (.aload_n 0, 1) := by decide +kernel
theorem dX12_sumOf_25 : decode cX12_sumOf 25 = .ok (.getfield 29, 3) := by decide +kernel
theorem dX12_sumOf_28 : decode cX12_sumOf 28 = .ok (.aload_n 0, 1) := by decide +kernel
theorem dX12_sumOf_29 : decode cX12_sumOf 29 = .ok (.getfield 75, 3) := by decide +kernel
theorem dX12_sumOf_32 : decode cX12_sumOf 32 = .ok (.iload_n 1, 1) := by decide +kernel
theorem dX12_sumOf_33 : decode cX12_sumOf 33 = .ok (.iaload, 1) := by decide +kernel
theorem dX12_sumOf_34 : decode cX12_sumOf 34 = .ok (.iaload, 1) := by decide +kernel
theorem dX12_sumOf_35 : decode cX12_sumOf 35 = .ok (.iadd, 1) := by decide +kernel
theorem dX12_sumOf_36 : decode cX12_sumOf 36 = .ok (.if_icmp .ge 43, 3) := by decide +kernel
theorem dX12_sumOf_39 : decode cX12_sumOf 39 = .ok (.iload_n 3, 1) := by decide +kernel
theorem dX12_sumOf_40 : decode cX12_sumOf 40 = .ok (.aload_n 0, 1) := by decide +kernel
theorem dX12_sumOf_41 : decode cX12_sumOf 41 = .ok (.getfield 32, 3) := by decide +kernel
theorem dX12_sumOf_44 : decode cX12_sumOf 44 = .ok (.iload 4, 2) := by decide +kernel
theorem dX12_sumOf_46 : decode cX12_sumOf 46 = .ok (.iaload, 1) := by decide +kernel
theorem dX12_sumOf_47 : decode cX12_sumOf 47 = .ok (.iload_n 2, 1) := by decide +kernel
theorem dX12_sumOf_48 : decode cX12_sumOf 48 = .ok (.if_icmp .ne 22, 3) := by decide +kernel
theorem dX12_sumOf_51 : decode cX12_sumOf 51 = .ok (.aload_n 0, 1) := by decide +kernel
theorem dX12_sumOf_52 : decode cX12_sumOf 52 = .ok (.iload 4, 2) := by decide +kernel
theorem dX12_sumOf_54 : decode cX12_sumOf 54 = .ok (.invokevirtual 247, 3) := by decide +kernel
theorem dX12_sumOf_57 : decode cX12_sumOf 57 = .ok (.ifCond .eq 13, 3) := by decide +kernel
theorem dX12_sumOf_60 : decode cX12_sumOf 60 = .ok (.aload_n 0, 1) := by decide +kernel
theorem dX12_sumOf_61 : decode cX12_sumOf 61 = .ok (.getfield 35, 3) := by decide +kernel
theorem dX12_sumOf_64 : decode cX12_sumOf 64 = .ok (.iload 4, 2) := by decide +kernel
theorem dX12_sumOf_66 : decode cX12_sumOf 66 = .ok (.iaload, 1) := by decide +kernel
theorem dX12_sumOf_67 : decode cX12_sumOf 67 = .ok (.goto 4, 3) := by decide +kernel
theorem dX12_sumOf_70 : decode cX12_sumOf 70 = .ok (.iconst 0, 1) := by decide +kernel
theorem dX12_sumOf_71 : decode cX12_sumOf 71 = .ok (.iadd, 1) := by decide +kernel
theorem dX12_sumOf_72 : decode cX12_sumOf 72 = .ok (.istore_n 3, 1) := by decide +kernel
theorem dX12_sumOf_73 : decode cX12_sumOf 73 = .ok (.iinc 4 1, 3) := by decide +kernel
theorem dX12_sumOf_76 : decode cX12_sumOf 76 = .ok (.goto (-63), 3) := by decide +kernel
theorem dX12_sumOf_79 : decode cX12_sumOf 79 = .ok (.iload_n 3, 1) := by decide +kernel
theorem dX12_sumOf_80 : decode cX12_sumOf 80 = .ok (.ireturn, 1) := by decide +kernel
def LX12_sumOf_13 (D : GD) (d : Nat) (v1 : Int32) (v2 : Int32) (v3 : Int32) (v4 : Int32) (M : Mm) (post : Option Value → Mm → Prop) : Prop := AW D (d + 1) 0 0 mX12_sumOf 0 0 13 [(0, .ref 62), (1, .int v1), (2, .int v2), (3, .int v3), (4, .int v4)] [] M post
set_option maxRecDepth 20000 in
theorem rX12_sumOf (D : GD) (d : Nat) (a1 : Int32) (a2 : Int32) (M : Mm) (post : Option Value → Mm → Prop) (hL : Lay 62 98 M) 
    (h : vp_in a1 11 ∧ ∀ x2 : Int32, x2 = ((8 : Int32) * (gI M 76 a1.toNatClampNeg)) → LX12_sumOf_13 D d a1 a2 (0 : Int32) x2 M post) :
    AM D (d + 1) 0 0 mX12_sumOf [.ref 62, .int a1, .int a2] M post := by
  refine AM.of (by decide) (Nat.le_of_ble_eq_true rfl) ?_
  show AW D (d + 1) 0 0 mX12_sumOf 0 0 0 [(0, .ref 62), (1, .int a1), (2, .int a2)] [] M post
  refine ab_iconst (v := 0) dX12_sumOf_0 (by decide) ?_
  refine ab_istore_n (lv1 := [(3, .int (0 : Int32)), (0, .ref 62), (1, .int a1), (2, .int a2)]) dX12_sumOf_1 (by decide) rfl ?_
  refine ab_bipush (v := 8) dX12_sumOf_2 (by decide) ?_
  refine ab_aload_n 1 dX12_sumOf_4 rfl ?_
  refine ab_getP (r := 76) dX12_sumOf_5 fs_12_75_12 rfl (hL.sh 62 rfl (by decide) (by decide)).1 (hL.sh 62 rfl (by decide) (by decide)).2 (hL.pt 74 rfl (by decide) (by decide)) ?_
  refine ab_iload_n 2 dX12_sumOf_8 rfl ?_
  have hb1 := h.1
  have h := h.2
  refine ab_ialdj (j := a1.toNatClampNeg) dX12_sumOf_9 (hL.sh 76 rfl (by decide) (by decide)) hb1 rfl ?_
  refine ab_imul dX12_sumOf_10 ?_
  refine ab_topi (fun x2 hx2 => ?_)
  have h := h x2 hx2
  refine ab_istore (lv1 := [(4, .int x2), (3, .int (0 : Int32)), (0, .ref 62), (1, .int a1), (2, .int a2)]) dX12_sumOf_11 (by decide) rfl ?_
  exact ab_sub [2, 3, 4, 1, 0] rfl h
set_option maxRecDepth 20000 in
theorem rX12_sumOf_13 (D : GD) (d : Nat)  (v1 : Int32) (v2 : Int32) (v3 : Int32) (v4 : Int32) (M : Mm) (post : Option Value → Mm → Prop) (hL : Lay 62 98 M) 
    (h : vp_in v1 11 ∧ vp_in (gI M 76 v1.toNatClampNeg) 7 ∧ (((((8 : Int32) * (gI M 76 v1.toNatClampNeg)) + (gI M 65 ((gI M 76 v1.toNatClampNeg).toNatClampNeg))) ≤ v4 → post (some (.int v3)) M) ∧ (¬ (((8 : Int32) * (gI M 76 v1.toNatClampNeg)) + (gI M 65 ((gI M 76 v1.toNatClampNeg).toNatClampNeg))) ≤ v4 → vp_in v4 56 ∧ ((¬ (gI M 66 v4.toNatClampNeg) = v2 → ∀ x6 : Int32, x6 = (v3 + (0 : Int32)) → ∀ x7 : Int32, x7 = v4 + (1 : Int32) → LX12_sumOf_13 D d v1 v2 x6 x7 M post) ∧ ((gI M 66 v4.toNatClampNeg) = v2 → AMi D d mX12_holds [.ref 62, .int v4] M (fun x9 M8 => ((x9 = 0 → ∀ x15 : Int32, x15 = (v3 + (0 : Int32)) → ∀ x16 : Int32, x16 = v4 + (1 : Int32) → LX12_sumOf_13 D d v1 v2 x15 x16 M8 post) ∧ (¬ x9 = 0 → ∀ x17 : Int32, x17 = (v3 + (gI M8 67 v4.toNatClampNeg)) → ∀ x18 : Int32, x18 = v4 + (1 : Int32) → LX12_sumOf_13 D d v1 v2 x17 x18 M8 post)))))))) :
    LX12_sumOf_13 D d v1 v2 v3 v4 M post := by
  show AW D (d + 1) 0 0 mX12_sumOf 0 0 13 [(0, .ref 62), (1, .int v1), (2, .int v2), (3, .int v3), (4, .int v4)] [] M post
  refine ab_iload 4 dX12_sumOf_13 rfl ?_
  refine ab_bipush (v := 8) dX12_sumOf_15 (by decide) ?_
  refine ab_aload_n 0 dX12_sumOf_17 rfl ?_
  refine ab_getP (r := 76) dX12_sumOf_18 fs_12_75_12 rfl (hL.sh 62 rfl (by decide) (by decide)).1 (hL.sh 62 rfl (by decide) (by decide)).2 (hL.pt 74 rfl (by decide) (by decide)) ?_
  refine ab_iload_n 1 dX12_sumOf_21 rfl ?_
  have hb1 := h.1
  have h := h.2
  refine ab_ialdj (j := v1.toNatClampNeg) dX12_sumOf_22 (hL.sh 76 rfl (by decide) (by decide)) hb1 rfl ?_
  refine ab_imul dX12_sumOf_23 ?_
  refine ab_aload_n 0 dX12_sumOf_24 rfl ?_
  refine ab_getP (r := 65) dX12_sumOf_25 fs_12_29_12 rfl (hL.sh 62 rfl (by decide) (by decide)).1 (hL.sh 62 rfl (by decide) (by decide)).2 (hL.pt 63 rfl (by decide) (by decide)) ?_
  refine ab_aload_n 0 dX12_sumOf_28 rfl ?_
  refine ab_getP (r := 76) dX12_sumOf_29 fs_12_75_12 rfl (hL.sh 62 rfl (by decide) (by decide)).1 (hL.sh 62 rfl (by decide) (by decide)).2 (hL.pt 74 rfl (by decide) (by decide)) ?_
  refine ab_iload_n 1 dX12_sumOf_32 rfl ?_
  refine ab_ialdj (j := v1.toNatClampNeg) dX12_sumOf_33 (hL.sh 76 rfl (by decide) (by decide)) hb1 rfl ?_
  have hb2 := h.1
  have h := h.2
  refine ab_ialdj (j := (gI M 76 v1.toNatClampNeg).toNatClampNeg) dX12_sumOf_34 (hL.sh 65 rfl (by decide) (by decide)) hb2 rfl ?_
  refine ab_iadd dX12_sumOf_35 ?_
  refine ab_icmp_ge (tgt := 79) dX12_sumOf_36 (by decide) (fun c3 => ?_) (fun c3 => ?_)
  · have h := h.1 c3
    refine ab_iload_n 3 dX12_sumOf_79 rfl ?_
    exact ab_iret dX12_sumOf_80 rfl h
  · have h := h.2 c3
    refine ab_iload_n 3 dX12_sumOf_39 rfl ?_
    refine ab_aload_n 0 dX12_sumOf_40 rfl ?_
    refine ab_getP (r := 66) dX12_sumOf_41 fs_12_32_12 rfl (hL.sh 62 rfl (by decide) (by decide)).1 (hL.sh 62 rfl (by decide) (by decide)).2 (hL.pt 64 rfl (by decide) (by decide)) ?_
    refine ab_iload 4 dX12_sumOf_44 rfl ?_
    have hb4 := h.1
    have h := h.2
    refine ab_ialdj (j := v4.toNatClampNeg) dX12_sumOf_46 (hL.sh 66 rfl (by decide) (by decide)) hb4 rfl ?_
    refine ab_iload_n 2 dX12_sumOf_47 rfl ?_
    refine ab_icmp_ne (tgt := 70) dX12_sumOf_48 (by decide) (fun c5 => ?_) (fun c5 => ?_)
    · have h := h.1 c5
      refine ab_iconst (v := 0) dX12_sumOf_70 (by decide) ?_
      refine ab_iadd dX12_sumOf_71 ?_
      refine ab_topi (fun x6 hx6 => ?_)
      have h := h x6 hx6
      refine ab_istore_n (lv1 := [(3, .int x6), (0, .ref 62), (1, .int v1), (2, .int v2), (4, .int v4)]) dX12_sumOf_72 (by decide) rfl ?_
      obtain ⟨x7, hx7⟩ : ∃ y : Int32, y = v4 + (1 : Int32) := ⟨_, rfl⟩
      have h := h x7 hx7
      refine ab_iinc (v := x7) 4 (lv1 := [(4, .int x7), (3, .int x6), (0, .ref 62), (1, .int v1), (2, .int v2)]) dX12_sumOf_73 rfl (by rw [hx7]; rfl) (by decide) rfl ?_
      refine ab_goto (tgt := 13) dX12_sumOf_76 (by decide) ?_
      exact ab_sub [2, 3, 4, 1, 0] rfl h
    · have h := h.2 c5
      refine ab_aload_n 0 dX12_sumOf_51 rfl ?_
      refine ab_iload 4 dX12_sumOf_52 rfl ?_
      refine ab_callV (a := 62) (c0 := 12) (d' := d) (mc' := 0) (ms' := 0) (vs := [.int v4]) (st := [.int v3]) dX12_sumOf_54 ⟨cw_X12_holds, w_1303⟩ w_1305 w_48 (by decide) (hL.sh 62 rfl (by decide) (by decide)).1 (hL.sh 62 rfl (by decide) (by decide)).2 rfl rfl (Nat.le_of_ble_eq_true rfl) (Nat.le_refl _) (Nat.zero_le _) (Nat.zero_le _) (AM.mono h (fun r M8 ⟨x9, hr10, hc11, h⟩ => ?_))
      subst hr10
      refine ab_rs ?_
      have hm12 : Sm M M8 := (Sm.refl M).trans hc11
      have hl13 := hL.of hm12
      refine ab_if_eq (tgt := 70) dX12_sumOf_57 (by decide) (fun c14 => ?_) (fun c14 => ?_)
      · have h := h.1 c14
        refine ab_iconst (v := 0) dX12_sumOf_70 (by decide) ?_
        refine ab_iadd dX12_sumOf_71 ?_
        refine ab_topi (fun x15 hx15 => ?_)
        have h := h x15 hx15
        refine ab_istore_n (lv1 := [(3, .int x15), (0, .ref 62), (1, .int v1), (2, .int v2), (4, .int v4)]) dX12_sumOf_72 (by decide) rfl ?_
        obtain ⟨x16, hx16⟩ : ∃ y : Int32, y = v4 + (1 : Int32) := ⟨_, rfl⟩
        have h := h x16 hx16
        refine ab_iinc (v := x16) 4 (lv1 := [(4, .int x16), (3, .int x15), (0, .ref 62), (1, .int v1), (2, .int v2)]) dX12_sumOf_73 rfl (by rw [hx16]; rfl) (by decide) rfl ?_
        refine ab_goto (tgt := 13) dX12_sumOf_76 (by decide) ?_
        exact ab_sub [2, 3, 4, 1, 0] rfl h
      · have h := h.2 c14
        refine ab_aload_n 0 dX12_sumOf_60 rfl ?_
        refine ab_getP (r := 67) dX12_sumOf_61 fs_12_35_12 rfl (hl13.sh 62 rfl (by decide) (by decide)).1 (hl13.sh 62 rfl (by decide) (by decide)).2 (hl13.pt 65 rfl (by decide) (by decide)) ?_
        refine ab_iload 4 dX12_sumOf_64 rfl ?_
        refine ab_ialdj (j := v4.toNatClampNeg) dX12_sumOf_66 (hl13.sh 67 rfl (by decide) (by decide)) hb4 rfl ?_
        refine ab_goto (tgt := 71) dX12_sumOf_67 (by decide) ?_
        refine ab_iadd dX12_sumOf_71 ?_
        refine ab_topi (fun x17 hx17 => ?_)
        have h := h x17 hx17
        refine ab_istore_n (lv1 := [(3, .int x17), (0, .ref 62), (1, .int v1), (2, .int v2), (4, .int v4)]) dX12_sumOf_72 (by decide) rfl ?_
        obtain ⟨x18, hx18⟩ : ∃ y : Int32, y = v4 + (1 : Int32) := ⟨_, rfl⟩
        have h := h x18 hx18
        refine ab_iinc (v := x18) 4 (lv1 := [(4, .int x18), (3, .int x17), (0, .ref 62), (1, .int v1), (2, .int v2)]) dX12_sumOf_73 rfl (by rw [hx18]; rfl) (by decide) rfl ?_
        refine ab_goto (tgt := 13) dX12_sumOf_76 (by decide) ?_
        exact ab_sub [2, 3, 4, 1, 0] rfl h
theorem dX12_bound_0 : decode cX12_bound 0 = .ok (.iconst 0, 1) := by decide +kernel
theorem dX12_bound_1 : decode cX12_bound 1 = .ok (.istore_n 2, 1) := by decide +kernel
theorem dX12_bound_2 : decode cX12_bound 2 = .ok (.iconst 3, 1) := by decide +kernel
theorem dX12_bound_3 : decode cX12_bound 3 = .ok (.iload_n 1, 1) := by decide +kernel
theorem dX12_bound_4 : decode cX12_bound 4 = .ok (.imul, 1) := by decide +kernel
theorem dX12_bound_5 : decode cX12_bound 5 = .ok (.istore_n 3, 1) := by decide +kernel
theorem dX12_bound_6 : decode cX12_bound 6 = .ok (.iload_n 3, 1) := by decide +kernel
theorem dX12_bound_7 : decode cX12_bound 7 = .ok (.iconst 3, 1) := by decide +kernel
theorem dX12_bound_8 : decode cX12_bound 8 = .ok (.iload_n 1, 1) := by decide +kernel
theorem dX12_bound_9 : decode cX12_bound 9 = .ok (.imul, 1) := by decide +kernel
theorem dX12_bound_10 : decode cX12_bound 10 = .ok (.iconst 3, 1) := by decide +kernel
theorem dX12_bound_11 : decode cX12_bound 11 = .ok (.iadd, 1) := by decide +kernel
theorem dX12_bound_12 : decode cX12_bound 12 = .ok (.if_icmp .ge 46, 3) := by decide +kernel
theorem dX12_bound_15 : decode cX12_bound 15 = .ok (.aload_n 0, 1) := by decide +kernel
theorem dX12_bound_16 : decode cX12_bound 16 = .ok (.getfield 87, 3) := by decide +kernel
theorem dX12_bound_19 : decode cX12_bound 19 = .ok (.iload_n 3, 1) := by decide +kernel
theorem dX12_bound_20 : decode cX12_bound 20 = .ok (.aload_n 0, 1) := by decide +kernel
theorem dX12_bound_21 : decode cX12_bound 21 = .ok (.getfield 87, 3) := by decide +kernel
theorem dX12_bound_24 : decode cX12_bound 24 = .ok (.iload_n 3, 1) := by decide +kernel
theorem dX12_bound_25 : decode cX12_bound 25 = .ok (.iaload, 1) := by decide +kernel
theorem dX12_bound_26 : decode cX12_bound 26 = .ok (.bipush 99, 2) := by decide +kernel
theorem dX12_bound_28 : decode cX12_bound 28 = .ok (.if_icmp .le 8, 3) := by decide +kernel
theorem dX12_bound_31 : decode cX12_bound 31 = .ok (.bipush 99, 2) := by decide +kernel
theorem dX12_bound_33 : decode cX12_bound 33 = .ok (.goto 9, 3) := by decide +kernel
theorem dX12_bound_36 : decode cX12_bound 36 = .ok (.aload_n 0, 1) := by decide +kernel
theorem dX12_bound_37 : decode cX12_bound 37 = .ok (.getfield 87, 3) := by decide +kernel
theorem dX12_bound_40 : decode cX12_bound 40 = .ok (.iload_n 3, 1) := by decide +kernel
theorem dX12_bound_41 : decode cX12_bound 41 = .ok (.iaload, 1) := by decide +kernel
theorem dX12_bound_42 : decode cX12_bound 42 = .ok (.iastore, 1) := by decide +kernel
theorem dX12_bound_43 : decode cX12_bound 43 = .ok (.iload_n 2, 1) := by decide +kernel
theorem dX12_bound_44 : decode cX12_bound 44 = .ok (.aload_n 0, 1) := by decide +kernel
theorem dX12_bound_45 : decode cX12_bound 45 = .ok (.getfield 87, 3) := by decide +kernel
theorem dX12_bound_48 : decode cX12_bound 48 = .ok (.iload_n 3, 1) := by decide +kernel
theorem dX12_bound_49 : decode cX12_bound 49 = .ok (.iaload, 1) := by decide +kernel
theorem dX12_bound_50 : decode cX12_bound 50 = .ok (.iadd, 1) := by decide +kernel
theorem dX12_bound_51 : decode cX12_bound 51 = .ok (.istore_n 2, 1) := by decide +kernel
theorem dX12_bound_52 : decode cX12_bound 52 = .ok (.iinc 3 1, 3) := by decide +kernel
theorem dX12_bound_55 : decode cX12_bound 55 = .ok (.goto (-49), 3) := by decide +kernel
theorem dX12_bound_58 : decode cX12_bound 58 = .ok (.iload_n 2, 1) := by decide +kernel
theorem dX12_bound_59 : decode cX12_bound 59 = .ok (.ifCond .ne 14, 3) := by decide +kernel
theorem dX12_bound_62 : decode cX12_bound 62 = .ok (.aload_n 0, 1) := by decide +kernel
theorem dX12_bound_63 : decode cX12_bound 63 = .ok (.getfield 87, 3) := by decide +kernel
theorem dX12_bound_66 : decode cX12_bound 66 = .ok (.iconst 3, 1) := by decide +kernel
theorem dX12_bound_67 : decode cX12_bound 67 = .ok (.iload_n 1, 1) := by decide +kernel
theorem dX12_bound_68 : decode cX12_bound 68 = .ok (.imul, 1) := by decide +kernel
theorem dX12_bound_69 : decode cX12_bound 69 = .ok (.iconst 1, 1) := by decide +kernel
theorem dX12_bound_70 : decode cX12_bound 70 = .ok (.iadd, 1) := by decide +kernel
theorem dX12_bound_71 : decode cX12_bound 71 = .ok (.iconst 1, 1) := by decide +kernel
theorem dX12_bound_72 : decode cX12_bound 72 = .ok (.iastore, 1) := by decide +kernel
theorem dX12_bound_73 : decode cX12_bound 73 = .ok (.return_, 1) := by decide +kernel
def LX12_bound_6 (D : GD) (d : Nat) (v1 : Int32) (v2 : Int32) (v3 : Int32) (M : Mm) (post : Option Value → Mm → Prop) : Prop := AW D d 0 0 mX12_bound 0 0 6 [(0, .ref 62), (1, .int v1), (2, .int v2), (3, .int v3)] [] M post
set_option maxRecDepth 20000 in
theorem rX12_bound (D : GD) (d : Nat) (a1 : Int32) (M : Mm) (post : Option Value → Mm → Prop) (hL : Lay 62 98 M) 
    (h : ∀ x1 : Int32, x1 = ((3 : Int32) * a1) → LX12_bound_6 D d a1 (0 : Int32) x1 M post) :
    AM D d 0 0 mX12_bound [.ref 62, .int a1] M post := by
  refine AM.of (by decide) (Nat.le_of_ble_eq_true rfl) ?_
  show AW D d 0 0 mX12_bound 0 0 0 [(0, .ref 62), (1, .int a1)] [] M post
  refine ab_iconst (v := 0) dX12_bound_0 (by decide) ?_
  refine ab_istore_n (lv1 := [(2, .int (0 : Int32)), (0, .ref 62), (1, .int a1)]) dX12_bound_1 (by decide) rfl ?_
  refine ab_iconst (v := 3) dX12_bound_2 (by decide) ?_
  refine ab_iload_n 2 dX12_bound_3 rfl ?_
  refine ab_imul dX12_bound_4 ?_
  refine ab_topi (fun x1 hx1 => ?_)
  have h := h x1 hx1
  refine ab_istore_n (lv1 := [(3, .int x1), (2, .int (0 : Int32)), (0, .ref 62), (1, .int a1)]) dX12_bound_5 (by decide) rfl ?_
  exact ab_sub [2, 3, 1, 0] rfl h
set_option maxRecDepth 20000 in
theorem rX12_bound_6 (D : GD) (d : Nat)  (v1 : Int32) (v2 : Int32) (v3 : Int32) (M : Mm) (post : Option Value → Mm → Prop) (hL : Lay 62 98 M) 
    (h : (((((3 : Int32) * v1) + (3 : Int32)) ≤ v3 → ((¬ v2 = 0 → post none M) ∧ (v2 = 0 → vp_in (((3 : Int32) * v1) + (1 : Int32)) 6 ∧ ∀ M4 : Mm, M4 = sI M 78 ((((3 : Int32) * v1) + (1 : Int32)).toNatClampNeg) (1 : Int32) → post none M4))) ∧ (¬ (((3 : Int32) * v1) + (3 : Int32)) ≤ v3 → vp_in v3 6 ∧ (((gI M 78 v3.toNatClampNeg) ≤ (99 : Int32) → ∀ M10 : Mm, M10 = sI M 78 v3.toNatClampNeg (gI M 78 v3.toNatClampNeg) → ∀ x14 : Int32, x14 = (v2 + (gI M10 78 v3.toNatClampNeg)) → ∀ x15 : Int32, x15 = v3 + (1 : Int32) → LX12_bound_6 D d v1 x14 x15 M10 post) ∧ (¬ (gI M 78 v3.toNatClampNeg) ≤ (99 : Int32) → ∀ M16 : Mm, M16 = sI M 78 v3.toNatClampNeg (99 : Int32) → ∀ x20 : Int32, x20 = (v2 + (gI M16 78 v3.toNatClampNeg)) → ∀ x21 : Int32, x21 = v3 + (1 : Int32) → LX12_bound_6 D d v1 x20 x21 M16 post))))) :
    LX12_bound_6 D d v1 v2 v3 M post := by
  show AW D d 0 0 mX12_bound 0 0 6 [(0, .ref 62), (1, .int v1), (2, .int v2), (3, .int v3)] [] M post
  refine ab_iload_n 3 dX12_bound_6 rfl ?_
  refine ab_iconst (v := 3) dX12_bound_7 (by decide) ?_
  refine ab_iload_n 1 dX12_bound_8 rfl ?_
  refine ab_imul dX12_bound_9 ?_
  refine ab_iconst (v := 3) dX12_bound_10 (by decide) ?_
  refine ab_iadd dX12_bound_11 ?_
  refine ab_icmp_ge (tgt := 58) dX12_bound_12 (by decide) (fun c1 => ?_) (fun c1 => ?_)
  · have h := h.1 c1
    refine ab_iload_n 2 dX12_bound_58 rfl ?_
    refine ab_if_ne (tgt := 73) dX12_bound_59 (by decide) (fun c2 => ?_) (fun c2 => ?_)
    · have h := h.1 c2
      exact ab_vret dX12_bound_73 rfl h
    · have h := h.2 c2
      refine ab_aload_n 0 dX12_bound_62 rfl ?_
      refine ab_getP (r := 78) dX12_bound_63 fs_12_87_12 rfl (hL.sh 62 rfl (by decide) (by decide)).1 (hL.sh 62 rfl (by decide) (by decide)).2 (hL.pt 76 rfl (by decide) (by decide)) ?_
      refine ab_iconst (v := 3) dX12_bound_66 (by decide) ?_
      refine ab_iload_n 1 dX12_bound_67 rfl ?_
      refine ab_imul dX12_bound_68 ?_
      refine ab_iconst (v := 1) dX12_bound_69 (by decide) ?_
      refine ab_iadd dX12_bound_70 ?_
      refine ab_iconst (v := 1) dX12_bound_71 (by decide) ?_
      have hb3 := h.1
      have h := h.2
      refine ab_iastj (j := (((3 : Int32) * v1) + (1 : Int32)).toNatClampNeg) dX12_bound_72 (hL.sh 78 rfl (by decide) (by decide)) hb3 rfl ?_
      refine ab_nameM (fun M4 hM4 => ?_)
      have h := h M4 hM4
      have hs7 : Sm M M4 := hM4 ▸ (Sm.refl _).i
      have hm5 : Sm M M4 := (Sm.refl M).trans hs7
      have hl6 := hL.of hm5
      exact ab_vret dX12_bound_73 rfl h
  · have h := h.2 c1
    refine ab_aload_n 0 dX12_bound_15 rfl ?_
    refine ab_getP (r := 78) dX12_bound_16 fs_12_87_12 rfl (hL.sh 62 rfl (by decide) (by decide)).1 (hL.sh 62 rfl (by decide) (by decide)).2 (hL.pt 76 rfl (by decide) (by decide)) ?_
    refine ab_iload_n 3 dX12_bound_19 rfl ?_
    refine ab_aload_n 0 dX12_bound_20 rfl ?_
    refine ab_getP (r := 78) dX12_bound_21 fs_12_87_12 rfl (hL.sh 62 rfl (by decide) (by decide)).1 (hL.sh 62 rfl (by decide) (by decide)).2 (hL.pt 76 rfl (by decide) (by decide)) ?_
    refine ab_iload_n 3 dX12_bound_24 rfl ?_
    have hb8 := h.1
    have h := h.2
    refine ab_ialdj (j := v3.toNatClampNeg) dX12_bound_25 (hL.sh 78 rfl (by decide) (by decide)) hb8 rfl ?_
    refine ab_bipush (v := 99) dX12_bound_26 (by decide) ?_
    refine ab_icmp_le (tgt := 36) dX12_bound_28 (by decide) (fun c9 => ?_) (fun c9 => ?_)
    · have h := h.1 c9
      refine ab_aload_n 0 dX12_bound_36 rfl ?_
      refine ab_getP (r := 78) dX12_bound_37 fs_12_87_12 rfl (hL.sh 62 rfl (by decide) (by decide)).1 (hL.sh 62 rfl (by decide) (by decide)).2 (hL.pt 76 rfl (by decide) (by decide)) ?_
      refine ab_iload_n 3 dX12_bound_40 rfl ?_
      refine ab_ialdj (j := v3.toNatClampNeg) dX12_bound_41 (hL.sh 78 rfl (by decide) (by decide)) hb8 rfl ?_
      refine ab_iastj (j := v3.toNatClampNeg) dX12_bound_42 (hL.sh 78 rfl (by decide) (by decide)) hb8 rfl ?_
      refine ab_nameM (fun M10 hM10 => ?_)
      have h := h M10 hM10
      have hs13 : Sm M M10 := hM10 ▸ (Sm.refl _).i
      have hm11 : Sm M M10 := (Sm.refl M).trans hs13
      have hl12 := hL.of hm11
      refine ab_iload_n 2 dX12_bound_43 rfl ?_
      refine ab_aload_n 0 dX12_bound_44 rfl ?_
      refine ab_getP (r := 78) dX12_bound_45 fs_12_87_12 rfl (hl12.sh 62 rfl (by decide) (by decide)).1 (hl12.sh 62 rfl (by decide) (by decide)).2 (hl12.pt 76 rfl (by decide) (by decide)) ?_
      refine ab_iload_n 3 dX12_bound_48 rfl ?_
      refine ab_ialdj (j := v3.toNatClampNeg) dX12_bound_49 (hl12.sh 78 rfl (by decide) (by decide)) hb8 rfl ?_
      refine ab_iadd dX12_bound_50 ?_
      refine ab_topi (fun x14 hx14 => ?_)
      have h := h x14 hx14
      refine ab_istore_n (lv1 := [(2, .int x14), (0, .ref 62), (1, .int v1), (3, .int v3)]) dX12_bound_51 (by decide) rfl ?_
      obtain ⟨x15, hx15⟩ : ∃ y : Int32, y = v3 + (1 : Int32) := ⟨_, rfl⟩
      have h := h x15 hx15
      refine ab_iinc (v := x15) 3 (lv1 := [(3, .int x15), (2, .int x14), (0, .ref 62), (1, .int v1)]) dX12_bound_52 rfl (by rw [hx15]; rfl) (by decide) rfl ?_
      refine ab_goto (tgt := 6) dX12_bound_55 (by decide) ?_
      exact ab_sub [2, 3, 1, 0] rfl h
    · have h := h.2 c9
      refine ab_bipush (v := 99) dX12_bound_31 (by decide) ?_
      refine ab_goto (tgt := 42) dX12_bound_33 (by decide) ?_
      refine ab_iastj (j := v3.toNatClampNeg) dX12_bound_42 (hL.sh 78 rfl (by decide) (by decide)) hb8 rfl ?_
      refine ab_nameM (fun M16 hM16 => ?_)
      have h := h M16 hM16
      have hs19 : Sm M M16 := hM16 ▸ (Sm.refl _).i
      have hm17 : Sm M M16 := (Sm.refl M).trans hs19
      have hl18 := hL.of hm17
      refine ab_iload_n 2 dX12_bound_43 rfl ?_
      refine ab_aload_n 0 dX12_bound_44 rfl ?_
      refine ab_getP (r := 78) dX12_bound_45 fs_12_87_12 rfl (hl18.sh 62 rfl (by decide) (by decide)).1 (hl18.sh 62 rfl (by decide) (by decide)).2 (hl18.pt 76 rfl (by decide) (by decide)) ?_
      refine ab_iload_n 3 dX12_bound_48 rfl ?_
      refine ab_ialdj (j := v3.toNatClampNeg) dX12_bound_49 (hl18.sh 78 rfl (by decide) (by decide)) hb8 rfl ?_
      refine ab_iadd dX12_bound_50 ?_
      refine ab_topi (fun x20 hx20 => ?_)
      have h := h x20 hx20
      refine ab_istore_n (lv1 := [(2, .int x20), (0, .ref 62), (1, .int v1), (3, .int v3)]) dX12_bound_51 (by decide) rfl ?_
      obtain ⟨x21, hx21⟩ : ∃ y : Int32, y = v3 + (1 : Int32) := ⟨_, rfl⟩
      have h := h x21 hx21
      refine ab_iinc (v := x21) 3 (lv1 := [(3, .int x21), (2, .int x20), (0, .ref 62), (1, .int v1)]) dX12_bound_52 rfl (by rw [hx21]; rfl) (by decide) rfl ?_
      refine ab_goto (tgt := 6) dX12_bound_55 (by decide) ?_
      exact ab_sub [2, 3, 1, 0] rfl h
theorem dX12_layPlain_0 : decode cX12_layPlain 0 = .ok (.aload_n 0, 1) := by decide +kernel
theorem dX12_layPlain_1 : decode cX12_layPlain 1 = .ok (.iload_n 2, 1) := by decide +kernel
theorem dX12_layPlain_2 : decode cX12_layPlain 2 = .ok (.invokevirtual 250, 3) := by decide +kernel
theorem dX12_layPlain_5 : decode cX12_layPlain 5 = .ok (.iconst 0, 1) := by decide +kernel
theorem dX12_layPlain_6 : decode cX12_layPlain 6 = .ok (.istore_n 3, 1) := by decide +kernel
theorem dX12_layPlain_7 : decode cX12_layPlain 7 = .ok (.iload_n 3, 1) := by decide +kernel
theorem dX12_layPlain_8 : decode cX12_layPlain 8 = .ok (.iconst 3, 1) := by decide +kernel
theorem dX12_layPlain_9 : decode cX12_layPlain 9 = .ok (.if_icmp .ge 178, 3) := by decide +kernel
theorem dX12_layPlain_12 : decode cX12_layPlain 12 = .ok (.aload_n 0, 1) := by decide +kernel
theorem dX12_layPlain_13 : decode cX12_layPlain 13 = .ok (.getfield 78, 3) := by decide +kernel
theorem dX12_layPlain_16 : decode cX12_layPlain 16 = .ok (.iconst 3, 1) := by decide +kernel
theorem dX12_layPlain_17 : decode cX12_layPlain 17 = .ok (.iload_n 2, 1) := by decide +kernel
theorem dX12_layPlain_18 : decode cX12_layPlain 18 = .ok (.imul, 1) := by decide +kernel
theorem dX12_layPlain_19 : decode cX12_layPlain 19 = .ok (.iload_n 3, 1) := by decide +kernel
theorem dX12_layPlain_20 : decode cX12_layPlain 20 = .ok (.iadd, 1) := by decide +kernel
theorem dX12_layPlain_21 : decode cX12_layPlain 21 = .ok (.iaload, 1) := by decide +kernel
theorem dX12_layPlain_22 : decode cX12_layPlain 22 = .ok (.istore 4, 2) := by decide +kernel
theorem dX12_layPlain_24 : decode cX12_layPlain 24 = .ok (.aload_n 0, 1) := by decide +kernel
theorem dX12_layPlain_25 : decode cX12_layPlain 25 = .ok (.getfield 69, 3) := by decide +kernel
theorem dX12_layPlain_28 : decode cX12_layPlain 28 = .ok (.iload_n 1, 1) := by decide +kernel
theorem dX12_layPlain_29 : decode cX12_layPlain 29 = .ok (.iaload, 1) := by decide +kernel
theorem dX12_layPlain_30 : decode cX12_layPlain 30 = .ok (.tableswitch 62 2 6 #[34, 62, 62, 34, 37], 34) := by decide +kernel
theorem dX12_layPlain_64 : decode cX12_layPlain 64 = .ok (.goto 105, 3) := by decide +kernel
theorem dX12_layPlain_67 : decode cX12_layPlain 67 = .ok (.iload 4, 2) := by decide +kernel
theorem dX12_layPlain_69 : decode cX12_layPlain 69 = .ok (.iload_n 3, 1) := by decide +kernel
theorem dX12_layPlain_70 : decode cX12_layPlain 70 = .ok (.iconst 1, 1) := by decide +kernel
theorem dX12_layPlain_71 : decode cX12_layPlain 71 = .ok (.if_icmp .ne 14, 3) := by decide +kernel
theorem dX12_layPlain_74 : decode cX12_layPlain 74 = .ok (.iconst 5, 1) := by decide +kernel
theorem dX12_layPlain_75 : decode cX12_layPlain 75 = .ok (.aload_n 0, 1) := by decide +kernel
theorem dX12_layPlain_76 : decode cX12_layPlain 76 = .ok (.getfield 72, 3) := by decide +kernel
theorem dX12_layPlain_79 : decode cX12_layPlain 79 = .ok (.iload_n 1, 1) := by decide +kernel
theorem dX12_layPlain_80 : decode cX12_layPlain 80 = .ok (.iaload, 1) := by decide +kernel
theorem dX12_layPlain_81 : decode cX12_layPlain 81 = .ok (.imul, 1) := by decide +kernel
theorem dX12_layPlain_82 : decode cX12_layPlain 82 = .ok (.goto 4, 3) := by decide +kernel
theorem dX12_layPlain_85 : decode cX12_layPlain 85 = .ok (.iconst 0, 1) := by decide +kernel
theorem dX12_layPlain_86 : decode cX12_layPlain 86 = .ok (.iadd, 1) := by decide +kernel
theorem dX12_layPlain_87 : decode cX12_layPlain 87 = .ok (.istore 4, 2) := by decide +kernel
theorem dX12_layPlain_89 : decode cX12_layPlain 89 = .ok (.goto 80, 3) := by decide +kernel
theorem dX12_layPlain_92 : decode cX12_layPlain 92 = .ok (.aload_n 0, 1) := by decide +kernel
theorem dX12_layPlain_93 : decode cX12_layPlain 93 = .ok (.iload_n 1, 1) := by decide +kernel
theorem dX12_layPlain_94 : decode cX12_layPlain 94 = .ok (.iload_n 3, 1) := by decide +kernel
theorem dX12_layPlain_95 : decode cX12_layPlain 95 = .ok (.invokevirtual 253, 3) := by decide +kernel
theorem dX12_layPlain_98 : decode cX12_layPlain 98 = .ok (.istore 4, 2) := by decide +kernel
theorem dX12_layPlain_100 : decode cX12_layPlain 100 = .ok (.iload 4, 2) := by decide +kernel
theorem dX12_layPlain_102 : decode cX12_layPlain 102 = .ok (.aload_n 0, 1) := by decide +kernel
theorem dX12_layPlain_103 : decode cX12_layPlain 103 = .ok (.getfield 69, 3) := by decide +kernel
theorem dX12_layPlain_106 : decode cX12_layPlain 106 = .ok (.iload_n 1, 1) := by decide +kernel
theorem dX12_layPlain_107 : decode cX12_layPlain 107 = .ok (.iaload, 1) := by decide +kernel
theorem dX12_layPlain_108 : decode cX12_layPlain 108 = .ok (.iconst 1, 1) := by decide +kernel
theorem dX12_layPlain_109 : decode cX12_layPlain 109 = .ok (.if_icmp .eq 13, 3) := by decide +kernel
theorem dX12_layPlain_112 : decode cX12_layPlain 112 = .ok (.aload_n 0, 1) := by decide +kernel
theorem dX12_layPlain_113 : decode cX12_layPlain 113 = .ok (.getfield 69, 3) := by decide +kernel
theorem dX12_layPlain_116 : decode cX12_layPlain 116 = .ok (.iload_n 1, 1) := by decide +kernel
theorem dX12_layPlain_117 : decode cX12_layPlain 117 = .ok (.iaload, 1) := by decide +kernel
theorem dX12_layPlain_118 : decode cX12_layPlain 118 = .ok (.iconst 4, 1) := by decide +kernel
theorem dX12_layPlain_119 : decode cX12_layPlain 119 = .ok (.if_icmp .ne 18, 3) := by decide +kernel
theorem dX12_layPlain_122 : decode cX12_layPlain 122 = .ok (.iload_n 3, 1) := by decide +kernel
theorem dX12_layPlain_123 : decode cX12_layPlain 123 = .ok (.aload_n 0, 1) := by decide +kernel
theorem dX12_layPlain_124 : decode cX12_layPlain 124 = .ok (.getfield 72, 3) := by decide +kernel
theorem dX12_layPlain_127 : decode cX12_layPlain 127 = .ok (.iload_n 1, 1) := by decide +kernel
theorem dX12_layPlain_128 : decode cX12_layPlain 128 = .ok (.iaload, 1) := by decide +kernel
theorem dX12_layPlain_129 : decode cX12_layPlain 129 = .ok (.if_icmp .ne 8, 3) := by decide +kernel
theorem dX12_layPlain_132 : decode cX12_layPlain 132 = .ok (.bipush 30, 2) := by decide +kernel
theorem dX12_layPlain_134 : decode cX12_layPlain 134 = .ok (.goto 4, 3) := by decide +kernel
theorem dX12_layPlain_137 : decode cX12_layPlain 137 = .ok (.iconst 0, 1) := by decide +kernel
theorem dX12_layPlain_138 : decode cX12_layPlain 138 = .ok (.iadd, 1) := by decide +kernel
theorem dX12_layPlain_139 : decode cX12_layPlain 139 = .ok (.istore 4, 2) := by decide +kernel
theorem dX12_layPlain_141 : decode cX12_layPlain 141 = .ok (.aload_n 0, 1) := by decide +kernel
theorem dX12_layPlain_142 : decode cX12_layPlain 142 = .ok (.getfield 69, 3) := by decide +kernel
theorem dX12_layPlain_145 : decode cX12_layPlain 145 = .ok (.iload_n 1, 1) := by decide +kernel
theorem dX12_layPlain_146 : decode cX12_layPlain 146 = .ok (.iaload, 1) := by decide +kernel
theorem dX12_layPlain_147 : decode cX12_layPlain 147 = .ok (.iconst 3, 1) := by decide +kernel
theorem dX12_layPlain_148 : decode cX12_layPlain 148 = .ok (.if_icmp .ne 17, 3) := by decide +kernel
theorem dX12_layPlain_151 : decode cX12_layPlain 151 = .ok (.iload_n 3, 1) := by decide +kernel
theorem dX12_layPlain_152 : decode cX12_layPlain 152 = .ok (.aload_n 0, 1) := by decide +kernel
theorem dX12_layPlain_153 : decode cX12_layPlain 153 = .ok (.getfield 59, 3) := by decide +kernel
theorem dX12_layPlain_156 : decode cX12_layPlain 156 = .ok (.iconst 0, 1) := by decide +kernel
theorem dX12_layPlain_157 : decode cX12_layPlain 157 = .ok (.iaload, 1) := by decide +kernel
theorem dX12_layPlain_158 : decode cX12_layPlain 158 = .ok (.if_icmp .ne 7, 3) := by decide +kernel
theorem dX12_layPlain_161 : decode cX12_layPlain 161 = .ok (.iconst 0, 1) := by decide +kernel
theorem dX12_layPlain_162 : decode cX12_layPlain 162 = .ok (.goto 5, 3) := by decide +kernel
theorem dX12_layPlain_165 : decode cX12_layPlain 165 = .ok (.iload 4, 2) := by decide +kernel
theorem dX12_layPlain_167 : decode cX12_layPlain 167 = .ok (.istore 4, 2) := by decide +kernel
theorem dX12_layPlain_169 : decode cX12_layPlain 169 = .ok (.aload_n 0, 1) := by decide +kernel
theorem dX12_layPlain_170 : decode cX12_layPlain 170 = .ok (.getfield 87, 3) := by decide +kernel
theorem dX12_layPlain_173 : decode cX12_layPlain 173 = .ok (.iconst 3, 1) := by decide +kernel
theorem dX12_layPlain_174 : decode cX12_layPlain 174 = .ok (.iload_n 2, 1) := by decide +kernel
theorem dX12_layPlain_175 : decode cX12_layPlain 175 = .ok (.imul, 1) := by decide +kernel
theorem dX12_layPlain_176 : decode cX12_layPlain 176 = .ok (.iload_n 3, 1) := by decide +kernel
theorem dX12_layPlain_177 : decode cX12_layPlain 177 = .ok (.iadd, 1) := by decide +kernel
theorem dX12_layPlain_178 : decode cX12_layPlain 178 = .ok (.iload 4, 2) := by decide +kernel
theorem dX12_layPlain_180 : decode cX12_layPlain 180 = .ok (.iastore, 1) := by decide +kernel
theorem dX12_layPlain_181 : decode cX12_layPlain 181 = .ok (.iinc 3 1, 3) := by decide +kernel
theorem dX12_layPlain_184 : decode cX12_layPlain 184 = .ok (.goto (-177), 3) := by decide +kernel
theorem dX12_layPlain_187 : decode cX12_layPlain 187 = .ok (.return_, 1) := by decide +kernel
def LX12_layPlain_7 (D : GD) (d : Nat) (v1 : Int32) (v2 : Int32) (v3 : Int32) (M : Mm) (post : Option Value → Mm → Prop) : Prop := AW D (d + 1) 0 0 mX12_layPlain 0 0 7 [(0, .ref 62), (1, .int v1), (2, .int v2), (3, .int v3)] [] M post
def LX12_layPlain_169 (D : GD) (d : Nat) (v1 : Int32) (v2 : Int32) (v3 : Int32) (v4 : Int32) (M : Mm) (post : Option Value → Mm → Prop) : Prop := AW D (d + 1) 0 0 mX12_layPlain 0 0 169 [(0, .ref 62), (1, .int v1), (2, .int v2), (3, .int v3), (4, .int v4)] [] M post
def LX12_layPlain_92 (D : GD) (d : Nat) (v1 : Int32) (v2 : Int32) (v3 : Int32) (M : Mm) (post : Option Value → Mm → Prop) : Prop := AW D (d + 1) 0 0 mX12_layPlain 0 0 92 [(0, .ref 62), (1, .int v1), (2, .int v2), (3, .int v3)] [] M post
def LX12_layPlain_138 (D : GD) (d : Nat) (v1 : Int32) (v2 : Int32) (v3 : Int32) (t0 : Int32) (t1 : Int32) (M : Mm) (post : Option Value → Mm → Prop) : Prop := AW D (d + 1) 0 0 mX12_layPlain 0 0 138 [(0, .ref 62), (1, .int v1), (2, .int v2), (3, .int v3)] [.int t0, .int t1] M post
set_option maxRecDepth 20000 in
theorem rX12_layPlain (D : GD) (d : Nat) (a1 : Int32) (a2 : Int32) (M : Mm) (post : Option Value → Mm → Prop) (hL : Lay 62 98 M) 
    (h : AMv D d mX12_layFacts [.ref 62, .int a2] M (fun M1 => LX12_layPlain_7 D d a1 a2 (0 : Int32) M1 post)) :
    AM D (d + 1) 0 0 mX12_layPlain [.ref 62, .int a1, .int a2] M post := by
  refine AM.of (by decide) (Nat.le_of_ble_eq_true rfl) ?_
  show AW D (d + 1) 0 0 mX12_layPlain 0 0 0 [(0, .ref 62), (1, .int a1), (2, .int a2)] [] M post
  refine ab_aload_n 0 dX12_layPlain_0 rfl ?_
  refine ab_iload_n 2 dX12_layPlain_1 rfl ?_
  refine ab_callV (a := 62) (c0 := 12) (d' := d) (mc' := 0) (ms' := 0) (vs := [.int a2]) (st := []) dX12_layPlain_2 ⟨cw_X12_layFacts, w_1295⟩ w_1297 w_46 (by decide) (hL.sh 62 rfl (by decide) (by decide)).1 (hL.sh 62 rfl (by decide) (by decide)).2 rfl rfl (Nat.le_of_ble_eq_true rfl) (Nat.le_refl _) (Nat.zero_le _) (Nat.zero_le _) (AM.mono h (fun r M1 ⟨hr3, hc4, h⟩ => ?_))
  subst hr3
  refine ab_rv ?_
  have hm5 : Sm M M1 := (Sm.refl M).trans hc4
  have hl6 := hL.of hm5
  refine ab_iconst (v := 0) dX12_layPlain_5 (by decide) ?_
  refine ab_istore_n (lv1 := [(3, .int (0 : Int32)), (0, .ref 62), (1, .int a1), (2, .int a2)]) dX12_layPlain_6 (by decide) rfl ?_
  exact ab_sub [1, 2, 3, 0] rfl h
set_option maxRecDepth 20000 in
theorem rX12_layPlain_7 (D : GD) (d : Nat)  (v1 : Int32) (v2 : Int32) (v3 : Int32) (M : Mm) (post : Option Value → Mm → Prop) (hL : Lay 62 98 M) 
    (h : (((3 : Int32) ≤ v3 → post none M) ∧ (¬ (3 : Int32) ≤ v3 → vp_in (((3 : Int32) * v2) + v3) 6 ∧ ∀ x3 : Int32, x3 = (gI M 77 ((((3 : Int32) * v2) + v3).toNatClampNeg)) → vp_in v1 11 ∧ (((gI M 74 v1.toNatClampNeg) = (2 : Int32) → LX12_layPlain_169 D d v1 v2 v3 x3 M post) ∧ (((gI M 74 v1.toNatClampNeg) = (3 : Int32) → LX12_layPlain_92 D d v1 v2 v3 M post) ∧ (((gI M 74 v1.toNatClampNeg) = (4 : Int32) → LX12_layPlain_92 D d v1 v2 v3 M post) ∧ (((gI M 74 v1.toNatClampNeg) = (5 : Int32) → LX12_layPlain_169 D d v1 v2 v3 x3 M post) ∧ (((gI M 74 v1.toNatClampNeg) = (6 : Int32) → ((¬ v3 = (1 : Int32) → ∀ x11 : Int32, x11 = (x3 + (0 : Int32)) → LX12_layPlain_169 D d v1 v2 v3 x11 M post) ∧ (v3 = (1 : Int32) → ∀ x12 : Int32, x12 = (x3 + ((5 : Int32) * (gI M 75 v1.toNatClampNeg))) → LX12_layPlain_169 D d v1 v2 v3 x12 M post))) ∧ ((¬ (gI M 74 v1.toNatClampNeg) = (2 : Int32) → ¬ (gI M 74 v1.toNatClampNeg) = (3 : Int32) → ¬ (gI M 74 v1.toNatClampNeg) = (4 : Int32) → ¬ (gI M 74 v1.toNatClampNeg) = (5 : Int32) → ¬ (gI M 74 v1.toNatClampNeg) = (6 : Int32) → LX12_layPlain_92 D d v1 v2 v3 M post)))))))))) :
    LX12_layPlain_7 D d v1 v2 v3 M post := by
  show AW D (d + 1) 0 0 mX12_layPlain 0 0 7 [(0, .ref 62), (1, .int v1), (2, .int v2), (3, .int v3)] [] M post
  refine ab_iload_n 3 dX12_layPlain_7 rfl ?_
  refine ab_iconst (v := 3) dX12_layPlain_8 (by decide) ?_
  refine ab_icmp_ge (tgt := 187) dX12_layPlain_9 (by decide) (fun c1 => ?_) (fun c1 => ?_)
  · have h := h.1 c1
    exact ab_vret dX12_layPlain_187 rfl h
  · have h := h.2 c1
    refine ab_aload_n 0 dX12_layPlain_12 rfl ?_
    refine ab_getP (r := 77) dX12_layPlain_13 fs_12_78_12 rfl (hL.sh 62 rfl (by decide) (by decide)).1 (hL.sh 62 rfl (by decide) (by decide)).2 (hL.pt 75 rfl (by decide) (by decide)) ?_
    refine ab_iconst (v := 3) dX12_layPlain_16 (by decide) ?_
    refine ab_iload_n 2 dX12_layPlain_17 rfl ?_
    refine ab_imul dX12_layPlain_18 ?_
    refine ab_iload_n 3 dX12_layPlain_19 rfl ?_
    refine ab_iadd dX12_layPlain_20 ?_
    have hb2 := h.1
    have h := h.2
    refine ab_ialdj (j := (((3 : Int32) * v2) + v3).toNatClampNeg) dX12_layPlain_21 (hL.sh 77 rfl (by decide) (by decide)) hb2 rfl ?_
    refine ab_topi (fun x3 hx3 => ?_)
    have h := h x3 hx3
    refine ab_istore (lv1 := [(4, .int x3), (0, .ref 62), (1, .int v1), (2, .int v2), (3, .int v3)]) dX12_layPlain_22 (by decide) rfl ?_
    refine ab_aload_n 1 dX12_layPlain_24 rfl ?_
    refine ab_getP (r := 74) dX12_layPlain_25 fs_12_69_12 rfl (hL.sh 62 rfl (by decide) (by decide)).1 (hL.sh 62 rfl (by decide) (by decide)).2 (hL.pt 72 rfl (by decide) (by decide)) ?_
    refine ab_iload_n 2 dX12_layPlain_28 rfl ?_
    have hb4 := h.1
    have h := h.2
    refine ab_ialdj (j := v1.toNatClampNeg) dX12_layPlain_29 (hL.sh 74 rfl (by decide) (by decide)) hb4 rfl ?_
    by_cases c5 : (gI M 74 v1.toNatClampNeg) = (2 : Int32)
    · have h := h.1 c5
      refine ab_tableIn (off := (34)) (tgt := 64) dX12_layPlain_30 (by rw [c5]; decide) (by rw [c5]; decide) (by rw [c5]; decide) (by decide) ?_
      refine ab_goto (tgt := 169) dX12_layPlain_64 (by decide) ?_
      exact ab_sub [1, 2, 3, 4, 0] rfl h
    · have h := h.2
      by_cases c6 : (gI M 74 v1.toNatClampNeg) = (3 : Int32)
      · have h := h.1 c6
        refine ab_tableIn (off := (62)) (tgt := 92) dX12_layPlain_30 (by rw [c6]; decide) (by rw [c6]; decide) (by rw [c6]; decide) (by decide) ?_
        exact ab_sub [1, 2, 3, 4] rfl h
      · have h := h.2
        by_cases c7 : (gI M 74 v1.toNatClampNeg) = (4 : Int32)
        · have h := h.1 c7
          refine ab_tableIn (off := (62)) (tgt := 92) dX12_layPlain_30 (by rw [c7]; decide) (by rw [c7]; decide) (by rw [c7]; decide) (by decide) ?_
          exact ab_sub [1, 2, 3, 4] rfl h
        · have h := h.2
          by_cases c8 : (gI M 74 v1.toNatClampNeg) = (5 : Int32)
          · have h := h.1 c8
            refine ab_tableIn (off := (34)) (tgt := 64) dX12_layPlain_30 (by rw [c8]; decide) (by rw [c8]; decide) (by rw [c8]; decide) (by decide) ?_
            refine ab_goto (tgt := 169) dX12_layPlain_64 (by decide) ?_
            exact ab_sub [1, 2, 3, 4, 0] rfl h
          · have h := h.2
            by_cases c9 : (gI M 74 v1.toNatClampNeg) = (6 : Int32)
            · have h := h.1 c9
              refine ab_tableIn (off := (37)) (tgt := 67) dX12_layPlain_30 (by rw [c9]; decide) (by rw [c9]; decide) (by rw [c9]; decide) (by decide) ?_
              refine ab_iload 0 dX12_layPlain_67 rfl ?_
              refine ab_iload_n 4 dX12_layPlain_69 rfl ?_
              refine ab_iconst (v := 1) dX12_layPlain_70 (by decide) ?_
              refine ab_icmp_ne (tgt := 85) dX12_layPlain_71 (by decide) (fun c10 => ?_) (fun c10 => ?_)
              · have h := h.1 c10
                refine ab_iconst (v := 0) dX12_layPlain_85 (by decide) ?_
                refine ab_iadd dX12_layPlain_86 ?_
                refine ab_topi (fun x11 hx11 => ?_)
                have h := h x11 hx11
                refine ab_istore (lv1 := [(4, .int x11), (0, .ref 62), (1, .int v1), (2, .int v2), (3, .int v3)]) dX12_layPlain_87 (by decide) rfl ?_
                refine ab_goto (tgt := 169) dX12_layPlain_89 (by decide) ?_
                exact ab_sub [1, 2, 3, 4, 0] rfl h
              · have h := h.2 c10
                refine ab_iconst (v := 5) dX12_layPlain_74 (by decide) ?_
                refine ab_aload_n 1 dX12_layPlain_75 rfl ?_
                refine ab_getP (r := 75) dX12_layPlain_76 fs_12_72_12 rfl (hL.sh 62 rfl (by decide) (by decide)).1 (hL.sh 62 rfl (by decide) (by decide)).2 (hL.pt 73 rfl (by decide) (by decide)) ?_
                refine ab_iload_n 2 dX12_layPlain_79 rfl ?_
                refine ab_ialdj (j := v1.toNatClampNeg) dX12_layPlain_80 (hL.sh 75 rfl (by decide) (by decide)) hb4 rfl ?_
                refine ab_imul dX12_layPlain_81 ?_
                refine ab_goto (tgt := 86) dX12_layPlain_82 (by decide) ?_
                refine ab_iadd dX12_layPlain_86 ?_
                refine ab_topi (fun x12 hx12 => ?_)
                have h := h x12 hx12
                refine ab_istore (lv1 := [(4, .int x12), (0, .ref 62), (1, .int v1), (2, .int v2), (3, .int v3)]) dX12_layPlain_87 (by decide) rfl ?_
                refine ab_goto (tgt := 169) dX12_layPlain_89 (by decide) ?_
                exact ab_sub [1, 2, 3, 4, 0] rfl h
            · have h := h.2
              have h := h c5 c6 c7 c8 c9
              refine ab_tableOut (tgt := 92) dX12_layPlain_30 (by have e0 := lv_neT (a := 2) c5 (by decide); have e1 := lv_neT (a := 3) c6 (by decide); have e2 := lv_neT (a := 4) c7 (by decide); have e3 := lv_neT (a := 5) c8 (by decide); have e4 := lv_neT (a := 6) c9 (by decide); omega) (by decide) ?_
              exact ab_sub [1, 2, 3, 4] rfl h
set_option maxRecDepth 20000 in
theorem rX12_layPlain_169 (D : GD) (d : Nat)  (v1 : Int32) (v2 : Int32) (v3 : Int32) (v4 : Int32) (M : Mm) (post : Option Value → Mm → Prop) (hL : Lay 62 98 M) 
    (h : vp_in (((3 : Int32) * v2) + v3) 6 ∧ ∀ M2 : Mm, M2 = sI M 78 ((((3 : Int32) * v2) + v3).toNatClampNeg) v4 → ∀ x6 : Int32, x6 = v3 + (1 : Int32) → LX12_layPlain_7 D d v1 v2 x6 M2 post) :
    LX12_layPlain_169 D d v1 v2 v3 v4 M post := by
  show AW D (d + 1) 0 0 mX12_layPlain 0 0 169 [(0, .ref 62), (1, .int v1), (2, .int v2), (3, .int v3), (4, .int v4)] [] M post
  refine ab_aload_n 0 dX12_layPlain_169 rfl ?_
  refine ab_getP (r := 78) dX12_layPlain_170 fs_12_87_12 rfl (hL.sh 62 rfl (by decide) (by decide)).1 (hL.sh 62 rfl (by decide) (by decide)).2 (hL.pt 76 rfl (by decide) (by decide)) ?_
  refine ab_iconst (v := 3) dX12_layPlain_173 (by decide) ?_
  refine ab_iload_n 2 dX12_layPlain_174 rfl ?_
  refine ab_imul dX12_layPlain_175 ?_
  refine ab_iload_n 3 dX12_layPlain_176 rfl ?_
  refine ab_iadd dX12_layPlain_177 ?_
  refine ab_iload 4 dX12_layPlain_178 rfl ?_
  have hb1 := h.1
  have h := h.2
  refine ab_iastj (j := (((3 : Int32) * v2) + v3).toNatClampNeg) dX12_layPlain_180 (hL.sh 78 rfl (by decide) (by decide)) hb1 rfl ?_
  refine ab_nameM (fun M2 hM2 => ?_)
  have h := h M2 hM2
  have hs5 : Sm M M2 := hM2 ▸ (Sm.refl _).i
  have hm3 : Sm M M2 := (Sm.refl M).trans hs5
  have hl4 := hL.of hm3
  obtain ⟨x6, hx6⟩ : ∃ y : Int32, y = v3 + (1 : Int32) := ⟨_, rfl⟩
  have h := h x6 hx6
  refine ab_iinc (v := x6) 3 (lv1 := [(3, .int x6), (0, .ref 62), (1, .int v1), (2, .int v2), (4, .int v4)]) dX12_layPlain_181 rfl (by rw [hx6]; rfl) (by decide) rfl ?_
  refine ab_goto (tgt := 7) dX12_layPlain_184 (by decide) ?_
  exact ab_sub [1, 2, 3, 0] rfl h
set_option maxRecDepth 20000 in
theorem rX12_layPlain_92 (D : GD) (d : Nat)  (v1 : Int32) (v2 : Int32) (v3 : Int32) (M : Mm) (post : Option Value → Mm → Prop) (hL : Lay 62 98 M) 
    (h : AMi D d mX12_sumOf [.ref 62, .int v1, .int v3] M (fun x2 M1 => vp_in v1 11 ∧ (((gI M1 74 v1.toNatClampNeg) = (1 : Int32) → ((¬ v3 = (gI M1 75 v1.toNatClampNeg) → LX12_layPlain_138 D d v1 v2 v3 (0 : Int32) x2 M1 post) ∧ (v3 = (gI M1 75 v1.toNatClampNeg) → LX12_layPlain_138 D d v1 v2 v3 (30 : Int32) x2 M1 post))) ∧ (¬ (gI M1 74 v1.toNatClampNeg) = (1 : Int32) → ((¬ (gI M1 74 v1.toNatClampNeg) = (4 : Int32) → LX12_layPlain_138 D d v1 v2 v3 (0 : Int32) x2 M1 post) ∧ ((gI M1 74 v1.toNatClampNeg) = (4 : Int32) → ((¬ v3 = (gI M1 75 v1.toNatClampNeg) → LX12_layPlain_138 D d v1 v2 v3 (0 : Int32) x2 M1 post) ∧ (v3 = (gI M1 75 v1.toNatClampNeg) → LX12_layPlain_138 D d v1 v2 v3 (30 : Int32) x2 M1 post)))))))) :
    LX12_layPlain_92 D d v1 v2 v3 M post := by
  show AW D (d + 1) 0 0 mX12_layPlain 0 0 92 [(0, .ref 62), (1, .int v1), (2, .int v2), (3, .int v3)] [] M post
  refine ab_aload_n 0 dX12_layPlain_92 rfl ?_
  refine ab_iload_n 1 dX12_layPlain_93 rfl ?_
  refine ab_iload_n 3 dX12_layPlain_94 rfl ?_
  refine ab_callV (a := 62) (c0 := 12) (d' := d) (mc' := 0) (ms' := 0) (vs := [.int v1, .int v3]) (st := []) dX12_layPlain_95 ⟨cw_X12_sumOf, w_1299⟩ w_1301 w_47 (by decide) (hL.sh 62 rfl (by decide) (by decide)).1 (hL.sh 62 rfl (by decide) (by decide)).2 rfl rfl (Nat.le_of_ble_eq_true rfl) (Nat.le_refl _) (Nat.zero_le _) (Nat.zero_le _) (AM.mono h (fun r M1 ⟨x2, hr3, hc4, h⟩ => ?_))
  subst hr3
  refine ab_rs ?_
  have hm5 : Sm M M1 := (Sm.refl M).trans hc4
  have hl6 := hL.of hm5
  refine ab_istore (lv1 := [(4, .int x2), (0, .ref 62), (1, .int v1), (2, .int v2), (3, .int v3)]) dX12_layPlain_98 (by decide) rfl ?_
  refine ab_iload 0 dX12_layPlain_100 rfl ?_
  refine ab_aload_n 1 dX12_layPlain_102 rfl ?_
  refine ab_getP (r := 74) dX12_layPlain_103 fs_12_69_12 rfl (hl6.sh 62 rfl (by decide) (by decide)).1 (hl6.sh 62 rfl (by decide) (by decide)).2 (hl6.pt 72 rfl (by decide) (by decide)) ?_
  refine ab_iload_n 2 dX12_layPlain_106 rfl ?_
  have hb7 := h.1
  have h := h.2
  refine ab_ialdj (j := v1.toNatClampNeg) dX12_layPlain_107 (hl6.sh 74 rfl (by decide) (by decide)) hb7 rfl ?_
  refine ab_iconst (v := 1) dX12_layPlain_108 (by decide) ?_
  refine ab_icmp_eq (tgt := 122) dX12_layPlain_109 (by decide) (fun c8 => ?_) (fun c8 => ?_)
  · have h := h.1 c8
    refine ab_iload_n 4 dX12_layPlain_122 rfl ?_
    refine ab_aload_n 1 dX12_layPlain_123 rfl ?_
    refine ab_getP (r := 75) dX12_layPlain_124 fs_12_72_12 rfl (hl6.sh 62 rfl (by decide) (by decide)).1 (hl6.sh 62 rfl (by decide) (by decide)).2 (hl6.pt 73 rfl (by decide) (by decide)) ?_
    refine ab_iload_n 2 dX12_layPlain_127 rfl ?_
    refine ab_ialdj (j := v1.toNatClampNeg) dX12_layPlain_128 (hl6.sh 75 rfl (by decide) (by decide)) hb7 rfl ?_
    refine ab_icmp_ne (tgt := 137) dX12_layPlain_129 (by decide) (fun c9 => ?_) (fun c9 => ?_)
    · have h := h.1 c9
      refine ab_iconst (v := 0) dX12_layPlain_137 (by decide) ?_
      exact ab_sub [1, 2, 3, 4] rfl h
    · have h := h.2 c9
      refine ab_bipush (v := 30) dX12_layPlain_132 (by decide) ?_
      refine ab_goto (tgt := 138) dX12_layPlain_134 (by decide) ?_
      exact ab_sub [1, 2, 3, 4] rfl h
  · have h := h.2 c8
    refine ab_aload_n 1 dX12_layPlain_112 rfl ?_
    refine ab_getP (r := 74) dX12_layPlain_113 fs_12_69_12 rfl (hl6.sh 62 rfl (by decide) (by decide)).1 (hl6.sh 62 rfl (by decide) (by decide)).2 (hl6.pt 72 rfl (by decide) (by decide)) ?_
    refine ab_iload_n 2 dX12_layPlain_116 rfl ?_
    refine ab_ialdj (j := v1.toNatClampNeg) dX12_layPlain_117 (hl6.sh 74 rfl (by decide) (by decide)) hb7 rfl ?_
    refine ab_iconst (v := 4) dX12_layPlain_118 (by decide) ?_
    refine ab_icmp_ne (tgt := 137) dX12_layPlain_119 (by decide) (fun c10 => ?_) (fun c10 => ?_)
    · have h := h.1 c10
      refine ab_iconst (v := 0) dX12_layPlain_137 (by decide) ?_
      exact ab_sub [1, 2, 3, 4] rfl h
    · have h := h.2 c10
      refine ab_iload_n 4 dX12_layPlain_122 rfl ?_
      refine ab_aload_n 1 dX12_layPlain_123 rfl ?_
      refine ab_getP (r := 75) dX12_layPlain_124 fs_12_72_12 rfl (hl6.sh 62 rfl (by decide) (by decide)).1 (hl6.sh 62 rfl (by decide) (by decide)).2 (hl6.pt 73 rfl (by decide) (by decide)) ?_
      refine ab_iload_n 2 dX12_layPlain_127 rfl ?_
      refine ab_ialdj (j := v1.toNatClampNeg) dX12_layPlain_128 (hl6.sh 75 rfl (by decide) (by decide)) hb7 rfl ?_
      refine ab_icmp_ne (tgt := 137) dX12_layPlain_129 (by decide) (fun c11 => ?_) (fun c11 => ?_)
      · have h := h.1 c11
        refine ab_iconst (v := 0) dX12_layPlain_137 (by decide) ?_
        exact ab_sub [1, 2, 3, 4] rfl h
      · have h := h.2 c11
        refine ab_bipush (v := 30) dX12_layPlain_132 (by decide) ?_
        refine ab_goto (tgt := 138) dX12_layPlain_134 (by decide) ?_
        exact ab_sub [1, 2, 3, 4] rfl h
set_option maxRecDepth 20000 in
theorem rX12_layPlain_138 (D : GD) (d : Nat)  (v1 : Int32) (v2 : Int32) (v3 : Int32) (t0 : Int32) (t1 : Int32) (M : Mm) (post : Option Value → Mm → Prop) (hL : Lay 62 98 M) 
    (h : ∀ x1 : Int32, x1 = (t1 + t0) → vp_in v1 11 ∧ ((¬ (gI M 74 v1.toNatClampNeg) = (3 : Int32) → LX12_layPlain_169 D d v1 v2 v3 x1 M post) ∧ ((gI M 74 v1.toNatClampNeg) = (3 : Int32) → ((¬ v3 = (gI M 72 0) → LX12_layPlain_169 D d v1 v2 v3 x1 M post) ∧ (v3 = (gI M 72 0) → LX12_layPlain_169 D d v1 v2 v3 (0 : Int32) M post))))) :
    LX12_layPlain_138 D d v1 v2 v3 t0 t1 M post := by
  show AW D (d + 1) 0 0 mX12_layPlain 0 0 138 [(0, .ref 62), (1, .int v1), (2, .int v2), (3, .int v3)] [.int t0, .int t1] M post
  refine ab_iadd dX12_layPlain_138 ?_
  refine ab_topi (fun x1 hx1 => ?_)
  have h := h x1 hx1
  refine ab_istore (lv1 := [(4, .int x1), (0, .ref 62), (1, .int v1), (2, .int v2), (3, .int v3)]) dX12_layPlain_139 (by decide) rfl ?_
  refine ab_aload_n 1 dX12_layPlain_141 rfl ?_
  refine ab_getP (r := 74) dX12_layPlain_142 fs_12_69_12 rfl (hL.sh 62 rfl (by decide) (by decide)).1 (hL.sh 62 rfl (by decide) (by decide)).2 (hL.pt 72 rfl (by decide) (by decide)) ?_
  refine ab_iload_n 2 dX12_layPlain_145 rfl ?_
  have hb2 := h.1
  have h := h.2
  refine ab_ialdj (j := v1.toNatClampNeg) dX12_layPlain_146 (hL.sh 74 rfl (by decide) (by decide)) hb2 rfl ?_
  refine ab_iconst (v := 3) dX12_layPlain_147 (by decide) ?_
  refine ab_icmp_ne (tgt := 165) dX12_layPlain_148 (by decide) (fun c3 => ?_) (fun c3 => ?_)
  · have h := h.1 c3
    refine ab_iload 0 dX12_layPlain_165 rfl ?_
    refine ab_istore (lv1 := [(4, .int x1), (0, .ref 62), (1, .int v1), (2, .int v2), (3, .int v3)]) dX12_layPlain_167 (by decide) rfl ?_
    exact ab_sub [1, 2, 3, 4, 0] rfl h
  · have h := h.2 c3
    refine ab_iload_n 4 dX12_layPlain_151 rfl ?_
    refine ab_aload_n 1 dX12_layPlain_152 rfl ?_
    refine ab_getP (r := 72) dX12_layPlain_153 fs_12_59_12 rfl (hL.sh 62 rfl (by decide) (by decide)).1 (hL.sh 62 rfl (by decide) (by decide)).2 (hL.pt 70 rfl (by decide) (by decide)) ?_
    refine ab_iconst (v := 0) dX12_layPlain_156 (by decide) ?_
    refine ab_ialdj (j := 0) dX12_layPlain_157 (hL.sh 72 rfl (by decide) (by decide)) (vin (by decide)) (by decide) ?_
    refine ab_icmp_ne (tgt := 165) dX12_layPlain_158 (by decide) (fun c4 => ?_) (fun c4 => ?_)
    · have h := h.1 c4
      refine ab_iload 0 dX12_layPlain_165 rfl ?_
      refine ab_istore (lv1 := [(4, .int x1), (0, .ref 62), (1, .int v1), (2, .int v2), (3, .int v3)]) dX12_layPlain_167 (by decide) rfl ?_
      exact ab_sub [1, 2, 3, 4, 0] rfl h
    · have h := h.2 c4
      refine ab_iconst (v := 0) dX12_layPlain_161 (by decide) ?_
      refine ab_goto (tgt := 167) dX12_layPlain_162 (by decide) ?_
      refine ab_istore (lv1 := [(4, .int (0 : Int32)), (0, .ref 62), (1, .int v1), (2, .int v2), (3, .int v3)]) dX12_layPlain_167 (by decide) rfl ?_
      exact ab_sub [1, 2, 3, 4, 0] rfl h
theorem dX12_looks_0 : decode cX12_looks 0 = .ok (.aload_n 0, 1) := by decide +kernel
theorem dX12_looks_1 : decode cX12_looks 1 = .ok (.getfield 69, 3) := by decide +kernel
theorem dX12_looks_4 : decode cX12_looks 4 = .ok (.iload_n 1, 1) := by decide +kernel
theorem dX12_looks_5 : decode cX12_looks 5 = .ok (.iaload, 1) := by decide +kernel
theorem dX12_looks_6 : decode cX12_looks 6 = .ok (.iconst 4, 1) := by decide +kernel
theorem dX12_looks_7 : decode cX12_looks 7 = .ok (.if_icmp .eq 13, 3) := by decide +kernel
theorem dX12_looks_10 : decode cX12_looks 10 = .ok (.aload_n 0, 1) := by decide +kernel
theorem dX12_looks_11 : decode cX12_looks 11 = .ok (.getfield 69, 3) := by decide +kernel
theorem dX12_looks_14 : decode cX12_looks 14 = .ok (.iload_n 1, 1) := by decide +kernel
theorem dX12_looks_15 : decode cX12_looks 15 = .ok (.iaload, 1) := by decide +kernel
theorem dX12_looks_16 : decode cX12_looks 16 = .ok (.iconst 5, 1) := by decide +kernel
theorem dX12_looks_17 : decode cX12_looks 17 = .ok (.if_icmp .ne 7, 3) := by decide +kernel
theorem dX12_looks_20 : decode cX12_looks 20 = .ok (.iconst 1, 1) := by decide +kernel
theorem dX12_looks_21 : decode cX12_looks 21 = .ok (.goto 4, 3) := by decide +kernel
theorem dX12_looks_24 : decode cX12_looks 24 = .ok (.iconst 0, 1) := by decide +kernel
theorem dX12_looks_25 : decode cX12_looks 25 = .ok (.ireturn, 1) := by decide +kernel
set_option maxRecDepth 20000 in
theorem rX12_looks (D : GD) (d : Nat) (a1 : Int32) (M : Mm) (post : Option Value → Mm → Prop) (hL : Lay 62 98 M) 
    (h : vp_in a1 11 ∧ (((gI M 74 a1.toNatClampNeg) = (4 : Int32) → post (some (.int (1 : Int32))) M) ∧ (¬ (gI M 74 a1.toNatClampNeg) = (4 : Int32) → ((¬ (gI M 74 a1.toNatClampNeg) = (5 : Int32) → post (some (.int (0 : Int32))) M) ∧ ((gI M 74 a1.toNatClampNeg) = (5 : Int32) → post (some (.int (1 : Int32))) M))))) :
    AM D d 0 0 mX12_looks [.ref 62, .int a1] M post := by
  refine AM.of (by decide) (Nat.le_of_ble_eq_true rfl) ?_
  show AW D d 0 0 mX12_looks 0 0 0 [(0, .ref 62), (1, .int a1)] [] M post
  refine ab_aload_n 0 dX12_looks_0 rfl ?_
  refine ab_getP (r := 74) dX12_looks_1 fs_12_69_12 rfl (hL.sh 62 rfl (by decide) (by decide)).1 (hL.sh 62 rfl (by decide) (by decide)).2 (hL.pt 72 rfl (by decide) (by decide)) ?_
  refine ab_iload_n 1 dX12_looks_4 rfl ?_
  have hb1 := h.1
  have h := h.2
  refine ab_ialdj (j := a1.toNatClampNeg) dX12_looks_5 (hL.sh 74 rfl (by decide) (by decide)) hb1 rfl ?_
  refine ab_iconst (v := 4) dX12_looks_6 (by decide) ?_
  refine ab_icmp_eq (tgt := 20) dX12_looks_7 (by decide) (fun c2 => ?_) (fun c2 => ?_)
  · have h := h.1 c2
    refine ab_iconst (v := 1) dX12_looks_20 (by decide) ?_
    refine ab_goto (tgt := 25) dX12_looks_21 (by decide) ?_
    exact ab_zret dX12_looks_25 rfl rfl h
  · have h := h.2 c2
    refine ab_aload_n 0 dX12_looks_10 rfl ?_
    refine ab_getP (r := 74) dX12_looks_11 fs_12_69_12 rfl (hL.sh 62 rfl (by decide) (by decide)).1 (hL.sh 62 rfl (by decide) (by decide)).2 (hL.pt 72 rfl (by decide) (by decide)) ?_
    refine ab_iload_n 1 dX12_looks_14 rfl ?_
    refine ab_ialdj (j := a1.toNatClampNeg) dX12_looks_15 (hL.sh 74 rfl (by decide) (by decide)) hb1 rfl ?_
    refine ab_iconst (v := 5) dX12_looks_16 (by decide) ?_
    refine ab_icmp_ne (tgt := 24) dX12_looks_17 (by decide) (fun c3 => ?_) (fun c3 => ?_)
    · have h := h.1 c3
      refine ab_iconst (v := 0) dX12_looks_24 (by decide) ?_
      exact ab_zret dX12_looks_25 rfl rfl h
    · have h := h.2 c3
      refine ab_iconst (v := 1) dX12_looks_20 (by decide) ?_
      refine ab_goto (tgt := 25) dX12_looks_21 (by decide) ?_
      exact ab_zret dX12_looks_25 rfl rfl h
theorem dX12_replyOf_0 : decode cX12_replyOf 0 = .ok (.iconst 0, 1) := by decide +kernel
theorem dX12_replyOf_1 : decode cX12_replyOf 1 = .ok (.istore_n 2, 1) := by decide +kernel
theorem dX12_replyOf_2 : decode cX12_replyOf 2 = .ok (.iconst 0, 1) := by decide +kernel
theorem dX12_replyOf_3 : decode cX12_replyOf 3 = .ok (.istore_n 3, 1) := by decide +kernel
theorem dX12_replyOf_4 : decode cX12_replyOf 4 = .ok (.iconst 0, 1) := by decide +kernel
theorem dX12_replyOf_5 : decode cX12_replyOf 5 = .ok (.istore 4, 2) := by decide +kernel
theorem dX12_replyOf_7 : decode cX12_replyOf 7 = .ok (.iload 4, 2) := by decide +kernel
theorem dX12_replyOf_9 : decode cX12_replyOf 9 = .ok (.iconst 3, 1) := by decide +kernel
theorem dX12_replyOf_10 : decode cX12_replyOf 10 = .ok (.if_icmp .ge 114, 3) := by decide +kernel
theorem dX12_replyOf_13 : decode cX12_replyOf 13 = .ok (.iconst 0, 1) := by decide +kernel
theorem dX12_replyOf_14 : decode cX12_replyOf 14 = .ok (.istore 5, 2) := by decide +kernel
theorem dX12_replyOf_16 : decode cX12_replyOf 16 = .ok (.iconst 0, 1) := by decide +kernel
theorem dX12_replyOf_17 : decode cX12_replyOf 17 = .ok (.istore 6, 2) := by decide +kernel
theorem dX12_replyOf_19 : decode cX12_replyOf 19 = .ok (.iload 6, 2) := by decide +kernel
theorem dX12_replyOf_21 : decode cX12_replyOf 21 = .ok (.iconst 3, 1) := by decide +kernel
theorem dX12_replyOf_22 : decode cX12_replyOf 22 = .ok (.if_icmp .ge 63, 3) := by decide +kernel
theorem dX12_replyOf_25 : decode cX12_replyOf 25 = .ok (.iload 5, 2) := by decide +kernel
theorem dX12_replyOf_27 : decode cX12_replyOf 27 = .ok (.iload_n 1, 1) := by decide +kernel
theorem dX12_replyOf_28 : decode cX12_replyOf 28 = .ok (.ifCond .ne 28, 3) := by decide +kernel
theorem dX12_replyOf_31 : decode cX12_replyOf 31 = .ok (.aload_n 0, 1) := by decide +kernel
theorem dX12_replyOf_32 : decode cX12_replyOf 32 = .ok (.getfield 87, 3) := by decide +kernel
theorem dX12_replyOf_35 : decode cX12_replyOf 35 = .ok (.iconst 3, 1) := by decide +kernel
theorem dX12_replyOf_36 : decode cX12_replyOf 36 = .ok (.iload 6, 2) := by decide +kernel
theorem dX12_replyOf_38 : decode cX12_replyOf 38 = .ok (.iadd, 1) := by decide +kernel
theorem dX12_replyOf_39 : decode cX12_replyOf 39 = .ok (.iaload, 1) := by decide +kernel
theorem dX12_replyOf_40 : decode cX12_replyOf 40 = .ok (.aload_n 0, 1) := by decide +kernel
theorem dX12_replyOf_41 : decode cX12_replyOf 41 = .ok (.getfield 7, 3) := by decide +kernel
theorem dX12_replyOf_44 : decode cX12_replyOf 44 = .ok (.iconst 3, 1) := by decide +kernel
theorem dX12_replyOf_45 : decode cX12_replyOf 45 = .ok (.iload 4, 2) := by decide +kernel
theorem dX12_replyOf_47 : decode cX12_replyOf 47 = .ok (.imul, 1) := by decide +kernel
theorem dX12_replyOf_48 : decode cX12_replyOf 48 = .ok (.iload 6, 2) := by decide +kernel
theorem dX12_replyOf_50 : decode cX12_replyOf 50 = .ok (.iadd, 1) := by decide +kernel
theorem dX12_replyOf_51 : decode cX12_replyOf 51 = .ok (.iaload, 1) := by decide +kernel
theorem dX12_replyOf_52 : decode cX12_replyOf 52 = .ok (.imul, 1) := by decide +kernel
theorem dX12_replyOf_53 : decode cX12_replyOf 53 = .ok (.goto 23, 3) := by decide +kernel
theorem dX12_replyOf_56 : decode cX12_replyOf 56 = .ok (.aload_n 0, 1) := by decide +kernel
theorem dX12_replyOf_57 : decode cX12_replyOf 57 = .ok (.getfield 87, 3) := by decide +kernel
theorem dX12_replyOf_60 : decode cX12_replyOf 60 = .ok (.iload 6, 2) := by decide +kernel
theorem dX12_replyOf_62 : decode cX12_replyOf 62 = .ok (.iaload, 1) := by decide +kernel
theorem dX12_replyOf_63 : decode cX12_replyOf 63 = .ok (.aload_n 0, 1) := by decide +kernel
theorem dX12_replyOf_64 : decode cX12_replyOf 64 = .ok (.getfield 7, 3) := by decide +kernel
theorem dX12_replyOf_67 : decode cX12_replyOf 67 = .ok (.iconst 3, 1) := by decide +kernel
theorem dX12_replyOf_68 : decode cX12_replyOf 68 = .ok (.iload 6, 2) := by decide +kernel
theorem dX12_replyOf_70 : decode cX12_replyOf 70 = .ok (.imul, 1) := by decide +kernel
theorem dX12_replyOf_71 : decode cX12_replyOf 71 = .ok (.iload 4, 2) := by decide +kernel
theorem dX12_replyOf_73 : decode cX12_replyOf 73 = .ok (.iadd, 1) := by decide +kernel
theorem dX12_replyOf_74 : decode cX12_replyOf 74 = .ok (.iaload, 1) := by decide +kernel
theorem dX12_replyOf_75 : decode cX12_replyOf 75 = .ok (.imul, 1) := by decide +kernel
theorem dX12_replyOf_76 : decode cX12_replyOf 76 = .ok (.iadd, 1) := by decide +kernel
theorem dX12_replyOf_77 : decode cX12_replyOf 77 = .ok (.istore 5, 2) := by decide +kernel
theorem dX12_replyOf_79 : decode cX12_replyOf 79 = .ok (.iinc 6 1, 3) := by decide +kernel
theorem dX12_replyOf_82 : decode cX12_replyOf 82 = .ok (.goto (-63), 3) := by decide +kernel
theorem dX12_replyOf_85 : decode cX12_replyOf 85 = .ok (.iload 4, 2) := by decide +kernel
theorem dX12_replyOf_87 : decode cX12_replyOf 87 = .ok (.ifCond .le 25, 3) := by decide +kernel
theorem dX12_replyOf_90 : decode cX12_replyOf 90 = .ok (.iload_n 1, 1) := by decide +kernel
theorem dX12_replyOf_91 : decode cX12_replyOf 91 = .ok (.ifCond .ne 12, 3) := by decide +kernel
theorem dX12_replyOf_94 : decode cX12_replyOf 94 = .ok (.iload 5, 2) := by decide +kernel
theorem dX12_replyOf_96 : decode cX12_replyOf 96 = .ok (.iload_n 3, 1) := by decide +kernel
theorem dX12_replyOf_97 : decode cX12_replyOf 97 = .ok (.if_icmp .gt 15, 3) := by decide +kernel
theorem dX12_replyOf_100 : decode cX12_replyOf 100 = .ok (.goto 18, 3) := by decide +kernel
theorem dX12_replyOf_103 : decode cX12_replyOf 103 = .ok (.iload 5, 2) := by decide +kernel
theorem dX12_replyOf_105 : decode cX12_replyOf 105 = .ok (.iload_n 3, 1) := by decide +kernel
theorem dX12_replyOf_106 : decode cX12_replyOf 106 = .ok (.if_icmp .lt 6, 3) := by decide +kernel
theorem dX12_replyOf_109 : decode cX12_replyOf 109 = .ok (.goto 9, 3) := by decide +kernel
theorem dX12_replyOf_112 : decode cX12_replyOf 112 = .ok (.iload 4, 2) := by decide +kernel
theorem dX12_replyOf_114 : decode cX12_replyOf 114 = .ok (.istore_n 2, 1) := by decide +kernel
theorem dX12_replyOf_115 : decode cX12_replyOf 115 = .ok (.iload 5, 2) := by decide +kernel
theorem dX12_replyOf_117 : decode cX12_replyOf 117 = .ok (.istore_n 3, 1) := by decide +kernel
theorem dX12_replyOf_118 : decode cX12_replyOf 118 = .ok (.iinc 4 1, 3) := by decide +kernel
theorem dX12_replyOf_121 : decode cX12_replyOf 121 = .ok (.goto (-114), 3) := by decide +kernel
theorem dX12_replyOf_124 : decode cX12_replyOf 124 = .ok (.iload_n 2, 1) := by decide +kernel
theorem dX12_replyOf_125 : decode cX12_replyOf 125 = .ok (.ireturn, 1) := by decide +kernel
def LX12_replyOf_7 (D : GD) (d : Nat) (v1 : Int32) (v2 : Int32) (v3 : Int32) (v4 : Int32) (M : Mm) (post : Option Value → Mm → Prop) : Prop := AW D d 0 0 mX12_replyOf 0 0 7 [(0, .ref 62), (1, .int v1), (2, .int v2), (3, .int v3), (4, .int v4)] [] M post
def LX12_replyOf_19 (D : GD) (d : Nat) (v1 : Int32) (v2 : Int32) (v3 : Int32) (v4 : Int32) (v5 : Int32) (v6 : Int32) (M : Mm) (post : Option Value → Mm → Prop) : Prop := AW D d 0 0 mX12_replyOf 0 0 19 [(0, .ref 62), (1, .int v1), (2, .int v2), (3, .int v3), (4, .int v4), (5, .int v5), (6, .int v6)] [] M post
set_option maxRecDepth 20000 in
theorem rX12_replyOf (D : GD) (d : Nat) (a1 : Int32) (M : Mm) (post : Option Value → Mm → Prop) (hL : Lay 62 98 M) 
    (h : LX12_replyOf_7 D d a1 (0 : Int32) (0 : Int32) (0 : Int32) M post) :
    AM D d 0 0 mX12_replyOf [.ref 62, .int a1] M post := by
  refine AM.of (by decide) (Nat.le_of_ble_eq_true rfl) ?_
  show AW D d 0 0 mX12_replyOf 0 0 0 [(0, .ref 62), (1, .int a1)] [] M post
  refine ab_iconst (v := 0) dX12_replyOf_0 (by decide) ?_
  refine ab_istore_n (lv1 := [(2, .int (0 : Int32)), (0, .ref 62), (1, .int a1)]) dX12_replyOf_1 (by decide) rfl ?_
  refine ab_iconst (v := 0) dX12_replyOf_2 (by decide) ?_
  refine ab_istore_n (lv1 := [(3, .int (0 : Int32)), (2, .int (0 : Int32)), (0, .ref 62), (1, .int a1)]) dX12_replyOf_3 (by decide) rfl ?_
  refine ab_iconst (v := 0) dX12_replyOf_4 (by decide) ?_
  refine ab_istore (lv1 := [(4, .int (0 : Int32)), (3, .int (0 : Int32)), (2, .int (0 : Int32)), (0, .ref 62), (1, .int a1)]) dX12_replyOf_5 (by decide) rfl ?_
  exact ab_sub [3, 4, 2, 1, 0] rfl h
set_option maxRecDepth 20000 in
theorem rX12_replyOf_7 (D : GD) (d : Nat)  (v1 : Int32) (v2 : Int32) (v3 : Int32) (v4 : Int32) (M : Mm) (post : Option Value → Mm → Prop) (hL : Lay 62 98 M) 
    (h : (((3 : Int32) ≤ v4 → post (some (.int v2)) M) ∧ (¬ (3 : Int32) ≤ v4 → LX12_replyOf_19 D d v1 v2 v3 v4 (0 : Int32) (0 : Int32) M post))) :
    LX12_replyOf_7 D d v1 v2 v3 v4 M post := by
  show AW D d 0 0 mX12_replyOf 0 0 7 [(0, .ref 62), (1, .int v1), (2, .int v2), (3, .int v3), (4, .int v4)] [] M post
  refine ab_iload 4 dX12_replyOf_7 rfl ?_
  refine ab_iconst (v := 3) dX12_replyOf_9 (by decide) ?_
  refine ab_icmp_ge (tgt := 124) dX12_replyOf_10 (by decide) (fun c1 => ?_) (fun c1 => ?_)
  · have h := h.1 c1
    refine ab_iload_n 2 dX12_replyOf_124 rfl ?_
    exact ab_iret dX12_replyOf_125 rfl h
  · have h := h.2 c1
    refine ab_iconst (v := 0) dX12_replyOf_13 (by decide) ?_
    refine ab_istore (lv1 := [(5, .int (0 : Int32)), (0, .ref 62), (1, .int v1), (2, .int v2), (3, .int v3), (4, .int v4)]) dX12_replyOf_14 (by decide) rfl ?_
    refine ab_iconst (v := 0) dX12_replyOf_16 (by decide) ?_
    refine ab_istore (lv1 := [(6, .int (0 : Int32)), (5, .int (0 : Int32)), (0, .ref 62), (1, .int v1), (2, .int v2), (3, .int v3), (4, .int v4)]) dX12_replyOf_17 (by decide) rfl ?_
    exact ab_sub [2, 3, 4, 5, 6, 1, 0] rfl h
set_option maxRecDepth 20000 in
theorem rX12_replyOf_19 (D : GD) (d : Nat)  (v1 : Int32) (v2 : Int32) (v3 : Int32) (v4 : Int32) (v5 : Int32) (v6 : Int32) (M : Mm) (post : Option Value → Mm → Prop) (hL : Lay 62 98 M) 
    (h : (((3 : Int32) ≤ v6 → ((v4 ≤ 0 → ∀ x3 : Int32, x3 = v4 + (1 : Int32) → LX12_replyOf_7 D d v1 v4 v5 x3 M post) ∧ (¬ v4 ≤ 0 → ((¬ v1 = 0 → ((v5 < v3 → ∀ x6 : Int32, x6 = v4 + (1 : Int32) → LX12_replyOf_7 D d v1 v4 v5 x6 M post) ∧ (¬ v5 < v3 → ∀ x7 : Int32, x7 = v4 + (1 : Int32) → LX12_replyOf_7 D d v1 v2 v3 x7 M post))) ∧ (v1 = 0 → ((v3 < v5 → ∀ x9 : Int32, x9 = v4 + (1 : Int32) → LX12_replyOf_7 D d v1 v4 v5 x9 M post) ∧ (¬ v3 < v5 → ∀ x10 : Int32, x10 = v4 + (1 : Int32) → LX12_replyOf_7 D d v1 v2 v3 x10 M post))))))) ∧ (¬ (3 : Int32) ≤ v6 → ((¬ v1 = 0 → vp_in v6 6 ∧ vp_in (((3 : Int32) * v6) + v4) 9 ∧ ∀ x14 : Int32, x14 = (v5 + ((gI M 78 v6.toNatClampNeg) * (gI M 63 ((((3 : Int32) * v6) + v4).toNatClampNeg)))) → ∀ x15 : Int32, x15 = v6 + (1 : Int32) → LX12_replyOf_19 D d v1 v2 v3 v4 x14 x15 M post) ∧ (v1 = 0 → vp_in ((3 : Int32) + v6) 6 ∧ vp_in (((3 : Int32) * v4) + v6) 9 ∧ ∀ x18 : Int32, x18 = (v5 + ((gI M 78 (((3 : Int32) + v6).toNatClampNeg)) * (gI M 63 ((((3 : Int32) * v4) + v6).toNatClampNeg)))) → ∀ x19 : Int32, x19 = v6 + (1 : Int32) → LX12_replyOf_19 D d v1 v2 v3 v4 x18 x19 M post))))) :
    LX12_replyOf_19 D d v1 v2 v3 v4 v5 v6 M post := by
  show AW D d 0 0 mX12_replyOf 0 0 19 [(0, .ref 62), (1, .int v1), (2, .int v2), (3, .int v3), (4, .int v4), (5, .int v5), (6, .int v6)] [] M post
  refine ab_iload 6 dX12_replyOf_19 rfl ?_
  refine ab_iconst (v := 3) dX12_replyOf_21 (by decide) ?_
  refine ab_icmp_ge (tgt := 85) dX12_replyOf_22 (by decide) (fun c1 => ?_) (fun c1 => ?_)
  · have h := h.1 c1
    refine ab_iload 4 dX12_replyOf_85 rfl ?_
    refine ab_if_le (tgt := 112) dX12_replyOf_87 (by decide) (fun c2 => ?_) (fun c2 => ?_)
    · have h := h.1 c2
      refine ab_iload 4 dX12_replyOf_112 rfl ?_
      refine ab_istore_n (lv1 := [(2, .int v4), (0, .ref 62), (1, .int v1), (3, .int v3), (4, .int v4), (5, .int v5), (6, .int v6)]) dX12_replyOf_114 (by decide) rfl ?_
      refine ab_iload 5 dX12_replyOf_115 rfl ?_
      refine ab_istore_n (lv1 := [(3, .int v5), (2, .int v4), (0, .ref 62), (1, .int v1), (4, .int v4), (5, .int v5), (6, .int v6)]) dX12_replyOf_117 (by decide) rfl ?_
      obtain ⟨x3, hx3⟩ : ∃ y : Int32, y = v4 + (1 : Int32) := ⟨_, rfl⟩
      have h := h x3 hx3
      refine ab_iinc (v := x3) 4 (lv1 := [(4, .int x3), (3, .int v5), (2, .int v4), (0, .ref 62), (1, .int v1), (5, .int v5), (6, .int v6)]) dX12_replyOf_118 rfl (by rw [hx3]; rfl) (by decide) rfl ?_
      refine ab_goto (tgt := 7) dX12_replyOf_121 (by decide) ?_
      exact ab_sub [3, 4, 2, 1, 0] rfl h
    · have h := h.2 c2
      refine ab_iload_n 1 dX12_replyOf_90 rfl ?_
      refine ab_if_ne (tgt := 103) dX12_replyOf_91 (by decide) (fun c4 => ?_) (fun c4 => ?_)
      · have h := h.1 c4
        refine ab_iload 5 dX12_replyOf_103 rfl ?_
        refine ab_iload_n 3 dX12_replyOf_105 rfl ?_
        refine ab_icmp_lt (tgt := 112) dX12_replyOf_106 (by decide) (fun c5 => ?_) (fun c5 => ?_)
        · have h := h.1 c5
          refine ab_iload 4 dX12_replyOf_112 rfl ?_
          refine ab_istore_n (lv1 := [(2, .int v4), (0, .ref 62), (1, .int v1), (3, .int v3), (4, .int v4), (5, .int v5), (6, .int v6)]) dX12_replyOf_114 (by decide) rfl ?_
          refine ab_iload 5 dX12_replyOf_115 rfl ?_
          refine ab_istore_n (lv1 := [(3, .int v5), (2, .int v4), (0, .ref 62), (1, .int v1), (4, .int v4), (5, .int v5), (6, .int v6)]) dX12_replyOf_117 (by decide) rfl ?_
          obtain ⟨x6, hx6⟩ : ∃ y : Int32, y = v4 + (1 : Int32) := ⟨_, rfl⟩
          have h := h x6 hx6
          refine ab_iinc (v := x6) 4 (lv1 := [(4, .int x6), (3, .int v5), (2, .int v4), (0, .ref 62), (1, .int v1), (5, .int v5), (6, .int v6)]) dX12_replyOf_118 rfl (by rw [hx6]; rfl) (by decide) rfl ?_
          refine ab_goto (tgt := 7) dX12_replyOf_121 (by decide) ?_
          exact ab_sub [3, 4, 2, 1, 0] rfl h
        · have h := h.2 c5
          refine ab_goto (tgt := 118) dX12_replyOf_109 (by decide) ?_
          obtain ⟨x7, hx7⟩ : ∃ y : Int32, y = v4 + (1 : Int32) := ⟨_, rfl⟩
          have h := h x7 hx7
          refine ab_iinc (v := x7) 4 (lv1 := [(4, .int x7), (0, .ref 62), (1, .int v1), (2, .int v2), (3, .int v3), (5, .int v5), (6, .int v6)]) dX12_replyOf_118 rfl (by rw [hx7]; rfl) (by decide) rfl ?_
          refine ab_goto (tgt := 7) dX12_replyOf_121 (by decide) ?_
          exact ab_sub [1, 2, 3, 4, 0] rfl h
      · have h := h.2 c4
        refine ab_iload 5 dX12_replyOf_94 rfl ?_
        refine ab_iload_n 3 dX12_replyOf_96 rfl ?_
        refine ab_icmp_gt (tgt := 112) dX12_replyOf_97 (by decide) (fun c8 => ?_) (fun c8 => ?_)
        · have h := h.1 c8
          refine ab_iload 4 dX12_replyOf_112 rfl ?_
          refine ab_istore_n (lv1 := [(2, .int v4), (0, .ref 62), (1, .int v1), (3, .int v3), (4, .int v4), (5, .int v5), (6, .int v6)]) dX12_replyOf_114 (by decide) rfl ?_
          refine ab_iload 5 dX12_replyOf_115 rfl ?_
          refine ab_istore_n (lv1 := [(3, .int v5), (2, .int v4), (0, .ref 62), (1, .int v1), (4, .int v4), (5, .int v5), (6, .int v6)]) dX12_replyOf_117 (by decide) rfl ?_
          obtain ⟨x9, hx9⟩ : ∃ y : Int32, y = v4 + (1 : Int32) := ⟨_, rfl⟩
          have h := h x9 hx9
          refine ab_iinc (v := x9) 4 (lv1 := [(4, .int x9), (3, .int v5), (2, .int v4), (0, .ref 62), (1, .int v1), (5, .int v5), (6, .int v6)]) dX12_replyOf_118 rfl (by rw [hx9]; rfl) (by decide) rfl ?_
          refine ab_goto (tgt := 7) dX12_replyOf_121 (by decide) ?_
          exact ab_sub [3, 4, 2, 1, 0] rfl h
        · have h := h.2 c8
          refine ab_goto (tgt := 118) dX12_replyOf_100 (by decide) ?_
          obtain ⟨x10, hx10⟩ : ∃ y : Int32, y = v4 + (1 : Int32) := ⟨_, rfl⟩
          have h := h x10 hx10
          refine ab_iinc (v := x10) 4 (lv1 := [(4, .int x10), (0, .ref 62), (1, .int v1), (2, .int v2), (3, .int v3), (5, .int v5), (6, .int v6)]) dX12_replyOf_118 rfl (by rw [hx10]; rfl) (by decide) rfl ?_
          refine ab_goto (tgt := 7) dX12_replyOf_121 (by decide) ?_
          exact ab_sub [1, 2, 3, 4, 0] rfl h
  · have h := h.2 c1
    refine ab_iload 5 dX12_replyOf_25 rfl ?_
    refine ab_iload_n 1 dX12_replyOf_27 rfl ?_
    refine ab_if_ne (tgt := 56) dX12_replyOf_28 (by decide) (fun c11 => ?_) (fun c11 => ?_)
    · have h := h.1 c11
      refine ab_aload_n 0 dX12_replyOf_56 rfl ?_
      refine ab_getP (r := 78) dX12_replyOf_57 fs_12_87_12 rfl (hL.sh 62 rfl (by decide) (by decide)).1 (hL.sh 62 rfl (by decide) (by decide)).2 (hL.pt 76 rfl (by decide) (by decide)) ?_
      refine ab_iload 6 dX12_replyOf_60 rfl ?_
      have hb12 := h.1
      have h := h.2
      refine ab_ialdj (j := v6.toNatClampNeg) dX12_replyOf_62 (hL.sh 78 rfl (by decide) (by decide)) hb12 rfl ?_
      refine ab_aload_n 0 dX12_replyOf_63 rfl ?_
      refine ab_getP (r := 63) dX12_replyOf_64 fs_12_7_12 rfl (hL.sh 62 rfl (by decide) (by decide)).1 (hL.sh 62 rfl (by decide) (by decide)).2 (hL.pt 61 rfl (by decide) (by decide)) ?_
      refine ab_iconst (v := 3) dX12_replyOf_67 (by decide) ?_
      refine ab_iload 6 dX12_replyOf_68 rfl ?_
      refine ab_imul dX12_replyOf_70 ?_
      refine ab_iload 4 dX12_replyOf_71 rfl ?_
      refine ab_iadd dX12_replyOf_73 ?_
      have hb13 := h.1
      have h := h.2
      refine ab_ialdj (j := (((3 : Int32) * v6) + v4).toNatClampNeg) dX12_replyOf_74 (hL.sh 63 rfl (by decide) (by decide)) hb13 rfl ?_
      refine ab_imul dX12_replyOf_75 ?_
      refine ab_iadd dX12_replyOf_76 ?_
      refine ab_topi (fun x14 hx14 => ?_)
      have h := h x14 hx14
      refine ab_istore (lv1 := [(5, .int x14), (0, .ref 62), (1, .int v1), (2, .int v2), (3, .int v3), (4, .int v4), (6, .int v6)]) dX12_replyOf_77 (by decide) rfl ?_
      obtain ⟨x15, hx15⟩ : ∃ y : Int32, y = v6 + (1 : Int32) := ⟨_, rfl⟩
      have h := h x15 hx15
      refine ab_iinc (v := x15) 6 (lv1 := [(6, .int x15), (5, .int x14), (0, .ref 62), (1, .int v1), (2, .int v2), (3, .int v3), (4, .int v4)]) dX12_replyOf_79 rfl (by rw [hx15]; rfl) (by decide) rfl ?_
      refine ab_goto (tgt := 19) dX12_replyOf_82 (by decide) ?_
      exact ab_sub [2, 3, 4, 5, 6, 1, 0] rfl h
    · have h := h.2 c11
      refine ab_aload_n 0 dX12_replyOf_31 rfl ?_
      refine ab_getP (r := 78) dX12_replyOf_32 fs_12_87_12 rfl (hL.sh 62 rfl (by decide) (by decide)).1 (hL.sh 62 rfl (by decide) (by decide)).2 (hL.pt 76 rfl (by decide) (by decide)) ?_
      refine ab_iconst (v := 3) dX12_replyOf_35 (by decide) ?_
      refine ab_iload 6 dX12_replyOf_36 rfl ?_
      refine ab_iadd dX12_replyOf_38 ?_
      have hb16 := h.1
      have h := h.2
      refine ab_ialdj (j := ((3 : Int32) + v6).toNatClampNeg) dX12_replyOf_39 (hL.sh 78 rfl (by decide) (by decide)) hb16 rfl ?_
      refine ab_aload_n 0 dX12_replyOf_40 rfl ?_
      refine ab_getP (r := 63) dX12_replyOf_41 fs_12_7_12 rfl (hL.sh 62 rfl (by decide) (by decide)).1 (hL.sh 62 rfl (by decide) (by decide)).2 (hL.pt 61 rfl (by decide) (by decide)) ?_
      refine ab_iconst (v := 3) dX12_replyOf_44 (by decide) ?_
      refine ab_iload 4 dX12_replyOf_45 rfl ?_
      refine ab_imul dX12_replyOf_47 ?_
      refine ab_iload 6 dX12_replyOf_48 rfl ?_
      refine ab_iadd dX12_replyOf_50 ?_
      have hb17 := h.1
      have h := h.2
      refine ab_ialdj (j := (((3 : Int32) * v4) + v6).toNatClampNeg) dX12_replyOf_51 (hL.sh 63 rfl (by decide) (by decide)) hb17 rfl ?_
      refine ab_imul dX12_replyOf_52 ?_
      refine ab_goto (tgt := 76) dX12_replyOf_53 (by decide) ?_
      refine ab_iadd dX12_replyOf_76 ?_
      refine ab_topi (fun x18 hx18 => ?_)
      have h := h x18 hx18
      refine ab_istore (lv1 := [(5, .int x18), (0, .ref 62), (1, .int v1), (2, .int v2), (3, .int v3), (4, .int v4), (6, .int v6)]) dX12_replyOf_77 (by decide) rfl ?_
      obtain ⟨x19, hx19⟩ : ∃ y : Int32, y = v6 + (1 : Int32) := ⟨_, rfl⟩
      have h := h x19 hx19
      refine ab_iinc (v := x19) 6 (lv1 := [(6, .int x19), (5, .int x18), (0, .ref 62), (1, .int v1), (2, .int v2), (3, .int v3), (4, .int v4)]) dX12_replyOf_79 rfl (by rw [hx19]; rfl) (by decide) rfl ?_
      refine ab_goto (tgt := 19) dX12_replyOf_82 (by decide) ?_
      exact ab_sub [2, 3, 4, 5, 6, 1, 0] rfl h
theorem dX12_answer_0 : decode cX12_answer 0 = .ok (.aload_n 0, 1) := by decide +kernel
theorem dX12_answer_1 : decode cX12_answer 1 = .ok (.iload_n 2, 1) := by decide +kernel
theorem dX12_answer_2 : decode cX12_answer 2 = .ok (.invokevirtual 257, 3) := by decide +kernel
theorem dX12_answer_5 : decode cX12_answer 5 = .ok (.istore_n 3, 1) := by decide +kernel
theorem dX12_answer_6 : decode cX12_answer 6 = .ok (.iconst 0, 1) := by decide +kernel
theorem dX12_answer_7 : decode cX12_answer 7 = .ok (.istore 4, 2) := by decide +kernel
theorem dX12_answer_9 : decode cX12_answer 9 = .ok (.iload 4, 2) := by decide +kernel
theorem dX12_answer_11 : decode cX12_answer 11 = .ok (.iconst 3, 1) := by decide +kernel
theorem dX12_answer_12 : decode cX12_answer 12 = .ok (.if_icmp .ge 73, 3) := by decide +kernel
theorem dX12_answer_15 : decode cX12_answer 15 = .ok (.iconst 3, 1) := by decide +kernel
theorem dX12_answer_16 : decode cX12_answer 16 = .ok (.iload_n 2, 1) := by decide +kernel
theorem dX12_answer_17 : decode cX12_answer 17 = .ok (.imul, 1) := by decide +kernel
theorem dX12_answer_18 : decode cX12_answer 18 = .ok (.iload 4, 2) := by decide +kernel
theorem dX12_answer_20 : decode cX12_answer 20 = .ok (.iadd, 1) := by decide +kernel
theorem dX12_answer_21 : decode cX12_answer 21 = .ok (.istore 5, 2) := by decide +kernel
theorem dX12_answer_23 : decode cX12_answer 23 = .ok (.aload_n 0, 1) := by decide +kernel
theorem dX12_answer_24 : decode cX12_answer 24 = .ok (.getfield 87, 3) := by decide +kernel
theorem dX12_answer_27 : decode cX12_answer 27 = .ok (.iload 5, 2) := by decide +kernel
theorem dX12_answer_29 : decode cX12_answer 29 = .ok (.aload_n 0, 1) := by decide +kernel
theorem dX12_answer_30 : decode cX12_answer 30 = .ok (.getfield 69, 3) := by decide +kernel
theorem dX12_answer_33 : decode cX12_answer 33 = .ok (.iload_n 1, 1) := by decide +kernel
theorem dX12_answer_34 : decode cX12_answer 34 = .ok (.iaload, 1) := by decide +kernel
theorem dX12_answer_35 : decode cX12_answer 35 = .ok (.iconst 5, 1) := by decide +kernel
theorem dX12_answer_36 : decode cX12_answer 36 = .ok (.if_icmp .ne 17, 3) := by decide +kernel
theorem dX12_answer_39 : decode cX12_answer 39 = .ok (.iload 4, 2) := by decide +kernel
theorem dX12_answer_41 : decode cX12_answer 41 = .ok (.iload_n 3, 1) := by decide +kernel
theorem dX12_answer_42 : decode cX12_answer 42 = .ok (.if_icmp .ne 7, 3) := by decide +kernel
theorem dX12_answer_45 : decode cX12_answer 45 = .ok (.iconst 1, 1) := by decide +kernel
theorem dX12_answer_46 : decode cX12_answer 46 = .ok (.goto 32, 3) := by decide +kernel
theorem dX12_answer_49 : decode cX12_answer 49 = .ok (.iconst 0, 1) := by decide +kernel
theorem dX12_answer_50 : decode cX12_answer 50 = .ok (.goto 28, 3) := by decide +kernel
theorem dX12_answer_53 : decode cX12_answer 53 = .ok (.iload 4, 2) := by decide +kernel
theorem dX12_answer_55 : decode cX12_answer 55 = .ok (.iload_n 3, 1) := by decide +kernel
theorem dX12_answer_56 : decode cX12_answer 56 = .ok (.if_icmp .ne 15, 3) := by decide +kernel
theorem dX12_answer_59 : decode cX12_answer 59 = .ok (.iconst 3, 1) := by decide +kernel
theorem dX12_answer_60 : decode cX12_answer 60 = .ok (.aload_n 0, 1) := by decide +kernel
theorem dX12_answer_61 : decode cX12_answer 61 = .ok (.getfield 87, 3) := by decide +kernel
theorem dX12_answer_64 : decode cX12_answer 64 = .ok (.iload 5, 2) := by decide +kernel
theorem dX12_answer_66 : decode cX12_answer 66 = .ok (.iaload, 1) := by decide +kernel
theorem dX12_answer_67 : decode cX12_answer 67 = .ok (.imul, 1) := by decide +kernel
theorem dX12_answer_68 : decode cX12_answer 68 = .ok (.goto 10, 3) := by decide +kernel
theorem dX12_answer_71 : decode cX12_answer 71 = .ok (.aload_n 0, 1) := by decide +kernel
theorem dX12_answer_72 : decode cX12_answer 72 = .ok (.getfield 87, 3) := by decide +kernel
theorem dX12_answer_75 : decode cX12_answer 75 = .ok (.iload 5, 2) := by decide +kernel
theorem dX12_answer_77 : decode cX12_answer 77 = .ok (.iaload, 1) := by decide +kernel
theorem dX12_answer_78 : decode cX12_answer 78 = .ok (.iastore, 1) := by decide +kernel
theorem dX12_answer_79 : decode cX12_answer 79 = .ok (.iinc 4 1, 3) := by decide +kernel
theorem dX12_answer_82 : decode cX12_answer 82 = .ok (.goto (-73), 3) := by decide +kernel
theorem dX12_answer_85 : decode cX12_answer 85 = .ok (.aload_n 0, 1) := by decide +kernel
theorem dX12_answer_86 : decode cX12_answer 86 = .ok (.iload_n 2, 1) := by decide +kernel
theorem dX12_answer_87 : decode cX12_answer 87 = .ok (.invokevirtual 260, 3) := by decide +kernel
theorem dX12_answer_90 : decode cX12_answer 90 = .ok (.return_, 1) := by decide +kernel
def LX12_answer_9 (D : GD) (d : Nat) (v1 : Int32) (v2 : Int32) (v3 : Int32) (v4 : Int32) (M : Mm) (post : Option Value → Mm → Prop) : Prop := AW D (d + 1) 0 0 mX12_answer 0 0 9 [(0, .ref 62), (1, .int v1), (2, .int v2), (3, .int v3), (4, .int v4)] [] M post
set_option maxRecDepth 20000 in
theorem rX12_answer (D : GD) (d : Nat) (a1 : Int32) (a2 : Int32) (M : Mm) (post : Option Value → Mm → Prop) (hL : Lay 62 98 M) 
    (h : AMi D d mX12_replyOf [.ref 62, .int a2] M (fun x2 M1 => LX12_answer_9 D d a1 a2 x2 (0 : Int32) M1 post)) :
    AM D (d + 1) 0 0 mX12_answer [.ref 62, .int a1, .int a2] M post := by
  refine AM.of (by decide) (Nat.le_of_ble_eq_true rfl) ?_
  show AW D (d + 1) 0 0 mX12_answer 0 0 0 [(0, .ref 62), (1, .int a1), (2, .int a2)] [] M post
  refine ab_aload_n 0 dX12_answer_0 rfl ?_
  refine ab_iload_n 2 dX12_answer_1 rfl ?_
  refine ab_callV (a := 62) (c0 := 12) (d' := d) (mc' := 0) (ms' := 0) (vs := [.int a2]) (st := []) dX12_answer_2 ⟨cw_X12_replyOf, w_1319⟩ w_1321 w_52 (by decide) (hL.sh 62 rfl (by decide) (by decide)).1 (hL.sh 62 rfl (by decide) (by decide)).2 rfl rfl (Nat.le_of_ble_eq_true rfl) (Nat.le_refl _) (Nat.zero_le _) (Nat.zero_le _) (AM.mono h (fun r M1 ⟨x2, hr3, hc4, h⟩ => ?_))
  subst hr3
  refine ab_rs ?_
  have hm5 : Sm M M1 := (Sm.refl M).trans hc4
  have hl6 := hL.of hm5
  refine ab_istore_n (lv1 := [(3, .int x2), (0, .ref 62), (1, .int a1), (2, .int a2)]) dX12_answer_5 (by decide) rfl ?_
  refine ab_iconst (v := 0) dX12_answer_6 (by decide) ?_
  refine ab_istore (lv1 := [(4, .int (0 : Int32)), (3, .int x2), (0, .ref 62), (1, .int a1), (2, .int a2)]) dX12_answer_7 (by decide) rfl ?_
  exact ab_sub [2, 3, 4, 1, 0] rfl h
set_option maxRecDepth 20000 in
theorem rX12_answer_9 (D : GD) (d : Nat)  (v1 : Int32) (v2 : Int32) (v3 : Int32) (v4 : Int32) (M : Mm) (post : Option Value → Mm → Prop) (hL : Lay 62 98 M) 
    (h : (((3 : Int32) ≤ v4 → AMv D d mX12_bound [.ref 62, .int v2] M (fun M2 => post none M2)) ∧ (¬ (3 : Int32) ≤ v4 → ∀ x8 : Int32, x8 = (((3 : Int32) * v2) + v4) → vp_in v1 11 ∧ ((¬ (gI M 74 v1.toNatClampNeg) = (5 : Int32) → ((¬ v4 = v3 → vp_in x8 6 ∧ ∀ M13 : Mm, M13 = sI M 78 x8.toNatClampNeg (gI M 78 x8.toNatClampNeg) → ∀ x17 : Int32, x17 = v4 + (1 : Int32) → LX12_answer_9 D d v1 v2 v3 x17 M13 post) ∧ (v4 = v3 → vp_in x8 6 ∧ ∀ M19 : Mm, M19 = sI M 78 x8.toNatClampNeg ((3 : Int32) * (gI M 78 x8.toNatClampNeg)) → ∀ x23 : Int32, x23 = v4 + (1 : Int32) → LX12_answer_9 D d v1 v2 v3 x23 M19 post))) ∧ ((gI M 74 v1.toNatClampNeg) = (5 : Int32) → ((¬ v4 = v3 → vp_in x8 6 ∧ ∀ M26 : Mm, M26 = sI M 78 x8.toNatClampNeg (0 : Int32) → ∀ x30 : Int32, x30 = v4 + (1 : Int32) → LX12_answer_9 D d v1 v2 v3 x30 M26 post) ∧ (v4 = v3 → vp_in x8 6 ∧ ∀ M32 : Mm, M32 = sI M 78 x8.toNatClampNeg (1 : Int32) → ∀ x36 : Int32, x36 = v4 + (1 : Int32) → LX12_answer_9 D d v1 v2 v3 x36 M32 post))))))) :
    LX12_answer_9 D d v1 v2 v3 v4 M post := by
  show AW D (d + 1) 0 0 mX12_answer 0 0 9 [(0, .ref 62), (1, .int v1), (2, .int v2), (3, .int v3), (4, .int v4)] [] M post
  refine ab_iload 4 dX12_answer_9 rfl ?_
  refine ab_iconst (v := 3) dX12_answer_11 (by decide) ?_
  refine ab_icmp_ge (tgt := 85) dX12_answer_12 (by decide) (fun c1 => ?_) (fun c1 => ?_)
  · have h := h.1 c1
    refine ab_aload_n 0 dX12_answer_85 rfl ?_
    refine ab_iload_n 2 dX12_answer_86 rfl ?_
    refine ab_callV (a := 62) (c0 := 12) (d' := d) (mc' := 0) (ms' := 0) (vs := [.int v2]) (st := []) dX12_answer_87 ⟨cw_X12_bound, w_1311⟩ w_1313 w_50 (by decide) (hL.sh 62 rfl (by decide) (by decide)).1 (hL.sh 62 rfl (by decide) (by decide)).2 rfl rfl (Nat.le_of_ble_eq_true rfl) (Nat.le_refl _) (Nat.zero_le _) (Nat.zero_le _) (AM.mono h (fun r M2 ⟨hr4, hc5, h⟩ => ?_))
    subst hr4
    refine ab_rv ?_
    have hm6 : Sm M M2 := (Sm.refl M).trans hc5
    have hl7 := hL.of hm6
    exact ab_vret dX12_answer_90 rfl h
  · have h := h.2 c1
    refine ab_iconst (v := 3) dX12_answer_15 (by decide) ?_
    refine ab_iload_n 2 dX12_answer_16 rfl ?_
    refine ab_imul dX12_answer_17 ?_
    refine ab_iload 4 dX12_answer_18 rfl ?_
    refine ab_iadd dX12_answer_20 ?_
    refine ab_topi (fun x8 hx8 => ?_)
    have h := h x8 hx8
    refine ab_istore (lv1 := [(5, .int x8), (0, .ref 62), (1, .int v1), (2, .int v2), (3, .int v3), (4, .int v4)]) dX12_answer_21 (by decide) rfl ?_
    refine ab_aload_n 1 dX12_answer_23 rfl ?_
    refine ab_getP (r := 78) dX12_answer_24 fs_12_87_12 rfl (hL.sh 62 rfl (by decide) (by decide)).1 (hL.sh 62 rfl (by decide) (by decide)).2 (hL.pt 76 rfl (by decide) (by decide)) ?_
    refine ab_iload 0 dX12_answer_27 rfl ?_
    refine ab_aload_n 1 dX12_answer_29 rfl ?_
    refine ab_getP (r := 74) dX12_answer_30 fs_12_69_12 rfl (hL.sh 62 rfl (by decide) (by decide)).1 (hL.sh 62 rfl (by decide) (by decide)).2 (hL.pt 72 rfl (by decide) (by decide)) ?_
    refine ab_iload_n 2 dX12_answer_33 rfl ?_
    have hb9 := h.1
    have h := h.2
    refine ab_ialdj (j := v1.toNatClampNeg) dX12_answer_34 (hL.sh 74 rfl (by decide) (by decide)) hb9 rfl ?_
    refine ab_iconst (v := 5) dX12_answer_35 (by decide) ?_
    refine ab_icmp_ne (tgt := 53) dX12_answer_36 (by decide) (fun c10 => ?_) (fun c10 => ?_)
    · have h := h.1 c10
      refine ab_iload 5 dX12_answer_53 rfl ?_
      refine ab_iload_n 4 dX12_answer_55 rfl ?_
      refine ab_icmp_ne (tgt := 71) dX12_answer_56 (by decide) (fun c11 => ?_) (fun c11 => ?_)
      · have h := h.1 c11
        refine ab_aload_n 1 dX12_answer_71 rfl ?_
        refine ab_getP (r := 78) dX12_answer_72 fs_12_87_12 rfl (hL.sh 62 rfl (by decide) (by decide)).1 (hL.sh 62 rfl (by decide) (by decide)).2 (hL.pt 76 rfl (by decide) (by decide)) ?_
        refine ab_iload 0 dX12_answer_75 rfl ?_
        have hb12 := h.1
        have h := h.2
        refine ab_ialdj (j := x8.toNatClampNeg) dX12_answer_77 (hL.sh 78 rfl (by decide) (by decide)) hb12 rfl ?_
        refine ab_iastj (j := x8.toNatClampNeg) dX12_answer_78 (hL.sh 78 rfl (by decide) (by decide)) hb12 rfl ?_
        refine ab_nameM (fun M13 hM13 => ?_)
        have h := h M13 hM13
        have hs16 : Sm M M13 := hM13 ▸ (Sm.refl _).i
        have hm14 : Sm M M13 := (Sm.refl M).trans hs16
        have hl15 := hL.of hm14
        obtain ⟨x17, hx17⟩ : ∃ y : Int32, y = v4 + (1 : Int32) := ⟨_, rfl⟩
        have h := h x17 hx17
        refine ab_iinc (v := x17) 5 (lv1 := [(4, .int x17), (5, .int x8), (0, .ref 62), (1, .int v1), (2, .int v2), (3, .int v3)]) dX12_answer_79 rfl (by rw [hx17]; rfl) (by decide) rfl ?_
        refine ab_goto (tgt := 9) dX12_answer_82 (by decide) ?_
        exact ab_sub [2, 3, 4, 5, 0] rfl h
      · have h := h.2 c11
        refine ab_iconst (v := 3) dX12_answer_59 (by decide) ?_
        refine ab_aload_n 1 dX12_answer_60 rfl ?_
        refine ab_getP (r := 78) dX12_answer_61 fs_12_87_12 rfl (hL.sh 62 rfl (by decide) (by decide)).1 (hL.sh 62 rfl (by decide) (by decide)).2 (hL.pt 76 rfl (by decide) (by decide)) ?_
        refine ab_iload 0 dX12_answer_64 rfl ?_
        have hb18 := h.1
        have h := h.2
        refine ab_ialdj (j := x8.toNatClampNeg) dX12_answer_66 (hL.sh 78 rfl (by decide) (by decide)) hb18 rfl ?_
        refine ab_imul dX12_answer_67 ?_
        refine ab_goto (tgt := 78) dX12_answer_68 (by decide) ?_
        refine ab_iastj (j := x8.toNatClampNeg) dX12_answer_78 (hL.sh 78 rfl (by decide) (by decide)) hb18 rfl ?_
        refine ab_nameM (fun M19 hM19 => ?_)
        have h := h M19 hM19
        have hs22 : Sm M M19 := hM19 ▸ (Sm.refl _).i
        have hm20 : Sm M M19 := (Sm.refl M).trans hs22
        have hl21 := hL.of hm20
        obtain ⟨x23, hx23⟩ : ∃ y : Int32, y = v4 + (1 : Int32) := ⟨_, rfl⟩
        have h := h x23 hx23
        refine ab_iinc (v := x23) 5 (lv1 := [(4, .int x23), (5, .int x8), (0, .ref 62), (1, .int v1), (2, .int v2), (3, .int v3)]) dX12_answer_79 rfl (by rw [hx23]; rfl) (by decide) rfl ?_
        refine ab_goto (tgt := 9) dX12_answer_82 (by decide) ?_
        exact ab_sub [2, 3, 4, 5, 0] rfl h
    · have h := h.2 c10
      refine ab_iload 5 dX12_answer_39 rfl ?_
      refine ab_iload_n 4 dX12_answer_41 rfl ?_
      refine ab_icmp_ne (tgt := 49) dX12_answer_42 (by decide) (fun c24 => ?_) (fun c24 => ?_)
      · have h := h.1 c24
        refine ab_iconst (v := 0) dX12_answer_49 (by decide) ?_
        refine ab_goto (tgt := 78) dX12_answer_50 (by decide) ?_
        have hb25 := h.1
        have h := h.2
        refine ab_iastj (j := x8.toNatClampNeg) dX12_answer_78 (hL.sh 78 rfl (by decide) (by decide)) hb25 rfl ?_
        refine ab_nameM (fun M26 hM26 => ?_)
        have h := h M26 hM26
        have hs29 : Sm M M26 := hM26 ▸ (Sm.refl _).i
        have hm27 : Sm M M26 := (Sm.refl M).trans hs29
        have hl28 := hL.of hm27
        obtain ⟨x30, hx30⟩ : ∃ y : Int32, y = v4 + (1 : Int32) := ⟨_, rfl⟩
        have h := h x30 hx30
        refine ab_iinc (v := x30) 5 (lv1 := [(4, .int x30), (5, .int x8), (0, .ref 62), (1, .int v1), (2, .int v2), (3, .int v3)]) dX12_answer_79 rfl (by rw [hx30]; rfl) (by decide) rfl ?_
        refine ab_goto (tgt := 9) dX12_answer_82 (by decide) ?_
        exact ab_sub [2, 3, 4, 5, 0] rfl h
      · have h := h.2 c24
        refine ab_iconst (v := 1) dX12_answer_45 (by decide) ?_
        refine ab_goto (tgt := 78) dX12_answer_46 (by decide) ?_
        have hb31 := h.1
        have h := h.2
        refine ab_iastj (j := x8.toNatClampNeg) dX12_answer_78 (hL.sh 78 rfl (by decide) (by decide)) hb31 rfl ?_
        refine ab_nameM (fun M32 hM32 => ?_)
        have h := h M32 hM32
        have hs35 : Sm M M32 := hM32 ▸ (Sm.refl _).i
        have hm33 : Sm M M32 := (Sm.refl M).trans hs35
        have hl34 := hL.of hm33
        obtain ⟨x36, hx36⟩ : ∃ y : Int32, y = v4 + (1 : Int32) := ⟨_, rfl⟩
        have h := h x36 hx36
        refine ab_iinc (v := x36) 5 (lv1 := [(4, .int x36), (5, .int x8), (0, .ref 62), (1, .int v1), (2, .int v2), (3, .int v3)]) dX12_answer_79 rfl (by rw [hx36]; rfl) (by decide) rfl ?_
        refine ab_goto (tgt := 9) dX12_answer_82 (by decide) ?_
        exact ab_sub [2, 3, 4, 5, 0] rfl h
