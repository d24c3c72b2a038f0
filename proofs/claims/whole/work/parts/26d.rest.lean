theorem dX8_goes_0 : decode cX8_goes 0 = .ok (.aload_n 0, 1) := by decide +kernel
theorem dX8_goes_1 : decode cX8_goes 1 = .ok (.bipush 70, 2) := by decide +kernel
theorem dX8_goes_3 : decode cX8_goes 3 = .ok (.invokevirtual 19, 3) := by decide +kernel
theorem dX8_goes_6 : decode cX8_goes 6 = .ok (.aload_n 0, 1) := by decide +kernel
theorem dX8_goes_7 : decode cX8_goes 7 = .ok (.iload_n 1, 1) := by decide +kernel
theorem dX8_goes_8 : decode cX8_goes 8 = .ok (.invokespecial 23, 3) := by decide +kernel
theorem dX8_goes_11 : decode cX8_goes 11 = .ok (.aload_n 0, 1) := by decide +kernel
theorem dX8_goes_12 : decode cX8_goes 12 = .ok (.iconst 2, 1) := by decide +kernel
theorem dX8_goes_13 : decode cX8_goes 13 = .ok (.invokespecial 27, 3) := by decide +kernel
theorem dX8_goes_16 : decode cX8_goes 16 = .ok (.iadd, 1) := by decide +kernel
theorem dX8_goes_17 : decode cX8_goes 17 = .ok (.ireturn, 1) := by decide +kernel
set_option maxRecDepth 20000 in
theorem rX8_goes (D : GD) (d : Nat) (a0 c j : Nat) (a1 : Int32) (M : Mm) (post : Option Value → Mm → Prop) (hL : Lay 0 0 M) (hp : Pl M a0 c j) (hc : c = 8)
    (h : AMv D d (vm_begin c) [.ref a0, .int (70 : Int32)] M (fun M1 => AMi D d mX5_goes [.ref a0, .int a1] M1 (fun x9 M8 => AMi D d mX2_looks [.ref a0, .int (2 : Int32)] M8 (fun x16 M15 => post (some (.int (x9 + x16))) M15)))) :
    AM D (d + 1) 0 0 mX8_goes [.ref a0, .int a1] M post := by
  refine AM.of (by decide) (Nat.le_of_ble_eq_true rfl) ?_
  show AW D (d + 1) 0 0 mX8_goes 0 0 0 [(0, .ref a0), (1, .int a1)] [] M post
  refine ab_aload_n 0 dX8_goes_0 rfl ?_
  refine ab_bipush (v := 70) dX8_goes_1 (by decide) ?_
  refine vc_8_19 (d' := d) (vs := [.int (70 : Int32)]) (st := []) rfl hc dX8_goes_3 hp.1 rfl rfl (Nat.le_of_ble_eq_true rfl) (Nat.le_refl _) (AM.mono h (fun r M1 ⟨hr3, hc4, h⟩ => ?_))
  subst hr3
  refine ab_rv ?_
  have hm5 : Sm M M1 := (Sm.refl M).trans hc4
  have hl6 := hL.of hm5
  have hp7 := hp.of hc4
  refine ab_aload_n 0 dX8_goes_6 rfl ?_
  refine ab_iload_n 1 dX8_goes_7 rfl ?_
  refine ab_callSX (c0 := c) (x := ⟨RX2, "goes", "(I)I"⟩) (mc' := 0) (ms' := 0) (d' := d) (vs := [.int a1]) (st := []) dX8_goes_8 cw_X5_goes w_910 w_911 w_556 w_504 rfl w_894 (by decide) hp7.2.1.lt hp7.1.1 hp7.1.2 rfl rfl (Nat.le_of_ble_eq_true rfl) (Nat.le_refl _) (Nat.zero_le _) (Nat.zero_le _) (AM.mono h (fun r M8 ⟨x9, hr10, hc11, h⟩ => ?_))
  subst hr10
  refine ab_rs ?_
  have hm12 : Sm M M8 := hm5.trans hc11
  have hl13 := hL.of hm12
  have hp14 := hp7.of hc11
  refine ab_aload_n 0 dX8_goes_11 rfl ?_
  refine ab_iconst (v := 2) dX8_goes_12 (by decide) ?_
  refine ab_callSU (c0 := c) (mc' := 0) (ms' := 0) (d' := d) (vs := [.int (2 : Int32)]) (st := [.int x9]) dX8_goes_13 ⟨cw_X2_looks, w_880⟩ w_1530 w_556 w_861 (by decide) hp14.2.1.lt hp14.1.1 hp14.1.2 rfl rfl (Nat.le_of_ble_eq_true rfl) (Nat.le_refl _) (Nat.zero_le _) (Nat.zero_le _) (AM.mono h (fun r M15 ⟨x16, hr17, hc18, h⟩ => ?_))
  subst hr17
  refine ab_rs ?_
  have hm19 : Sm M M15 := hm12.trans hc18
  have hl20 := hL.of hm19
  have hp21 := hp14.of hc18
  refine ab_iadd dX8_goes_16 ?_
  exact ab_iret dX8_goes_17 rfl h
theorem dX8_looks_0 : decode cX8_looks 0 = .ok (.aload_n 0, 1) := by decide +kernel
theorem dX8_looks_1 : decode cX8_looks 1 = .ok (.bipush 71, 2) := by decide +kernel
theorem dX8_looks_3 : decode cX8_looks 3 = .ok (.invokevirtual 19, 3) := by decide +kernel
theorem dX8_looks_6 : decode cX8_looks 6 = .ok (.aload_n 0, 1) := by decide +kernel
theorem dX8_looks_7 : decode cX8_looks 7 = .ok (.iload_n 1, 1) := by decide +kernel
theorem dX8_looks_8 : decode cX8_looks 8 = .ok (.invokespecial 27, 3) := by decide +kernel
theorem dX8_looks_11 : decode cX8_looks 11 = .ok (.aload_n 0, 1) := by decide +kernel
theorem dX8_looks_12 : decode cX8_looks 12 = .ok (.getfield 13, 3) := by decide +kernel
theorem dX8_looks_15 : decode cX8_looks 15 = .ok (.ixor, 1) := by decide +kernel
theorem dX8_looks_16 : decode cX8_looks 16 = .ok (.ireturn, 1) := by decide +kernel
set_option maxRecDepth 20000 in
theorem rX8_looks (D : GD) (d : Nat) (a0 c j : Nat) (a1 : Int32) (M : Mm) (post : Option Value → Mm → Prop) (hL : Lay 0 0 M) (hp : Pl M a0 c j) (hc : c = 8)
    (h : AMv D d (vm_begin c) [.ref a0, .int (71 : Int32)] M (fun M1 => AMi D d mX2_looks [.ref a0, .int a1] M1 (fun x9 M8 => post (some (.int (x9 ^^^ (gI M8 a0 2)))) M8))) :
    AM D (d + 1) 0 0 mX8_looks [.ref a0, .int a1] M post := by
  refine AM.of (by decide) (Nat.le_of_ble_eq_true rfl) ?_
  show AW D (d + 1) 0 0 mX8_looks 0 0 0 [(0, .ref a0), (1, .int a1)] [] M post
  refine ab_aload_n 0 dX8_looks_0 rfl ?_
  refine ab_bipush (v := 71) dX8_looks_1 (by decide) ?_
  refine vc_8_19 (d' := d) (vs := [.int (71 : Int32)]) (st := []) rfl hc dX8_looks_3 hp.1 rfl rfl (Nat.le_of_ble_eq_true rfl) (Nat.le_refl _) (AM.mono h (fun r M1 ⟨hr3, hc4, h⟩ => ?_))
  subst hr3
  refine ab_rv ?_
  have hm5 : Sm M M1 := (Sm.refl M).trans hc4
  have hl6 := hL.of hm5
  have hp7 := hp.of hc4
  refine ab_aload_n 0 dX8_looks_6 rfl ?_
  refine ab_iload_n 1 dX8_looks_7 rfl ?_
  refine ab_callSU (c0 := c) (mc' := 0) (ms' := 0) (d' := d) (vs := [.int a1]) (st := []) dX8_looks_8 ⟨cw_X2_looks, w_880⟩ w_1530 w_556 w_861 (by decide) hp7.2.1.lt hp7.1.1 hp7.1.2 rfl rfl (Nat.le_of_ble_eq_true rfl) (Nat.le_refl _) (Nat.zero_le _) (Nat.zero_le _) (AM.mono h (fun r M8 ⟨x9, hr10, hc11, h⟩ => ?_))
  subst hr10
  refine ab_rs ?_
  have hm12 : Sm M M8 := hm5.trans hc11
  have hl13 := hL.of hm12
  have hp14 := hp7.of hc11
  refine ab_aload_n 0 dX8_looks_11 rfl ?_
  refine ab_getI dX8_looks_12 (pf_8_13 hc).1 (pf_8_13 hc).2 hp14.1.1 hp14.1.2 ?_
  refine ab_ixor dX8_looks_15 ?_
  exact ab_iret dX8_looks_16 rfl h
theorem dX9_weigh_0 : decode cX9_weigh 0 = .ok (.iload_n 3, 1) := by decide +kernel
theorem dX9_weigh_1 : decode cX9_weigh 1 = .ok (.invokestatic 7, 3) := by decide +kernel
theorem dX9_weigh_4 : decode cX9_weigh 4 = .ok (.ifCond .eq 7, 3) := by decide +kernel
theorem dX9_weigh_7 : decode cX9_weigh 7 = .ok (.aload_n 1, 1) := by decide +kernel
theorem dX9_weigh_8 : decode cX9_weigh 8 = .ok (.iload_n 3, 1) := by decide +kernel
theorem dX9_weigh_9 : decode cX9_weigh 9 = .ok (.iconst 0, 1) := by decide +kernel
theorem dX9_weigh_10 : decode cX9_weigh 10 = .ok (.iastore, 1) := by decide +kernel
theorem dX9_weigh_11 : decode cX9_weigh 11 = .ok (.return_, 1) := by decide +kernel
set_option maxRecDepth 20000 in
theorem rX9_weigh (D : GD) (d : Nat) (a0 c j : Nat) (a1 : Nat) (a2 : Nat) (a3 : Int32) (a4 : Int32) (M : Mm) (post : Option Value → Mm → Prop) (hL : Lay 0 0 M) (hp : Pl M a0 c j) (hc : c = 9) (sa1 : Sh M a1 (1, 4)) (sa2 : Sh M a2 (1, 3))
    (h : AMi D d mX11_isSide [.int a3] M (fun x2 M1 => ((x2 = 0 → post none M1) ∧ (¬ x2 = 0 → vp_in a3 4 ∧ ∀ M10 : Mm, M10 = sI M1 a1 a3.toNatClampNeg (0 : Int32) → post none M10)))) :
    AM D (d + 1) 0 0 mX9_weigh [.ref a0, .ref a1, .ref a2, .int a3, .int a4] M post := by
  refine AM.of (by decide) (Nat.le_of_ble_eq_true rfl) ?_
  show AW D (d + 1) 0 0 mX9_weigh 0 0 0 [(0, .ref a0), (1, .ref a1), (2, .ref a2), (3, .int a3), (4, .int a4)] [] M post
  refine ab_iload_n 3 dX9_weigh_0 rfl ?_
  refine ab_callSN (d' := d) (mc' := 0) (ms' := 0) (vs := [.int a3]) (st := []) dX9_weigh_1 cw_X11_isSide w_659 w_319 rfl rfl (Nat.le_of_ble_eq_true rfl) (Nat.le_refl _) (Nat.zero_le _) (Nat.zero_le _) (AM.mono h (fun r M1 ⟨x2, hr3, hc4, h⟩ => ?_))
  subst hr3
  refine ab_rs ?_
  have hm5 : Sm M M1 := (Sm.refl M).trans hc4
  have hl6 := hL.of hm5
  have hp7 := hp.of hc4
  refine ab_if_eq (tgt := 11) dX9_weigh_4 (by decide) (fun c8 => ?_) (fun c8 => ?_)
  · have h := h.1 c8
    exact ab_vret dX9_weigh_11 rfl h
  · have h := h.2 c8
    refine ab_aload_n 1 dX9_weigh_7 rfl ?_
    refine ab_iload_n 3 dX9_weigh_8 rfl ?_
    refine ab_iconst (v := 0) dX9_weigh_9 (by decide) ?_
    have hb9 := h.1
    have h := h.2
    refine ab_iastj (j := a3.toNatClampNeg) dX9_weigh_10 (sa1.of hm5) hb9 rfl ?_
    refine ab_nameM (fun M10 hM10 => ?_)
    have h := h M10 hM10
    have hs13 : Sm M1 M10 := hM10 ▸ (Sm.refl _).i
    have hm11 : Sm M M10 := hm5.trans hs13
    have hl12 := hL.of hm11
    have hp14 := hp7.of hs13
    exact ab_vret dX9_weigh_11 rfl h
theorem dX9_tells_0 : decode cX9_tells 0 = .ok (.aload_n 0, 1) := by decide +kernel
theorem dX9_tells_1 : decode cX9_tells 1 = .ok (.bipush 40, 2) := by decide +kernel
theorem dX9_tells_3 : decode cX9_tells 3 = .ok (.invokevirtual 13, 3) := by decide +kernel
theorem dX9_tells_6 : decode cX9_tells 6 = .ok (.aload_n 0, 1) := by decide +kernel
theorem dX9_tells_7 : decode cX9_tells 7 = .ok (.iload_n 1, 1) := by decide +kernel
theorem dX9_tells_8 : decode cX9_tells 8 = .ok (.invokespecial 19, 3) := by decide +kernel
theorem dX9_tells_11 : decode cX9_tells 11 = .ok (.aload_n 0, 1) := by decide +kernel
theorem dX9_tells_12 : decode cX9_tells 12 = .ok (.iconst 1, 1) := by decide +kernel
theorem dX9_tells_13 : decode cX9_tells 13 = .ok (.invokevirtual 23, 3) := by decide +kernel
theorem dX9_tells_16 : decode cX9_tells 16 = .ok (.iadd, 1) := by decide +kernel
theorem dX9_tells_17 : decode cX9_tells 17 = .ok (.ireturn, 1) := by decide +kernel
set_option maxRecDepth 20000 in
theorem rX9_tells (D : GD) (d : Nat) (a0 c j : Nat) (a1 : Int32) (M : Mm) (post : Option Value → Mm → Prop) (hL : Lay 0 0 M) (hp : Pl M a0 c j) (hc : c = 9)
    (h : AMv D d (vm_begin c) [.ref a0, .int (40 : Int32)] M (fun M1 => AMi D d mX5_tells [.ref a0, .int a1] M1 (fun x9 M8 => AMi D d (vm_goes c) [.ref a0, .int (1 : Int32)] M8 (fun x16 M15 => post (some (.int (x9 + x16))) M15)))) :
    AM D (d + 1) 0 0 mX9_tells [.ref a0, .int a1] M post := by
  refine AM.of (by decide) (Nat.le_of_ble_eq_true rfl) ?_
  show AW D (d + 1) 0 0 mX9_tells 0 0 0 [(0, .ref a0), (1, .int a1)] [] M post
  refine ab_aload_n 0 dX9_tells_0 rfl ?_
  refine ab_bipush (v := 40) dX9_tells_1 (by decide) ?_
  refine vc_9_13 (d' := d) (vs := [.int (40 : Int32)]) (st := []) rfl hc dX9_tells_3 hp.1 rfl rfl (Nat.le_of_ble_eq_true rfl) (Nat.le_refl _) (AM.mono h (fun r M1 ⟨hr3, hc4, h⟩ => ?_))
  subst hr3
  refine ab_rv ?_
  have hm5 : Sm M M1 := (Sm.refl M).trans hc4
  have hl6 := hL.of hm5
  have hp7 := hp.of hc4
  refine ab_aload_n 0 dX9_tells_6 rfl ?_
  refine ab_iload_n 1 dX9_tells_7 rfl ?_
  refine ab_callSU (c0 := c) (mc' := 0) (ms' := 0) (d' := d) (vs := [.int a1]) (st := []) dX9_tells_8 ⟨cw_X5_tells, w_942⟩ w_923 w_517 w_921 (by decide) hp7.2.1.lt hp7.1.1 hp7.1.2 rfl rfl (Nat.le_of_ble_eq_true rfl) (Nat.le_refl _) (Nat.zero_le _) (Nat.zero_le _) (AM.mono h (fun r M8 ⟨x9, hr10, hc11, h⟩ => ?_))
  subst hr10
  refine ab_rs ?_
  have hm12 : Sm M M8 := hm5.trans hc11
  have hl13 := hL.of hm12
  have hp14 := hp7.of hc11
  refine ab_aload_n 0 dX9_tells_11 rfl ?_
  refine ab_iconst (v := 1) dX9_tells_12 (by decide) ?_
  refine vc_9_23 (d' := d) (vs := [.int (1 : Int32)]) (st := [.int x9]) rfl hc dX9_tells_13 hp14.1 rfl rfl (Nat.le_of_ble_eq_true rfl) (Nat.le_refl _) (AM.mono h (fun r M15 ⟨x16, hr17, hc18, h⟩ => ?_))
  subst hr17
  refine ab_rs ?_
  have hm19 : Sm M M15 := hm12.trans hc18
  have hl20 := hL.of hm19
  have hp21 := hp14.of hc18
  refine ab_iadd dX9_tells_16 ?_
  exact ab_iret dX9_tells_17 rfl h
theorem dX10_heeds_0 : decode cX10_heeds 0 = .ok (.iconst 1, 1) := by decide +kernel
theorem dX10_heeds_1 : decode cX10_heeds 1 = .ok (.ireturn, 1) := by decide +kernel
set_option maxRecDepth 20000 in
theorem rX10_heeds (D : GD) (d : Nat) (a0 c j : Nat) (M : Mm) (post : Option Value → Mm → Prop) (hL : Lay 0 0 M) (hp : Pl M a0 c j) (hc : c = 10)
    (h : post (some (.int (1 : Int32))) M) :
    AM D d 0 0 mX10_heeds [.ref a0] M post := by
  refine AM.of (by decide) (Nat.le_of_ble_eq_true rfl) ?_
  show AW D d 0 0 mX10_heeds 0 0 0 [(0, .ref a0)] [] M post
  refine ab_iconst (v := 1) dX10_heeds_0 (by decide) ?_
  exact ab_zret dX10_heeds_1 rfl rfl h
theorem dX10_weigh_0 : decode cX10_weigh 0 = .ok (.aload_n 0, 1) := by decide +kernel
theorem dX10_weigh_1 : decode cX10_weigh 1 = .ok (.aload_n 1, 1) := by decide +kernel
theorem dX10_weigh_2 : decode cX10_weigh 2 = .ok (.aload_n 2, 1) := by decide +kernel
theorem dX10_weigh_3 : decode cX10_weigh 3 = .ok (.iload_n 3, 1) := by decide +kernel
theorem dX10_weigh_4 : decode cX10_weigh 4 = .ok (.iload 4, 2) := by decide +kernel
theorem dX10_weigh_6 : decode cX10_weigh 6 = .ok (.invokespecial 7, 3) := by decide +kernel
theorem dX10_weigh_9 : decode cX10_weigh 9 = .ok (.iload 4, 2) := by decide +kernel
theorem dX10_weigh_11 : decode cX10_weigh 11 = .ok (.invokestatic 11, 3) := by decide +kernel
theorem dX10_weigh_14 : decode cX10_weigh 14 = .ok (.ifCond .eq 11, 3) := by decide +kernel
theorem dX10_weigh_17 : decode cX10_weigh 17 = .ok (.aload_n 1, 1) := by decide +kernel
theorem dX10_weigh_18 : decode cX10_weigh 18 = .ok (.iload 4, 2) := by decide +kernel
theorem dX10_weigh_20 : decode cX10_weigh 20 = .ok (.dup2, 1) := by decide +kernel
theorem dX10_weigh_21 : decode cX10_weigh 21 = .ok (.iaload, 1) := by decide +kernel
theorem dX10_weigh_22 : decode cX10_weigh 22 = .ok (.iconst 3, 1) := by decide +kernel
theorem dX10_weigh_23 : decode cX10_weigh 23 = .ok (.imul, 1) := by decide +kernel
theorem dX10_weigh_24 : decode cX10_weigh 24 = .ok (.iastore, 1) := by decide +kernel
theorem dX10_weigh_25 : decode cX10_weigh 25 = .ok (.return_, 1) := by decide +kernel
set_option maxRecDepth 20000 in
theorem rX10_weigh (D : GD) (d : Nat) (a0 c j : Nat) (a1 : Nat) (a2 : Nat) (a3 : Int32) (a4 : Int32) (M : Mm) (post : Option Value → Mm → Prop) (hL : Lay 0 0 M) (hp : Pl M a0 c j) (hc : c = 10) (sa1 : Sh M a1 (1, 4)) (sa2 : Sh M a2 (1, 3))
    (h : AMv D d mX4_weigh [.ref a0, .ref a1, .ref a2, .int a3, .int a4] M (fun M1 => AMi D d mX11_isSide [.int a4] M1 (fun x9 M8 => ((x9 = 0 → post none M8) ∧ (¬ x9 = 0 → vp_in a4 4 ∧ ∀ M17 : Mm, M17 = sI M8 a1 a4.toNatClampNeg ((gI M8 a1 a4.toNatClampNeg) * (3 : Int32)) → post none M17))))) :
    AM D (d + 1) 0 0 mX10_weigh [.ref a0, .ref a1, .ref a2, .int a3, .int a4] M post := by
  refine AM.of (by decide) (Nat.le_of_ble_eq_true rfl) ?_
  show AW D (d + 1) 0 0 mX10_weigh 0 0 0 [(0, .ref a0), (1, .ref a1), (2, .ref a2), (3, .int a3), (4, .int a4)] [] M post
  refine ab_aload_n 0 dX10_weigh_0 rfl ?_
  refine ab_aload_n 1 dX10_weigh_1 rfl ?_
  refine ab_aload_n 2 dX10_weigh_2 rfl ?_
  refine ab_iload_n 3 dX10_weigh_3 rfl ?_
  refine ab_iload 4 dX10_weigh_4 rfl ?_
  refine ab_callSU (c0 := c) (mc' := 0) (ms' := 0) (d' := d) (vs := [.ref a1, .ref a2, .int a3, .int a4]) (st := []) dX10_weigh_6 ⟨cw_X4_weigh, w_663⟩ w_1529 w_530 w_650 (by decide) hp.2.1.lt hp.1.1 hp.1.2 rfl rfl (Nat.le_of_ble_eq_true rfl) (Nat.le_refl _) (Nat.zero_le _) (Nat.zero_le _) (AM.mono h (fun r M1 ⟨hr3, hc4, h⟩ => ?_))
  subst hr3
  refine ab_rv ?_
  have hm5 : Sm M M1 := (Sm.refl M).trans hc4
  have hl6 := hL.of hm5
  have hp7 := hp.of hc4
  refine ab_iload 4 dX10_weigh_9 rfl ?_
  refine ab_callSN (d' := d) (mc' := 0) (ms' := 0) (vs := [.int a4]) (st := []) dX10_weigh_11 cw_X11_isSide w_664 w_319 rfl rfl (Nat.le_of_ble_eq_true rfl) (Nat.le_refl _) (Nat.zero_le _) (Nat.zero_le _) (AM.mono h (fun r M8 ⟨x9, hr10, hc11, h⟩ => ?_))
  subst hr10
  refine ab_rs ?_
  have hm12 : Sm M M8 := hm5.trans hc11
  have hl13 := hL.of hm12
  have hp14 := hp7.of hc11
  refine ab_if_eq (tgt := 25) dX10_weigh_14 (by decide) (fun c15 => ?_) (fun c15 => ?_)
  · have h := h.1 c15
    exact ab_vret dX10_weigh_25 rfl h
  · have h := h.2 c15
    refine ab_aload_n 1 dX10_weigh_17 rfl ?_
    refine ab_iload 4 dX10_weigh_18 rfl ?_
    refine ab_dup2 dX10_weigh_20 rfl rfl ?_
    have hb16 := h.1
    have h := h.2
    refine ab_ialdj (j := a4.toNatClampNeg) dX10_weigh_21 (sa1.of hm12) hb16 rfl ?_
    refine ab_iconst (v := 3) dX10_weigh_22 (by decide) ?_
    refine ab_imul dX10_weigh_23 ?_
    refine ab_iastj (j := a4.toNatClampNeg) dX10_weigh_24 (sa1.of hm12) hb16 rfl ?_
    refine ab_nameM (fun M17 hM17 => ?_)
    have h := h M17 hM17
    have hs20 : Sm M8 M17 := hM17 ▸ (Sm.refl _).i
    have hm18 : Sm M M17 := hm12.trans hs20
    have hl19 := hL.of hm18
    have hp21 := hp14.of hs20
    exact ab_vret dX10_weigh_25 rfl h
theorem dX10_looks_0 : decode cX10_looks 0 = .ok (.aload_n 0, 1) := by decide +kernel
theorem dX10_looks_1 : decode cX10_looks 1 = .ok (.bipush 50, 2) := by decide +kernel
theorem dX10_looks_3 : decode cX10_looks 3 = .ok (.invokevirtual 19, 3) := by decide +kernel
theorem dX10_looks_6 : decode cX10_looks 6 = .ok (.aload_n 0, 1) := by decide +kernel
theorem dX10_looks_7 : decode cX10_looks 7 = .ok (.iload_n 1, 1) := by decide +kernel
theorem dX10_looks_8 : decode cX10_looks 8 = .ok (.invokespecial 23, 3) := by decide +kernel
theorem dX10_looks_11 : decode cX10_looks 11 = .ok (.ineg, 1) := by decide +kernel
theorem dX10_looks_12 : decode cX10_looks 12 = .ok (.ireturn, 1) := by decide +kernel
set_option maxRecDepth 20000 in
theorem rX10_looks (D : GD) (d : Nat) (a0 c j : Nat) (a1 : Int32) (M : Mm) (post : Option Value → Mm → Prop) (hL : Lay 0 0 M) (hp : Pl M a0 c j) (hc : c = 10)
    (h : AMv D d (vm_begin c) [.ref a0, .int (50 : Int32)] M (fun M1 => AMi D d mX5_looks [.ref a0, .int a1] M1 (fun x9 M8 => post (some (.int (-x9))) M8))) :
    AM D (d + 1) 0 0 mX10_looks [.ref a0, .int a1] M post := by
  refine AM.of (by decide) (Nat.le_of_ble_eq_true rfl) ?_
  show AW D (d + 1) 0 0 mX10_looks 0 0 0 [(0, .ref a0), (1, .int a1)] [] M post
  refine ab_aload_n 0 dX10_looks_0 rfl ?_
  refine ab_bipush (v := 50) dX10_looks_1 (by decide) ?_
  refine vc_10_19 (d' := d) (vs := [.int (50 : Int32)]) (st := []) rfl hc dX10_looks_3 hp.1 rfl rfl (Nat.le_of_ble_eq_true rfl) (Nat.le_refl _) (AM.mono h (fun r M1 ⟨hr3, hc4, h⟩ => ?_))
  subst hr3
  refine ab_rv ?_
  have hm5 : Sm M M1 := (Sm.refl M).trans hc4
  have hl6 := hL.of hm5
  have hp7 := hp.of hc4
  refine ab_aload_n 0 dX10_looks_6 rfl ?_
  refine ab_iload_n 1 dX10_looks_7 rfl ?_
  refine ab_callSX (c0 := c) (x := ⟨RX4, "looks", "(I)I"⟩) (mc' := 0) (ms' := 0) (d' := d) (vs := [.int a1]) (st := []) dX10_looks_8 cw_X5_looks w_888 w_889 w_530 w_491 rfl w_857 (by decide) hp7.2.1.lt hp7.1.1 hp7.1.2 rfl rfl (Nat.le_of_ble_eq_true rfl) (Nat.le_refl _) (Nat.zero_le _) (Nat.zero_le _) (AM.mono h (fun r M8 ⟨x9, hr10, hc11, h⟩ => ?_))
  subst hr10
  refine ab_rs ?_
  have hm12 : Sm M M8 := hm5.trans hc11
  have hl13 := hL.of hm12
  have hp14 := hp7.of hc11
  refine ab_ineg dX10_looks_11 ?_
  exact ab_iret dX10_looks_12 rfl h
theorem dX10_goes_0 : decode cX10_goes 0 = .ok (.aload_n 0, 1) := by decide +kernel
theorem dX10_goes_1 : decode cX10_goes 1 = .ok (.bipush 51, 2) := by decide +kernel
theorem dX10_goes_3 : decode cX10_goes 3 = .ok (.invokevirtual 19, 3) := by decide +kernel
theorem dX10_goes_6 : decode cX10_goes 6 = .ok (.aload_n 0, 1) := by decide +kernel
theorem dX10_goes_7 : decode cX10_goes 7 = .ok (.iload_n 1, 1) := by decide +kernel
theorem dX10_goes_8 : decode cX10_goes 8 = .ok (.iconst 1, 1) := by decide +kernel
theorem dX10_goes_9 : decode cX10_goes 9 = .ok (.iadd, 1) := by decide +kernel
theorem dX10_goes_10 : decode cX10_goes 10 = .ok (.invokespecial 27, 3) := by decide +kernel
theorem dX10_goes_13 : decode cX10_goes 13 = .ok (.ireturn, 1) := by decide +kernel
set_option maxRecDepth 20000 in
theorem rX10_goes (D : GD) (d : Nat) (a0 c j : Nat) (a1 : Int32) (M : Mm) (post : Option Value → Mm → Prop) (hL : Lay 0 0 M) (hp : Pl M a0 c j) (hc : c = 10)
    (h : AMv D d (vm_begin c) [.ref a0, .int (51 : Int32)] M (fun M1 => AMi D d mX4_goes [.ref a0, .int (a1 + (1 : Int32))] M1 (fun x9 M8 => post (some (.int x9)) M8))) :
    AM D (d + 1) 0 0 mX10_goes [.ref a0, .int a1] M post := by
  refine AM.of (by decide) (Nat.le_of_ble_eq_true rfl) ?_
  show AW D (d + 1) 0 0 mX10_goes 0 0 0 [(0, .ref a0), (1, .int a1)] [] M post
  refine ab_aload_n 0 dX10_goes_0 rfl ?_
  refine ab_bipush (v := 51) dX10_goes_1 (by decide) ?_
  refine vc_10_19 (d' := d) (vs := [.int (51 : Int32)]) (st := []) rfl hc dX10_goes_3 hp.1 rfl rfl (Nat.le_of_ble_eq_true rfl) (Nat.le_refl _) (AM.mono h (fun r M1 ⟨hr3, hc4, h⟩ => ?_))
  subst hr3
  refine ab_rv ?_
  have hm5 : Sm M M1 := (Sm.refl M).trans hc4
  have hl6 := hL.of hm5
  have hp7 := hp.of hc4
  refine ab_aload_n 0 dX10_goes_6 rfl ?_
  refine ab_iload_n 1 dX10_goes_7 rfl ?_
  refine ab_iconst (v := 1) dX10_goes_8 (by decide) ?_
  refine ab_iadd dX10_goes_9 ?_
  refine ab_callSU (c0 := c) (mc' := 0) (ms' := 0) (d' := d) (vs := [.int (a1 + (1 : Int32))]) (st := []) dX10_goes_10 ⟨cw_X4_goes, w_917⟩ w_1539 w_530 w_900 (by decide) hp7.2.1.lt hp7.1.1 hp7.1.2 rfl rfl (Nat.le_of_ble_eq_true rfl) (Nat.le_refl _) (Nat.zero_le _) (Nat.zero_le _) (AM.mono h (fun r M8 ⟨x9, hr10, hc11, h⟩ => ?_))
  subst hr10
  refine ab_rs ?_
  have hm12 : Sm M M8 := hm5.trans hc11
  have hl13 := hL.of hm12
  have hp14 := hp7.of hc11
  exact ab_iret dX10_goes_13 rfl h
theorem dJ7_fill_d0a16_0 : decode cJ7_fill_d0a16 0 = .ok (.iconst 0, 1) := by decide +kernel
theorem dJ7_fill_d0a16_1 : decode cJ7_fill_d0a16 1 = .ok (.istore_n 3, 1) := by decide +kernel
theorem dJ7_fill_d0a16_2 : decode cJ7_fill_d0a16 2 = .ok (.aload_n 0, 1) := by decide +kernel
theorem dJ7_fill_d0a16_3 : decode cJ7_fill_d0a16 3 = .ok (.arraylength, 1) := by decide +kernel
theorem dJ7_fill_d0a16_4 : decode cJ7_fill_d0a16 4 = .ok (.istore 4, 2) := by decide +kernel
theorem dJ7_fill_d0a16_6 : decode cJ7_fill_d0a16 6 = .ok (.iload_n 3, 1) := by decide +kernel
theorem dJ7_fill_d0a16_7 : decode cJ7_fill_d0a16 7 = .ok (.iload 4, 2) := by decide +kernel
theorem dJ7_fill_d0a16_9 : decode cJ7_fill_d0a16 9 = .ok (.if_icmp .ge 13, 3) := by decide +kernel
theorem dJ7_fill_d0a16_12 : decode cJ7_fill_d0a16 12 = .ok (.aload_n 0, 1) := by decide +kernel
theorem dJ7_fill_d0a16_13 : decode cJ7_fill_d0a16 13 = .ok (.iload_n 3, 1) := by decide +kernel
theorem dJ7_fill_d0a16_14 : decode cJ7_fill_d0a16 14 = .ok (.lload_n 1, 1) := by decide +kernel
theorem dJ7_fill_d0a16_15 : decode cJ7_fill_d0a16 15 = .ok (.lastore, 1) := by decide +kernel
theorem dJ7_fill_d0a16_16 : decode cJ7_fill_d0a16 16 = .ok (.iinc 3 1, 3) := by decide +kernel
theorem dJ7_fill_d0a16_19 : decode cJ7_fill_d0a16 19 = .ok (.goto (-13), 3) := by decide +kernel
theorem dJ7_fill_d0a16_22 : decode cJ7_fill_d0a16 22 = .ok (.return_, 1) := by decide +kernel
def LJ7_fill_d0a16_6 (D : GD) (d : Nat) (v0 : Nat) (v1 : Int64) (v3 : Int32) (v4 : Int32) (M : Mm) (post : Option Value → Mm → Prop) : Prop := AW D d 0 0 mJ7_fill_d0a16 0 0 6 [(0, .ref v0), (1, .long v1), (3, .int v3), (4, .int v4)] [] M post
set_option maxRecDepth 20000 in
theorem rJ7_fill_d0a16 (D : GD) (d : Nat) (n : Nat) (a1 : Nat) (a2 : Int64) (M : Mm) (post : Option Value → Mm → Prop) (hL : Lay 0 0 M) (sa1 : Sh M a1 (2, n))
    (h : ∀ x1 : Int32, x1 = (Int32.ofNat n) → LJ7_fill_d0a16_6 D d a1 a2 (0 : Int32) x1 M post) :
    AM D d 0 0 mJ7_fill_d0a16 [.ref a1, .long a2] M post := by
  refine AM.of (by decide) (Nat.le_of_ble_eq_true rfl) ?_
  show AW D d 0 0 mJ7_fill_d0a16 0 0 0 [(0, .ref a1), (1, .long a2)] [] M post
  refine ab_iconst (v := 0) dJ7_fill_d0a16_0 (by decide) ?_
  refine ab_istore_n (lv1 := [(3, .int (0 : Int32)), (0, .ref a1), (1, .long a2)]) dJ7_fill_d0a16_1 (by decide) rfl ?_
  refine ab_aload_n 1 dJ7_fill_d0a16_2 rfl ?_
  refine ab_alenv (t := 2) (n := n) (v := Int32.ofNat n) dJ7_fill_d0a16_3 (sa1.of (Sm.refl M)) (by decide) (by decide) rfl ?_
  refine ab_topi (fun x1 hx1 => ?_)
  have h := h x1 hx1
  refine ab_istore (lv1 := [(4, .int x1), (3, .int (0 : Int32)), (0, .ref a1), (1, .long a2)]) dJ7_fill_d0a16_4 (by decide) rfl ?_
  exact ab_sub [2, 3, 1, 0] rfl h
set_option maxRecDepth 20000 in
theorem rJ7_fill_d0a16_6 (D : GD) (d : Nat) (n : Nat) (v0 : Nat) (v1 : Int64) (v3 : Int32) (v4 : Int32) (M : Mm) (post : Option Value → Mm → Prop) (hL : Lay 0 0 M) (sv0 : Sh M v0 (2, n))
    (h : ((v4 ≤ v3 → post none M) ∧ (¬ v4 ≤ v3 → vp_in v3 n ∧ ∀ M3 : Mm, M3 = sL M v0 v3.toNatClampNeg v1 → ∀ x7 : Int32, x7 = v3 + (1 : Int32) → LJ7_fill_d0a16_6 D d v0 v1 x7 v4 M3 post))) :
    LJ7_fill_d0a16_6 D d v0 v1 v3 v4 M post := by
  show AW D d 0 0 mJ7_fill_d0a16 0 0 6 [(0, .ref v0), (1, .long v1), (3, .int v3), (4, .int v4)] [] M post
  refine ab_iload_n 2 dJ7_fill_d0a16_6 rfl ?_
  refine ab_iload 3 dJ7_fill_d0a16_7 rfl ?_
  refine ab_icmp_ge (tgt := 22) dJ7_fill_d0a16_9 (by decide) (fun c1 => ?_) (fun c1 => ?_)
  · have h := h.1 c1
    exact ab_vret dJ7_fill_d0a16_22 rfl h
  · have h := h.2 c1
    refine ab_aload_n 0 dJ7_fill_d0a16_12 rfl ?_
    refine ab_iload_n 2 dJ7_fill_d0a16_13 rfl ?_
    refine ab_lload_n 1 dJ7_fill_d0a16_14 rfl ?_
    have hb2 := h.1
    have h := h.2
    refine ab_lastj (j := v3.toNatClampNeg) dJ7_fill_d0a16_15 (sv0.of (Sm.refl M)) hb2 rfl ?_
    refine ab_nameM (fun M3 hM3 => ?_)
    have h := h M3 hM3
    have hs6 : Sm M M3 := hM3 ▸ (Sm.refl _).l
    have hm4 : Sm M M3 := (Sm.refl M).trans hs6
    have hl5 := hL.of hm4
    obtain ⟨x7, hx7⟩ : ∃ y : Int32, y = v3 + (1 : Int32) := ⟨_, rfl⟩
    have h := h x7 hx7
    refine ab_iinc (v := x7) 2 (lv1 := [(3, .int x7), (0, .ref v0), (1, .long v1), (4, .int v4)]) dJ7_fill_d0a16_16 rfl (by rw [hx7]; rfl) (by decide) rfl ?_
    refine ab_goto (tgt := 6) dJ7_fill_d0a16_19 (by decide) ?_
    exact ab_sub [1, 2, 0, 3] rfl h
theorem dJ7_fill_53178_0 : decode cJ7_fill_53178 0 = .ok (.iconst 0, 1) := by decide +kernel
theorem dJ7_fill_53178_1 : decode cJ7_fill_53178 1 = .ok (.istore_n 2, 1) := by decide +kernel
theorem dJ7_fill_53178_2 : decode cJ7_fill_53178 2 = .ok (.aload_n 0, 1) := by decide +kernel
theorem dJ7_fill_53178_3 : decode cJ7_fill_53178 3 = .ok (.arraylength, 1) := by decide +kernel
theorem dJ7_fill_53178_4 : decode cJ7_fill_53178 4 = .ok (.istore_n 3, 1) := by decide +kernel
theorem dJ7_fill_53178_5 : decode cJ7_fill_53178 5 = .ok (.iload_n 2, 1) := by decide +kernel
theorem dJ7_fill_53178_6 : decode cJ7_fill_53178 6 = .ok (.iload_n 3, 1) := by decide +kernel
theorem dJ7_fill_53178_7 : decode cJ7_fill_53178 7 = .ok (.if_icmp .ge 13, 3) := by decide +kernel
theorem dJ7_fill_53178_10 : decode cJ7_fill_53178 10 = .ok (.aload_n 0, 1) := by decide +kernel
theorem dJ7_fill_53178_11 : decode cJ7_fill_53178 11 = .ok (.iload_n 2, 1) := by decide +kernel
theorem dJ7_fill_53178_12 : decode cJ7_fill_53178 12 = .ok (.iload_n 1, 1) := by decide +kernel
theorem dJ7_fill_53178_13 : decode cJ7_fill_53178 13 = .ok (.iastore, 1) := by decide +kernel
theorem dJ7_fill_53178_14 : decode cJ7_fill_53178 14 = .ok (.iinc 2 1, 3) := by decide +kernel
theorem dJ7_fill_53178_17 : decode cJ7_fill_53178 17 = .ok (.goto (-12), 3) := by decide +kernel
theorem dJ7_fill_53178_20 : decode cJ7_fill_53178 20 = .ok (.return_, 1) := by decide +kernel
def LJ7_fill_53178_5 (D : GD) (d : Nat) (v0 : Nat) (v1 : Int32) (v2 : Int32) (v3 : Int32) (M : Mm) (post : Option Value → Mm → Prop) : Prop := AW D d 0 0 mJ7_fill_53178 0 0 5 [(0, .ref v0), (1, .int v1), (2, .int v2), (3, .int v3)] [] M post
set_option maxRecDepth 20000 in
theorem rJ7_fill_53178 (D : GD) (d : Nat) (n : Nat) (a1 : Nat) (a2 : Int32) (M : Mm) (post : Option Value → Mm → Prop) (hL : Lay 0 0 M) (sa1 : Sh M a1 (1, n))
    (h : ∀ x1 : Int32, x1 = (Int32.ofNat n) → LJ7_fill_53178_5 D d a1 a2 (0 : Int32) x1 M post) :
    AM D d 0 0 mJ7_fill_53178 [.ref a1, .int a2] M post := by
  refine AM.of (by decide) (Nat.le_of_ble_eq_true rfl) ?_
  show AW D d 0 0 mJ7_fill_53178 0 0 0 [(0, .ref a1), (1, .int a2)] [] M post
  refine ab_iconst (v := 0) dJ7_fill_53178_0 (by decide) ?_
  refine ab_istore_n (lv1 := [(2, .int (0 : Int32)), (0, .ref a1), (1, .int a2)]) dJ7_fill_53178_1 (by decide) rfl ?_
  refine ab_aload_n 1 dJ7_fill_53178_2 rfl ?_
  refine ab_alenv (t := 1) (n := n) (v := Int32.ofNat n) dJ7_fill_53178_3 (sa1.of (Sm.refl M)) (by decide) (by decide) rfl ?_
  refine ab_topi (fun x1 hx1 => ?_)
  have h := h x1 hx1
  refine ab_istore_n (lv1 := [(3, .int x1), (2, .int (0 : Int32)), (0, .ref a1), (1, .int a2)]) dJ7_fill_53178_4 (by decide) rfl ?_
  exact ab_sub [2, 3, 1, 0] rfl h
set_option maxRecDepth 20000 in
theorem rJ7_fill_53178_5 (D : GD) (d : Nat) (n : Nat) (v0 : Nat) (v1 : Int32) (v2 : Int32) (v3 : Int32) (M : Mm) (post : Option Value → Mm → Prop) (hL : Lay 0 0 M) (sv0 : Sh M v0 (1, n))
    (h : ((v3 ≤ v2 → post none M) ∧ (¬ v3 ≤ v2 → vp_in v2 n ∧ ∀ M3 : Mm, M3 = sI M v0 v2.toNatClampNeg v1 → ∀ x7 : Int32, x7 = v2 + (1 : Int32) → LJ7_fill_53178_5 D d v0 v1 x7 v3 M3 post))) :
    LJ7_fill_53178_5 D d v0 v1 v2 v3 M post := by
  show AW D d 0 0 mJ7_fill_53178 0 0 5 [(0, .ref v0), (1, .int v1), (2, .int v2), (3, .int v3)] [] M post
  refine ab_iload_n 2 dJ7_fill_53178_5 rfl ?_
  refine ab_iload_n 3 dJ7_fill_53178_6 rfl ?_
  refine ab_icmp_ge (tgt := 20) dJ7_fill_53178_7 (by decide) (fun c1 => ?_) (fun c1 => ?_)
  · have h := h.1 c1
    exact ab_vret dJ7_fill_53178_20 rfl h
  · have h := h.2 c1
    refine ab_aload_n 0 dJ7_fill_53178_10 rfl ?_
    refine ab_iload_n 2 dJ7_fill_53178_11 rfl ?_
    refine ab_iload_n 1 dJ7_fill_53178_12 rfl ?_
    have hb2 := h.1
    have h := h.2
    refine ab_iastj (j := v2.toNatClampNeg) dJ7_fill_53178_13 (sv0.of (Sm.refl M)) hb2 rfl ?_
    refine ab_nameM (fun M3 hM3 => ?_)
    have h := h M3 hM3
    have hs6 : Sm M M3 := hM3 ▸ (Sm.refl _).i
    have hm4 : Sm M M3 := (Sm.refl M).trans hs6
    have hl5 := hL.of hm4
    obtain ⟨x7, hx7⟩ : ∃ y : Int32, y = v2 + (1 : Int32) := ⟨_, rfl⟩
    have h := h x7 hx7
    refine ab_iinc (v := x7) 2 (lv1 := [(2, .int x7), (0, .ref v0), (1, .int v1), (3, .int v3)]) dJ7_fill_53178_14 rfl (by rw [hx7]; rfl) (by decide) rfl ?_
    refine ab_goto (tgt := 5) dJ7_fill_53178_17 (by decide) ?_
    exact ab_sub [1, 2, 0, 3] rfl h
