theorem dX12_layWeights_0 : decode cX12_layWeights 0 = .ok (.aload_n 0, 1) := by decide +kernel
theorem dX12_layWeights_1 : decode cX12_layWeights 1 = .ok (.iload_n 1, 1) := by decide +kernel
theorem dX12_layWeights_2 : decode cX12_layWeights 2 = .ok (.iconst 0, 1) := by decide +kernel
theorem dX12_layWeights_3 : decode cX12_layWeights 3 = .ok (.invokevirtual 263, 3) := by decide +kernel
theorem dX12_layWeights_6 : decode cX12_layWeights 6 = .ok (.aload_n 0, 1) := by decide +kernel
theorem dX12_layWeights_7 : decode cX12_layWeights 7 = .ok (.iload_n 2, 1) := by decide +kernel
theorem dX12_layWeights_8 : decode cX12_layWeights 8 = .ok (.iconst 1, 1) := by decide +kernel
theorem dX12_layWeights_9 : decode cX12_layWeights 9 = .ok (.invokevirtual 263, 3) := by decide +kernel
theorem dX12_layWeights_12 : decode cX12_layWeights 12 = .ok (.aload_n 0, 1) := by decide +kernel
theorem dX12_layWeights_13 : decode cX12_layWeights 13 = .ok (.iload_n 1, 1) := by decide +kernel
theorem dX12_layWeights_14 : decode cX12_layWeights 14 = .ok (.invokevirtual 267, 3) := by decide +kernel
theorem dX12_layWeights_17 : decode cX12_layWeights 17 = .ok (.istore_n 3, 1) := by decide +kernel
theorem dX12_layWeights_18 : decode cX12_layWeights 18 = .ok (.aload_n 0, 1) := by decide +kernel
theorem dX12_layWeights_19 : decode cX12_layWeights 19 = .ok (.iload_n 2, 1) := by decide +kernel
theorem dX12_layWeights_20 : decode cX12_layWeights 20 = .ok (.invokevirtual 267, 3) := by decide +kernel
theorem dX12_layWeights_23 : decode cX12_layWeights 23 = .ok (.istore 4, 2) := by decide +kernel
theorem dX12_layWeights_25 : decode cX12_layWeights 25 = .ok (.iload_n 3, 1) := by decide +kernel
theorem dX12_layWeights_26 : decode cX12_layWeights 26 = .ok (.ifCond .eq 8, 3) := by decide +kernel
theorem dX12_layWeights_29 : decode cX12_layWeights 29 = .ok (.iload 4, 2) := by decide +kernel
theorem dX12_layWeights_31 : decode cX12_layWeights 31 = .ok (.ifCond .eq 8, 3) := by decide +kernel
theorem dX12_layWeights_34 : decode cX12_layWeights 34 = .ok (.aload_n 0, 1) := by decide +kernel
theorem dX12_layWeights_35 : decode cX12_layWeights 35 = .ok (.iconst 0, 1) := by decide +kernel
theorem dX12_layWeights_36 : decode cX12_layWeights 36 = .ok (.invokevirtual 260, 3) := by decide +kernel
theorem dX12_layWeights_39 : decode cX12_layWeights 39 = .ok (.iload 4, 2) := by decide +kernel
theorem dX12_layWeights_41 : decode cX12_layWeights 41 = .ok (.ifCond .eq 7, 3) := by decide +kernel
theorem dX12_layWeights_44 : decode cX12_layWeights 44 = .ok (.iload_n 3, 1) := by decide +kernel
theorem dX12_layWeights_45 : decode cX12_layWeights 45 = .ok (.ifCond .eq 8, 3) := by decide +kernel
theorem dX12_layWeights_48 : decode cX12_layWeights 48 = .ok (.aload_n 0, 1) := by decide +kernel
theorem dX12_layWeights_49 : decode cX12_layWeights 49 = .ok (.iconst 1, 1) := by decide +kernel
theorem dX12_layWeights_50 : decode cX12_layWeights 50 = .ok (.invokevirtual 260, 3) := by decide +kernel
theorem dX12_layWeights_53 : decode cX12_layWeights 53 = .ok (.iload_n 3, 1) := by decide +kernel
theorem dX12_layWeights_54 : decode cX12_layWeights 54 = .ok (.ifCond .eq 14, 3) := by decide +kernel
theorem dX12_layWeights_57 : decode cX12_layWeights 57 = .ok (.iload 4, 2) := by decide +kernel
theorem dX12_layWeights_59 : decode cX12_layWeights 59 = .ok (.ifCond .ne 9, 3) := by decide +kernel
theorem dX12_layWeights_62 : decode cX12_layWeights 62 = .ok (.aload_n 0, 1) := by decide +kernel
theorem dX12_layWeights_63 : decode cX12_layWeights 63 = .ok (.iload_n 1, 1) := by decide +kernel
theorem dX12_layWeights_64 : decode cX12_layWeights 64 = .ok (.iconst 0, 1) := by decide +kernel
theorem dX12_layWeights_65 : decode cX12_layWeights 65 = .ok (.invokevirtual 270, 3) := by decide +kernel
theorem dX12_layWeights_68 : decode cX12_layWeights 68 = .ok (.iload 4, 2) := by decide +kernel
theorem dX12_layWeights_70 : decode cX12_layWeights 70 = .ok (.ifCond .eq 13, 3) := by decide +kernel
theorem dX12_layWeights_73 : decode cX12_layWeights 73 = .ok (.iload_n 3, 1) := by decide +kernel
theorem dX12_layWeights_74 : decode cX12_layWeights 74 = .ok (.ifCond .ne 9, 3) := by decide +kernel
theorem dX12_layWeights_77 : decode cX12_layWeights 77 = .ok (.aload_n 0, 1) := by decide +kernel
theorem dX12_layWeights_78 : decode cX12_layWeights 78 = .ok (.iload_n 2, 1) := by decide +kernel
theorem dX12_layWeights_79 : decode cX12_layWeights 79 = .ok (.iconst 1, 1) := by decide +kernel
theorem dX12_layWeights_80 : decode cX12_layWeights 80 = .ok (.invokevirtual 270, 3) := by decide +kernel
theorem dX12_layWeights_83 : decode cX12_layWeights 83 = .ok (.return_, 1) := by decide +kernel
def LX12_layWeights_39 (D : GD) (d : Nat) (v1 : Int32) (v2 : Int32) (v3 : Int32) (v4 : Int32) (M : Mm) (post : Option Value → Mm → Prop) : Prop := AW D (d + 1) 0 0 mX12_layWeights 0 0 39 [(0, .ref 62), (1, .int v1), (2, .int v2), (3, .int v3), (4, .int v4)] [] M post
def LX12_layWeights_53 (D : GD) (d : Nat) (v1 : Int32) (v2 : Int32) (v3 : Int32) (v4 : Int32) (M : Mm) (post : Option Value → Mm → Prop) : Prop := AW D (d + 1) 0 0 mX12_layWeights 0 0 53 [(0, .ref 62), (1, .int v1), (2, .int v2), (3, .int v3), (4, .int v4)] [] M post
def LX12_layWeights_68 (D : GD) (d : Nat) (v2 : Int32) (v3 : Int32) (v4 : Int32) (M : Mm) (post : Option Value → Mm → Prop) : Prop := AW D (d + 1) 0 0 mX12_layWeights 0 0 68 [(0, .ref 62), (2, .int v2), (3, .int v3), (4, .int v4)] [] M post
set_option maxRecDepth 20000 in
theorem rX12_layWeights (D : GD) (d : Nat) (a1 : Int32) (a2 : Int32) (M : Mm) (post : Option Value → Mm → Prop) (hL : Lay 62 98 M) 
    (h : AMv D d mX12_layPlain [.ref 62, .int a1, .int (0 : Int32)] M (fun M1 => AMv D d mX12_layPlain [.ref 62, .int a2, .int (1 : Int32)] M1 (fun M7 => AMi D d mX12_looks [.ref 62, .int a1] M7 (fun x14 M13 => AMi D d mX12_looks [.ref 62, .int a2] M13 (fun x20 M19 => ((x14 = 0 → AMv D d mX12_bound [.ref 62, .int (0 : Int32)] M19 (fun M26 => LX12_layWeights_39 D d a1 a2 x14 x20 M26 post)) ∧ (¬ x14 = 0 → ((x20 = 0 → LX12_layWeights_39 D d a1 a2 x14 x20 M19 post) ∧ (¬ x20 = 0 → AMv D d mX12_bound [.ref 62, .int (0 : Int32)] M19 (fun M33 => LX12_layWeights_39 D d a1 a2 x14 x20 M33 post)))))))))) :
    AM D (d + 1) 0 0 mX12_layWeights [.ref 62, .int a1, .int a2] M post := by
  refine AM.of (by decide) (Nat.le_of_ble_eq_true rfl) ?_
  show AW D (d + 1) 0 0 mX12_layWeights 0 0 0 [(0, .ref 62), (1, .int a1), (2, .int a2)] [] M post
  refine ab_aload_n 0 dX12_layWeights_0 rfl ?_
  refine ab_iload_n 1 dX12_layWeights_1 rfl ?_
  refine ab_iconst (v := 0) dX12_layWeights_2 (by decide) ?_
  refine ab_callV (a := 62) (c0 := 12) (d' := d) (mc' := 0) (ms' := 0) (vs := [.int a1, .int (0 : Int32)]) (st := []) dX12_layWeights_3 ⟨cw_X12_layPlain, w_1291⟩ w_1293 w_45 (by decide) (hL.sh 62 rfl (by decide) (by decide)).1 (hL.sh 62 rfl (by decide) (by decide)).2 rfl rfl (Nat.le_of_ble_eq_true rfl) (Nat.le_refl _) (Nat.zero_le _) (Nat.zero_le _) (AM.mono h (fun r M1 ⟨hr3, hc4, h⟩ => ?_))
  subst hr3
  refine ab_rv ?_
  have hm5 : Sm M M1 := (Sm.refl M).trans hc4
  have hl6 := hL.of hm5
  refine ab_aload_n 0 dX12_layWeights_6 rfl ?_
  refine ab_iload_n 2 dX12_layWeights_7 rfl ?_
  refine ab_iconst (v := 1) dX12_layWeights_8 (by decide) ?_
  refine ab_callV (a := 62) (c0 := 12) (d' := d) (mc' := 0) (ms' := 0) (vs := [.int a2, .int (1 : Int32)]) (st := []) dX12_layWeights_9 ⟨cw_X12_layPlain, w_1291⟩ w_1293 w_45 (by decide) (hl6.sh 62 rfl (by decide) (by decide)).1 (hl6.sh 62 rfl (by decide) (by decide)).2 rfl rfl (Nat.le_of_ble_eq_true rfl) (Nat.le_refl _) (Nat.zero_le _) (Nat.zero_le _) (AM.mono h (fun r M7 ⟨hr9, hc10, h⟩ => ?_))
  subst hr9
  refine ab_rv ?_
  have hm11 : Sm M M7 := hm5.trans hc10
  have hl12 := hL.of hm11
  refine ab_aload_n 0 dX12_layWeights_12 rfl ?_
  refine ab_iload_n 1 dX12_layWeights_13 rfl ?_
  refine ab_callV (a := 62) (c0 := 12) (d' := d) (mc' := 0) (ms' := 0) (vs := [.int a1]) (st := []) dX12_layWeights_14 ⟨cw_X12_looks, w_1307⟩ w_1309 w_49 (by decide) (hl12.sh 62 rfl (by decide) (by decide)).1 (hl12.sh 62 rfl (by decide) (by decide)).2 rfl rfl (Nat.le_of_ble_eq_true rfl) (Nat.le_refl _) (Nat.zero_le _) (Nat.zero_le _) (AM.mono h (fun r M13 ⟨x14, hr15, hc16, h⟩ => ?_))
  subst hr15
  refine ab_rs ?_
  have hm17 : Sm M M13 := hm11.trans hc16
  have hl18 := hL.of hm17
  refine ab_istore_n (lv1 := [(3, .int x14), (0, .ref 62), (1, .int a1), (2, .int a2)]) dX12_layWeights_17 (by decide) rfl ?_
  refine ab_aload_n 1 dX12_layWeights_18 rfl ?_
  refine ab_iload_n 3 dX12_layWeights_19 rfl ?_
  refine ab_callV (a := 62) (c0 := 12) (d' := d) (mc' := 0) (ms' := 0) (vs := [.int a2]) (st := []) dX12_layWeights_20 ⟨cw_X12_looks, w_1307⟩ w_1309 w_49 (by decide) (hl18.sh 62 rfl (by decide) (by decide)).1 (hl18.sh 62 rfl (by decide) (by decide)).2 rfl rfl (Nat.le_of_ble_eq_true rfl) (Nat.le_refl _) (Nat.zero_le _) (Nat.zero_le _) (AM.mono h (fun r M19 ⟨x20, hr21, hc22, h⟩ => ?_))
  subst hr21
  refine ab_rs ?_
  have hm23 : Sm M M19 := hm17.trans hc22
  have hl24 := hL.of hm23
  refine ab_istore (lv1 := [(4, .int x20), (3, .int x14), (0, .ref 62), (1, .int a1), (2, .int a2)]) dX12_layWeights_23 (by decide) rfl ?_
  refine ab_iload_n 1 dX12_layWeights_25 rfl ?_
  refine ab_if_eq (tgt := 34) dX12_layWeights_26 (by decide) (fun c25 => ?_) (fun c25 => ?_)
  · have h := h.1 c25
    refine ab_aload_n 2 dX12_layWeights_34 rfl ?_
    refine ab_iconst (v := 0) dX12_layWeights_35 (by decide) ?_
    refine ab_callV (a := 62) (c0 := 12) (d' := d) (mc' := 0) (ms' := 0) (vs := [.int (0 : Int32)]) (st := []) dX12_layWeights_36 ⟨cw_X12_bound, w_1311⟩ w_1313 w_50 (by decide) (hl24.sh 62 rfl (by decide) (by decide)).1 (hl24.sh 62 rfl (by decide) (by decide)).2 rfl rfl (Nat.le_of_ble_eq_true rfl) (Nat.le_refl _) (Nat.zero_le _) (Nat.zero_le _) (AM.mono h (fun r M26 ⟨hr28, hc29, h⟩ => ?_))
    subst hr28
    refine ab_rv ?_
    have hm30 : Sm M M26 := hm23.trans hc29
    have hl31 := hL.of hm30
    exact ab_sub [2, 3, 4, 1, 0] rfl h
  · have h := h.2 c25
    refine ab_iload 0 dX12_layWeights_29 rfl ?_
    refine ab_if_eq (tgt := 39) dX12_layWeights_31 (by decide) (fun c32 => ?_) (fun c32 => ?_)
    · have h := h.1 c32
      exact ab_sub [2, 3, 4, 1, 0] rfl h
    · have h := h.2 c32
      refine ab_aload_n 2 dX12_layWeights_34 rfl ?_
      refine ab_iconst (v := 0) dX12_layWeights_35 (by decide) ?_
      refine ab_callV (a := 62) (c0 := 12) (d' := d) (mc' := 0) (ms' := 0) (vs := [.int (0 : Int32)]) (st := []) dX12_layWeights_36 ⟨cw_X12_bound, w_1311⟩ w_1313 w_50 (by decide) (hl24.sh 62 rfl (by decide) (by decide)).1 (hl24.sh 62 rfl (by decide) (by decide)).2 rfl rfl (Nat.le_of_ble_eq_true rfl) (Nat.le_refl _) (Nat.zero_le _) (Nat.zero_le _) (AM.mono h (fun r M33 ⟨hr35, hc36, h⟩ => ?_))
      subst hr35
      refine ab_rv ?_
      have hm37 : Sm M M33 := hm23.trans hc36
      have hl38 := hL.of hm37
      exact ab_sub [2, 3, 4, 1, 0] rfl h
set_option maxRecDepth 20000 in
theorem rX12_layWeights_39 (D : GD) (d : Nat)  (v1 : Int32) (v2 : Int32) (v3 : Int32) (v4 : Int32) (M : Mm) (post : Option Value → Mm → Prop) (hL : Lay 62 98 M) 
    (h : ((v4 = 0 → AMv D d mX12_bound [.ref 62, .int (1 : Int32)] M (fun M2 => LX12_layWeights_53 D d v1 v2 v3 v4 M2 post)) ∧ (¬ v4 = 0 → ((v3 = 0 → LX12_layWeights_53 D d v1 v2 v3 v4 M post) ∧ (¬ v3 = 0 → AMv D d mX12_bound [.ref 62, .int (1 : Int32)] M (fun M9 => LX12_layWeights_53 D d v1 v2 v3 v4 M9 post)))))) :
    LX12_layWeights_39 D d v1 v2 v3 v4 M post := by
  show AW D (d + 1) 0 0 mX12_layWeights 0 0 39 [(0, .ref 62), (1, .int v1), (2, .int v2), (3, .int v3), (4, .int v4)] [] M post
  refine ab_iload 4 dX12_layWeights_39 rfl ?_
  refine ab_if_eq (tgt := 48) dX12_layWeights_41 (by decide) (fun c1 => ?_) (fun c1 => ?_)
  · have h := h.1 c1
    refine ab_aload_n 0 dX12_layWeights_48 rfl ?_
    refine ab_iconst (v := 1) dX12_layWeights_49 (by decide) ?_
    refine ab_callV (a := 62) (c0 := 12) (d' := d) (mc' := 0) (ms' := 0) (vs := [.int (1 : Int32)]) (st := []) dX12_layWeights_50 ⟨cw_X12_bound, w_1311⟩ w_1313 w_50 (by decide) (hL.sh 62 rfl (by decide) (by decide)).1 (hL.sh 62 rfl (by decide) (by decide)).2 rfl rfl (Nat.le_of_ble_eq_true rfl) (Nat.le_refl _) (Nat.zero_le _) (Nat.zero_le _) (AM.mono h (fun r M2 ⟨hr4, hc5, h⟩ => ?_))
    subst hr4
    refine ab_rv ?_
    have hm6 : Sm M M2 := (Sm.refl M).trans hc5
    have hl7 := hL.of hm6
    exact ab_sub [0, 1, 2, 3, 4] rfl h
  · have h := h.2 c1
    refine ab_iload_n 3 dX12_layWeights_44 rfl ?_
    refine ab_if_eq (tgt := 53) dX12_layWeights_45 (by decide) (fun c8 => ?_) (fun c8 => ?_)
    · have h := h.1 c8
      exact ab_sub [0, 1, 2, 3, 4] rfl h
    · have h := h.2 c8
      refine ab_aload_n 0 dX12_layWeights_48 rfl ?_
      refine ab_iconst (v := 1) dX12_layWeights_49 (by decide) ?_
      refine ab_callV (a := 62) (c0 := 12) (d' := d) (mc' := 0) (ms' := 0) (vs := [.int (1 : Int32)]) (st := []) dX12_layWeights_50 ⟨cw_X12_bound, w_1311⟩ w_1313 w_50 (by decide) (hL.sh 62 rfl (by decide) (by decide)).1 (hL.sh 62 rfl (by decide) (by decide)).2 rfl rfl (Nat.le_of_ble_eq_true rfl) (Nat.le_refl _) (Nat.zero_le _) (Nat.zero_le _) (AM.mono h (fun r M9 ⟨hr11, hc12, h⟩ => ?_))
      subst hr11
      refine ab_rv ?_
      have hm13 : Sm M M9 := (Sm.refl M).trans hc12
      have hl14 := hL.of hm13
      exact ab_sub [0, 1, 2, 3, 4] rfl h
set_option maxRecDepth 20000 in
theorem rX12_layWeights_53 (D : GD) (d : Nat)  (v1 : Int32) (v2 : Int32) (v3 : Int32) (v4 : Int32) (M : Mm) (post : Option Value → Mm → Prop) (hL : Lay 62 98 M) 
    (h : ((v3 = 0 → LX12_layWeights_68 D d v2 v3 v4 M post) ∧ (¬ v3 = 0 → ((¬ v4 = 0 → LX12_layWeights_68 D d v2 v3 v4 M post) ∧ (v4 = 0 → AMv D d mX12_answer [.ref 62, .int v1, .int (0 : Int32)] M (fun M3 => LX12_layWeights_68 D d v2 v3 v4 M3 post)))))) :
    LX12_layWeights_53 D d v1 v2 v3 v4 M post := by
  show AW D (d + 1) 0 0 mX12_layWeights 0 0 53 [(0, .ref 62), (1, .int v1), (2, .int v2), (3, .int v3), (4, .int v4)] [] M post
  refine ab_iload_n 3 dX12_layWeights_53 rfl ?_
  refine ab_if_eq (tgt := 68) dX12_layWeights_54 (by decide) (fun c1 => ?_) (fun c1 => ?_)
  · have h := h.1 c1
    exact ab_sub [0, 2, 3, 4] rfl h
  · have h := h.2 c1
    refine ab_iload 4 dX12_layWeights_57 rfl ?_
    refine ab_if_ne (tgt := 68) dX12_layWeights_59 (by decide) (fun c2 => ?_) (fun c2 => ?_)
    · have h := h.1 c2
      exact ab_sub [0, 2, 3, 4] rfl h
    · have h := h.2 c2
      refine ab_aload_n 0 dX12_layWeights_62 rfl ?_
      refine ab_iload_n 1 dX12_layWeights_63 rfl ?_
      refine ab_iconst (v := 0) dX12_layWeights_64 (by decide) ?_
      refine ab_callV (a := 62) (c0 := 12) (d' := d) (mc' := 0) (ms' := 0) (vs := [.int v1, .int (0 : Int32)]) (st := []) dX12_layWeights_65 ⟨cw_X12_answer, w_1315⟩ w_1317 w_51 (by decide) (hL.sh 62 rfl (by decide) (by decide)).1 (hL.sh 62 rfl (by decide) (by decide)).2 rfl rfl (Nat.le_of_ble_eq_true rfl) (Nat.le_refl _) (Nat.zero_le _) (Nat.zero_le _) (AM.mono h (fun r M3 ⟨hr5, hc6, h⟩ => ?_))
      subst hr5
      refine ab_rv ?_
      have hm7 : Sm M M3 := (Sm.refl M).trans hc6
      have hl8 := hL.of hm7
      exact ab_sub [0, 2, 3, 4] rfl h
set_option maxRecDepth 20000 in
theorem rX12_layWeights_68 (D : GD) (d : Nat)  (v2 : Int32) (v3 : Int32) (v4 : Int32) (M : Mm) (post : Option Value → Mm → Prop) (hL : Lay 62 98 M) 
    (h : ((v4 = 0 → post none M) ∧ (¬ v4 = 0 → ((¬ v3 = 0 → post none M) ∧ (v3 = 0 → AMv D d mX12_answer [.ref 62, .int v2, .int (1 : Int32)] M (fun M3 => post none M3)))))) :
    LX12_layWeights_68 D d v2 v3 v4 M post := by
  show AW D (d + 1) 0 0 mX12_layWeights 0 0 68 [(0, .ref 62), (2, .int v2), (3, .int v3), (4, .int v4)] [] M post
  refine ab_iload 3 dX12_layWeights_68 rfl ?_
  refine ab_if_eq (tgt := 83) dX12_layWeights_70 (by decide) (fun c1 => ?_) (fun c1 => ?_)
  · have h := h.1 c1
    exact ab_vret dX12_layWeights_83 rfl h
  · have h := h.2 c1
    refine ab_iload_n 2 dX12_layWeights_73 rfl ?_
    refine ab_if_ne (tgt := 83) dX12_layWeights_74 (by decide) (fun c2 => ?_) (fun c2 => ?_)
    · have h := h.1 c2
      exact ab_vret dX12_layWeights_83 rfl h
    · have h := h.2 c2
      refine ab_aload_n 0 dX12_layWeights_77 rfl ?_
      refine ab_iload_n 1 dX12_layWeights_78 rfl ?_
      refine ab_iconst (v := 1) dX12_layWeights_79 (by decide) ?_
      refine ab_callV (a := 62) (c0 := 12) (d' := d) (mc' := 0) (ms' := 0) (vs := [.int v2, .int (1 : Int32)]) (st := []) dX12_layWeights_80 ⟨cw_X12_answer, w_1315⟩ w_1317 w_51 (by decide) (hL.sh 62 rfl (by decide) (by decide)).1 (hL.sh 62 rfl (by decide) (by decide)).2 rfl rfl (Nat.le_of_ble_eq_true rfl) (Nat.le_refl _) (Nat.zero_le _) (Nat.zero_le _) (AM.mono h (fun r M3 ⟨hr5, hc6, h⟩ => ?_))
      subst hr5
      refine ab_rv ?_
      have hm7 : Sm M M3 := (Sm.refl M).trans hc6
      have hl8 := hL.of hm7
      exact ab_vret dX12_layWeights_83 rfl h
theorem dX12_arePlayers_0 : decode cX12_arePlayers 0 = .ok (.aload_n 0, 1) := by decide +kernel
theorem dX12_arePlayers_1 : decode cX12_arePlayers 1 = .ok (.iload_n 1, 1) := by decide +kernel
theorem dX12_arePlayers_2 : decode cX12_arePlayers 2 = .ok (.invokevirtual 233, 3) := by decide +kernel
theorem dX12_arePlayers_5 : decode cX12_arePlayers 5 = .ok (.ifCond .eq 15, 3) := by decide +kernel
theorem dX12_arePlayers_8 : decode cX12_arePlayers 8 = .ok (.aload_n 0, 1) := by decide +kernel
theorem dX12_arePlayers_9 : decode cX12_arePlayers 9 = .ok (.iload_n 2, 1) := by decide +kernel
theorem dX12_arePlayers_10 : decode cX12_arePlayers 10 = .ok (.invokevirtual 233, 3) := by decide +kernel
theorem dX12_arePlayers_13 : decode cX12_arePlayers 13 = .ok (.ifCond .eq 7, 3) := by decide +kernel
theorem dX12_arePlayers_16 : decode cX12_arePlayers 16 = .ok (.iconst 1, 1) := by decide +kernel
theorem dX12_arePlayers_17 : decode cX12_arePlayers 17 = .ok (.goto 4, 3) := by decide +kernel
theorem dX12_arePlayers_20 : decode cX12_arePlayers 20 = .ok (.iconst 0, 1) := by decide +kernel
theorem dX12_arePlayers_21 : decode cX12_arePlayers 21 = .ok (.ireturn, 1) := by decide +kernel
set_option maxRecDepth 20000 in
theorem rX12_arePlayers (D : GD) (d : Nat) (a1 : Int32) (a2 : Int32) (M : Mm) (post : Option Value → Mm → Prop) (hL : Lay 62 98 M) 
    (h : AMi D d mX12_isPlayer [.ref 62, .int a1] M (fun x2 M1 => ((x2 = 0 → post (some (.int (0 : Int32))) M1) ∧ (¬ x2 = 0 → AMi D d mX12_isPlayer [.ref 62, .int a2] M1 (fun x9 M8 => ((x9 = 0 → post (some (.int (0 : Int32))) M8) ∧ (¬ x9 = 0 → post (some (.int (1 : Int32))) M8))))))) :
    AM D (d + 1) 0 0 mX12_arePlayers [.ref 62, .int a1, .int a2] M post := by
  refine AM.of (by decide) (Nat.le_of_ble_eq_true rfl) ?_
  show AW D (d + 1) 0 0 mX12_arePlayers 0 0 0 [(0, .ref 62), (1, .int a1), (2, .int a2)] [] M post
  refine ab_aload_n 0 dX12_arePlayers_0 rfl ?_
  refine ab_iload_n 1 dX12_arePlayers_1 rfl ?_
  refine ab_callV (a := 62) (c0 := 12) (d' := d) (mc' := 0) (ms' := 0) (vs := [.int a1]) (st := []) dX12_arePlayers_2 ⟨cw_X12_isPlayer, w_1247⟩ w_1249 w_37 (by decide) (hL.sh 62 rfl (by decide) (by decide)).1 (hL.sh 62 rfl (by decide) (by decide)).2 rfl rfl (Nat.le_of_ble_eq_true rfl) (Nat.le_refl _) (Nat.zero_le _) (Nat.zero_le _) (AM.mono h (fun r M1 ⟨x2, hr3, hc4, h⟩ => ?_))
  subst hr3
  refine ab_rs ?_
  have hm5 : Sm M M1 := (Sm.refl M).trans hc4
  have hl6 := hL.of hm5
  refine ab_if_eq (tgt := 20) dX12_arePlayers_5 (by decide) (fun c7 => ?_) (fun c7 => ?_)
  · have h := h.1 c7
    refine ab_iconst (v := 0) dX12_arePlayers_20 (by decide) ?_
    exact ab_zret dX12_arePlayers_21 rfl rfl h
  · have h := h.2 c7
    refine ab_aload_n 0 dX12_arePlayers_8 rfl ?_
    refine ab_iload_n 2 dX12_arePlayers_9 rfl ?_
    refine ab_callV (a := 62) (c0 := 12) (d' := d) (mc' := 0) (ms' := 0) (vs := [.int a2]) (st := []) dX12_arePlayers_10 ⟨cw_X12_isPlayer, w_1247⟩ w_1249 w_37 (by decide) (hl6.sh 62 rfl (by decide) (by decide)).1 (hl6.sh 62 rfl (by decide) (by decide)).2 rfl rfl (Nat.le_of_ble_eq_true rfl) (Nat.le_refl _) (Nat.zero_le _) (Nat.zero_le _) (AM.mono h (fun r M8 ⟨x9, hr10, hc11, h⟩ => ?_))
    subst hr10
    refine ab_rs ?_
    have hm12 : Sm M M8 := hm5.trans hc11
    have hl13 := hL.of hm12
    refine ab_if_eq (tgt := 20) dX12_arePlayers_13 (by decide) (fun c14 => ?_) (fun c14 => ?_)
    · have h := h.1 c14
      refine ab_iconst (v := 0) dX12_arePlayers_20 (by decide) ?_
      exact ab_zret dX12_arePlayers_21 rfl rfl h
    · have h := h.2 c14
      refine ab_iconst (v := 1) dX12_arePlayers_16 (by decide) ?_
      refine ab_goto (tgt := 21) dX12_arePlayers_17 (by decide) ?_
      exact ab_zret dX12_arePlayers_21 rfl rfl h
theorem dX12_weight_0 : decode cX12_weight 0 = .ok (.aload_n 0, 1) := by decide +kernel
theorem dX12_weight_1 : decode cX12_weight 1 = .ok (.iload_n 1, 1) := by decide +kernel
theorem dX12_weight_2 : decode cX12_weight 2 = .ok (.iload_n 2, 1) := by decide +kernel
theorem dX12_weight_3 : decode cX12_weight 3 = .ok (.invokevirtual 273, 3) := by decide +kernel
theorem dX12_weight_6 : decode cX12_weight 6 = .ok (.ifCond .eq 22, 3) := by decide +kernel
theorem dX12_weight_9 : decode cX12_weight 9 = .ok (.aload_n 0, 1) := by decide +kernel
theorem dX12_weight_10 : decode cX12_weight 10 = .ok (.iload_n 3, 1) := by decide +kernel
theorem dX12_weight_11 : decode cX12_weight 11 = .ok (.iconst 0, 1) := by decide +kernel
theorem dX12_weight_12 : decode cX12_weight 12 = .ok (.iconst 1, 1) := by decide +kernel
theorem dX12_weight_13 : decode cX12_weight 13 = .ok (.invokevirtual 180, 3) := by decide +kernel
theorem dX12_weight_16 : decode cX12_weight 16 = .ok (.ifCond .eq 12, 3) := by decide +kernel
theorem dX12_weight_19 : decode cX12_weight 19 = .ok (.aload_n 0, 1) := by decide +kernel
theorem dX12_weight_20 : decode cX12_weight 20 = .ok (.iload 4, 2) := by decide +kernel
theorem dX12_weight_22 : decode cX12_weight 22 = .ok (.invokevirtual 184, 3) := by decide +kernel
theorem dX12_weight_25 : decode cX12_weight 25 = .ok (.ifCond .ne 5, 3) := by decide +kernel
theorem dX12_weight_28 : decode cX12_weight 28 = .ok (.iconst (-1), 1) := by decide +kernel
theorem dX12_weight_29 : decode cX12_weight 29 = .ok (.ireturn, 1) := by decide +kernel
theorem dX12_weight_30 : decode cX12_weight 30 = .ok (.aload_n 0, 1) := by decide +kernel
theorem dX12_weight_31 : decode cX12_weight 31 = .ok (.iload 5, 2) := by decide +kernel
theorem dX12_weight_33 : decode cX12_weight 33 = .ok (.iload 6, 2) := by decide +kernel
theorem dX12_weight_35 : decode cX12_weight 35 = .ok (.iload 7, 2) := by decide +kernel
theorem dX12_weight_37 : decode cX12_weight 37 = .ok (.iload 8, 2) := by decide +kernel
theorem dX12_weight_39 : decode cX12_weight 39 = .ok (.invokevirtual 276, 3) := by decide +kernel
theorem dX12_weight_42 : decode cX12_weight 42 = .ok (.ifCond .ne 6, 3) := by decide +kernel
theorem dX12_weight_45 : decode cX12_weight 45 = .ok (.bipush (-2), 2) := by decide +kernel
theorem dX12_weight_47 : decode cX12_weight 47 = .ok (.ireturn, 1) := by decide +kernel
theorem dX12_weight_48 : decode cX12_weight 48 = .ok (.aload_n 0, 1) := by decide +kernel
theorem dX12_weight_49 : decode cX12_weight 49 = .ok (.invokevirtual 244, 3) := by decide +kernel
theorem dX12_weight_52 : decode cX12_weight 52 = .ok (.aload_n 0, 1) := by decide +kernel
theorem dX12_weight_53 : decode cX12_weight 53 = .ok (.iload 5, 2) := by decide +kernel
theorem dX12_weight_55 : decode cX12_weight 55 = .ok (.iload 6, 2) := by decide +kernel
theorem dX12_weight_57 : decode cX12_weight 57 = .ok (.iload 7, 2) := by decide +kernel
theorem dX12_weight_59 : decode cX12_weight 59 = .ok (.iload 8, 2) := by decide +kernel
theorem dX12_weight_61 : decode cX12_weight 61 = .ok (.invokevirtual 280, 3) := by decide +kernel
theorem dX12_weight_64 : decode cX12_weight 64 = .ok (.aload_n 0, 1) := by decide +kernel
theorem dX12_weight_65 : decode cX12_weight 65 = .ok (.iload_n 1, 1) := by decide +kernel
theorem dX12_weight_66 : decode cX12_weight 66 = .ok (.iload_n 2, 1) := by decide +kernel
theorem dX12_weight_67 : decode cX12_weight 67 = .ok (.invokevirtual 283, 3) := by decide +kernel
theorem dX12_weight_70 : decode cX12_weight 70 = .ok (.aload_n 0, 1) := by decide +kernel
theorem dX12_weight_71 : decode cX12_weight 71 = .ok (.getfield 87, 3) := by decide +kernel
theorem dX12_weight_74 : decode cX12_weight 74 = .ok (.iconst 3, 1) := by decide +kernel
theorem dX12_weight_75 : decode cX12_weight 75 = .ok (.iload_n 3, 1) := by decide +kernel
theorem dX12_weight_76 : decode cX12_weight 76 = .ok (.imul, 1) := by decide +kernel
theorem dX12_weight_77 : decode cX12_weight 77 = .ok (.iload 4, 2) := by decide +kernel
theorem dX12_weight_79 : decode cX12_weight 79 = .ok (.iadd, 1) := by decide +kernel
theorem dX12_weight_80 : decode cX12_weight 80 = .ok (.iaload, 1) := by decide +kernel
theorem dX12_weight_81 : decode cX12_weight 81 = .ok (.ireturn, 1) := by decide +kernel
set_option maxRecDepth 20000 in
theorem rX12_weight (D : GD) (d : Nat) (a1 : Int32) (a2 : Int32) (a3 : Int32) (a4 : Int32) (a5 : Int32) (a6 : Int32) (a7 : Int32) (a8 : Int32) (M : Mm) (post : Option Value → Mm → Prop) (hL : Lay 62 98 M) 
    (h : AMi D d mX12_arePlayers [.ref 62, .int a1, .int a2] M (fun x2 M1 => ((x2 = 0 → post (some (.int (-1 : Int32))) M1) ∧ (¬ x2 = 0 → AMi D d mX12_in [.ref 62, .int a3, .int (0 : Int32), .int (1 : Int32)] M1 (fun x9 M8 => ((x9 = 0 → post (some (.int (-1 : Int32))) M8) ∧ (¬ x9 = 0 → AMi D d mX12_isSide [.ref 62, .int a4] M8 (fun x16 M15 => ((¬ x16 = 0 → AMi D d mX12_isState [.ref 62, .int a5, .int a6, .int a7, .int a8] M15 (fun x23 M22 => ((¬ x23 = 0 → AMv D d mX12_findRest [.ref 62] M22 (fun M29 => AMv D d mX12_layState [.ref 62, .int a5, .int a6, .int a7, .int a8] M29 (fun M35 => AMv D d mX12_layWeights [.ref 62, .int a1, .int a2] M35 (fun M41 => vp_in (((3 : Int32) * a3) + a4) 6 ∧ post (some (.int (gI M41 78 ((((3 : Int32) * a3) + a4).toNatClampNeg)))) M41)))) ∧ (x23 = 0 → post (some (.int (-2 : Int32))) M22)))) ∧ (x16 = 0 → post (some (.int (-1 : Int32))) M15)))))))))) :
    AM D (d + 1) 0 0 mX12_weight [.ref 62, .int a1, .int a2, .int a3, .int a4, .int a5, .int a6, .int a7, .int a8] M post := by
  refine AM.of (by decide) (Nat.le_of_ble_eq_true rfl) ?_
  show AW D (d + 1) 0 0 mX12_weight 0 0 0 [(0, .ref 62), (1, .int a1), (2, .int a2), (3, .int a3), (4, .int a4), (5, .int a5), (6, .int a6), (7, .int a7), (8, .int a8)] [] M post
  refine ab_aload_n 0 dX12_weight_0 rfl ?_
  refine ab_iload_n 1 dX12_weight_1 rfl ?_
  refine ab_iload_n 2 dX12_weight_2 rfl ?_
  refine ab_callV (a := 62) (c0 := 12) (d' := d) (mc' := 0) (ms' := 0) (vs := [.int a1, .int a2]) (st := []) dX12_weight_3 ⟨cw_X12_arePlayers, w_1275⟩ w_1277 w_41 (by decide) (hL.sh 62 rfl (by decide) (by decide)).1 (hL.sh 62 rfl (by decide) (by decide)).2 rfl rfl (Nat.le_of_ble_eq_true rfl) (Nat.le_refl _) (Nat.zero_le _) (Nat.zero_le _) (AM.mono h (fun r M1 ⟨x2, hr3, hc4, h⟩ => ?_))
  subst hr3
  refine ab_rs ?_
  have hm5 : Sm M M1 := (Sm.refl M).trans hc4
  have hl6 := hL.of hm5
  refine ab_if_eq (tgt := 28) dX12_weight_6 (by decide) (fun c7 => ?_) (fun c7 => ?_)
  · have h := h.1 c7
    refine ab_iconst (v := (-1)) dX12_weight_28 (by decide) ?_
    exact ab_iret dX12_weight_29 rfl h
  · have h := h.2 c7
    refine ab_aload_n 0 dX12_weight_9 rfl ?_
    refine ab_iload_n 3 dX12_weight_10 rfl ?_
    refine ab_iconst (v := 0) dX12_weight_11 (by decide) ?_
    refine ab_iconst (v := 1) dX12_weight_12 (by decide) ?_
    refine ab_callV (a := 62) (c0 := 12) (d' := d) (mc' := 0) (ms' := 0) (vs := [.int a3, .int (0 : Int32), .int (1 : Int32)]) (st := []) dX12_weight_13 ⟨cw_X12_in, w_1170⟩ w_1172 w_23 (by decide) (hl6.sh 62 rfl (by decide) (by decide)).1 (hl6.sh 62 rfl (by decide) (by decide)).2 rfl rfl (Nat.le_of_ble_eq_true rfl) (Nat.le_refl _) (Nat.zero_le _) (Nat.zero_le _) (AM.mono h (fun r M8 ⟨x9, hr10, hc11, h⟩ => ?_))
    subst hr10
    refine ab_rs ?_
    have hm12 : Sm M M8 := hm5.trans hc11
    have hl13 := hL.of hm12
    refine ab_if_eq (tgt := 28) dX12_weight_16 (by decide) (fun c14 => ?_) (fun c14 => ?_)
    · have h := h.1 c14
      refine ab_iconst (v := (-1)) dX12_weight_28 (by decide) ?_
      exact ab_iret dX12_weight_29 rfl h
    · have h := h.2 c14
      refine ab_aload_n 0 dX12_weight_19 rfl ?_
      refine ab_iload 4 dX12_weight_20 rfl ?_
      refine ab_callV (a := 62) (c0 := 12) (d' := d) (mc' := 0) (ms' := 0) (vs := [.int a4]) (st := []) dX12_weight_22 ⟨cw_X12_isSide, w_1166⟩ w_1168 w_22 (by decide) (hl13.sh 62 rfl (by decide) (by decide)).1 (hl13.sh 62 rfl (by decide) (by decide)).2 rfl rfl (Nat.le_of_ble_eq_true rfl) (Nat.le_refl _) (Nat.zero_le _) (Nat.zero_le _) (AM.mono h (fun r M15 ⟨x16, hr17, hc18, h⟩ => ?_))
      subst hr17
      refine ab_rs ?_
      have hm19 : Sm M M15 := hm12.trans hc18
      have hl20 := hL.of hm19
      refine ab_if_ne (tgt := 30) dX12_weight_25 (by decide) (fun c21 => ?_) (fun c21 => ?_)
      · have h := h.1 c21
        refine ab_aload_n 0 dX12_weight_30 rfl ?_
        refine ab_iload 5 dX12_weight_31 rfl ?_
        refine ab_iload 6 dX12_weight_33 rfl ?_
        refine ab_iload 7 dX12_weight_35 rfl ?_
        refine ab_iload 8 dX12_weight_37 rfl ?_
        refine ab_callV (a := 62) (c0 := 12) (d' := d) (mc' := 0) (ms' := 0) (vs := [.int a5, .int a6, .int a7, .int a8]) (st := []) dX12_weight_39 ⟨cw_X12_isState, w_1279⟩ w_1281 w_42 (by decide) (hl20.sh 62 rfl (by decide) (by decide)).1 (hl20.sh 62 rfl (by decide) (by decide)).2 rfl rfl (Nat.le_of_ble_eq_true rfl) (Nat.le_refl _) (Nat.zero_le _) (Nat.zero_le _) (AM.mono h (fun r M22 ⟨x23, hr24, hc25, h⟩ => ?_))
        subst hr24
        refine ab_rs ?_
        have hm26 : Sm M M22 := hm19.trans hc25
        have hl27 := hL.of hm26
        refine ab_if_ne (tgt := 48) dX12_weight_42 (by decide) (fun c28 => ?_) (fun c28 => ?_)
        · have h := h.1 c28
          refine ab_aload_n 0 dX12_weight_48 rfl ?_
          refine ab_callV (a := 62) (c0 := 12) (d' := d) (mc' := 0) (ms' := 0) (vs := []) (st := []) dX12_weight_49 ⟨cw_X12_findRest, w_1255⟩ w_1257 w_38 (by decide) (hl27.sh 62 rfl (by decide) (by decide)).1 (hl27.sh 62 rfl (by decide) (by decide)).2 rfl rfl (Nat.le_of_ble_eq_true rfl) (Nat.le_refl _) (Nat.zero_le _) (Nat.zero_le _) (AM.mono h (fun r M29 ⟨hr31, hc32, h⟩ => ?_))
          subst hr31
          refine ab_rv ?_
          have hm33 : Sm M M29 := hm26.trans hc32
          have hl34 := hL.of hm33
          refine ab_aload_n 0 dX12_weight_52 rfl ?_
          refine ab_iload 5 dX12_weight_53 rfl ?_
          refine ab_iload 6 dX12_weight_55 rfl ?_
          refine ab_iload 7 dX12_weight_57 rfl ?_
          refine ab_iload 8 dX12_weight_59 rfl ?_
          refine ab_callV (a := 62) (c0 := 12) (d' := d) (mc' := 0) (ms' := 0) (vs := [.int a5, .int a6, .int a7, .int a8]) (st := []) dX12_weight_61 ⟨cw_X12_layState, w_1283⟩ w_1285 w_43 (by decide) (hl34.sh 62 rfl (by decide) (by decide)).1 (hl34.sh 62 rfl (by decide) (by decide)).2 rfl rfl (Nat.le_of_ble_eq_true rfl) (Nat.le_refl _) (Nat.zero_le _) (Nat.zero_le _) (AM.mono h (fun r M35 ⟨hr37, hc38, h⟩ => ?_))
          subst hr37
          refine ab_rv ?_
          have hm39 : Sm M M35 := hm33.trans hc38
          have hl40 := hL.of hm39
          refine ab_aload_n 0 dX12_weight_64 rfl ?_
          refine ab_iload_n 1 dX12_weight_65 rfl ?_
          refine ab_iload_n 2 dX12_weight_66 rfl ?_
          refine ab_callV (a := 62) (c0 := 12) (d' := d) (mc' := 0) (ms' := 0) (vs := [.int a1, .int a2]) (st := []) dX12_weight_67 ⟨cw_X12_layWeights, w_1287⟩ w_1289 w_44 (by decide) (hl40.sh 62 rfl (by decide) (by decide)).1 (hl40.sh 62 rfl (by decide) (by decide)).2 rfl rfl (Nat.le_of_ble_eq_true rfl) (Nat.le_refl _) (Nat.zero_le _) (Nat.zero_le _) (AM.mono h (fun r M41 ⟨hr43, hc44, h⟩ => ?_))
          subst hr43
          refine ab_rv ?_
          have hm45 : Sm M M41 := hm39.trans hc44
          have hl46 := hL.of hm45
          refine ab_aload_n 0 dX12_weight_70 rfl ?_
          refine ab_getP (r := 78) dX12_weight_71 fs_12_87_12 rfl (hl46.sh 62 rfl (by decide) (by decide)).1 (hl46.sh 62 rfl (by decide) (by decide)).2 (hl46.pt 76 rfl (by decide) (by decide)) ?_
          refine ab_iconst (v := 3) dX12_weight_74 (by decide) ?_
          refine ab_iload_n 3 dX12_weight_75 rfl ?_
          refine ab_imul dX12_weight_76 ?_
          refine ab_iload 4 dX12_weight_77 rfl ?_
          refine ab_iadd dX12_weight_79 ?_
          have hb47 := h.1
          have h := h.2
          refine ab_ialdj (j := (((3 : Int32) * a3) + a4).toNatClampNeg) dX12_weight_80 (hl46.sh 78 rfl (by decide) (by decide)) hb47 rfl ?_
          exact ab_iret dX12_weight_81 rfl h
        · have h := h.2 c28
          refine ab_bipush (v := (-2)) dX12_weight_45 (by decide) ?_
          exact ab_iret dX12_weight_47 rfl h
      · have h := h.2 c21
        refine ab_iconst (v := (-1)) dX12_weight_28 (by decide) ?_
        exact ab_iret dX12_weight_29 rfl h
theorem dX12_reply_0 : decode cX12_reply 0 = .ok (.aload_n 0, 1) := by decide +kernel
theorem dX12_reply_1 : decode cX12_reply 1 = .ok (.iload_n 1, 1) := by decide +kernel
theorem dX12_reply_2 : decode cX12_reply 2 = .ok (.iload_n 2, 1) := by decide +kernel
theorem dX12_reply_3 : decode cX12_reply 3 = .ok (.invokevirtual 273, 3) := by decide +kernel
theorem dX12_reply_6 : decode cX12_reply 6 = .ok (.ifCond .eq 13, 3) := by decide +kernel
theorem dX12_reply_9 : decode cX12_reply 9 = .ok (.aload_n 0, 1) := by decide +kernel
theorem dX12_reply_10 : decode cX12_reply 10 = .ok (.iload_n 3, 1) := by decide +kernel
theorem dX12_reply_11 : decode cX12_reply 11 = .ok (.iconst 0, 1) := by decide +kernel
theorem dX12_reply_12 : decode cX12_reply 12 = .ok (.iconst 1, 1) := by decide +kernel
theorem dX12_reply_13 : decode cX12_reply 13 = .ok (.invokevirtual 180, 3) := by decide +kernel
theorem dX12_reply_16 : decode cX12_reply 16 = .ok (.ifCond .ne 5, 3) := by decide +kernel
theorem dX12_reply_19 : decode cX12_reply 19 = .ok (.iconst (-1), 1) := by decide +kernel
theorem dX12_reply_20 : decode cX12_reply 20 = .ok (.ireturn, 1) := by decide +kernel
theorem dX12_reply_21 : decode cX12_reply 21 = .ok (.aload_n 0, 1) := by decide +kernel
theorem dX12_reply_22 : decode cX12_reply 22 = .ok (.iload 4, 2) := by decide +kernel
theorem dX12_reply_24 : decode cX12_reply 24 = .ok (.iload 5, 2) := by decide +kernel
theorem dX12_reply_26 : decode cX12_reply 26 = .ok (.iload 6, 2) := by decide +kernel
theorem dX12_reply_28 : decode cX12_reply 28 = .ok (.iload 7, 2) := by decide +kernel
theorem dX12_reply_30 : decode cX12_reply 30 = .ok (.invokevirtual 276, 3) := by decide +kernel
theorem dX12_reply_33 : decode cX12_reply 33 = .ok (.ifCond .ne 6, 3) := by decide +kernel
theorem dX12_reply_36 : decode cX12_reply 36 = .ok (.bipush (-2), 2) := by decide +kernel
theorem dX12_reply_38 : decode cX12_reply 38 = .ok (.ireturn, 1) := by decide +kernel
theorem dX12_reply_39 : decode cX12_reply 39 = .ok (.aload_n 0, 1) := by decide +kernel
theorem dX12_reply_40 : decode cX12_reply 40 = .ok (.invokevirtual 244, 3) := by decide +kernel
theorem dX12_reply_43 : decode cX12_reply 43 = .ok (.aload_n 0, 1) := by decide +kernel
theorem dX12_reply_44 : decode cX12_reply 44 = .ok (.iload 4, 2) := by decide +kernel
theorem dX12_reply_46 : decode cX12_reply 46 = .ok (.iload 5, 2) := by decide +kernel
theorem dX12_reply_48 : decode cX12_reply 48 = .ok (.iload 6, 2) := by decide +kernel
theorem dX12_reply_50 : decode cX12_reply 50 = .ok (.iload 7, 2) := by decide +kernel
theorem dX12_reply_52 : decode cX12_reply 52 = .ok (.invokevirtual 280, 3) := by decide +kernel
theorem dX12_reply_55 : decode cX12_reply 55 = .ok (.aload_n 0, 1) := by decide +kernel
theorem dX12_reply_56 : decode cX12_reply 56 = .ok (.iload_n 1, 1) := by decide +kernel
theorem dX12_reply_57 : decode cX12_reply 57 = .ok (.iload_n 2, 1) := by decide +kernel
theorem dX12_reply_58 : decode cX12_reply 58 = .ok (.invokevirtual 283, 3) := by decide +kernel
theorem dX12_reply_61 : decode cX12_reply 61 = .ok (.aload_n 0, 1) := by decide +kernel
theorem dX12_reply_62 : decode cX12_reply 62 = .ok (.iload_n 3, 1) := by decide +kernel
theorem dX12_reply_63 : decode cX12_reply 63 = .ok (.invokevirtual 257, 3) := by decide +kernel
theorem dX12_reply_66 : decode cX12_reply 66 = .ok (.ireturn, 1) := by decide +kernel
set_option maxRecDepth 20000 in
theorem rX12_reply (D : GD) (d : Nat) (a1 : Int32) (a2 : Int32) (a3 : Int32) (a4 : Int32) (a5 : Int32) (a6 : Int32) (a7 : Int32) (M : Mm) (post : Option Value → Mm → Prop) (hL : Lay 62 98 M) 
    (h : AMi D d mX12_arePlayers [.ref 62, .int a1, .int a2] M (fun x2 M1 => ((x2 = 0 → post (some (.int (-1 : Int32))) M1) ∧ (¬ x2 = 0 → AMi D d mX12_in [.ref 62, .int a3, .int (0 : Int32), .int (1 : Int32)] M1 (fun x9 M8 => ((¬ x9 = 0 → AMi D d mX12_isState [.ref 62, .int a4, .int a5, .int a6, .int a7] M8 (fun x16 M15 => ((¬ x16 = 0 → AMv D d mX12_findRest [.ref 62] M15 (fun M22 => AMv D d mX12_layState [.ref 62, .int a4, .int a5, .int a6, .int a7] M22 (fun M28 => AMv D d mX12_layWeights [.ref 62, .int a1, .int a2] M28 (fun M34 => AMi D d mX12_replyOf [.ref 62, .int a3] M34 (fun x41 M40 => post (some (.int x41)) M40))))) ∧ (x16 = 0 → post (some (.int (-2 : Int32))) M15)))) ∧ (x9 = 0 → post (some (.int (-1 : Int32))) M8))))))) :
    AM D (d + 1) 0 0 mX12_reply [.ref 62, .int a1, .int a2, .int a3, .int a4, .int a5, .int a6, .int a7] M post := by
  refine AM.of (by decide) (Nat.le_of_ble_eq_true rfl) ?_
  show AW D (d + 1) 0 0 mX12_reply 0 0 0 [(0, .ref 62), (1, .int a1), (2, .int a2), (3, .int a3), (4, .int a4), (5, .int a5), (6, .int a6), (7, .int a7)] [] M post
  refine ab_aload_n 0 dX12_reply_0 rfl ?_
  refine ab_iload_n 1 dX12_reply_1 rfl ?_
  refine ab_iload_n 2 dX12_reply_2 rfl ?_
  refine ab_callV (a := 62) (c0 := 12) (d' := d) (mc' := 0) (ms' := 0) (vs := [.int a1, .int a2]) (st := []) dX12_reply_3 ⟨cw_X12_arePlayers, w_1275⟩ w_1277 w_41 (by decide) (hL.sh 62 rfl (by decide) (by decide)).1 (hL.sh 62 rfl (by decide) (by decide)).2 rfl rfl (Nat.le_of_ble_eq_true rfl) (Nat.le_refl _) (Nat.zero_le _) (Nat.zero_le _) (AM.mono h (fun r M1 ⟨x2, hr3, hc4, h⟩ => ?_))
  subst hr3
  refine ab_rs ?_
  have hm5 : Sm M M1 := (Sm.refl M).trans hc4
  have hl6 := hL.of hm5
  refine ab_if_eq (tgt := 19) dX12_reply_6 (by decide) (fun c7 => ?_) (fun c7 => ?_)
  · have h := h.1 c7
    refine ab_iconst (v := (-1)) dX12_reply_19 (by decide) ?_
    exact ab_iret dX12_reply_20 rfl h
  · have h := h.2 c7
    refine ab_aload_n 0 dX12_reply_9 rfl ?_
    refine ab_iload_n 3 dX12_reply_10 rfl ?_
    refine ab_iconst (v := 0) dX12_reply_11 (by decide) ?_
    refine ab_iconst (v := 1) dX12_reply_12 (by decide) ?_
    refine ab_callV (a := 62) (c0 := 12) (d' := d) (mc' := 0) (ms' := 0) (vs := [.int a3, .int (0 : Int32), .int (1 : Int32)]) (st := []) dX12_reply_13 ⟨cw_X12_in, w_1170⟩ w_1172 w_23 (by decide) (hl6.sh 62 rfl (by decide) (by decide)).1 (hl6.sh 62 rfl (by decide) (by decide)).2 rfl rfl (Nat.le_of_ble_eq_true rfl) (Nat.le_refl _) (Nat.zero_le _) (Nat.zero_le _) (AM.mono h (fun r M8 ⟨x9, hr10, hc11, h⟩ => ?_))
    subst hr10
    refine ab_rs ?_
    have hm12 : Sm M M8 := hm5.trans hc11
    have hl13 := hL.of hm12
    refine ab_if_ne (tgt := 21) dX12_reply_16 (by decide) (fun c14 => ?_) (fun c14 => ?_)
    · have h := h.1 c14
      refine ab_aload_n 0 dX12_reply_21 rfl ?_
      refine ab_iload 4 dX12_reply_22 rfl ?_
      refine ab_iload 5 dX12_reply_24 rfl ?_
      refine ab_iload 6 dX12_reply_26 rfl ?_
      refine ab_iload 7 dX12_reply_28 rfl ?_
      refine ab_callV (a := 62) (c0 := 12) (d' := d) (mc' := 0) (ms' := 0) (vs := [.int a4, .int a5, .int a6, .int a7]) (st := []) dX12_reply_30 ⟨cw_X12_isState, w_1279⟩ w_1281 w_42 (by decide) (hl13.sh 62 rfl (by decide) (by decide)).1 (hl13.sh 62 rfl (by decide) (by decide)).2 rfl rfl (Nat.le_of_ble_eq_true rfl) (Nat.le_refl _) (Nat.zero_le _) (Nat.zero_le _) (AM.mono h (fun r M15 ⟨x16, hr17, hc18, h⟩ => ?_))
      subst hr17
      refine ab_rs ?_
      have hm19 : Sm M M15 := hm12.trans hc18
      have hl20 := hL.of hm19
      refine ab_if_ne (tgt := 39) dX12_reply_33 (by decide) (fun c21 => ?_) (fun c21 => ?_)
      · have h := h.1 c21
        refine ab_aload_n 0 dX12_reply_39 rfl ?_
        refine ab_callV (a := 62) (c0 := 12) (d' := d) (mc' := 0) (ms' := 0) (vs := []) (st := []) dX12_reply_40 ⟨cw_X12_findRest, w_1255⟩ w_1257 w_38 (by decide) (hl20.sh 62 rfl (by decide) (by decide)).1 (hl20.sh 62 rfl (by decide) (by decide)).2 rfl rfl (Nat.le_of_ble_eq_true rfl) (Nat.le_refl _) (Nat.zero_le _) (Nat.zero_le _) (AM.mono h (fun r M22 ⟨hr24, hc25, h⟩ => ?_))
        subst hr24
        refine ab_rv ?_
        have hm26 : Sm M M22 := hm19.trans hc25
        have hl27 := hL.of hm26
        refine ab_aload_n 0 dX12_reply_43 rfl ?_
        refine ab_iload 4 dX12_reply_44 rfl ?_
        refine ab_iload 5 dX12_reply_46 rfl ?_
        refine ab_iload 6 dX12_reply_48 rfl ?_
        refine ab_iload 7 dX12_reply_50 rfl ?_
        refine ab_callV (a := 62) (c0 := 12) (d' := d) (mc' := 0) (ms' := 0) (vs := [.int a4, .int a5, .int a6, .int a7]) (st := []) dX12_reply_52 ⟨cw_X12_layState, w_1283⟩ w_1285 w_43 (by decide) (hl27.sh 62 rfl (by decide) (by decide)).1 (hl27.sh 62 rfl (by decide) (by decide)).2 rfl rfl (Nat.le_of_ble_eq_true rfl) (Nat.le_refl _) (Nat.zero_le _) (Nat.zero_le _) (AM.mono h (fun r M28 ⟨hr30, hc31, h⟩ => ?_))
        subst hr30
        refine ab_rv ?_
        have hm32 : Sm M M28 := hm26.trans hc31
        have hl33 := hL.of hm32
        refine ab_aload_n 0 dX12_reply_55 rfl ?_
        refine ab_iload_n 1 dX12_reply_56 rfl ?_
        refine ab_iload_n 2 dX12_reply_57 rfl ?_
        refine ab_callV (a := 62) (c0 := 12) (d' := d) (mc' := 0) (ms' := 0) (vs := [.int a1, .int a2]) (st := []) dX12_reply_58 ⟨cw_X12_layWeights, w_1287⟩ w_1289 w_44 (by decide) (hl33.sh 62 rfl (by decide) (by decide)).1 (hl33.sh 62 rfl (by decide) (by decide)).2 rfl rfl (Nat.le_of_ble_eq_true rfl) (Nat.le_refl _) (Nat.zero_le _) (Nat.zero_le _) (AM.mono h (fun r M34 ⟨hr36, hc37, h⟩ => ?_))
        subst hr36
        refine ab_rv ?_
        have hm38 : Sm M M34 := hm32.trans hc37
        have hl39 := hL.of hm38
        refine ab_aload_n 0 dX12_reply_61 rfl ?_
        refine ab_iload_n 3 dX12_reply_62 rfl ?_
        refine ab_callV (a := 62) (c0 := 12) (d' := d) (mc' := 0) (ms' := 0) (vs := [.int a3]) (st := []) dX12_reply_63 ⟨cw_X12_replyOf, w_1319⟩ w_1321 w_52 (by decide) (hl39.sh 62 rfl (by decide) (by decide)).1 (hl39.sh 62 rfl (by decide) (by decide)).2 rfl rfl (Nat.le_of_ble_eq_true rfl) (Nat.le_refl _) (Nat.zero_le _) (Nat.zero_le _) (AM.mono h (fun r M40 ⟨x41, hr42, hc43, h⟩ => ?_))
        subst hr42
        refine ab_rs ?_
        have hm44 : Sm M M40 := hm38.trans hc43
        have hl45 := hL.of hm44
        exact ab_iret dX12_reply_66 rfl h
      · have h := h.2 c21
        refine ab_bipush (v := (-2)) dX12_reply_36 (by decide) ?_
        exact ab_iret dX12_reply_38 rfl h
    · have h := h.2 c14
      refine ab_iconst (v := (-1)) dX12_reply_19 (by decide) ?_
      exact ab_iret dX12_reply_20 rfl h
theorem dX12_divisor_0 : decode cX12_divisor 0 = .ok (.lload_n 1, 1) := by decide +kernel
theorem dX12_divisor_1 : decode cX12_divisor 1 = .ok (.lconst 0, 1) := by decide +kernel
theorem dX12_divisor_2 : decode cX12_divisor 2 = .ok (.lcmp, 1) := by decide +kernel
theorem dX12_divisor_3 : decode cX12_divisor 3 = .ok (.ifCond .ge 8, 3) := by decide +kernel
theorem dX12_divisor_6 : decode cX12_divisor 6 = .ok (.lload_n 1, 1) := by decide +kernel
theorem dX12_divisor_7 : decode cX12_divisor 7 = .ok (.lneg, 1) := by decide +kernel
theorem dX12_divisor_8 : decode cX12_divisor 8 = .ok (.goto 4, 3) := by decide +kernel
theorem dX12_divisor_11 : decode cX12_divisor 11 = .ok (.lload_n 1, 1) := by decide +kernel
theorem dX12_divisor_12 : decode cX12_divisor 12 = .ok (.lstore 5, 2) := by decide +kernel
theorem dX12_divisor_14 : decode cX12_divisor 14 = .ok (.lload_n 3, 1) := by decide +kernel
theorem dX12_divisor_15 : decode cX12_divisor 15 = .ok (.lstore 7, 2) := by decide +kernel
theorem dX12_divisor_17 : decode cX12_divisor 17 = .ok (.lload 7, 2) := by decide +kernel
theorem dX12_divisor_19 : decode cX12_divisor 19 = .ok (.lconst 0, 1) := by decide +kernel
theorem dX12_divisor_20 : decode cX12_divisor 20 = .ok (.lcmp, 1) := by decide +kernel
theorem dX12_divisor_21 : decode cX12_divisor 21 = .ok (.ifCond .eq 21, 3) := by decide +kernel
theorem dX12_divisor_24 : decode cX12_divisor 24 = .ok (.lload 5, 2) := by decide +kernel
theorem dX12_divisor_26 : decode cX12_divisor 26 = .ok (.lload 7, 2) := by decide +kernel
theorem dX12_divisor_28 : decode cX12_divisor 28 = .ok (.lrem, 1) := by decide +kernel
theorem dX12_divisor_29 : decode cX12_divisor 29 = .ok (.lstore 9, 2) := by decide +kernel
theorem dX12_divisor_31 : decode cX12_divisor 31 = .ok (.lload 7, 2) := by decide +kernel
theorem dX12_divisor_33 : decode cX12_divisor 33 = .ok (.lstore 5, 2) := by decide +kernel
theorem dX12_divisor_35 : decode cX12_divisor 35 = .ok (.lload 9, 2) := by decide +kernel
theorem dX12_divisor_37 : decode cX12_divisor 37 = .ok (.lstore 7, 2) := by decide +kernel
theorem dX12_divisor_39 : decode cX12_divisor 39 = .ok (.goto (-22), 3) := by decide +kernel
theorem dX12_divisor_42 : decode cX12_divisor 42 = .ok (.lload 5, 2) := by decide +kernel
theorem dX12_divisor_44 : decode cX12_divisor 44 = .ok (.lreturn, 1) := by decide +kernel
def LX12_divisor_17 (D : GD) (d : Nat) (v5 : Int64) (v7 : Int64) (M : Mm) (post : Option Value → Mm → Prop) : Prop := AW D d 0 0 mX12_divisor 0 0 17 [(5, .long v5), (7, .long v7)] [] M post
set_option maxRecDepth 20000 in
theorem rX12_divisor (D : GD) (d : Nat) (a1 : Int64) (a2 : Int64) (M : Mm) (post : Option Value → Mm → Prop) (hL : Lay 62 98 M) 
    (h : ((0 ≤ (lg_cmp a1 (0 : Int64)) → LX12_divisor_17 D d a1 a2 M post) ∧ (¬ 0 ≤ (lg_cmp a1 (0 : Int64)) → ∀ x2 : Int64, x2 = (-a1) → LX12_divisor_17 D d x2 a2 M post))) :
    AM D d 0 0 mX12_divisor [.ref 62, .long a1, .long a2] M post := by
  refine AM.of (by decide) (Nat.le_of_ble_eq_true rfl) ?_
  show AW D d 0 0 mX12_divisor 0 0 0 [(0, .ref 62), (1, .long a1), (3, .long a2)] [] M post
  refine ab_lload_n 1 dX12_divisor_0 rfl ?_
  refine ab_lconst (v := 0) dX12_divisor_1 (by decide) ?_
  refine ab_lcmp dX12_divisor_2 ?_
  refine ab_if_ge (tgt := 11) dX12_divisor_3 (by decide) (fun c1 => ?_) (fun c1 => ?_)
  · have h := h.1 c1
    refine ab_lload_n 1 dX12_divisor_11 rfl ?_
    refine ab_lstore (lv1 := [(5, .long a1), (0, .ref 62), (1, .long a1), (3, .long a2)]) dX12_divisor_12 (by decide) rfl ?_
    refine ab_lload_n 3 dX12_divisor_14 rfl ?_
    refine ab_lstore (lv1 := [(7, .long a2), (5, .long a1), (0, .ref 62), (1, .long a1), (3, .long a2)]) dX12_divisor_15 (by decide) rfl ?_
    exact ab_sub [1, 0] rfl h
  · have h := h.2 c1
    refine ab_lload_n 1 dX12_divisor_6 rfl ?_
    refine ab_lneg dX12_divisor_7 ?_
    refine ab_goto (tgt := 12) dX12_divisor_8 (by decide) ?_
    refine ab_topl (fun x2 hx2 => ?_)
    have h := h x2 hx2
    refine ab_lstore (lv1 := [(5, .long x2), (0, .ref 62), (1, .long a1), (3, .long a2)]) dX12_divisor_12 (by decide) rfl ?_
    refine ab_lload_n 3 dX12_divisor_14 rfl ?_
    refine ab_lstore (lv1 := [(7, .long a2), (5, .long x2), (0, .ref 62), (1, .long a1), (3, .long a2)]) dX12_divisor_15 (by decide) rfl ?_
    exact ab_sub [1, 0] rfl h
set_option maxRecDepth 20000 in
theorem rX12_divisor_17 (D : GD) (d : Nat)  (v5 : Int64) (v7 : Int64) (M : Mm) (post : Option Value → Mm → Prop) (hL : Lay 62 98 M) 
    (h : (((lg_cmp v7 (0 : Int64)) = 0 → post (some (.long v5)) M) ∧ (¬ (lg_cmp v7 (0 : Int64)) = 0 → (¬ v7 = 0) ∧ ∀ x3 : Int64, x3 = (v5 - v5 / v7 * v7) → LX12_divisor_17 D d v7 x3 M post))) :
    LX12_divisor_17 D d v5 v7 M post := by
  show AW D d 0 0 mX12_divisor 0 0 17 [(5, .long v5), (7, .long v7)] [] M post
  refine ab_lload 1 dX12_divisor_17 rfl ?_
  refine ab_lconst (v := 0) dX12_divisor_19 (by decide) ?_
  refine ab_lcmp dX12_divisor_20 ?_
  refine ab_if_eq (tgt := 42) dX12_divisor_21 (by decide) (fun c1 => ?_) (fun c1 => ?_)
  · have h := h.1 c1
    refine ab_lload 0 dX12_divisor_42 rfl ?_
    exact ab_lret dX12_divisor_44 rfl h
  · have h := h.2 c1
    refine ab_lload 0 dX12_divisor_24 rfl ?_
    refine ab_lload 1 dX12_divisor_26 rfl ?_
    have hn2 := h.1
    have h := h.2
    refine ab_lrem dX12_divisor_28 hn2 ?_
    refine ab_topl (fun x3 hx3 => ?_)
    have h := h x3 hx3
    refine ab_lstore (lv1 := [(9, .long x3), (5, .long v5), (7, .long v7)]) dX12_divisor_29 (by decide) rfl ?_
    refine ab_lload 2 dX12_divisor_31 rfl ?_
    refine ab_lstore (lv1 := [(5, .long v7), (9, .long x3), (7, .long v7)]) dX12_divisor_33 (by decide) rfl ?_
    refine ab_lload 1 dX12_divisor_35 rfl ?_
    refine ab_lstore (lv1 := [(7, .long x3), (5, .long v7), (9, .long x3)]) dX12_divisor_37 (by decide) rfl ?_
    refine ab_goto (tgt := 17) dX12_divisor_39 (by decide) ?_
    exact ab_sub [1, 0] rfl h
theorem dX12_lower_0 : decode cX12_lower 0 = .ok (.aload_n 0, 1) := by decide +kernel
theorem dX12_lower_1 : decode cX12_lower 1 = .ok (.aload_n 0, 1) := by decide +kernel
theorem dX12_lower_2 : decode cX12_lower 2 = .ok (.getfield 102, 3) := by decide +kernel
theorem dX12_lower_5 : decode cX12_lower 5 = .ok (.aload_n 0, 1) := by decide +kernel
theorem dX12_lower_6 : decode cX12_lower 6 = .ok (.getfield 106, 3) := by decide +kernel
theorem dX12_lower_9 : decode cX12_lower 9 = .ok (.invokevirtual 286, 3) := by decide +kernel
theorem dX12_lower_12 : decode cX12_lower 12 = .ok (.lstore_n 1, 1) := by decide +kernel
theorem dX12_lower_13 : decode cX12_lower 13 = .ok (.aload_n 0, 1) := by decide +kernel
theorem dX12_lower_14 : decode cX12_lower 14 = .ok (.dup, 1) := by decide +kernel
theorem dX12_lower_15 : decode cX12_lower 15 = .ok (.getfield 102, 3) := by decide +kernel
theorem dX12_lower_18 : decode cX12_lower 18 = .ok (.lload_n 1, 1) := by decide +kernel
theorem dX12_lower_19 : decode cX12_lower 19 = .ok (.ldiv, 1) := by decide +kernel
theorem dX12_lower_20 : decode cX12_lower 20 = .ok (.putfield 102, 3) := by decide +kernel
theorem dX12_lower_23 : decode cX12_lower 23 = .ok (.aload_n 0, 1) := by decide +kernel
theorem dX12_lower_24 : decode cX12_lower 24 = .ok (.dup, 1) := by decide +kernel
theorem dX12_lower_25 : decode cX12_lower 25 = .ok (.getfield 106, 3) := by decide +kernel
theorem dX12_lower_28 : decode cX12_lower 28 = .ok (.lload_n 1, 1) := by decide +kernel
theorem dX12_lower_29 : decode cX12_lower 29 = .ok (.ldiv, 1) := by decide +kernel
theorem dX12_lower_30 : decode cX12_lower 30 = .ok (.putfield 106, 3) := by decide +kernel
theorem dX12_lower_33 : decode cX12_lower 33 = .ok (.return_, 1) := by decide +kernel
set_option maxRecDepth 20000 in
theorem rX12_lower (D : GD) (d : Nat)  (M : Mm) (post : Option Value → Mm → Prop) (hL : Lay 62 98 M) 
    (h : AMl D d mX12_divisor [.ref 62, .long (gL M 62 30), .long (gL M 62 31)] M (fun x2 M1 => (¬ x2 = 0) ∧ ∀ M8 : Mm, M8 = sL M1 62 30 ((gL M1 62 30) / x2) → (¬ x2 = 0) ∧ ∀ M13 : Mm, M13 = sL M8 62 31 ((gL M8 62 31) / x2) → post none M13)) :
    AM D (d + 1) 0 0 mX12_lower [.ref 62] M post := by
  refine AM.of (by decide) (Nat.le_of_ble_eq_true rfl) ?_
  show AW D (d + 1) 0 0 mX12_lower 0 0 0 [(0, .ref 62)] [] M post
  refine ab_aload_n 0 dX12_lower_0 rfl ?_
  refine ab_aload_n 0 dX12_lower_1 rfl ?_
  refine ab_getL dX12_lower_2 fs_12_102_12 rfl (hL.sh 62 rfl (by decide) (by decide)).1 (hL.sh 62 rfl (by decide) (by decide)).2 ?_
  refine ab_aload_n 0 dX12_lower_5 rfl ?_
  refine ab_getL dX12_lower_6 fs_12_106_12 rfl (hL.sh 62 rfl (by decide) (by decide)).1 (hL.sh 62 rfl (by decide) (by decide)).2 ?_
  refine ab_callV (a := 62) (c0 := 12) (d' := d) (mc' := 0) (ms' := 0) (vs := [.long (gL M 62 30), .long (gL M 62 31)]) (st := []) dX12_lower_9 ⟨cw_X12_divisor, w_1349⟩ w_1351 w_57 (by decide) (hL.sh 62 rfl (by decide) (by decide)).1 (hL.sh 62 rfl (by decide) (by decide)).2 rfl rfl (Nat.le_of_ble_eq_true rfl) (Nat.le_refl _) (Nat.zero_le _) (Nat.zero_le _) (AM.mono h (fun r M1 ⟨x2, hr3, hc4, h⟩ => ?_))
  subst hr3
  refine ab_rs ?_
  have hm5 : Sm M M1 := (Sm.refl M).trans hc4
  have hl6 := hL.of hm5
  refine ab_lstore_n (lv1 := [(1, .long x2), (0, .ref 62)]) dX12_lower_12 (by decide) rfl ?_
  refine ab_aload_n 1 dX12_lower_13 rfl ?_
  refine ab_dup dX12_lower_14 rfl ?_
  refine ab_getL dX12_lower_15 fs_12_102_12 rfl (hl6.sh 62 rfl (by decide) (by decide)).1 (hl6.sh 62 rfl (by decide) (by decide)).2 ?_
  refine ab_lload_n 0 dX12_lower_18 rfl ?_
  have hn7 := h.1
  have h := h.2
  refine ab_ldiv dX12_lower_19 hn7 ?_
  refine ab_putL dX12_lower_20 fs_12_102_12 rfl rfl (hl6.sh 62 rfl (by decide) (by decide)).1 (hl6.sh 62 rfl (by decide) (by decide)).2 ?_
  refine ab_nameM (fun M8 hM8 => ?_)
  have h := h M8 hM8
  have hs11 : Sm M1 M8 := hM8 ▸ (Sm.refl _).l
  have hm9 : Sm M M8 := hm5.trans hs11
  have hl10 := hL.of hm9
  refine ab_aload_n 1 dX12_lower_23 rfl ?_
  refine ab_dup dX12_lower_24 rfl ?_
  refine ab_getL dX12_lower_25 fs_12_106_12 rfl (hl10.sh 62 rfl (by decide) (by decide)).1 (hl10.sh 62 rfl (by decide) (by decide)).2 ?_
  refine ab_lload_n 0 dX12_lower_28 rfl ?_
  have hn12 := h.1
  have h := h.2
  refine ab_ldiv dX12_lower_29 hn12 ?_
  refine ab_putL dX12_lower_30 fs_12_106_12 rfl rfl (hl10.sh 62 rfl (by decide) (by decide)).1 (hl10.sh 62 rfl (by decide) (by decide)).2 ?_
  refine ab_nameM (fun M13 hM13 => ?_)
  have h := h M13 hM13
  have hs16 : Sm M8 M13 := hM13 ▸ (Sm.refl _).l
  have hm14 : Sm M M13 := hm9.trans hs16
  have hl15 := hL.of hm14
  exact ab_vret dX12_lower_33 rfl h
theorem dX12_pressed_0 : decode cX12_pressed 0 = .ok (.aload_n 0, 1) := by decide +kernel
theorem dX12_pressed_1 : decode cX12_pressed 1 = .ok (.iconst 0, 1) := by decide +kernel
theorem dX12_pressed_2 : decode cX12_pressed 2 = .ok (.invokevirtual 250, 3) := by decide +kernel
theorem dX12_pressed_5 : decode cX12_pressed 5 = .ok (.aload_n 0, 1) := by decide +kernel
theorem dX12_pressed_6 : decode cX12_pressed 6 = .ok (.iload_n 1, 1) := by decide +kernel
theorem dX12_pressed_7 : decode cX12_pressed 7 = .ok (.iconst 3, 1) := by decide +kernel
theorem dX12_pressed_8 : decode cX12_pressed 8 = .ok (.invokevirtual 253, 3) := by decide +kernel
theorem dX12_pressed_11 : decode cX12_pressed 11 = .ok (.istore_n 2, 1) := by decide +kernel
theorem dX12_pressed_12 : decode cX12_pressed 12 = .ok (.iload_n 2, 1) := by decide +kernel
theorem dX12_pressed_13 : decode cX12_pressed 13 = .ok (.bipush 99, 2) := by decide +kernel
theorem dX12_pressed_15 : decode cX12_pressed 15 = .ok (.if_icmp .le 8, 3) := by decide +kernel
theorem dX12_pressed_18 : decode cX12_pressed 18 = .ok (.bipush 99, 2) := by decide +kernel
theorem dX12_pressed_20 : decode cX12_pressed 20 = .ok (.goto 4, 3) := by decide +kernel
theorem dX12_pressed_23 : decode cX12_pressed 23 = .ok (.iload_n 2, 1) := by decide +kernel
theorem dX12_pressed_24 : decode cX12_pressed 24 = .ok (.ireturn, 1) := by decide +kernel
set_option maxRecDepth 20000 in
theorem rX12_pressed (D : GD) (d : Nat) (a1 : Int32) (M : Mm) (post : Option Value → Mm → Prop) (hL : Lay 62 98 M) 
    (h : AMv D d mX12_layFacts [.ref 62, .int (0 : Int32)] M (fun M1 => AMi D d mX12_sumOf [.ref 62, .int a1, .int (3 : Int32)] M1 (fun x8 M7 => ((x8 ≤ (99 : Int32) → post (some (.int x8)) M7) ∧ (¬ x8 ≤ (99 : Int32) → post (some (.int (99 : Int32))) M7))))) :
    AM D (d + 1) 0 0 mX12_pressed [.ref 62, .int a1] M post := by
  refine AM.of (by decide) (Nat.le_of_ble_eq_true rfl) ?_
  show AW D (d + 1) 0 0 mX12_pressed 0 0 0 [(0, .ref 62), (1, .int a1)] [] M post
  refine ab_aload_n 0 dX12_pressed_0 rfl ?_
  refine ab_iconst (v := 0) dX12_pressed_1 (by decide) ?_
  refine ab_callV (a := 62) (c0 := 12) (d' := d) (mc' := 0) (ms' := 0) (vs := [.int (0 : Int32)]) (st := []) dX12_pressed_2 ⟨cw_X12_layFacts, w_1295⟩ w_1297 w_46 (by decide) (hL.sh 62 rfl (by decide) (by decide)).1 (hL.sh 62 rfl (by decide) (by decide)).2 rfl rfl (Nat.le_of_ble_eq_true rfl) (Nat.le_refl _) (Nat.zero_le _) (Nat.zero_le _) (AM.mono h (fun r M1 ⟨hr3, hc4, h⟩ => ?_))
  subst hr3
  refine ab_rv ?_
  have hm5 : Sm M M1 := (Sm.refl M).trans hc4
  have hl6 := hL.of hm5
  refine ab_aload_n 0 dX12_pressed_5 rfl ?_
  refine ab_iload_n 1 dX12_pressed_6 rfl ?_
  refine ab_iconst (v := 3) dX12_pressed_7 (by decide) ?_
  refine ab_callV (a := 62) (c0 := 12) (d' := d) (mc' := 0) (ms' := 0) (vs := [.int a1, .int (3 : Int32)]) (st := []) dX12_pressed_8 ⟨cw_X12_sumOf, w_1299⟩ w_1301 w_47 (by decide) (hl6.sh 62 rfl (by decide) (by decide)).1 (hl6.sh 62 rfl (by decide) (by decide)).2 rfl rfl (Nat.le_of_ble_eq_true rfl) (Nat.le_refl _) (Nat.zero_le _) (Nat.zero_le _) (AM.mono h (fun r M7 ⟨x8, hr9, hc10, h⟩ => ?_))
  subst hr9
  refine ab_rs ?_
  have hm11 : Sm M M7 := hm5.trans hc10
  have hl12 := hL.of hm11
  refine ab_istore_n (lv1 := [(2, .int x8), (0, .ref 62), (1, .int a1)]) dX12_pressed_11 (by decide) rfl ?_
  refine ab_iload_n 0 dX12_pressed_12 rfl ?_
  refine ab_bipush (v := 99) dX12_pressed_13 (by decide) ?_
  refine ab_icmp_le (tgt := 23) dX12_pressed_15 (by decide) (fun c13 => ?_) (fun c13 => ?_)
  · have h := h.1 c13
    refine ab_iload_n 0 dX12_pressed_23 rfl ?_
    exact ab_iret dX12_pressed_24 rfl h
  · have h := h.2 c13
    refine ab_bipush (v := 99) dX12_pressed_18 (by decide) ?_
    refine ab_goto (tgt := 24) dX12_pressed_20 (by decide) ?_
    exact ab_iret dX12_pressed_24 rfl h
theorem dX12_sumWeights_0 : decode cX12_sumWeights 0 = .ok (.aload_n 0, 1) := by decide +kernel
theorem dX12_sumWeights_1 : decode cX12_sumWeights 1 = .ok (.getfield 87, 3) := by decide +kernel
theorem dX12_sumWeights_4 : decode cX12_sumWeights 4 = .ok (.iconst 3, 1) := by decide +kernel
theorem dX12_sumWeights_5 : decode cX12_sumWeights 5 = .ok (.iload_n 1, 1) := by decide +kernel
theorem dX12_sumWeights_6 : decode cX12_sumWeights 6 = .ok (.imul, 1) := by decide +kernel
theorem dX12_sumWeights_7 : decode cX12_sumWeights 7 = .ok (.iaload, 1) := by decide +kernel
theorem dX12_sumWeights_8 : decode cX12_sumWeights 8 = .ok (.aload_n 0, 1) := by decide +kernel
theorem dX12_sumWeights_9 : decode cX12_sumWeights 9 = .ok (.getfield 87, 3) := by decide +kernel
theorem dX12_sumWeights_12 : decode cX12_sumWeights 12 = .ok (.iconst 3, 1) := by decide +kernel
theorem dX12_sumWeights_13 : decode cX12_sumWeights 13 = .ok (.iload_n 1, 1) := by decide +kernel
theorem dX12_sumWeights_14 : decode cX12_sumWeights 14 = .ok (.imul, 1) := by decide +kernel
theorem dX12_sumWeights_15 : decode cX12_sumWeights 15 = .ok (.iconst 1, 1) := by decide +kernel
theorem dX12_sumWeights_16 : decode cX12_sumWeights 16 = .ok (.iadd, 1) := by decide +kernel
theorem dX12_sumWeights_17 : decode cX12_sumWeights 17 = .ok (.iaload, 1) := by decide +kernel
theorem dX12_sumWeights_18 : decode cX12_sumWeights 18 = .ok (.iadd, 1) := by decide +kernel
theorem dX12_sumWeights_19 : decode cX12_sumWeights 19 = .ok (.aload_n 0, 1) := by decide +kernel
theorem dX12_sumWeights_20 : decode cX12_sumWeights 20 = .ok (.getfield 87, 3) := by decide +kernel
theorem dX12_sumWeights_23 : decode cX12_sumWeights 23 = .ok (.iconst 3, 1) := by decide +kernel
theorem dX12_sumWeights_24 : decode cX12_sumWeights 24 = .ok (.iload_n 1, 1) := by decide +kernel
theorem dX12_sumWeights_25 : decode cX12_sumWeights 25 = .ok (.imul, 1) := by decide +kernel
theorem dX12_sumWeights_26 : decode cX12_sumWeights 26 = .ok (.iconst 2, 1) := by decide +kernel
theorem dX12_sumWeights_27 : decode cX12_sumWeights 27 = .ok (.iadd, 1) := by decide +kernel
theorem dX12_sumWeights_28 : decode cX12_sumWeights 28 = .ok (.iaload, 1) := by decide +kernel
theorem dX12_sumWeights_29 : decode cX12_sumWeights 29 = .ok (.iadd, 1) := by decide +kernel
theorem dX12_sumWeights_30 : decode cX12_sumWeights 30 = .ok (.ireturn, 1) := by decide +kernel
set_option maxRecDepth 20000 in
theorem rX12_sumWeights (D : GD) (d : Nat) (a1 : Int32) (M : Mm) (post : Option Value → Mm → Prop) (hL : Lay 62 98 M) 
    (h : vp_in ((3 : Int32) * a1) 6 ∧ vp_in (((3 : Int32) * a1) + (1 : Int32)) 6 ∧ vp_in (((3 : Int32) * a1) + (2 : Int32)) 6 ∧ post (some (.int (((gI M 78 (((3 : Int32) * a1).toNatClampNeg)) + (gI M 78 ((((3 : Int32) * a1) + (1 : Int32)).toNatClampNeg))) + (gI M 78 ((((3 : Int32) * a1) + (2 : Int32)).toNatClampNeg))))) M) :
    AM D d 0 0 mX12_sumWeights [.ref 62, .int a1] M post := by
  refine AM.of (by decide) (Nat.le_of_ble_eq_true rfl) ?_
  show AW D d 0 0 mX12_sumWeights 0 0 0 [(0, .ref 62), (1, .int a1)] [] M post
  refine ab_aload_n 0 dX12_sumWeights_0 rfl ?_
  refine ab_getP (r := 78) dX12_sumWeights_1 fs_12_87_12 rfl (hL.sh 62 rfl (by decide) (by decide)).1 (hL.sh 62 rfl (by decide) (by decide)).2 (hL.pt 76 rfl (by decide) (by decide)) ?_
  refine ab_iconst (v := 3) dX12_sumWeights_4 (by decide) ?_
  refine ab_iload_n 1 dX12_sumWeights_5 rfl ?_
  refine ab_imul dX12_sumWeights_6 ?_
  have hb1 := h.1
  have h := h.2
  refine ab_ialdj (j := ((3 : Int32) * a1).toNatClampNeg) dX12_sumWeights_7 (hL.sh 78 rfl (by decide) (by decide)) hb1 rfl ?_
  refine ab_aload_n 0 dX12_sumWeights_8 rfl ?_
  refine ab_getP (r := 78) dX12_sumWeights_9 fs_12_87_12 rfl (hL.sh 62 rfl (by decide) (by decide)).1 (hL.sh 62 rfl (by decide) (by decide)).2 (hL.pt 76 rfl (by decide) (by decide)) ?_
  refine ab_iconst (v := 3) dX12_sumWeights_12 (by decide) ?_
  refine ab_iload_n 1 dX12_sumWeights_13 rfl ?_
  refine ab_imul dX12_sumWeights_14 ?_
  refine ab_iconst (v := 1) dX12_sumWeights_15 (by decide) ?_
  refine ab_iadd dX12_sumWeights_16 ?_
  have hb2 := h.1
  have h := h.2
  refine ab_ialdj (j := (((3 : Int32) * a1) + (1 : Int32)).toNatClampNeg) dX12_sumWeights_17 (hL.sh 78 rfl (by decide) (by decide)) hb2 rfl ?_
  refine ab_iadd dX12_sumWeights_18 ?_
  refine ab_aload_n 0 dX12_sumWeights_19 rfl ?_
  refine ab_getP (r := 78) dX12_sumWeights_20 fs_12_87_12 rfl (hL.sh 62 rfl (by decide) (by decide)).1 (hL.sh 62 rfl (by decide) (by decide)).2 (hL.pt 76 rfl (by decide) (by decide)) ?_
  refine ab_iconst (v := 3) dX12_sumWeights_23 (by decide) ?_
  refine ab_iload_n 1 dX12_sumWeights_24 rfl ?_
  refine ab_imul dX12_sumWeights_25 ?_
  refine ab_iconst (v := 2) dX12_sumWeights_26 (by decide) ?_
  refine ab_iadd dX12_sumWeights_27 ?_
  have hb3 := h.1
  have h := h.2
  refine ab_ialdj (j := (((3 : Int32) * a1) + (2 : Int32)).toNatClampNeg) dX12_sumWeights_28 (hL.sh 78 rfl (by decide) (by decide)) hb3 rfl ?_
  refine ab_iadd dX12_sumWeights_29 ?_
  exact ab_iret dX12_sumWeights_30 rfl h
theorem dX12_findOdds_0 : decode cX12_findOdds 0 = .ok (.aload_n 0, 1) := by decide +kernel
theorem dX12_findOdds_1 : decode cX12_findOdds 1 = .ok (.iload_n 1, 1) := by decide +kernel
theorem dX12_findOdds_2 : decode cX12_findOdds 2 = .ok (.iload_n 2, 1) := by decide +kernel
theorem dX12_findOdds_3 : decode cX12_findOdds 3 = .ok (.invokevirtual 283, 3) := by decide +kernel
theorem dX12_findOdds_6 : decode cX12_findOdds 6 = .ok (.aload_n 0, 1) := by decide +kernel
theorem dX12_findOdds_7 : decode cX12_findOdds 7 = .ok (.iconst 1, 1) := by decide +kernel
theorem dX12_findOdds_8 : decode cX12_findOdds 8 = .ok (.invokevirtual 290, 3) := by decide +kernel
theorem dX12_findOdds_11 : decode cX12_findOdds 11 = .ok (.i2l, 1) := by decide +kernel
theorem dX12_findOdds_12 : decode cX12_findOdds 12 = .ok (.lstore 4, 2) := by decide +kernel
theorem dX12_findOdds_14 : decode cX12_findOdds 14 = .ok (.aload_n 0, 1) := by decide +kernel
theorem dX12_findOdds_15 : decode cX12_findOdds 15 = .ok (.lconst 0, 1) := by decide +kernel
theorem dX12_findOdds_16 : decode cX12_findOdds 16 = .ok (.putfield 102, 3) := by decide +kernel
theorem dX12_findOdds_19 : decode cX12_findOdds 19 = .ok (.iconst 0, 1) := by decide +kernel
theorem dX12_findOdds_20 : decode cX12_findOdds 20 = .ok (.istore 6, 2) := by decide +kernel
theorem dX12_findOdds_22 : decode cX12_findOdds 22 = .ok (.iload 6, 2) := by decide +kernel
theorem dX12_findOdds_24 : decode cX12_findOdds 24 = .ok (.iconst 3, 1) := by decide +kernel
theorem dX12_findOdds_25 : decode cX12_findOdds 25 = .ok (.if_icmp .ge 131, 3) := by decide +kernel
theorem dX12_findOdds_28 : decode cX12_findOdds 28 = .ok (.lconst 0, 1) := by decide +kernel
theorem dX12_findOdds_29 : decode cX12_findOdds 29 = .ok (.lstore 7, 2) := by decide +kernel
theorem dX12_findOdds_31 : decode cX12_findOdds 31 = .ok (.bipush 101, 2) := by decide +kernel
theorem dX12_findOdds_33 : decode cX12_findOdds 33 = .ok (.istore 9, 2) := by decide +kernel
theorem dX12_findOdds_35 : decode cX12_findOdds 35 = .ok (.iconst 0, 1) := by decide +kernel
theorem dX12_findOdds_36 : decode cX12_findOdds 36 = .ok (.istore 10, 2) := by decide +kernel
theorem dX12_findOdds_38 : decode cX12_findOdds 38 = .ok (.iload 10, 2) := by decide +kernel
theorem dX12_findOdds_40 : decode cX12_findOdds 40 = .ok (.iconst 3, 1) := by decide +kernel
theorem dX12_findOdds_41 : decode cX12_findOdds 41 = .ok (.if_icmp .ge 74, 3) := by decide +kernel
theorem dX12_findOdds_44 : decode cX12_findOdds 44 = .ok (.lload 7, 2) := by decide +kernel
theorem dX12_findOdds_46 : decode cX12_findOdds 46 = .ok (.aload_n 0, 1) := by decide +kernel
theorem dX12_findOdds_47 : decode cX12_findOdds 47 = .ok (.getfield 87, 3) := by decide +kernel
theorem dX12_findOdds_50 : decode cX12_findOdds 50 = .ok (.iconst 3, 1) := by decide +kernel
theorem dX12_findOdds_51 : decode cX12_findOdds 51 = .ok (.iload 10, 2) := by decide +kernel
theorem dX12_findOdds_53 : decode cX12_findOdds 53 = .ok (.iadd, 1) := by decide +kernel
theorem dX12_findOdds_54 : decode cX12_findOdds 54 = .ok (.iaload, 1) := by decide +kernel
theorem dX12_findOdds_55 : decode cX12_findOdds 55 = .ok (.i2l, 1) := by decide +kernel
theorem dX12_findOdds_56 : decode cX12_findOdds 56 = .ok (.aload_n 0, 1) := by decide +kernel
theorem dX12_findOdds_57 : decode cX12_findOdds 57 = .ok (.getfield 7, 3) := by decide +kernel
theorem dX12_findOdds_60 : decode cX12_findOdds 60 = .ok (.iconst 3, 1) := by decide +kernel
theorem dX12_findOdds_61 : decode cX12_findOdds 61 = .ok (.iload 6, 2) := by decide +kernel
theorem dX12_findOdds_63 : decode cX12_findOdds 63 = .ok (.imul, 1) := by decide +kernel
theorem dX12_findOdds_64 : decode cX12_findOdds 64 = .ok (.iload 10, 2) := by decide +kernel
theorem dX12_findOdds_66 : decode cX12_findOdds 66 = .ok (.iadd, 1) := by decide +kernel
theorem dX12_findOdds_67 : decode cX12_findOdds 67 = .ok (.iaload, 1) := by decide +kernel
theorem dX12_findOdds_68 : decode cX12_findOdds 68 = .ok (.i2l, 1) := by decide +kernel
theorem dX12_findOdds_69 : decode cX12_findOdds 69 = .ok (.lmul, 1) := by decide +kernel
theorem dX12_findOdds_70 : decode cX12_findOdds 70 = .ok (.ladd, 1) := by decide +kernel
theorem dX12_findOdds_71 : decode cX12_findOdds 71 = .ok (.lstore 7, 2) := by decide +kernel
theorem dX12_findOdds_73 : decode cX12_findOdds 73 = .ok (.aload_n 0, 1) := by decide +kernel
theorem dX12_findOdds_74 : decode cX12_findOdds 74 = .ok (.getfield 7, 3) := by decide +kernel
theorem dX12_findOdds_77 : decode cX12_findOdds 77 = .ok (.iconst 3, 1) := by decide +kernel
theorem dX12_findOdds_78 : decode cX12_findOdds 78 = .ok (.iload 6, 2) := by decide +kernel
theorem dX12_findOdds_80 : decode cX12_findOdds 80 = .ok (.imul, 1) := by decide +kernel
theorem dX12_findOdds_81 : decode cX12_findOdds 81 = .ok (.iload 10, 2) := by decide +kernel
theorem dX12_findOdds_83 : decode cX12_findOdds 83 = .ok (.iadd, 1) := by decide +kernel
theorem dX12_findOdds_84 : decode cX12_findOdds 84 = .ok (.iaload, 1) := by decide +kernel
theorem dX12_findOdds_85 : decode cX12_findOdds 85 = .ok (.iload 9, 2) := by decide +kernel
theorem dX12_findOdds_87 : decode cX12_findOdds 87 = .ok (.if_icmp .ge 18, 3) := by decide +kernel
theorem dX12_findOdds_90 : decode cX12_findOdds 90 = .ok (.aload_n 0, 1) := by decide +kernel
theorem dX12_findOdds_91 : decode cX12_findOdds 91 = .ok (.getfield 7, 3) := by decide +kernel
theorem dX12_findOdds_94 : decode cX12_findOdds 94 = .ok (.iconst 3, 1) := by decide +kernel
theorem dX12_findOdds_95 : decode cX12_findOdds 95 = .ok (.iload 6, 2) := by decide +kernel
theorem dX12_findOdds_97 : decode cX12_findOdds 97 = .ok (.imul, 1) := by decide +kernel
theorem dX12_findOdds_98 : decode cX12_findOdds 98 = .ok (.iload 10, 2) := by decide +kernel
theorem dX12_findOdds_100 : decode cX12_findOdds 100 = .ok (.iadd, 1) := by decide +kernel
theorem dX12_findOdds_101 : decode cX12_findOdds 101 = .ok (.iaload, 1) := by decide +kernel
theorem dX12_findOdds_102 : decode cX12_findOdds 102 = .ok (.goto 5, 3) := by decide +kernel
theorem dX12_findOdds_105 : decode cX12_findOdds 105 = .ok (.iload 9, 2) := by decide +kernel
theorem dX12_findOdds_107 : decode cX12_findOdds 107 = .ok (.istore 9, 2) := by decide +kernel
theorem dX12_findOdds_109 : decode cX12_findOdds 109 = .ok (.iinc 10 1, 3) := by decide +kernel
theorem dX12_findOdds_112 : decode cX12_findOdds 112 = .ok (.goto (-74), 3) := by decide +kernel
theorem dX12_findOdds_115 : decode cX12_findOdds 115 = .ok (.aload_n 0, 1) := by decide +kernel
theorem dX12_findOdds_116 : decode cX12_findOdds 116 = .ok (.dup, 1) := by decide +kernel
theorem dX12_findOdds_117 : decode cX12_findOdds 117 = .ok (.getfield 102, 3) := by decide +kernel
theorem dX12_findOdds_120 : decode cX12_findOdds 120 = .ok (.aload_n 0, 1) := by decide +kernel
theorem dX12_findOdds_121 : decode cX12_findOdds 121 = .ok (.getfield 87, 3) := by decide +kernel
theorem dX12_findOdds_124 : decode cX12_findOdds 124 = .ok (.iload 6, 2) := by decide +kernel
theorem dX12_findOdds_126 : decode cX12_findOdds 126 = .ok (.iaload, 1) := by decide +kernel
theorem dX12_findOdds_127 : decode cX12_findOdds 127 = .ok (.i2l, 1) := by decide +kernel
theorem dX12_findOdds_128 : decode cX12_findOdds 128 = .ok (.iload_n 3, 1) := by decide +kernel
theorem dX12_findOdds_129 : decode cX12_findOdds 129 = .ok (.iload 9, 2) := by decide +kernel
theorem dX12_findOdds_131 : decode cX12_findOdds 131 = .ok (.imul, 1) := by decide +kernel
theorem dX12_findOdds_132 : decode cX12_findOdds 132 = .ok (.i2l, 1) := by decide +kernel
theorem dX12_findOdds_133 : decode cX12_findOdds 133 = .ok (.lload 4, 2) := by decide +kernel
theorem dX12_findOdds_135 : decode cX12_findOdds 135 = .ok (.lmul, 1) := by decide +kernel
theorem dX12_findOdds_136 : decode cX12_findOdds 136 = .ok (.bipush 100, 2) := by decide +kernel
theorem dX12_findOdds_138 : decode cX12_findOdds 138 = .ok (.iload_n 3, 1) := by decide +kernel
theorem dX12_findOdds_139 : decode cX12_findOdds 139 = .ok (.isub, 1) := by decide +kernel
theorem dX12_findOdds_140 : decode cX12_findOdds 140 = .ok (.i2l, 1) := by decide +kernel
theorem dX12_findOdds_141 : decode cX12_findOdds 141 = .ok (.lload 7, 2) := by decide +kernel
theorem dX12_findOdds_143 : decode cX12_findOdds 143 = .ok (.lmul, 1) := by decide +kernel
theorem dX12_findOdds_144 : decode cX12_findOdds 144 = .ok (.ladd, 1) := by decide +kernel
theorem dX12_findOdds_145 : decode cX12_findOdds 145 = .ok (.lmul, 1) := by decide +kernel
theorem dX12_findOdds_146 : decode cX12_findOdds 146 = .ok (.ladd, 1) := by decide +kernel
theorem dX12_findOdds_147 : decode cX12_findOdds 147 = .ok (.putfield 102, 3) := by decide +kernel
theorem dX12_findOdds_150 : decode cX12_findOdds 150 = .ok (.iinc 6 1, 3) := by decide +kernel
theorem dX12_findOdds_153 : decode cX12_findOdds 153 = .ok (.goto (-131), 3) := by decide +kernel
theorem dX12_findOdds_156 : decode cX12_findOdds 156 = .ok (.aload_n 0, 1) := by decide +kernel
theorem dX12_findOdds_157 : decode cX12_findOdds 157 = .ok (.dup, 1) := by decide +kernel
theorem dX12_findOdds_158 : decode cX12_findOdds 158 = .ok (.getfield 102, 3) := by decide +kernel
theorem dX12_findOdds_161 : decode cX12_findOdds 161 = .ok (.bipush 100, 2) := by decide +kernel
theorem dX12_findOdds_163 : decode cX12_findOdds 163 = .ok (.aload_n 0, 1) := by decide +kernel
theorem dX12_findOdds_164 : decode cX12_findOdds 164 = .ok (.iload_n 1, 1) := by decide +kernel
theorem dX12_findOdds_165 : decode cX12_findOdds 165 = .ok (.invokevirtual 293, 3) := by decide +kernel
theorem dX12_findOdds_168 : decode cX12_findOdds 168 = .ok (.isub, 1) := by decide +kernel
theorem dX12_findOdds_169 : decode cX12_findOdds 169 = .ok (.i2l, 1) := by decide +kernel
theorem dX12_findOdds_170 : decode cX12_findOdds 170 = .ok (.lmul, 1) := by decide +kernel
theorem dX12_findOdds_171 : decode cX12_findOdds 171 = .ok (.putfield 102, 3) := by decide +kernel
theorem dX12_findOdds_174 : decode cX12_findOdds 174 = .ok (.aload_n 0, 1) := by decide +kernel
theorem dX12_findOdds_175 : decode cX12_findOdds 175 = .ok (.aload_n 0, 1) := by decide +kernel
theorem dX12_findOdds_176 : decode cX12_findOdds 176 = .ok (.iconst 0, 1) := by decide +kernel
theorem dX12_findOdds_177 : decode cX12_findOdds 177 = .ok (.invokevirtual 290, 3) := by decide +kernel
theorem dX12_findOdds_180 : decode cX12_findOdds 180 = .ok (.i2l, 1) := by decide +kernel
theorem dX12_findOdds_181 : decode cX12_findOdds 181 = .ok (.lload 4, 2) := by decide +kernel
theorem dX12_findOdds_183 : decode cX12_findOdds 183 = .ok (.lmul, 1) := by decide +kernel
theorem dX12_findOdds_184 : decode cX12_findOdds 184 = .ok (.ldc2_w 296, 3) := by decide +kernel
theorem dX12_findOdds_187 : decode cX12_findOdds 187 = .ok (.lmul, 1) := by decide +kernel
theorem dX12_findOdds_188 : decode cX12_findOdds 188 = .ok (.ldc2_w 296, 3) := by decide +kernel
theorem dX12_findOdds_191 : decode cX12_findOdds 191 = .ok (.lmul, 1) := by decide +kernel
theorem dX12_findOdds_192 : decode cX12_findOdds 192 = .ok (.ldc2_w 296, 3) := by decide +kernel
theorem dX12_findOdds_195 : decode cX12_findOdds 195 = .ok (.lmul, 1) := by decide +kernel
theorem dX12_findOdds_196 : decode cX12_findOdds 196 = .ok (.putfield 106, 3) := by decide +kernel
theorem dX12_findOdds_199 : decode cX12_findOdds 199 = .ok (.aload_n 0, 1) := by decide +kernel
theorem dX12_findOdds_200 : decode cX12_findOdds 200 = .ok (.invokevirtual 298, 3) := by decide +kernel
theorem dX12_findOdds_203 : decode cX12_findOdds 203 = .ok (.return_, 1) := by decide +kernel
def LX12_findOdds_22 (D : GD) (d : Nat) (v1 : Int32) (v3 : Int32) (v4 : Int64) (v6 : Int32) (M : Mm) (post : Option Value → Mm → Prop) : Prop := AW D (d + 1) 0 0 mX12_findOdds 0 0 22 [(0, .ref 62), (1, .int v1), (3, .int v3), (4, .long v4), (6, .int v6)] [] M post
def LX12_findOdds_38 (D : GD) (d : Nat) (v1 : Int32) (v3 : Int32) (v4 : Int64) (v6 : Int32) (v7 : Int64) (v9 : Int32) (v10 : Int32) (M : Mm) (post : Option Value → Mm → Prop) : Prop := AW D (d + 1) 0 0 mX12_findOdds 0 0 38 [(0, .ref 62), (1, .int v1), (3, .int v3), (4, .long v4), (6, .int v6), (7, .long v7), (9, .int v9), (10, .int v10)] [] M post
set_option maxRecDepth 20000 in
theorem rX12_findOdds (D : GD) (d : Nat) (a1 : Int32) (a2 : Int32) (a3 : Int32) (M : Mm) (post : Option Value → Mm → Prop) (hL : Lay 62 98 M) 
    (h : AMv D d mX12_layWeights [.ref 62, .int a1, .int a2] M (fun M1 => AMi D d mX12_sumWeights [.ref 62, .int (1 : Int32)] M1 (fun x8 M7 => ∀ x13 : Int64, x13 = (x8).toInt64 → ∀ M14 : Mm, M14 = sL M7 62 30 (0 : Int64) → LX12_findOdds_22 D d a1 a3 x13 (0 : Int32) M14 post))) :
    AM D (d + 1) 0 0 mX12_findOdds [.ref 62, .int a1, .int a2, .int a3] M post := by
  refine AM.of (by decide) (Nat.le_of_ble_eq_true rfl) ?_
  show AW D (d + 1) 0 0 mX12_findOdds 0 0 0 [(0, .ref 62), (1, .int a1), (2, .int a2), (3, .int a3)] [] M post
  refine ab_aload_n 0 dX12_findOdds_0 rfl ?_
  refine ab_iload_n 1 dX12_findOdds_1 rfl ?_
  refine ab_iload_n 2 dX12_findOdds_2 rfl ?_
  refine ab_callV (a := 62) (c0 := 12) (d' := d) (mc' := 0) (ms' := 0) (vs := [.int a1, .int a2]) (st := []) dX12_findOdds_3 ⟨cw_X12_layWeights, w_1287⟩ w_1289 w_44 (by decide) (hL.sh 62 rfl (by decide) (by decide)).1 (hL.sh 62 rfl (by decide) (by decide)).2 rfl rfl (Nat.le_of_ble_eq_true rfl) (Nat.le_refl _) (Nat.zero_le _) (Nat.zero_le _) (AM.mono h (fun r M1 ⟨hr3, hc4, h⟩ => ?_))
  subst hr3
  refine ab_rv ?_
  have hm5 : Sm M M1 := (Sm.refl M).trans hc4
  have hl6 := hL.of hm5
  refine ab_aload_n 0 dX12_findOdds_6 rfl ?_
  refine ab_iconst (v := 1) dX12_findOdds_7 (by decide) ?_
  refine ab_callV (a := 62) (c0 := 12) (d' := d) (mc' := 0) (ms' := 0) (vs := [.int (1 : Int32)]) (st := []) dX12_findOdds_8 ⟨cw_X12_sumWeights, w_1336⟩ w_1338 w_54 (by decide) (hl6.sh 62 rfl (by decide) (by decide)).1 (hl6.sh 62 rfl (by decide) (by decide)).2 rfl rfl (Nat.le_of_ble_eq_true rfl) (Nat.le_refl _) (Nat.zero_le _) (Nat.zero_le _) (AM.mono h (fun r M7 ⟨x8, hr9, hc10, h⟩ => ?_))
  subst hr9
  refine ab_rs ?_
  have hm11 : Sm M M7 := hm5.trans hc10
  have hl12 := hL.of hm11
  refine ab_i2l dX12_findOdds_11 ?_
  refine ab_topl (fun x13 hx13 => ?_)
  have h := h x13 hx13
  refine ab_lstore (lv1 := [(4, .long x13), (0, .ref 62), (1, .int a1), (2, .int a2), (3, .int a3)]) dX12_findOdds_12 (by decide) rfl ?_
  refine ab_aload_n 1 dX12_findOdds_14 rfl ?_
  refine ab_lconst (v := 0) dX12_findOdds_15 (by decide) ?_
  refine ab_putL dX12_findOdds_16 fs_12_102_12 rfl rfl (hl12.sh 62 rfl (by decide) (by decide)).1 (hl12.sh 62 rfl (by decide) (by decide)).2 ?_
  refine ab_nameM (fun M14 hM14 => ?_)
  have h := h M14 hM14
  have hs17 : Sm M7 M14 := hM14 ▸ (Sm.refl _).l
  have hm15 : Sm M M14 := hm11.trans hs17
  have hl16 := hL.of hm15
  refine ab_iconst (v := 0) dX12_findOdds_19 (by decide) ?_
  refine ab_istore (lv1 := [(6, .int (0 : Int32)), (4, .long x13), (0, .ref 62), (1, .int a1), (2, .int a2), (3, .int a3)]) dX12_findOdds_20 (by decide) rfl ?_
  exact ab_sub [2, 3, 5, 1, 0] rfl h
set_option maxRecDepth 20000 in
theorem rX12_findOdds_22 (D : GD) (d : Nat)  (v1 : Int32) (v3 : Int32) (v4 : Int64) (v6 : Int32) (M : Mm) (post : Option Value → Mm → Prop) (hL : Lay 62 98 M) 
    (h : (((3 : Int32) ≤ v6 → AMi D d mX12_pressed [.ref 62, .int v1] M (fun x3 M2 => ∀ M8 : Mm, M8 = sL M2 62 30 ((gL M 62 30) * (((100 : Int32) - x3)).toInt64) → AMi D d mX12_sumWeights [.ref 62, .int (0 : Int32)] M8 (fun x13 M12 => ∀ M18 : Mm, M18 = sL M12 62 31 (((((x13).toInt64 * v4) * (100 : Int64)) * (100 : Int64)) * (100 : Int64)) → AMv D d mX12_lower [.ref 62] M18 (fun M22 => post none M22)))) ∧ (¬ (3 : Int32) ≤ v6 → LX12_findOdds_38 D d v1 v3 v4 v6 (0 : Int64) (101 : Int32) (0 : Int32) M post))) :
    LX12_findOdds_22 D d v1 v3 v4 v6 M post := by
  show AW D (d + 1) 0 0 mX12_findOdds 0 0 22 [(0, .ref 62), (1, .int v1), (3, .int v3), (4, .long v4), (6, .int v6)] [] M post
  refine ab_iload 4 dX12_findOdds_22 rfl ?_
  refine ab_iconst (v := 3) dX12_findOdds_24 (by decide) ?_
  refine ab_icmp_ge (tgt := 156) dX12_findOdds_25 (by decide) (fun c1 => ?_) (fun c1 => ?_)
  · have h := h.1 c1
    refine ab_aload_n 0 dX12_findOdds_156 rfl ?_
    refine ab_dup dX12_findOdds_157 rfl ?_
    refine ab_getL dX12_findOdds_158 fs_12_102_12 rfl (hL.sh 62 rfl (by decide) (by decide)).1 (hL.sh 62 rfl (by decide) (by decide)).2 ?_
    refine ab_bipush (v := 100) dX12_findOdds_161 (by decide) ?_
    refine ab_aload_n 0 dX12_findOdds_163 rfl ?_
    refine ab_iload_n 1 dX12_findOdds_164 rfl ?_
    refine ab_callV (a := 62) (c0 := 12) (d' := d) (mc' := 0) (ms' := 0) (vs := [.int v1]) (st := [.int (100 : Int32), .long (gL M 62 30), .ref 62]) dX12_findOdds_165 ⟨cw_X12_pressed, w_1340⟩ w_1342 w_55 (by decide) (hL.sh 62 rfl (by decide) (by decide)).1 (hL.sh 62 rfl (by decide) (by decide)).2 rfl rfl (Nat.le_of_ble_eq_true rfl) (Nat.le_refl _) (Nat.zero_le _) (Nat.zero_le _) (AM.mono h (fun r M2 ⟨x3, hr4, hc5, h⟩ => ?_))
    subst hr4
    refine ab_rs ?_
    have hm6 : Sm M M2 := (Sm.refl M).trans hc5
    have hl7 := hL.of hm6
    refine ab_isub dX12_findOdds_168 ?_
    refine ab_i2l dX12_findOdds_169 ?_
    refine ab_lmul dX12_findOdds_170 ?_
    refine ab_putL dX12_findOdds_171 fs_12_102_12 rfl rfl (hl7.sh 62 rfl (by decide) (by decide)).1 (hl7.sh 62 rfl (by decide) (by decide)).2 ?_
    refine ab_nameM (fun M8 hM8 => ?_)
    have h := h M8 hM8
    have hs11 : Sm M2 M8 := hM8 ▸ (Sm.refl _).l
    have hm9 : Sm M M8 := hm6.trans hs11
    have hl10 := hL.of hm9
    refine ab_aload_n 0 dX12_findOdds_174 rfl ?_
    refine ab_aload_n 0 dX12_findOdds_175 rfl ?_
    refine ab_iconst (v := 0) dX12_findOdds_176 (by decide) ?_
    refine ab_callV (a := 62) (c0 := 12) (d' := d) (mc' := 0) (ms' := 0) (vs := [.int (0 : Int32)]) (st := [.ref 62]) dX12_findOdds_177 ⟨cw_X12_sumWeights, w_1336⟩ w_1338 w_54 (by decide) (hl10.sh 62 rfl (by decide) (by decide)).1 (hl10.sh 62 rfl (by decide) (by decide)).2 rfl rfl (Nat.le_of_ble_eq_true rfl) (Nat.le_refl _) (Nat.zero_le _) (Nat.zero_le _) (AM.mono h (fun r M12 ⟨x13, hr14, hc15, h⟩ => ?_))
    subst hr14
    refine ab_rs ?_
    have hm16 : Sm M M12 := hm9.trans hc15
    have hl17 := hL.of hm16
    refine ab_i2l dX12_findOdds_180 ?_
    refine ab_lload 3 dX12_findOdds_181 rfl ?_
    refine ab_lmul dX12_findOdds_183 ?_
    refine ab_ldc2 dX12_findOdds_184 w_1344 ?_
    refine ab_lmul dX12_findOdds_187 ?_
    refine ab_ldc2 dX12_findOdds_188 w_1344 ?_
    refine ab_lmul dX12_findOdds_191 ?_
    refine ab_ldc2 dX12_findOdds_192 w_1344 ?_
    refine ab_lmul dX12_findOdds_195 ?_
    refine ab_putL dX12_findOdds_196 fs_12_106_12 rfl rfl (hl17.sh 62 rfl (by decide) (by decide)).1 (hl17.sh 62 rfl (by decide) (by decide)).2 ?_
    refine ab_nameM (fun M18 hM18 => ?_)
    have h := h M18 hM18
    have hs21 : Sm M12 M18 := hM18 ▸ (Sm.refl _).l
    have hm19 : Sm M M18 := hm16.trans hs21
    have hl20 := hL.of hm19
    refine ab_aload_n 0 dX12_findOdds_199 rfl ?_
    refine ab_callV (a := 62) (c0 := 12) (d' := d) (mc' := 0) (ms' := 0) (vs := []) (st := []) dX12_findOdds_200 ⟨cw_X12_lower, w_1345⟩ w_1347 w_56 (by decide) (hl20.sh 62 rfl (by decide) (by decide)).1 (hl20.sh 62 rfl (by decide) (by decide)).2 rfl rfl (Nat.le_of_ble_eq_true rfl) (Nat.le_refl _) (Nat.zero_le _) (Nat.zero_le _) (AM.mono h (fun r M22 ⟨hr24, hc25, h⟩ => ?_))
    subst hr24
    refine ab_rv ?_
    have hm26 : Sm M M22 := hm19.trans hc25
    have hl27 := hL.of hm26
    exact ab_vret dX12_findOdds_203 rfl h
  · have h := h.2 c1
    refine ab_lconst (v := 0) dX12_findOdds_28 (by decide) ?_
    refine ab_lstore (lv1 := [(7, .long (0 : Int64)), (0, .ref 62), (1, .int v1), (3, .int v3), (4, .long v4), (6, .int v6)]) dX12_findOdds_29 (by decide) rfl ?_
    refine ab_bipush (v := 101) dX12_findOdds_31 (by decide) ?_
    refine ab_istore (lv1 := [(9, .int (101 : Int32)), (7, .long (0 : Int64)), (0, .ref 62), (1, .int v1), (3, .int v3), (4, .long v4), (6, .int v6)]) dX12_findOdds_33 (by decide) rfl ?_
    refine ab_iconst (v := 0) dX12_findOdds_35 (by decide) ?_
    refine ab_istore (lv1 := [(10, .int (0 : Int32)), (9, .int (101 : Int32)), (7, .long (0 : Int64)), (0, .ref 62), (1, .int v1), (3, .int v3), (4, .long v4), (6, .int v6)]) dX12_findOdds_36 (by decide) rfl ?_
    exact ab_sub [3, 4, 5, 6, 7, 2, 1, 0] rfl h
set_option maxRecDepth 20000 in
theorem rX12_findOdds_38 (D : GD) (d : Nat)  (v1 : Int32) (v3 : Int32) (v4 : Int64) (v6 : Int32) (v7 : Int64) (v9 : Int32) (v10 : Int32) (M : Mm) (post : Option Value → Mm → Prop) (hL : Lay 62 98 M) 
    (h : (((3 : Int32) ≤ v10 → vp_in v6 6 ∧ ∀ M3 : Mm, M3 = sL M 62 30 ((gL M 62 30) + (((gI M 78 v6.toNatClampNeg)).toInt64 * ((((v3 * v9)).toInt64 * v4) + ((((100 : Int32) - v3)).toInt64 * v7)))) → ∀ x7 : Int32, x7 = v6 + (1 : Int32) → LX12_findOdds_22 D d v1 v3 v4 x7 M3 post) ∧ (¬ (3 : Int32) ≤ v10 → vp_in ((3 : Int32) + v10) 6 ∧ vp_in (((3 : Int32) * v6) + v10) 9 ∧ ∀ x10 : Int64, x10 = (v7 + (((gI M 78 (((3 : Int32) + v10).toNatClampNeg))).toInt64 * ((gI M 63 ((((3 : Int32) * v6) + v10).toNatClampNeg))).toInt64)) → ((v9 ≤ (gI M 63 ((((3 : Int32) * v6) + v10).toNatClampNeg)) → ∀ x12 : Int32, x12 = v10 + (1 : Int32) → LX12_findOdds_38 D d v1 v3 v4 v6 x10 v9 x12 M post) ∧ (¬ v9 ≤ (gI M 63 ((((3 : Int32) * v6) + v10).toNatClampNeg)) → ∀ x13 : Int32, x13 = (gI M 63 ((((3 : Int32) * v6) + v10).toNatClampNeg)) → ∀ x14 : Int32, x14 = v10 + (1 : Int32) → LX12_findOdds_38 D d v1 v3 v4 v6 x10 x13 x14 M post))))) :
    LX12_findOdds_38 D d v1 v3 v4 v6 v7 v9 v10 M post := by
  show AW D (d + 1) 0 0 mX12_findOdds 0 0 38 [(0, .ref 62), (1, .int v1), (3, .int v3), (4, .long v4), (6, .int v6), (7, .long v7), (9, .int v9), (10, .int v10)] [] M post
  refine ab_iload 7 dX12_findOdds_38 rfl ?_
  refine ab_iconst (v := 3) dX12_findOdds_40 (by decide) ?_
  refine ab_icmp_ge (tgt := 115) dX12_findOdds_41 (by decide) (fun c1 => ?_) (fun c1 => ?_)
  · have h := h.1 c1
    refine ab_aload_n 0 dX12_findOdds_115 rfl ?_
    refine ab_dup dX12_findOdds_116 rfl ?_
    refine ab_getL dX12_findOdds_117 fs_12_102_12 rfl (hL.sh 62 rfl (by decide) (by decide)).1 (hL.sh 62 rfl (by decide) (by decide)).2 ?_
    refine ab_aload_n 0 dX12_findOdds_120 rfl ?_
    refine ab_getP (r := 78) dX12_findOdds_121 fs_12_87_12 rfl (hL.sh 62 rfl (by decide) (by decide)).1 (hL.sh 62 rfl (by decide) (by decide)).2 (hL.pt 76 rfl (by decide) (by decide)) ?_
    refine ab_iload 4 dX12_findOdds_124 rfl ?_
    have hb2 := h.1
    have h := h.2
    refine ab_ialdj (j := v6.toNatClampNeg) dX12_findOdds_126 (hL.sh 78 rfl (by decide) (by decide)) hb2 rfl ?_
    refine ab_i2l dX12_findOdds_127 ?_
    refine ab_iload_n 2 dX12_findOdds_128 rfl ?_
    refine ab_iload 6 dX12_findOdds_129 rfl ?_
    refine ab_imul dX12_findOdds_131 ?_
    refine ab_i2l dX12_findOdds_132 ?_
    refine ab_lload 3 dX12_findOdds_133 rfl ?_
    refine ab_lmul dX12_findOdds_135 ?_
    refine ab_bipush (v := 100) dX12_findOdds_136 (by decide) ?_
    refine ab_iload_n 2 dX12_findOdds_138 rfl ?_
    refine ab_isub dX12_findOdds_139 ?_
    refine ab_i2l dX12_findOdds_140 ?_
    refine ab_lload 5 dX12_findOdds_141 rfl ?_
    refine ab_lmul dX12_findOdds_143 ?_
    refine ab_ladd dX12_findOdds_144 ?_
    refine ab_lmul dX12_findOdds_145 ?_
    refine ab_ladd dX12_findOdds_146 ?_
    refine ab_putL dX12_findOdds_147 fs_12_102_12 rfl rfl (hL.sh 62 rfl (by decide) (by decide)).1 (hL.sh 62 rfl (by decide) (by decide)).2 ?_
    refine ab_nameM (fun M3 hM3 => ?_)
    have h := h M3 hM3
    have hs6 : Sm M M3 := hM3 ▸ (Sm.refl _).l
    have hm4 : Sm M M3 := (Sm.refl M).trans hs6
    have hl5 := hL.of hm4
    obtain ⟨x7, hx7⟩ : ∃ y : Int32, y = v6 + (1 : Int32) := ⟨_, rfl⟩
    have h := h x7 hx7
    refine ab_iinc (v := x7) 4 (lv1 := [(6, .int x7), (0, .ref 62), (1, .int v1), (3, .int v3), (4, .long v4), (7, .long v7), (9, .int v9), (10, .int v10)]) dX12_findOdds_150 rfl (by rw [hx7]; rfl) (by decide) rfl ?_
    refine ab_goto (tgt := 22) dX12_findOdds_153 (by decide) ?_
    exact ab_sub [1, 2, 3, 4, 0] rfl h
  · have h := h.2 c1
    refine ab_lload 5 dX12_findOdds_44 rfl ?_
    refine ab_aload_n 0 dX12_findOdds_46 rfl ?_
    refine ab_getP (r := 78) dX12_findOdds_47 fs_12_87_12 rfl (hL.sh 62 rfl (by decide) (by decide)).1 (hL.sh 62 rfl (by decide) (by decide)).2 (hL.pt 76 rfl (by decide) (by decide)) ?_
    refine ab_iconst (v := 3) dX12_findOdds_50 (by decide) ?_
    refine ab_iload 7 dX12_findOdds_51 rfl ?_
    refine ab_iadd dX12_findOdds_53 ?_
    have hb8 := h.1
    have h := h.2
    refine ab_ialdj (j := ((3 : Int32) + v10).toNatClampNeg) dX12_findOdds_54 (hL.sh 78 rfl (by decide) (by decide)) hb8 rfl ?_
    refine ab_i2l dX12_findOdds_55 ?_
    refine ab_aload_n 0 dX12_findOdds_56 rfl ?_
    refine ab_getP (r := 63) dX12_findOdds_57 fs_12_7_12 rfl (hL.sh 62 rfl (by decide) (by decide)).1 (hL.sh 62 rfl (by decide) (by decide)).2 (hL.pt 61 rfl (by decide) (by decide)) ?_
    refine ab_iconst (v := 3) dX12_findOdds_60 (by decide) ?_
    refine ab_iload 4 dX12_findOdds_61 rfl ?_
    refine ab_imul dX12_findOdds_63 ?_
    refine ab_iload 7 dX12_findOdds_64 rfl ?_
    refine ab_iadd dX12_findOdds_66 ?_
    have hb9 := h.1
    have h := h.2
    refine ab_ialdj (j := (((3 : Int32) * v6) + v10).toNatClampNeg) dX12_findOdds_67 (hL.sh 63 rfl (by decide) (by decide)) hb9 rfl ?_
    refine ab_i2l dX12_findOdds_68 ?_
    refine ab_lmul dX12_findOdds_69 ?_
    refine ab_ladd dX12_findOdds_70 ?_
    refine ab_topl (fun x10 hx10 => ?_)
    have h := h x10 hx10
    refine ab_lstore (lv1 := [(7, .long x10), (0, .ref 62), (1, .int v1), (3, .int v3), (4, .long v4), (6, .int v6), (9, .int v9), (10, .int v10)]) dX12_findOdds_71 (by decide) rfl ?_
    refine ab_aload_n 1 dX12_findOdds_73 rfl ?_
    refine ab_getP (r := 63) dX12_findOdds_74 fs_12_7_12 rfl (hL.sh 62 rfl (by decide) (by decide)).1 (hL.sh 62 rfl (by decide) (by decide)).2 (hL.pt 61 rfl (by decide) (by decide)) ?_
    refine ab_iconst (v := 3) dX12_findOdds_77 (by decide) ?_
    refine ab_iload 5 dX12_findOdds_78 rfl ?_
    refine ab_imul dX12_findOdds_80 ?_
    refine ab_iload 7 dX12_findOdds_81 rfl ?_
    refine ab_iadd dX12_findOdds_83 ?_
    refine ab_ialdj (j := (((3 : Int32) * v6) + v10).toNatClampNeg) dX12_findOdds_84 (hL.sh 63 rfl (by decide) (by decide)) hb9 rfl ?_
    refine ab_iload 6 dX12_findOdds_85 rfl ?_
    refine ab_icmp_ge (tgt := 105) dX12_findOdds_87 (by decide) (fun c11 => ?_) (fun c11 => ?_)
    · have h := h.1 c11
      refine ab_iload 6 dX12_findOdds_105 rfl ?_
      refine ab_istore (lv1 := [(9, .int v9), (7, .long x10), (0, .ref 62), (1, .int v1), (3, .int v3), (4, .long v4), (6, .int v6), (10, .int v10)]) dX12_findOdds_107 (by decide) rfl ?_
      obtain ⟨x12, hx12⟩ : ∃ y : Int32, y = v10 + (1 : Int32) := ⟨_, rfl⟩
      have h := h x12 hx12
      refine ab_iinc (v := x12) 7 (lv1 := [(10, .int x12), (9, .int v9), (7, .long x10), (0, .ref 62), (1, .int v1), (3, .int v3), (4, .long v4), (6, .int v6)]) dX12_findOdds_109 rfl (by rw [hx12]; rfl) (by decide) rfl ?_
      refine ab_goto (tgt := 38) dX12_findOdds_112 (by decide) ?_
      exact ab_sub [3, 4, 5, 6, 7, 2, 1, 0] rfl h
    · have h := h.2 c11
      refine ab_aload_n 1 dX12_findOdds_90 rfl ?_
      refine ab_getP (r := 63) dX12_findOdds_91 fs_12_7_12 rfl (hL.sh 62 rfl (by decide) (by decide)).1 (hL.sh 62 rfl (by decide) (by decide)).2 (hL.pt 61 rfl (by decide) (by decide)) ?_
      refine ab_iconst (v := 3) dX12_findOdds_94 (by decide) ?_
      refine ab_iload 5 dX12_findOdds_95 rfl ?_
      refine ab_imul dX12_findOdds_97 ?_
      refine ab_iload 7 dX12_findOdds_98 rfl ?_
      refine ab_iadd dX12_findOdds_100 ?_
      refine ab_ialdj (j := (((3 : Int32) * v6) + v10).toNatClampNeg) dX12_findOdds_101 (hL.sh 63 rfl (by decide) (by decide)) hb9 rfl ?_
      refine ab_goto (tgt := 107) dX12_findOdds_102 (by decide) ?_
      refine ab_topi (fun x13 hx13 => ?_)
      have h := h x13 hx13
      refine ab_istore (lv1 := [(9, .int x13), (7, .long x10), (0, .ref 62), (1, .int v1), (3, .int v3), (4, .long v4), (6, .int v6), (10, .int v10)]) dX12_findOdds_107 (by decide) rfl ?_
      obtain ⟨x14, hx14⟩ : ∃ y : Int32, y = v10 + (1 : Int32) := ⟨_, rfl⟩
      have h := h x14 hx14
      refine ab_iinc (v := x14) 7 (lv1 := [(10, .int x14), (9, .int x13), (7, .long x10), (0, .ref 62), (1, .int v1), (3, .int v3), (4, .long v4), (6, .int v6)]) dX12_findOdds_109 rfl (by rw [hx14]; rfl) (by decide) rfl ?_
      refine ab_goto (tgt := 38) dX12_findOdds_112 (by decide) ?_
      exact ab_sub [3, 4, 5, 6, 7, 2, 1, 0] rfl h
theorem dX12_odds_0 : decode cX12_odds 0 = .ok (.aload_n 0, 1) := by decide +kernel
theorem dX12_odds_1 : decode cX12_odds 1 = .ok (.iload_n 1, 1) := by decide +kernel
theorem dX12_odds_2 : decode cX12_odds 2 = .ok (.iload_n 2, 1) := by decide +kernel
theorem dX12_odds_3 : decode cX12_odds 3 = .ok (.invokevirtual 273, 3) := by decide +kernel
theorem dX12_odds_6 : decode cX12_odds 6 = .ok (.ifCond .eq 39, 3) := by decide +kernel
theorem dX12_odds_9 : decode cX12_odds 9 = .ok (.aload_n 0, 1) := by decide +kernel
theorem dX12_odds_10 : decode cX12_odds 10 = .ok (.iload 4, 2) := by decide +kernel
theorem dX12_odds_12 : decode cX12_odds 12 = .ok (.iload 5, 2) := by decide +kernel
theorem dX12_odds_14 : decode cX12_odds 14 = .ok (.iload 6, 2) := by decide +kernel
theorem dX12_odds_16 : decode cX12_odds 16 = .ok (.iload 7, 2) := by decide +kernel
theorem dX12_odds_18 : decode cX12_odds 18 = .ok (.invokevirtual 276, 3) := by decide +kernel
theorem dX12_odds_21 : decode cX12_odds 21 = .ok (.ifCond .eq 24, 3) := by decide +kernel
theorem dX12_odds_24 : decode cX12_odds 24 = .ok (.aload_n 0, 1) := by decide +kernel
theorem dX12_odds_25 : decode cX12_odds 25 = .ok (.iload_n 3, 1) := by decide +kernel
theorem dX12_odds_26 : decode cX12_odds 26 = .ok (.iconst 0, 1) := by decide +kernel
theorem dX12_odds_27 : decode cX12_odds 27 = .ok (.iconst 1, 1) := by decide +kernel
theorem dX12_odds_28 : decode cX12_odds 28 = .ok (.invokevirtual 180, 3) := by decide +kernel
theorem dX12_odds_31 : decode cX12_odds 31 = .ok (.ifCond .eq 14, 3) := by decide +kernel
theorem dX12_odds_34 : decode cX12_odds 34 = .ok (.aload_n 0, 1) := by decide +kernel
theorem dX12_odds_35 : decode cX12_odds 35 = .ok (.iload 8, 2) := by decide +kernel
theorem dX12_odds_37 : decode cX12_odds 37 = .ok (.iconst 0, 1) := by decide +kernel
theorem dX12_odds_38 : decode cX12_odds 38 = .ok (.iconst 1, 1) := by decide +kernel
theorem dX12_odds_39 : decode cX12_odds 39 = .ok (.invokevirtual 180, 3) := by decide +kernel
theorem dX12_odds_42 : decode cX12_odds 42 = .ok (.ifCond .ne 7, 3) := by decide +kernel
theorem dX12_odds_45 : decode cX12_odds 45 = .ok (.ldc2_w 301, 3) := by decide +kernel
theorem dX12_odds_48 : decode cX12_odds 48 = .ok (.lreturn, 1) := by decide +kernel
theorem dX12_odds_49 : decode cX12_odds 49 = .ok (.aload_n 0, 1) := by decide +kernel
theorem dX12_odds_50 : decode cX12_odds 50 = .ok (.invokevirtual 244, 3) := by decide +kernel
theorem dX12_odds_53 : decode cX12_odds 53 = .ok (.aload_n 0, 1) := by decide +kernel
theorem dX12_odds_54 : decode cX12_odds 54 = .ok (.iload 4, 2) := by decide +kernel
theorem dX12_odds_56 : decode cX12_odds 56 = .ok (.iload 5, 2) := by decide +kernel
theorem dX12_odds_58 : decode cX12_odds 58 = .ok (.iload 6, 2) := by decide +kernel
theorem dX12_odds_60 : decode cX12_odds 60 = .ok (.iload 7, 2) := by decide +kernel
theorem dX12_odds_62 : decode cX12_odds 62 = .ok (.invokevirtual 280, 3) := by decide +kernel
theorem dX12_odds_65 : decode cX12_odds 65 = .ok (.aload_n 0, 1) := by decide +kernel
theorem dX12_odds_66 : decode cX12_odds 66 = .ok (.iload_n 1, 1) := by decide +kernel
theorem dX12_odds_67 : decode cX12_odds 67 = .ok (.iload_n 2, 1) := by decide +kernel
theorem dX12_odds_68 : decode cX12_odds 68 = .ok (.iconst 0, 1) := by decide +kernel
theorem dX12_odds_69 : decode cX12_odds 69 = .ok (.invokevirtual 303, 3) := by decide +kernel
theorem dX12_odds_72 : decode cX12_odds 72 = .ok (.iload_n 3, 1) := by decide +kernel
theorem dX12_odds_73 : decode cX12_odds 73 = .ok (.iconst 1, 1) := by decide +kernel
theorem dX12_odds_74 : decode cX12_odds 74 = .ok (.if_icmp .ne 91, 3) := by decide +kernel
theorem dX12_odds_77 : decode cX12_odds 77 = .ok (.aload_n 0, 1) := by decide +kernel
theorem dX12_odds_78 : decode cX12_odds 78 = .ok (.getfield 102, 3) := by decide +kernel
theorem dX12_odds_81 : decode cX12_odds 81 = .ok (.lstore 9, 2) := by decide +kernel
theorem dX12_odds_83 : decode cX12_odds 83 = .ok (.aload_n 0, 1) := by decide +kernel
theorem dX12_odds_84 : decode cX12_odds 84 = .ok (.getfield 106, 3) := by decide +kernel
theorem dX12_odds_87 : decode cX12_odds 87 = .ok (.lstore 11, 2) := by decide +kernel
theorem dX12_odds_89 : decode cX12_odds 89 = .ok (.aload_n 0, 1) := by decide +kernel
theorem dX12_odds_90 : decode cX12_odds 90 = .ok (.getfield 69, 3) := by decide +kernel
theorem dX12_odds_93 : decode cX12_odds 93 = .ok (.bipush 10, 2) := by decide +kernel
theorem dX12_odds_95 : decode cX12_odds 95 = .ok (.iconst 5, 1) := by decide +kernel
theorem dX12_odds_96 : decode cX12_odds 96 = .ok (.iastore, 1) := by decide +kernel
theorem dX12_odds_97 : decode cX12_odds 97 = .ok (.aload_n 0, 1) := by decide +kernel
theorem dX12_odds_98 : decode cX12_odds 98 = .ok (.getfield 72, 3) := by decide +kernel
theorem dX12_odds_101 : decode cX12_odds 101 = .ok (.bipush 10, 2) := by decide +kernel
theorem dX12_odds_103 : decode cX12_odds 103 = .ok (.aload_n 0, 1) := by decide +kernel
theorem dX12_odds_104 : decode cX12_odds 104 = .ok (.getfield 72, 3) := by decide +kernel
theorem dX12_odds_107 : decode cX12_odds 107 = .ok (.iload_n 2, 1) := by decide +kernel
theorem dX12_odds_108 : decode cX12_odds 108 = .ok (.iaload, 1) := by decide +kernel
theorem dX12_odds_109 : decode cX12_odds 109 = .ok (.iastore, 1) := by decide +kernel
theorem dX12_odds_110 : decode cX12_odds 110 = .ok (.aload_n 0, 1) := by decide +kernel
theorem dX12_odds_111 : decode cX12_odds 111 = .ok (.getfield 75, 3) := by decide +kernel
theorem dX12_odds_114 : decode cX12_odds 114 = .ok (.bipush 10, 2) := by decide +kernel
theorem dX12_odds_116 : decode cX12_odds 116 = .ok (.aload_n 0, 1) := by decide +kernel
theorem dX12_odds_117 : decode cX12_odds 117 = .ok (.getfield 75, 3) := by decide +kernel
theorem dX12_odds_120 : decode cX12_odds 120 = .ok (.iload_n 2, 1) := by decide +kernel
theorem dX12_odds_121 : decode cX12_odds 121 = .ok (.iaload, 1) := by decide +kernel
theorem dX12_odds_122 : decode cX12_odds 122 = .ok (.iastore, 1) := by decide +kernel
theorem dX12_odds_123 : decode cX12_odds 123 = .ok (.aload_n 0, 1) := by decide +kernel
theorem dX12_odds_124 : decode cX12_odds 124 = .ok (.iload_n 1, 1) := by decide +kernel
theorem dX12_odds_125 : decode cX12_odds 125 = .ok (.bipush 10, 2) := by decide +kernel
theorem dX12_odds_127 : decode cX12_odds 127 = .ok (.iconst 0, 1) := by decide +kernel
theorem dX12_odds_128 : decode cX12_odds 128 = .ok (.invokevirtual 303, 3) := by decide +kernel
theorem dX12_odds_131 : decode cX12_odds 131 = .ok (.aload_n 0, 1) := by decide +kernel
theorem dX12_odds_132 : decode cX12_odds 132 = .ok (.aload_n 0, 1) := by decide +kernel
theorem dX12_odds_133 : decode cX12_odds 133 = .ok (.getfield 102, 3) := by decide +kernel
theorem dX12_odds_136 : decode cX12_odds 136 = .ok (.lload 11, 2) := by decide +kernel
theorem dX12_odds_138 : decode cX12_odds 138 = .ok (.lmul, 1) := by decide +kernel
theorem dX12_odds_139 : decode cX12_odds 139 = .ok (.lload 9, 2) := by decide +kernel
theorem dX12_odds_141 : decode cX12_odds 141 = .ok (.aload_n 0, 1) := by decide +kernel
theorem dX12_odds_142 : decode cX12_odds 142 = .ok (.getfield 106, 3) := by decide +kernel
theorem dX12_odds_145 : decode cX12_odds 145 = .ok (.lmul, 1) := by decide +kernel
theorem dX12_odds_146 : decode cX12_odds 146 = .ok (.lsub, 1) := by decide +kernel
theorem dX12_odds_147 : decode cX12_odds 147 = .ok (.putfield 102, 3) := by decide +kernel
theorem dX12_odds_150 : decode cX12_odds 150 = .ok (.aload_n 0, 1) := by decide +kernel
theorem dX12_odds_151 : decode cX12_odds 151 = .ok (.dup, 1) := by decide +kernel
theorem dX12_odds_152 : decode cX12_odds 152 = .ok (.getfield 106, 3) := by decide +kernel
theorem dX12_odds_155 : decode cX12_odds 155 = .ok (.lload 11, 2) := by decide +kernel
theorem dX12_odds_157 : decode cX12_odds 157 = .ok (.lmul, 1) := by decide +kernel
theorem dX12_odds_158 : decode cX12_odds 158 = .ok (.putfield 106, 3) := by decide +kernel
theorem dX12_odds_161 : decode cX12_odds 161 = .ok (.aload_n 0, 1) := by decide +kernel
theorem dX12_odds_162 : decode cX12_odds 162 = .ok (.invokevirtual 298, 3) := by decide +kernel
theorem dX12_odds_165 : decode cX12_odds 165 = .ok (.iload 8, 2) := by decide +kernel
theorem dX12_odds_167 : decode cX12_odds 167 = .ok (.ifCond .ne 10, 3) := by decide +kernel
theorem dX12_odds_170 : decode cX12_odds 170 = .ok (.aload_n 0, 1) := by decide +kernel
theorem dX12_odds_171 : decode cX12_odds 171 = .ok (.getfield 102, 3) := by decide +kernel
theorem dX12_odds_174 : decode cX12_odds 174 = .ok (.goto 7, 3) := by decide +kernel
theorem dX12_odds_177 : decode cX12_odds 177 = .ok (.aload_n 0, 1) := by decide +kernel
theorem dX12_odds_178 : decode cX12_odds 178 = .ok (.getfield 106, 3) := by decide +kernel
theorem dX12_odds_181 : decode cX12_odds 181 = .ok (.lreturn, 1) := by decide +kernel
set_option maxRecDepth 20000 in
theorem rX12_odds (D : GD) (d : Nat) (a1 : Int32) (a2 : Int32) (a3 : Int32) (a4 : Int32) (a5 : Int32) (a6 : Int32) (a7 : Int32) (a8 : Int32) (M : Mm) (post : Option Value → Mm → Prop) (hL : Lay 62 98 M) 
    (h : AMi D d mX12_arePlayers [.ref 62, .int a1, .int a2] M (fun x2 M1 => ((x2 = 0 → post (some (.long (-9223372036854775808 : Int64))) M1) ∧ (¬ x2 = 0 → AMi D d mX12_isState [.ref 62, .int a4, .int a5, .int a6, .int a7] M1 (fun x9 M8 => ((x9 = 0 → post (some (.long (-9223372036854775808 : Int64))) M8) ∧ (¬ x9 = 0 → AMi D d mX12_in [.ref 62, .int a3, .int (0 : Int32), .int (1 : Int32)] M8 (fun x16 M15 => ((x16 = 0 → post (some (.long (-9223372036854775808 : Int64))) M15) ∧ (¬ x16 = 0 → AMi D d mX12_in [.ref 62, .int a8, .int (0 : Int32), .int (1 : Int32)] M15 (fun x23 M22 => ((¬ x23 = 0 → AMv D d mX12_findRest [.ref 62] M22 (fun M29 => AMv D d mX12_layState [.ref 62, .int a4, .int a5, .int a6, .int a7] M29 (fun M35 => AMv D d mX12_findOdds [.ref 62, .int a1, .int a2, .int (0 : Int32)] M35 (fun M41 => ((¬ a3 = (1 : Int32) → ((¬ a8 = 0 → post (some (.long (gL M41 62 31))) M41) ∧ (a8 = 0 → post (some (.long (gL M41 62 30))) M41))) ∧ (a3 = (1 : Int32) → ∀ x49 : Int64, x49 = (gL M41 62 30) → ∀ x50 : Int64, x50 = (gL M41 62 31) → ∀ M51 : Mm, M51 = sI M41 74 10 (5 : Int32) → vp_in a2 11 ∧ ∀ M56 : Mm, M56 = sI M51 75 10 (gI M51 75 a2.toNatClampNeg) → ∀ M60 : Mm, M60 = sI M56 76 10 (gI M56 76 a2.toNatClampNeg) → AMv D d mX12_findOdds [.ref 62, .int a1, .int (10 : Int32), .int (0 : Int32)] M60 (fun M64 => ∀ M70 : Mm, M70 = sL M64 62 30 (((gL M64 62 30) * x50) - (x49 * (gL M64 62 31))) → ∀ M74 : Mm, M74 = sL M70 62 31 ((gL M70 62 31) * x50) → AMv D d mX12_lower [.ref 62] M74 (fun M78 => ((¬ a8 = 0 → post (some (.long (gL M78 62 31))) M78) ∧ (a8 = 0 → post (some (.long (gL M78 62 30))) M78)))))))))) ∧ (x23 = 0 → post (some (.long (-9223372036854775808 : Int64))) M22))))))))))))) :
    AM D (d + 1) 0 0 mX12_odds [.ref 62, .int a1, .int a2, .int a3, .int a4, .int a5, .int a6, .int a7, .int a8] M post := by
  refine AM.of (by decide) (Nat.le_of_ble_eq_true rfl) ?_
  show AW D (d + 1) 0 0 mX12_odds 0 0 0 [(0, .ref 62), (1, .int a1), (2, .int a2), (3, .int a3), (4, .int a4), (5, .int a5), (6, .int a6), (7, .int a7), (8, .int a8)] [] M post
  refine ab_aload_n 0 dX12_odds_0 rfl ?_
  refine ab_iload_n 1 dX12_odds_1 rfl ?_
  refine ab_iload_n 2 dX12_odds_2 rfl ?_
  refine ab_callV (a := 62) (c0 := 12) (d' := d) (mc' := 0) (ms' := 0) (vs := [.int a1, .int a2]) (st := []) dX12_odds_3 ⟨cw_X12_arePlayers, w_1275⟩ w_1277 w_41 (by decide) (hL.sh 62 rfl (by decide) (by decide)).1 (hL.sh 62 rfl (by decide) (by decide)).2 rfl rfl (Nat.le_of_ble_eq_true rfl) (Nat.le_refl _) (Nat.zero_le _) (Nat.zero_le _) (AM.mono h (fun r M1 ⟨x2, hr3, hc4, h⟩ => ?_))
  subst hr3
  refine ab_rs ?_
  have hm5 : Sm M M1 := (Sm.refl M).trans hc4
  have hl6 := hL.of hm5
  refine ab_if_eq (tgt := 45) dX12_odds_6 (by decide) (fun c7 => ?_) (fun c7 => ?_)
  · have h := h.1 c7
    refine ab_ldc2 dX12_odds_45 w_1331 ?_
    exact ab_lret dX12_odds_48 rfl h
  · have h := h.2 c7
    refine ab_aload_n 0 dX12_odds_9 rfl ?_
    refine ab_iload 4 dX12_odds_10 rfl ?_
    refine ab_iload 5 dX12_odds_12 rfl ?_
    refine ab_iload 6 dX12_odds_14 rfl ?_
    refine ab_iload 7 dX12_odds_16 rfl ?_
    refine ab_callV (a := 62) (c0 := 12) (d' := d) (mc' := 0) (ms' := 0) (vs := [.int a4, .int a5, .int a6, .int a7]) (st := []) dX12_odds_18 ⟨cw_X12_isState, w_1279⟩ w_1281 w_42 (by decide) (hl6.sh 62 rfl (by decide) (by decide)).1 (hl6.sh 62 rfl (by decide) (by decide)).2 rfl rfl (Nat.le_of_ble_eq_true rfl) (Nat.le_refl _) (Nat.zero_le _) (Nat.zero_le _) (AM.mono h (fun r M8 ⟨x9, hr10, hc11, h⟩ => ?_))
    subst hr10
    refine ab_rs ?_
    have hm12 : Sm M M8 := hm5.trans hc11
    have hl13 := hL.of hm12
    refine ab_if_eq (tgt := 45) dX12_odds_21 (by decide) (fun c14 => ?_) (fun c14 => ?_)
    · have h := h.1 c14
      refine ab_ldc2 dX12_odds_45 w_1331 ?_
      exact ab_lret dX12_odds_48 rfl h
    · have h := h.2 c14
      refine ab_aload_n 0 dX12_odds_24 rfl ?_
      refine ab_iload_n 3 dX12_odds_25 rfl ?_
      refine ab_iconst (v := 0) dX12_odds_26 (by decide) ?_
      refine ab_iconst (v := 1) dX12_odds_27 (by decide) ?_
      refine ab_callV (a := 62) (c0 := 12) (d' := d) (mc' := 0) (ms' := 0) (vs := [.int a3, .int (0 : Int32), .int (1 : Int32)]) (st := []) dX12_odds_28 ⟨cw_X12_in, w_1170⟩ w_1172 w_23 (by decide) (hl13.sh 62 rfl (by decide) (by decide)).1 (hl13.sh 62 rfl (by decide) (by decide)).2 rfl rfl (Nat.le_of_ble_eq_true rfl) (Nat.le_refl _) (Nat.zero_le _) (Nat.zero_le _) (AM.mono h (fun r M15 ⟨x16, hr17, hc18, h⟩ => ?_))
      subst hr17
      refine ab_rs ?_
      have hm19 : Sm M M15 := hm12.trans hc18
      have hl20 := hL.of hm19
      refine ab_if_eq (tgt := 45) dX12_odds_31 (by decide) (fun c21 => ?_) (fun c21 => ?_)
      · have h := h.1 c21
        refine ab_ldc2 dX12_odds_45 w_1331 ?_
        exact ab_lret dX12_odds_48 rfl h
      · have h := h.2 c21
        refine ab_aload_n 0 dX12_odds_34 rfl ?_
        refine ab_iload 8 dX12_odds_35 rfl ?_
        refine ab_iconst (v := 0) dX12_odds_37 (by decide) ?_
        refine ab_iconst (v := 1) dX12_odds_38 (by decide) ?_
        refine ab_callV (a := 62) (c0 := 12) (d' := d) (mc' := 0) (ms' := 0) (vs := [.int a8, .int (0 : Int32), .int (1 : Int32)]) (st := []) dX12_odds_39 ⟨cw_X12_in, w_1170⟩ w_1172 w_23 (by decide) (hl20.sh 62 rfl (by decide) (by decide)).1 (hl20.sh 62 rfl (by decide) (by decide)).2 rfl rfl (Nat.le_of_ble_eq_true rfl) (Nat.le_refl _) (Nat.zero_le _) (Nat.zero_le _) (AM.mono h (fun r M22 ⟨x23, hr24, hc25, h⟩ => ?_))
        subst hr24
        refine ab_rs ?_
        have hm26 : Sm M M22 := hm19.trans hc25
        have hl27 := hL.of hm26
        refine ab_if_ne (tgt := 49) dX12_odds_42 (by decide) (fun c28 => ?_) (fun c28 => ?_)
        · have h := h.1 c28
          refine ab_aload_n 0 dX12_odds_49 rfl ?_
          refine ab_callV (a := 62) (c0 := 12) (d' := d) (mc' := 0) (ms' := 0) (vs := []) (st := []) dX12_odds_50 ⟨cw_X12_findRest, w_1255⟩ w_1257 w_38 (by decide) (hl27.sh 62 rfl (by decide) (by decide)).1 (hl27.sh 62 rfl (by decide) (by decide)).2 rfl rfl (Nat.le_of_ble_eq_true rfl) (Nat.le_refl _) (Nat.zero_le _) (Nat.zero_le _) (AM.mono h (fun r M29 ⟨hr31, hc32, h⟩ => ?_))
          subst hr31
          refine ab_rv ?_
          have hm33 : Sm M M29 := hm26.trans hc32
          have hl34 := hL.of hm33
          refine ab_aload_n 0 dX12_odds_53 rfl ?_
          refine ab_iload 4 dX12_odds_54 rfl ?_
          refine ab_iload 5 dX12_odds_56 rfl ?_
          refine ab_iload 6 dX12_odds_58 rfl ?_
          refine ab_iload 7 dX12_odds_60 rfl ?_
          refine ab_callV (a := 62) (c0 := 12) (d' := d) (mc' := 0) (ms' := 0) (vs := [.int a4, .int a5, .int a6, .int a7]) (st := []) dX12_odds_62 ⟨cw_X12_layState, w_1283⟩ w_1285 w_43 (by decide) (hl34.sh 62 rfl (by decide) (by decide)).1 (hl34.sh 62 rfl (by decide) (by decide)).2 rfl rfl (Nat.le_of_ble_eq_true rfl) (Nat.le_refl _) (Nat.zero_le _) (Nat.zero_le _) (AM.mono h (fun r M35 ⟨hr37, hc38, h⟩ => ?_))
          subst hr37
          refine ab_rv ?_
          have hm39 : Sm M M35 := hm33.trans hc38
          have hl40 := hL.of hm39
          refine ab_aload_n 0 dX12_odds_65 rfl ?_
          refine ab_iload_n 1 dX12_odds_66 rfl ?_
          refine ab_iload_n 2 dX12_odds_67 rfl ?_
          refine ab_iconst (v := 0) dX12_odds_68 (by decide) ?_
          refine ab_callV (a := 62) (c0 := 12) (d' := d) (mc' := 0) (ms' := 0) (vs := [.int a1, .int a2, .int (0 : Int32)]) (st := []) dX12_odds_69 ⟨cw_X12_findOdds, w_1332⟩ w_1334 w_53 (by decide) (hl40.sh 62 rfl (by decide) (by decide)).1 (hl40.sh 62 rfl (by decide) (by decide)).2 rfl rfl (Nat.le_of_ble_eq_true rfl) (Nat.le_refl _) (Nat.zero_le _) (Nat.zero_le _) (AM.mono h (fun r M41 ⟨hr43, hc44, h⟩ => ?_))
          subst hr43
          refine ab_rv ?_
          have hm45 : Sm M M41 := hm39.trans hc44
          have hl46 := hL.of hm45
          refine ab_iload_n 3 dX12_odds_72 rfl ?_
          refine ab_iconst (v := 1) dX12_odds_73 (by decide) ?_
          refine ab_icmp_ne (tgt := 165) dX12_odds_74 (by decide) (fun c47 => ?_) (fun c47 => ?_)
          · have h := h.1 c47
            refine ab_iload 8 dX12_odds_165 rfl ?_
            refine ab_if_ne (tgt := 177) dX12_odds_167 (by decide) (fun c48 => ?_) (fun c48 => ?_)
            · have h := h.1 c48
              refine ab_aload_n 0 dX12_odds_177 rfl ?_
              refine ab_getL dX12_odds_178 fs_12_106_12 rfl (hl46.sh 62 rfl (by decide) (by decide)).1 (hl46.sh 62 rfl (by decide) (by decide)).2 ?_
              exact ab_lret dX12_odds_181 rfl h
            · have h := h.2 c48
              refine ab_aload_n 0 dX12_odds_170 rfl ?_
              refine ab_getL dX12_odds_171 fs_12_102_12 rfl (hl46.sh 62 rfl (by decide) (by decide)).1 (hl46.sh 62 rfl (by decide) (by decide)).2 ?_
              refine ab_goto (tgt := 181) dX12_odds_174 (by decide) ?_
              exact ab_lret dX12_odds_181 rfl h
          · have h := h.2 c47
            refine ab_aload_n 0 dX12_odds_77 rfl ?_
            refine ab_getL dX12_odds_78 fs_12_102_12 rfl (hl46.sh 62 rfl (by decide) (by decide)).1 (hl46.sh 62 rfl (by decide) (by decide)).2 ?_
            refine ab_topl (fun x49 hx49 => ?_)
            have h := h x49 hx49
            refine ab_lstore (lv1 := [(9, .long x49), (0, .ref 62), (1, .int a1), (2, .int a2), (3, .int a3), (4, .int a4), (5, .int a5), (6, .int a6), (7, .int a7), (8, .int a8)]) dX12_odds_81 (by decide) rfl ?_
            refine ab_aload_n 1 dX12_odds_83 rfl ?_
            refine ab_getL dX12_odds_84 fs_12_106_12 rfl (hl46.sh 62 rfl (by decide) (by decide)).1 (hl46.sh 62 rfl (by decide) (by decide)).2 ?_
            refine ab_topl (fun x50 hx50 => ?_)
            have h := h x50 hx50
            refine ab_lstore (lv1 := [(11, .long x50), (9, .long x49), (0, .ref 62), (1, .int a1), (2, .int a2), (3, .int a3), (4, .int a4), (5, .int a5), (6, .int a6), (7, .int a7), (8, .int a8)]) dX12_odds_87 (by decide) rfl ?_
            refine ab_aload_n 2 dX12_odds_89 rfl ?_
            refine ab_getP (r := 74) dX12_odds_90 fs_12_69_12 rfl (hl46.sh 62 rfl (by decide) (by decide)).1 (hl46.sh 62 rfl (by decide) (by decide)).2 (hl46.pt 72 rfl (by decide) (by decide)) ?_
            refine ab_bipush (v := 10) dX12_odds_93 (by decide) ?_
            refine ab_iconst (v := 5) dX12_odds_95 (by decide) ?_
            refine ab_iastj (j := 10) dX12_odds_96 (hl46.sh 74 rfl (by decide) (by decide)) (vin (by decide)) (by decide) ?_
            refine ab_nameM (fun M51 hM51 => ?_)
            have h := h M51 hM51
            have hs54 : Sm M41 M51 := hM51 ▸ (Sm.refl _).i
            have hm52 : Sm M M51 := hm45.trans hs54
            have hl53 := hL.of hm52
            refine ab_aload_n 2 dX12_odds_97 rfl ?_
            refine ab_getP (r := 75) dX12_odds_98 fs_12_72_12 rfl (hl53.sh 62 rfl (by decide) (by decide)).1 (hl53.sh 62 rfl (by decide) (by decide)).2 (hl53.pt 73 rfl (by decide) (by decide)) ?_
            refine ab_bipush (v := 10) dX12_odds_101 (by decide) ?_
            refine ab_aload_n 2 dX12_odds_103 rfl ?_
            refine ab_getP (r := 75) dX12_odds_104 fs_12_72_12 rfl (hl53.sh 62 rfl (by decide) (by decide)).1 (hl53.sh 62 rfl (by decide) (by decide)).2 (hl53.pt 73 rfl (by decide) (by decide)) ?_
            refine ab_iload_n 4 dX12_odds_107 rfl ?_
            have hb55 := h.1
            have h := h.2
            refine ab_ialdj (j := a2.toNatClampNeg) dX12_odds_108 (hl53.sh 75 rfl (by decide) (by decide)) hb55 rfl ?_
            refine ab_iastj (j := 10) dX12_odds_109 (hl53.sh 75 rfl (by decide) (by decide)) (vin (by decide)) (by decide) ?_
            refine ab_nameM (fun M56 hM56 => ?_)
            have h := h M56 hM56
            have hs59 : Sm M51 M56 := hM56 ▸ (Sm.refl _).i
            have hm57 : Sm M M56 := hm52.trans hs59
            have hl58 := hL.of hm57
            refine ab_aload_n 2 dX12_odds_110 rfl ?_
            refine ab_getP (r := 76) dX12_odds_111 fs_12_75_12 rfl (hl58.sh 62 rfl (by decide) (by decide)).1 (hl58.sh 62 rfl (by decide) (by decide)).2 (hl58.pt 74 rfl (by decide) (by decide)) ?_
            refine ab_bipush (v := 10) dX12_odds_114 (by decide) ?_
            refine ab_aload_n 2 dX12_odds_116 rfl ?_
            refine ab_getP (r := 76) dX12_odds_117 fs_12_75_12 rfl (hl58.sh 62 rfl (by decide) (by decide)).1 (hl58.sh 62 rfl (by decide) (by decide)).2 (hl58.pt 74 rfl (by decide) (by decide)) ?_
            refine ab_iload_n 4 dX12_odds_120 rfl ?_
            refine ab_ialdj (j := a2.toNatClampNeg) dX12_odds_121 (hl58.sh 76 rfl (by decide) (by decide)) hb55 rfl ?_
            refine ab_iastj (j := 10) dX12_odds_122 (hl58.sh 76 rfl (by decide) (by decide)) (vin (by decide)) (by decide) ?_
            refine ab_nameM (fun M60 hM60 => ?_)
            have h := h M60 hM60
            have hs63 : Sm M56 M60 := hM60 ▸ (Sm.refl _).i
            have hm61 : Sm M M60 := hm57.trans hs63
            have hl62 := hL.of hm61
            refine ab_aload_n 2 dX12_odds_123 rfl ?_
            refine ab_iload_n 3 dX12_odds_124 rfl ?_
            refine ab_bipush (v := 10) dX12_odds_125 (by decide) ?_
            refine ab_iconst (v := 0) dX12_odds_127 (by decide) ?_
            refine ab_callV (a := 62) (c0 := 12) (d' := d) (mc' := 0) (ms' := 0) (vs := [.int a1, .int (10 : Int32), .int (0 : Int32)]) (st := []) dX12_odds_128 ⟨cw_X12_findOdds, w_1332⟩ w_1334 w_53 (by decide) (hl62.sh 62 rfl (by decide) (by decide)).1 (hl62.sh 62 rfl (by decide) (by decide)).2 rfl rfl (Nat.le_of_ble_eq_true rfl) (Nat.le_refl _) (Nat.zero_le _) (Nat.zero_le _) (AM.mono h (fun r M64 ⟨hr66, hc67, h⟩ => ?_))
            subst hr66
            refine ab_rv ?_
            have hm68 : Sm M M64 := hm61.trans hc67
            have hl69 := hL.of hm68
            refine ab_aload_n 2 dX12_odds_131 rfl ?_
            refine ab_aload_n 2 dX12_odds_132 rfl ?_
            refine ab_getL dX12_odds_133 fs_12_102_12 rfl (hl69.sh 62 rfl (by decide) (by decide)).1 (hl69.sh 62 rfl (by decide) (by decide)).2 ?_
            refine ab_lload 0 dX12_odds_136 rfl ?_
            refine ab_lmul dX12_odds_138 ?_
            refine ab_lload 1 dX12_odds_139 rfl ?_
            refine ab_aload_n 2 dX12_odds_141 rfl ?_
            refine ab_getL dX12_odds_142 fs_12_106_12 rfl (hl69.sh 62 rfl (by decide) (by decide)).1 (hl69.sh 62 rfl (by decide) (by decide)).2 ?_
            refine ab_lmul dX12_odds_145 ?_
            refine ab_lsub dX12_odds_146 ?_
            refine ab_putL dX12_odds_147 fs_12_102_12 rfl rfl (hl69.sh 62 rfl (by decide) (by decide)).1 (hl69.sh 62 rfl (by decide) (by decide)).2 ?_
            refine ab_nameM (fun M70 hM70 => ?_)
            have h := h M70 hM70
            have hs73 : Sm M64 M70 := hM70 ▸ (Sm.refl _).l
            have hm71 : Sm M M70 := hm68.trans hs73
            have hl72 := hL.of hm71
            refine ab_aload_n 2 dX12_odds_150 rfl ?_
            refine ab_dup dX12_odds_151 rfl ?_
            refine ab_getL dX12_odds_152 fs_12_106_12 rfl (hl72.sh 62 rfl (by decide) (by decide)).1 (hl72.sh 62 rfl (by decide) (by decide)).2 ?_
            refine ab_lload 0 dX12_odds_155 rfl ?_
            refine ab_lmul dX12_odds_157 ?_
            refine ab_putL dX12_odds_158 fs_12_106_12 rfl rfl (hl72.sh 62 rfl (by decide) (by decide)).1 (hl72.sh 62 rfl (by decide) (by decide)).2 ?_
            refine ab_nameM (fun M74 hM74 => ?_)
            have h := h M74 hM74
            have hs77 : Sm M70 M74 := hM74 ▸ (Sm.refl _).l
            have hm75 : Sm M M74 := hm71.trans hs77
            have hl76 := hL.of hm75
            refine ab_aload_n 2 dX12_odds_161 rfl ?_
            refine ab_callV (a := 62) (c0 := 12) (d' := d) (mc' := 0) (ms' := 0) (vs := []) (st := []) dX12_odds_162 ⟨cw_X12_lower, w_1345⟩ w_1347 w_56 (by decide) (hl76.sh 62 rfl (by decide) (by decide)).1 (hl76.sh 62 rfl (by decide) (by decide)).2 rfl rfl (Nat.le_of_ble_eq_true rfl) (Nat.le_refl _) (Nat.zero_le _) (Nat.zero_le _) (AM.mono h (fun r M78 ⟨hr80, hc81, h⟩ => ?_))
            subst hr80
            refine ab_rv ?_
            have hm82 : Sm M M78 := hm75.trans hc81
            have hl83 := hL.of hm82
            refine ab_iload 10 dX12_odds_165 rfl ?_
            refine ab_if_ne (tgt := 177) dX12_odds_167 (by decide) (fun c84 => ?_) (fun c84 => ?_)
            · have h := h.1 c84
              refine ab_aload_n 2 dX12_odds_177 rfl ?_
              refine ab_getL dX12_odds_178 fs_12_106_12 rfl (hl83.sh 62 rfl (by decide) (by decide)).1 (hl83.sh 62 rfl (by decide) (by decide)).2 ?_
              exact ab_lret dX12_odds_181 rfl h
            · have h := h.2 c84
              refine ab_aload_n 2 dX12_odds_170 rfl ?_
              refine ab_getL dX12_odds_171 fs_12_102_12 rfl (hl83.sh 62 rfl (by decide) (by decide)).1 (hl83.sh 62 rfl (by decide) (by decide)).2 ?_
              refine ab_goto (tgt := 181) dX12_odds_174 (by decide) ?_
              exact ab_lret dX12_odds_181 rfl h
        · have h := h.2 c28
          refine ab_ldc2 dX12_odds_45 w_1331 ?_
          exact ab_lret dX12_odds_48 rfl h
theorem dX12_leak_0 : decode cX12_leak 0 = .ok (.aload_n 0, 1) := by decide +kernel
theorem dX12_leak_1 : decode cX12_leak 1 = .ok (.iload_n 1, 1) := by decide +kernel
theorem dX12_leak_2 : decode cX12_leak 2 = .ok (.iload_n 2, 1) := by decide +kernel
theorem dX12_leak_3 : decode cX12_leak 3 = .ok (.invokevirtual 273, 3) := by decide +kernel
theorem dX12_leak_6 : decode cX12_leak 6 = .ok (.ifCond .eq 38, 3) := by decide +kernel
theorem dX12_leak_9 : decode cX12_leak 9 = .ok (.aload_n 0, 1) := by decide +kernel
theorem dX12_leak_10 : decode cX12_leak 10 = .ok (.iload_n 3, 1) := by decide +kernel
theorem dX12_leak_11 : decode cX12_leak 11 = .ok (.iconst 0, 1) := by decide +kernel
theorem dX12_leak_12 : decode cX12_leak 12 = .ok (.bipush 100, 2) := by decide +kernel
theorem dX12_leak_14 : decode cX12_leak 14 = .ok (.invokevirtual 180, 3) := by decide +kernel
theorem dX12_leak_17 : decode cX12_leak 17 = .ok (.ifCond .eq 27, 3) := by decide +kernel
theorem dX12_leak_20 : decode cX12_leak 20 = .ok (.aload_n 0, 1) := by decide +kernel
theorem dX12_leak_21 : decode cX12_leak 21 = .ok (.iconst 3, 1) := by decide +kernel
theorem dX12_leak_22 : decode cX12_leak 22 = .ok (.iconst 3, 1) := by decide +kernel
theorem dX12_leak_23 : decode cX12_leak 23 = .ok (.iload 4, 2) := by decide +kernel
theorem dX12_leak_25 : decode cX12_leak 25 = .ok (.iload 5, 2) := by decide +kernel
theorem dX12_leak_27 : decode cX12_leak 27 = .ok (.invokevirtual 276, 3) := by decide +kernel
theorem dX12_leak_30 : decode cX12_leak 30 = .ok (.ifCond .eq 14, 3) := by decide +kernel
theorem dX12_leak_33 : decode cX12_leak 33 = .ok (.aload_n 0, 1) := by decide +kernel
theorem dX12_leak_34 : decode cX12_leak 34 = .ok (.iload 6, 2) := by decide +kernel
theorem dX12_leak_36 : decode cX12_leak 36 = .ok (.iconst 0, 1) := by decide +kernel
theorem dX12_leak_37 : decode cX12_leak 37 = .ok (.iconst 1, 1) := by decide +kernel
theorem dX12_leak_38 : decode cX12_leak 38 = .ok (.invokevirtual 180, 3) := by decide +kernel
theorem dX12_leak_41 : decode cX12_leak 41 = .ok (.ifCond .ne 7, 3) := by decide +kernel
theorem dX12_leak_44 : decode cX12_leak 44 = .ok (.ldc2_w 301, 3) := by decide +kernel
theorem dX12_leak_47 : decode cX12_leak 47 = .ok (.lreturn, 1) := by decide +kernel
theorem dX12_leak_48 : decode cX12_leak 48 = .ok (.aload_n 0, 1) := by decide +kernel
theorem dX12_leak_49 : decode cX12_leak 49 = .ok (.invokevirtual 244, 3) := by decide +kernel
theorem dX12_leak_52 : decode cX12_leak 52 = .ok (.aload_n 0, 1) := by decide +kernel
theorem dX12_leak_53 : decode cX12_leak 53 = .ok (.iconst 3, 1) := by decide +kernel
theorem dX12_leak_54 : decode cX12_leak 54 = .ok (.iconst 3, 1) := by decide +kernel
theorem dX12_leak_55 : decode cX12_leak 55 = .ok (.iload 4, 2) := by decide +kernel
theorem dX12_leak_57 : decode cX12_leak 57 = .ok (.iload 5, 2) := by decide +kernel
theorem dX12_leak_59 : decode cX12_leak 59 = .ok (.invokevirtual 280, 3) := by decide +kernel
theorem dX12_leak_62 : decode cX12_leak 62 = .ok (.aload_n 0, 1) := by decide +kernel
theorem dX12_leak_63 : decode cX12_leak 63 = .ok (.iload_n 1, 1) := by decide +kernel
theorem dX12_leak_64 : decode cX12_leak 64 = .ok (.iload_n 2, 1) := by decide +kernel
theorem dX12_leak_65 : decode cX12_leak 65 = .ok (.iload_n 3, 1) := by decide +kernel
theorem dX12_leak_66 : decode cX12_leak 66 = .ok (.invokevirtual 303, 3) := by decide +kernel
theorem dX12_leak_69 : decode cX12_leak 69 = .ok (.iload 6, 2) := by decide +kernel
theorem dX12_leak_71 : decode cX12_leak 71 = .ok (.ifCond .ne 10, 3) := by decide +kernel
theorem dX12_leak_74 : decode cX12_leak 74 = .ok (.aload_n 0, 1) := by decide +kernel
theorem dX12_leak_75 : decode cX12_leak 75 = .ok (.getfield 102, 3) := by decide +kernel
theorem dX12_leak_78 : decode cX12_leak 78 = .ok (.goto 7, 3) := by decide +kernel
theorem dX12_leak_81 : decode cX12_leak 81 = .ok (.aload_n 0, 1) := by decide +kernel
theorem dX12_leak_82 : decode cX12_leak 82 = .ok (.getfield 106, 3) := by decide +kernel
theorem dX12_leak_85 : decode cX12_leak 85 = .ok (.lreturn, 1) := by decide +kernel
set_option maxRecDepth 20000 in
theorem rX12_leak (D : GD) (d : Nat) (a1 : Int32) (a2 : Int32) (a3 : Int32) (a4 : Int32) (a5 : Int32) (a6 : Int32) (M : Mm) (post : Option Value → Mm → Prop) (hL : Lay 62 98 M) 
    (h : AMi D d mX12_arePlayers [.ref 62, .int a1, .int a2] M (fun x2 M1 => ((x2 = 0 → post (some (.long (-9223372036854775808 : Int64))) M1) ∧ (¬ x2 = 0 → AMi D d mX12_in [.ref 62, .int a3, .int (0 : Int32), .int (100 : Int32)] M1 (fun x9 M8 => ((x9 = 0 → post (some (.long (-9223372036854775808 : Int64))) M8) ∧ (¬ x9 = 0 → AMi D d mX12_isState [.ref 62, .int (3 : Int32), .int (3 : Int32), .int a4, .int a5] M8 (fun x16 M15 => ((x16 = 0 → post (some (.long (-9223372036854775808 : Int64))) M15) ∧ (¬ x16 = 0 → AMi D d mX12_in [.ref 62, .int a6, .int (0 : Int32), .int (1 : Int32)] M15 (fun x23 M22 => ((¬ x23 = 0 → AMv D d mX12_findRest [.ref 62] M22 (fun M29 => AMv D d mX12_layState [.ref 62, .int (3 : Int32), .int (3 : Int32), .int a4, .int a5] M29 (fun M35 => AMv D d mX12_findOdds [.ref 62, .int a1, .int a2, .int a3] M35 (fun M41 => ((¬ a6 = 0 → post (some (.long (gL M41 62 31))) M41) ∧ (a6 = 0 → post (some (.long (gL M41 62 30))) M41)))))) ∧ (x23 = 0 → post (some (.long (-9223372036854775808 : Int64))) M22))))))))))))) :
    AM D (d + 1) 0 0 mX12_leak [.ref 62, .int a1, .int a2, .int a3, .int a4, .int a5, .int a6] M post := by
  refine AM.of (by decide) (Nat.le_of_ble_eq_true rfl) ?_
  show AW D (d + 1) 0 0 mX12_leak 0 0 0 [(0, .ref 62), (1, .int a1), (2, .int a2), (3, .int a3), (4, .int a4), (5, .int a5), (6, .int a6)] [] M post
  refine ab_aload_n 0 dX12_leak_0 rfl ?_
  refine ab_iload_n 1 dX12_leak_1 rfl ?_
  refine ab_iload_n 2 dX12_leak_2 rfl ?_
  refine ab_callV (a := 62) (c0 := 12) (d' := d) (mc' := 0) (ms' := 0) (vs := [.int a1, .int a2]) (st := []) dX12_leak_3 ⟨cw_X12_arePlayers, w_1275⟩ w_1277 w_41 (by decide) (hL.sh 62 rfl (by decide) (by decide)).1 (hL.sh 62 rfl (by decide) (by decide)).2 rfl rfl (Nat.le_of_ble_eq_true rfl) (Nat.le_refl _) (Nat.zero_le _) (Nat.zero_le _) (AM.mono h (fun r M1 ⟨x2, hr3, hc4, h⟩ => ?_))
  subst hr3
  refine ab_rs ?_
  have hm5 : Sm M M1 := (Sm.refl M).trans hc4
  have hl6 := hL.of hm5
  refine ab_if_eq (tgt := 44) dX12_leak_6 (by decide) (fun c7 => ?_) (fun c7 => ?_)
  · have h := h.1 c7
    refine ab_ldc2 dX12_leak_44 w_1331 ?_
    exact ab_lret dX12_leak_47 rfl h
  · have h := h.2 c7
    refine ab_aload_n 0 dX12_leak_9 rfl ?_
    refine ab_iload_n 3 dX12_leak_10 rfl ?_
    refine ab_iconst (v := 0) dX12_leak_11 (by decide) ?_
    refine ab_bipush (v := 100) dX12_leak_12 (by decide) ?_
    refine ab_callV (a := 62) (c0 := 12) (d' := d) (mc' := 0) (ms' := 0) (vs := [.int a3, .int (0 : Int32), .int (100 : Int32)]) (st := []) dX12_leak_14 ⟨cw_X12_in, w_1170⟩ w_1172 w_23 (by decide) (hl6.sh 62 rfl (by decide) (by decide)).1 (hl6.sh 62 rfl (by decide) (by decide)).2 rfl rfl (Nat.le_of_ble_eq_true rfl) (Nat.le_refl _) (Nat.zero_le _) (Nat.zero_le _) (AM.mono h (fun r M8 ⟨x9, hr10, hc11, h⟩ => ?_))
    subst hr10
    refine ab_rs ?_
    have hm12 : Sm M M8 := hm5.trans hc11
    have hl13 := hL.of hm12
    refine ab_if_eq (tgt := 44) dX12_leak_17 (by decide) (fun c14 => ?_) (fun c14 => ?_)
    · have h := h.1 c14
      refine ab_ldc2 dX12_leak_44 w_1331 ?_
      exact ab_lret dX12_leak_47 rfl h
    · have h := h.2 c14
      refine ab_aload_n 0 dX12_leak_20 rfl ?_
      refine ab_iconst (v := 3) dX12_leak_21 (by decide) ?_
      refine ab_iconst (v := 3) dX12_leak_22 (by decide) ?_
      refine ab_iload 4 dX12_leak_23 rfl ?_
      refine ab_iload 5 dX12_leak_25 rfl ?_
      refine ab_callV (a := 62) (c0 := 12) (d' := d) (mc' := 0) (ms' := 0) (vs := [.int (3 : Int32), .int (3 : Int32), .int a4, .int a5]) (st := []) dX12_leak_27 ⟨cw_X12_isState, w_1279⟩ w_1281 w_42 (by decide) (hl13.sh 62 rfl (by decide) (by decide)).1 (hl13.sh 62 rfl (by decide) (by decide)).2 rfl rfl (Nat.le_of_ble_eq_true rfl) (Nat.le_refl _) (Nat.zero_le _) (Nat.zero_le _) (AM.mono h (fun r M15 ⟨x16, hr17, hc18, h⟩ => ?_))
      subst hr17
      refine ab_rs ?_
      have hm19 : Sm M M15 := hm12.trans hc18
      have hl20 := hL.of hm19
      refine ab_if_eq (tgt := 44) dX12_leak_30 (by decide) (fun c21 => ?_) (fun c21 => ?_)
      · have h := h.1 c21
        refine ab_ldc2 dX12_leak_44 w_1331 ?_
        exact ab_lret dX12_leak_47 rfl h
      · have h := h.2 c21
        refine ab_aload_n 0 dX12_leak_33 rfl ?_
        refine ab_iload 6 dX12_leak_34 rfl ?_
        refine ab_iconst (v := 0) dX12_leak_36 (by decide) ?_
        refine ab_iconst (v := 1) dX12_leak_37 (by decide) ?_
        refine ab_callV (a := 62) (c0 := 12) (d' := d) (mc' := 0) (ms' := 0) (vs := [.int a6, .int (0 : Int32), .int (1 : Int32)]) (st := []) dX12_leak_38 ⟨cw_X12_in, w_1170⟩ w_1172 w_23 (by decide) (hl20.sh 62 rfl (by decide) (by decide)).1 (hl20.sh 62 rfl (by decide) (by decide)).2 rfl rfl (Nat.le_of_ble_eq_true rfl) (Nat.le_refl _) (Nat.zero_le _) (Nat.zero_le _) (AM.mono h (fun r M22 ⟨x23, hr24, hc25, h⟩ => ?_))
        subst hr24
        refine ab_rs ?_
        have hm26 : Sm M M22 := hm19.trans hc25
        have hl27 := hL.of hm26
        refine ab_if_ne (tgt := 48) dX12_leak_41 (by decide) (fun c28 => ?_) (fun c28 => ?_)
        · have h := h.1 c28
          refine ab_aload_n 0 dX12_leak_48 rfl ?_
          refine ab_callV (a := 62) (c0 := 12) (d' := d) (mc' := 0) (ms' := 0) (vs := []) (st := []) dX12_leak_49 ⟨cw_X12_findRest, w_1255⟩ w_1257 w_38 (by decide) (hl27.sh 62 rfl (by decide) (by decide)).1 (hl27.sh 62 rfl (by decide) (by decide)).2 rfl rfl (Nat.le_of_ble_eq_true rfl) (Nat.le_refl _) (Nat.zero_le _) (Nat.zero_le _) (AM.mono h (fun r M29 ⟨hr31, hc32, h⟩ => ?_))
          subst hr31
          refine ab_rv ?_
          have hm33 : Sm M M29 := hm26.trans hc32
          have hl34 := hL.of hm33
          refine ab_aload_n 0 dX12_leak_52 rfl ?_
          refine ab_iconst (v := 3) dX12_leak_53 (by decide) ?_
          refine ab_iconst (v := 3) dX12_leak_54 (by decide) ?_
          refine ab_iload 4 dX12_leak_55 rfl ?_
          refine ab_iload 5 dX12_leak_57 rfl ?_
          refine ab_callV (a := 62) (c0 := 12) (d' := d) (mc' := 0) (ms' := 0) (vs := [.int (3 : Int32), .int (3 : Int32), .int a4, .int a5]) (st := []) dX12_leak_59 ⟨cw_X12_layState, w_1283⟩ w_1285 w_43 (by decide) (hl34.sh 62 rfl (by decide) (by decide)).1 (hl34.sh 62 rfl (by decide) (by decide)).2 rfl rfl (Nat.le_of_ble_eq_true rfl) (Nat.le_refl _) (Nat.zero_le _) (Nat.zero_le _) (AM.mono h (fun r M35 ⟨hr37, hc38, h⟩ => ?_))
          subst hr37
          refine ab_rv ?_
          have hm39 : Sm M M35 := hm33.trans hc38
          have hl40 := hL.of hm39
          refine ab_aload_n 0 dX12_leak_62 rfl ?_
          refine ab_iload_n 1 dX12_leak_63 rfl ?_
          refine ab_iload_n 2 dX12_leak_64 rfl ?_
          refine ab_iload_n 3 dX12_leak_65 rfl ?_
          refine ab_callV (a := 62) (c0 := 12) (d' := d) (mc' := 0) (ms' := 0) (vs := [.int a1, .int a2, .int a3]) (st := []) dX12_leak_66 ⟨cw_X12_findOdds, w_1332⟩ w_1334 w_53 (by decide) (hl40.sh 62 rfl (by decide) (by decide)).1 (hl40.sh 62 rfl (by decide) (by decide)).2 rfl rfl (Nat.le_of_ble_eq_true rfl) (Nat.le_refl _) (Nat.zero_le _) (Nat.zero_le _) (AM.mono h (fun r M41 ⟨hr43, hc44, h⟩ => ?_))
          subst hr43
          refine ab_rv ?_
          have hm45 : Sm M M41 := hm39.trans hc44
          have hl46 := hL.of hm45
          refine ab_iload 6 dX12_leak_69 rfl ?_
          refine ab_if_ne (tgt := 81) dX12_leak_71 (by decide) (fun c47 => ?_) (fun c47 => ?_)
          · have h := h.1 c47
            refine ab_aload_n 0 dX12_leak_81 rfl ?_
            refine ab_getL dX12_leak_82 fs_12_106_12 rfl (hl46.sh 62 rfl (by decide) (by decide)).1 (hl46.sh 62 rfl (by decide) (by decide)).2 ?_
            exact ab_lret dX12_leak_85 rfl h
          · have h := h.2 c47
            refine ab_aload_n 0 dX12_leak_74 rfl ?_
            refine ab_getL dX12_leak_75 fs_12_102_12 rfl (hl46.sh 62 rfl (by decide) (by decide)).1 (hl46.sh 62 rfl (by decide) (by decide)).2 ?_
            refine ab_goto (tgt := 85) dX12_leak_78 (by decide) ?_
            exact ab_lret dX12_leak_85 rfl h
        · have h := h.2 c28
          refine ab_ldc2 dX12_leak_44 w_1331 ?_
          exact ab_lret dX12_leak_47 rfl h
theorem dX12_kick_0 : decode cX12_kick 0 = .ok (.aload_n 0, 1) := by decide +kernel
theorem dX12_kick_1 : decode cX12_kick 1 = .ok (.iload_n 1, 1) := by decide +kernel
theorem dX12_kick_2 : decode cX12_kick 2 = .ok (.invokevirtual 184, 3) := by decide +kernel
theorem dX12_kick_5 : decode cX12_kick 5 = .ok (.ifCond .eq 11, 3) := by decide +kernel
theorem dX12_kick_8 : decode cX12_kick 8 = .ok (.aload_n 0, 1) := by decide +kernel
theorem dX12_kick_9 : decode cX12_kick 9 = .ok (.iload_n 2, 1) := by decide +kernel
theorem dX12_kick_10 : decode cX12_kick 10 = .ok (.invokevirtual 184, 3) := by decide +kernel
theorem dX12_kick_13 : decode cX12_kick 13 = .ok (.ifCond .ne 5, 3) := by decide +kernel
theorem dX12_kick_16 : decode cX12_kick 16 = .ok (.iconst (-1), 1) := by decide +kernel
theorem dX12_kick_17 : decode cX12_kick 17 = .ok (.ireturn, 1) := by decide +kernel
theorem dX12_kick_18 : decode cX12_kick 18 = .ok (.aload_n 0, 1) := by decide +kernel
theorem dX12_kick_19 : decode cX12_kick 19 = .ok (.getfield 109, 3) := by decide +kernel
theorem dX12_kick_22 : decode cX12_kick 22 = .ok (.bipush 30, 2) := by decide +kernel
theorem dX12_kick_24 : decode cX12_kick 24 = .ok (.if_icmp .ne 6, 3) := by decide +kernel
theorem dX12_kick_27 : decode cX12_kick 27 = .ok (.bipush (-4), 2) := by decide +kernel
theorem dX12_kick_29 : decode cX12_kick 29 = .ok (.ireturn, 1) := by decide +kernel
theorem dX12_kick_30 : decode cX12_kick 30 = .ok (.aload_n 0, 1) := by decide +kernel
theorem dX12_kick_31 : decode cX12_kick 31 = .ok (.getfield 112, 3) := by decide +kernel
theorem dX12_kick_34 : decode cX12_kick 34 = .ok (.aload_n 0, 1) := by decide +kernel
theorem dX12_kick_35 : decode cX12_kick 35 = .ok (.getfield 109, 3) := by decide +kernel
theorem dX12_kick_38 : decode cX12_kick 38 = .ok (.iload_n 1, 1) := by decide +kernel
theorem dX12_kick_39 : decode cX12_kick 39 = .ok (.iastore, 1) := by decide +kernel
theorem dX12_kick_40 : decode cX12_kick 40 = .ok (.aload_n 0, 1) := by decide +kernel
theorem dX12_kick_41 : decode cX12_kick 41 = .ok (.getfield 115, 3) := by decide +kernel
theorem dX12_kick_44 : decode cX12_kick 44 = .ok (.aload_n 0, 1) := by decide +kernel
theorem dX12_kick_45 : decode cX12_kick 45 = .ok (.getfield 109, 3) := by decide +kernel
theorem dX12_kick_48 : decode cX12_kick 48 = .ok (.iload_n 2, 1) := by decide +kernel
theorem dX12_kick_49 : decode cX12_kick 49 = .ok (.iastore, 1) := by decide +kernel
theorem dX12_kick_50 : decode cX12_kick 50 = .ok (.aload_n 0, 1) := by decide +kernel
theorem dX12_kick_51 : decode cX12_kick 51 = .ok (.getfield 118, 3) := by decide +kernel
theorem dX12_kick_54 : decode cX12_kick 54 = .ok (.aload_n 0, 1) := by decide +kernel
theorem dX12_kick_55 : decode cX12_kick 55 = .ok (.getfield 109, 3) := by decide +kernel
theorem dX12_kick_58 : decode cX12_kick 58 = .ok (.iload_n 3, 1) := by decide +kernel
theorem dX12_kick_59 : decode cX12_kick 59 = .ok (.ifCond .eq 7, 3) := by decide +kernel
theorem dX12_kick_62 : decode cX12_kick 62 = .ok (.iconst 1, 1) := by decide +kernel
theorem dX12_kick_63 : decode cX12_kick 63 = .ok (.goto 4, 3) := by decide +kernel
theorem dX12_kick_66 : decode cX12_kick 66 = .ok (.iconst 0, 1) := by decide +kernel
theorem dX12_kick_67 : decode cX12_kick 67 = .ok (.iastore, 1) := by decide +kernel
theorem dX12_kick_68 : decode cX12_kick 68 = .ok (.aload_n 0, 1) := by decide +kernel
theorem dX12_kick_69 : decode cX12_kick 69 = .ok (.dup, 1) := by decide +kernel
theorem dX12_kick_70 : decode cX12_kick 70 = .ok (.getfield 109, 3) := by decide +kernel
theorem dX12_kick_73 : decode cX12_kick 73 = .ok (.iconst 1, 1) := by decide +kernel
theorem dX12_kick_74 : decode cX12_kick 74 = .ok (.iadd, 1) := by decide +kernel
theorem dX12_kick_75 : decode cX12_kick 75 = .ok (.putfield 109, 3) := by decide +kernel
theorem dX12_kick_78 : decode cX12_kick 78 = .ok (.aload_n 0, 1) := by decide +kernel
theorem dX12_kick_79 : decode cX12_kick 79 = .ok (.getfield 109, 3) := by decide +kernel
theorem dX12_kick_82 : decode cX12_kick 82 = .ok (.ireturn, 1) := by decide +kernel
set_option maxRecDepth 20000 in
theorem rX12_kick (D : GD) (d : Nat) (a1 : Int32) (a2 : Int32) (a3 : Int32) (M : Mm) (post : Option Value → Mm → Prop) (hL : Lay 62 98 M) 
    (h : AMi D d mX12_isSide [.ref 62, .int a1] M (fun x2 M1 => ((x2 = 0 → post (some (.int (-1 : Int32))) M1) ∧ (¬ x2 = 0 → AMi D d mX12_isSide [.ref 62, .int a2] M1 (fun x9 M8 => ((¬ x9 = 0 → ((¬ (gI M8 62 32) = (30 : Int32) → vp_in (gI M8 62 32) 30 ∧ ∀ M17 : Mm, M17 = sI M8 79 ((gI M8 62 32).toNatClampNeg) a1 → vp_in (gI M17 62 32) 30 ∧ ∀ M22 : Mm, M22 = sI M17 80 ((gI M17 62 32).toNatClampNeg) a2 → ((a3 = 0 → vp_in (gI M22 62 32) 30 ∧ ∀ M28 : Mm, M28 = sI M22 81 ((gI M22 62 32).toNatClampNeg) (0 : Int32) → ∀ M32 : Mm, M32 = sI M28 62 32 ((gI M28 62 32) + (1 : Int32)) → post (some (.int (gI M32 62 32))) M32) ∧ (¬ a3 = 0 → vp_in (gI M22 62 32) 30 ∧ ∀ M37 : Mm, M37 = sI M22 81 ((gI M22 62 32).toNatClampNeg) (1 : Int32) → ∀ M41 : Mm, M41 = sI M37 62 32 ((gI M37 62 32) + (1 : Int32)) → post (some (.int (gI M41 62 32))) M41))) ∧ ((gI M8 62 32) = (30 : Int32) → post (some (.int (-4 : Int32))) M8))) ∧ (x9 = 0 → post (some (.int (-1 : Int32))) M8))))))) :
    AM D (d + 1) 0 0 mX12_kick [.ref 62, .int a1, .int a2, .int a3] M post := by
  refine AM.of (by decide) (Nat.le_of_ble_eq_true rfl) ?_
  show AW D (d + 1) 0 0 mX12_kick 0 0 0 [(0, .ref 62), (1, .int a1), (2, .int a2), (3, .int a3)] [] M post
  refine ab_aload_n 0 dX12_kick_0 rfl ?_
  refine ab_iload_n 1 dX12_kick_1 rfl ?_
  refine ab_callV (a := 62) (c0 := 12) (d' := d) (mc' := 0) (ms' := 0) (vs := [.int a1]) (st := []) dX12_kick_2 ⟨cw_X12_isSide, w_1166⟩ w_1168 w_22 (by decide) (hL.sh 62 rfl (by decide) (by decide)).1 (hL.sh 62 rfl (by decide) (by decide)).2 rfl rfl (Nat.le_of_ble_eq_true rfl) (Nat.le_refl _) (Nat.zero_le _) (Nat.zero_le _) (AM.mono h (fun r M1 ⟨x2, hr3, hc4, h⟩ => ?_))
  subst hr3
  refine ab_rs ?_
  have hm5 : Sm M M1 := (Sm.refl M).trans hc4
  have hl6 := hL.of hm5
  refine ab_if_eq (tgt := 16) dX12_kick_5 (by decide) (fun c7 => ?_) (fun c7 => ?_)
  · have h := h.1 c7
    refine ab_iconst (v := (-1)) dX12_kick_16 (by decide) ?_
    exact ab_iret dX12_kick_17 rfl h
  · have h := h.2 c7
    refine ab_aload_n 0 dX12_kick_8 rfl ?_
    refine ab_iload_n 2 dX12_kick_9 rfl ?_
    refine ab_callV (a := 62) (c0 := 12) (d' := d) (mc' := 0) (ms' := 0) (vs := [.int a2]) (st := []) dX12_kick_10 ⟨cw_X12_isSide, w_1166⟩ w_1168 w_22 (by decide) (hl6.sh 62 rfl (by decide) (by decide)).1 (hl6.sh 62 rfl (by decide) (by decide)).2 rfl rfl (Nat.le_of_ble_eq_true rfl) (Nat.le_refl _) (Nat.zero_le _) (Nat.zero_le _) (AM.mono h (fun r M8 ⟨x9, hr10, hc11, h⟩ => ?_))
    subst hr10
    refine ab_rs ?_
    have hm12 : Sm M M8 := hm5.trans hc11
    have hl13 := hL.of hm12
    refine ab_if_ne (tgt := 18) dX12_kick_13 (by decide) (fun c14 => ?_) (fun c14 => ?_)
    · have h := h.1 c14
      refine ab_aload_n 0 dX12_kick_18 rfl ?_
      refine ab_getI dX12_kick_19 fs_12_109_12 rfl (hl13.sh 62 rfl (by decide) (by decide)).1 (hl13.sh 62 rfl (by decide) (by decide)).2 ?_
      refine ab_bipush (v := 30) dX12_kick_22 (by decide) ?_
      refine ab_icmp_ne (tgt := 30) dX12_kick_24 (by decide) (fun c15 => ?_) (fun c15 => ?_)
      · have h := h.1 c15
        refine ab_aload_n 0 dX12_kick_30 rfl ?_
        refine ab_getP (r := 79) dX12_kick_31 fs_12_112_12 rfl (hl13.sh 62 rfl (by decide) (by decide)).1 (hl13.sh 62 rfl (by decide) (by decide)).2 (hl13.pt 77 rfl (by decide) (by decide)) ?_
        refine ab_aload_n 0 dX12_kick_34 rfl ?_
        refine ab_getI dX12_kick_35 fs_12_109_12 rfl (hl13.sh 62 rfl (by decide) (by decide)).1 (hl13.sh 62 rfl (by decide) (by decide)).2 ?_
        refine ab_iload_n 1 dX12_kick_38 rfl ?_
        have hb16 := h.1
        have h := h.2
        refine ab_iastj (j := (gI M8 62 32).toNatClampNeg) dX12_kick_39 (hl13.sh 79 rfl (by decide) (by decide)) hb16 rfl ?_
        refine ab_nameM (fun M17 hM17 => ?_)
        have h := h M17 hM17
        have hs20 : Sm M8 M17 := hM17 ▸ (Sm.refl _).i
        have hm18 : Sm M M17 := hm12.trans hs20
        have hl19 := hL.of hm18
        refine ab_aload_n 0 dX12_kick_40 rfl ?_
        refine ab_getP (r := 80) dX12_kick_41 fs_12_115_12 rfl (hl19.sh 62 rfl (by decide) (by decide)).1 (hl19.sh 62 rfl (by decide) (by decide)).2 (hl19.pt 78 rfl (by decide) (by decide)) ?_
        refine ab_aload_n 0 dX12_kick_44 rfl ?_
        refine ab_getI dX12_kick_45 fs_12_109_12 rfl (hl19.sh 62 rfl (by decide) (by decide)).1 (hl19.sh 62 rfl (by decide) (by decide)).2 ?_
        refine ab_iload_n 2 dX12_kick_48 rfl ?_
        have hb21 := h.1
        have h := h.2
        refine ab_iastj (j := (gI M17 62 32).toNatClampNeg) dX12_kick_49 (hl19.sh 80 rfl (by decide) (by decide)) hb21 rfl ?_
        refine ab_nameM (fun M22 hM22 => ?_)
        have h := h M22 hM22
        have hs25 : Sm M17 M22 := hM22 ▸ (Sm.refl _).i
        have hm23 : Sm M M22 := hm18.trans hs25
        have hl24 := hL.of hm23
        refine ab_aload_n 0 dX12_kick_50 rfl ?_
        refine ab_getP (r := 81) dX12_kick_51 fs_12_118_12 rfl (hl24.sh 62 rfl (by decide) (by decide)).1 (hl24.sh 62 rfl (by decide) (by decide)).2 (hl24.pt 79 rfl (by decide) (by decide)) ?_
        refine ab_aload_n 0 dX12_kick_54 rfl ?_
        refine ab_getI dX12_kick_55 fs_12_109_12 rfl (hl24.sh 62 rfl (by decide) (by decide)).1 (hl24.sh 62 rfl (by decide) (by decide)).2 ?_
        refine ab_iload_n 3 dX12_kick_58 rfl ?_
        refine ab_if_eq (tgt := 66) dX12_kick_59 (by decide) (fun c26 => ?_) (fun c26 => ?_)
        · have h := h.1 c26
          refine ab_iconst (v := 0) dX12_kick_66 (by decide) ?_
          have hb27 := h.1
          have h := h.2
          refine ab_iastj (j := (gI M22 62 32).toNatClampNeg) dX12_kick_67 (hl24.sh 81 rfl (by decide) (by decide)) hb27 rfl ?_
          refine ab_nameM (fun M28 hM28 => ?_)
          have h := h M28 hM28
          have hs31 : Sm M22 M28 := hM28 ▸ (Sm.refl _).i
          have hm29 : Sm M M28 := hm23.trans hs31
          have hl30 := hL.of hm29
          refine ab_aload_n 0 dX12_kick_68 rfl ?_
          refine ab_dup dX12_kick_69 rfl ?_
          refine ab_getI dX12_kick_70 fs_12_109_12 rfl (hl30.sh 62 rfl (by decide) (by decide)).1 (hl30.sh 62 rfl (by decide) (by decide)).2 ?_
          refine ab_iconst (v := 1) dX12_kick_73 (by decide) ?_
          refine ab_iadd dX12_kick_74 ?_
          refine ab_putI dX12_kick_75 fs_12_109_12 rfl rfl (hl30.sh 62 rfl (by decide) (by decide)).1 (hl30.sh 62 rfl (by decide) (by decide)).2 ?_
          refine ab_nameM (fun M32 hM32 => ?_)
          have h := h M32 hM32
          have hs35 : Sm M28 M32 := hM32 ▸ (Sm.refl _).i
          have hm33 : Sm M M32 := hm29.trans hs35
          have hl34 := hL.of hm33
          refine ab_aload_n 0 dX12_kick_78 rfl ?_
          refine ab_getI dX12_kick_79 fs_12_109_12 rfl (hl34.sh 62 rfl (by decide) (by decide)).1 (hl34.sh 62 rfl (by decide) (by decide)).2 ?_
          exact ab_iret dX12_kick_82 rfl h
        · have h := h.2 c26
          refine ab_iconst (v := 1) dX12_kick_62 (by decide) ?_
          refine ab_goto (tgt := 67) dX12_kick_63 (by decide) ?_
          have hb36 := h.1
          have h := h.2
          refine ab_iastj (j := (gI M22 62 32).toNatClampNeg) dX12_kick_67 (hl24.sh 81 rfl (by decide) (by decide)) hb36 rfl ?_
          refine ab_nameM (fun M37 hM37 => ?_)
          have h := h M37 hM37
          have hs40 : Sm M22 M37 := hM37 ▸ (Sm.refl _).i
          have hm38 : Sm M M37 := hm23.trans hs40
          have hl39 := hL.of hm38
          refine ab_aload_n 0 dX12_kick_68 rfl ?_
          refine ab_dup dX12_kick_69 rfl ?_
          refine ab_getI dX12_kick_70 fs_12_109_12 rfl (hl39.sh 62 rfl (by decide) (by decide)).1 (hl39.sh 62 rfl (by decide) (by decide)).2 ?_
          refine ab_iconst (v := 1) dX12_kick_73 (by decide) ?_
          refine ab_iadd dX12_kick_74 ?_
          refine ab_putI dX12_kick_75 fs_12_109_12 rfl rfl (hl39.sh 62 rfl (by decide) (by decide)).1 (hl39.sh 62 rfl (by decide) (by decide)).2 ?_
          refine ab_nameM (fun M41 hM41 => ?_)
          have h := h M41 hM41
          have hs44 : Sm M37 M41 := hM41 ▸ (Sm.refl _).i
          have hm42 : Sm M M41 := hm38.trans hs44
          have hl43 := hL.of hm42
          refine ab_aload_n 0 dX12_kick_78 rfl ?_
          refine ab_getI dX12_kick_79 fs_12_109_12 rfl (hl43.sh 62 rfl (by decide) (by decide)).1 (hl43.sh 62 rfl (by decide) (by decide)).2 ?_
          exact ab_iret dX12_kick_82 rfl h
      · have h := h.2 c15
        refine ab_bipush (v := (-4)) dX12_kick_27 (by decide) ?_
        exact ab_iret dX12_kick_29 rfl h
    · have h := h.2 c14
      refine ab_iconst (v := (-1)) dX12_kick_16 (by decide) ?_
      exact ab_iret dX12_kick_17 rfl h
theorem dX12_clear_0 : decode cX12_clear 0 = .ok (.aload_n 0, 1) := by decide +kernel
theorem dX12_clear_1 : decode cX12_clear 1 = .ok (.getfield 109, 3) := by decide +kernel
theorem dX12_clear_4 : decode cX12_clear 4 = .ok (.istore_n 1, 1) := by decide +kernel
theorem dX12_clear_5 : decode cX12_clear 5 = .ok (.aload_n 0, 1) := by decide +kernel
theorem dX12_clear_6 : decode cX12_clear 6 = .ok (.iconst 0, 1) := by decide +kernel
theorem dX12_clear_7 : decode cX12_clear 7 = .ok (.putfield 109, 3) := by decide +kernel
theorem dX12_clear_10 : decode cX12_clear 10 = .ok (.iload_n 1, 1) := by decide +kernel
theorem dX12_clear_11 : decode cX12_clear 11 = .ok (.ireturn, 1) := by decide +kernel
set_option maxRecDepth 20000 in
theorem rX12_clear (D : GD) (d : Nat)  (M : Mm) (post : Option Value → Mm → Prop) (hL : Lay 62 98 M) 
    (h : ∀ x1 : Int32, x1 = (gI M 62 32) → ∀ M2 : Mm, M2 = sI M 62 32 (0 : Int32) → post (some (.int x1)) M2) :
    AM D d 0 0 mX12_clear [.ref 62] M post := by
  refine AM.of (by decide) (Nat.le_of_ble_eq_true rfl) ?_
  show AW D d 0 0 mX12_clear 0 0 0 [(0, .ref 62)] [] M post
  refine ab_aload_n 0 dX12_clear_0 rfl ?_
  refine ab_getI dX12_clear_1 fs_12_109_12 rfl (hL.sh 62 rfl (by decide) (by decide)).1 (hL.sh 62 rfl (by decide) (by decide)).2 ?_
  refine ab_topi (fun x1 hx1 => ?_)
  have h := h x1 hx1
  refine ab_istore_n (lv1 := [(1, .int x1), (0, .ref 62)]) dX12_clear_4 (by decide) rfl ?_
  refine ab_aload_n 1 dX12_clear_5 rfl ?_
  refine ab_iconst (v := 0) dX12_clear_6 (by decide) ?_
  refine ab_putI dX12_clear_7 fs_12_109_12 rfl rfl (hL.sh 62 rfl (by decide) (by decide)).1 (hL.sh 62 rfl (by decide) (by decide)).2 ?_
  refine ab_nameM (fun M2 hM2 => ?_)
  have h := h M2 hM2
  have hs5 : Sm M M2 := hM2 ▸ (Sm.refl _).i
  have hm3 : Sm M M2 := (Sm.refl M).trans hs5
  have hl4 := hL.of hm3
  refine ab_iload_n 0 dX12_clear_10 rfl ?_
  exact ab_iret dX12_clear_11 rfl h
theorem dX12_doesOf_0 : decode cX12_doesOf 0 = .ok (.iconst 0, 1) := by decide +kernel
theorem dX12_doesOf_1 : decode cX12_doesOf 1 = .ok (.istore_n 2, 1) := by decide +kernel
theorem dX12_doesOf_2 : decode cX12_doesOf 2 = .ok (.iconst 0, 1) := by decide +kernel
theorem dX12_doesOf_3 : decode cX12_doesOf 3 = .ok (.istore_n 3, 1) := by decide +kernel
theorem dX12_doesOf_4 : decode cX12_doesOf 4 = .ok (.iconst 0, 1) := by decide +kernel
theorem dX12_doesOf_5 : decode cX12_doesOf 5 = .ok (.istore 4, 2) := by decide +kernel
theorem dX12_doesOf_7 : decode cX12_doesOf 7 = .ok (.iload 4, 2) := by decide +kernel
theorem dX12_doesOf_9 : decode cX12_doesOf 9 = .ok (.aload_n 0, 1) := by decide +kernel
theorem dX12_doesOf_10 : decode cX12_doesOf 10 = .ok (.getfield 109, 3) := by decide +kernel
theorem dX12_doesOf_13 : decode cX12_doesOf 13 = .ok (.if_icmp .ge 53, 3) := by decide +kernel
theorem dX12_doesOf_16 : decode cX12_doesOf 16 = .ok (.iload_n 2, 1) := by decide +kernel
theorem dX12_doesOf_17 : decode cX12_doesOf 17 = .ok (.aload_n 0, 1) := by decide +kernel
theorem dX12_doesOf_18 : decode cX12_doesOf 18 = .ok (.getfield 112, 3) := by decide +kernel
theorem dX12_doesOf_21 : decode cX12_doesOf 21 = .ok (.iload 4, 2) := by decide +kernel
theorem dX12_doesOf_23 : decode cX12_doesOf 23 = .ok (.iaload, 1) := by decide +kernel
theorem dX12_doesOf_24 : decode cX12_doesOf 24 = .ok (.iload_n 1, 1) := by decide +kernel
theorem dX12_doesOf_25 : decode cX12_doesOf 25 = .ok (.if_icmp .ne 7, 3) := by decide +kernel
theorem dX12_doesOf_28 : decode cX12_doesOf 28 = .ok (.iconst 1, 1) := by decide +kernel
theorem dX12_doesOf_29 : decode cX12_doesOf 29 = .ok (.goto 4, 3) := by decide +kernel
theorem dX12_doesOf_32 : decode cX12_doesOf 32 = .ok (.iconst 0, 1) := by decide +kernel
theorem dX12_doesOf_33 : decode cX12_doesOf 33 = .ok (.iadd, 1) := by decide +kernel
theorem dX12_doesOf_34 : decode cX12_doesOf 34 = .ok (.istore_n 2, 1) := by decide +kernel
theorem dX12_doesOf_35 : decode cX12_doesOf 35 = .ok (.iload_n 3, 1) := by decide +kernel
theorem dX12_doesOf_36 : decode cX12_doesOf 36 = .ok (.aload_n 0, 1) := by decide +kernel
theorem dX12_doesOf_37 : decode cX12_doesOf 37 = .ok (.getfield 112, 3) := by decide +kernel
theorem dX12_doesOf_40 : decode cX12_doesOf 40 = .ok (.iload 4, 2) := by decide +kernel
theorem dX12_doesOf_42 : decode cX12_doesOf 42 = .ok (.iaload, 1) := by decide +kernel
theorem dX12_doesOf_43 : decode cX12_doesOf 43 = .ok (.iload_n 1, 1) := by decide +kernel
theorem dX12_doesOf_44 : decode cX12_doesOf 44 = .ok (.if_icmp .ne 13, 3) := by decide +kernel
theorem dX12_doesOf_47 : decode cX12_doesOf 47 = .ok (.aload_n 0, 1) := by decide +kernel
theorem dX12_doesOf_48 : decode cX12_doesOf 48 = .ok (.getfield 118, 3) := by decide +kernel
theorem dX12_doesOf_51 : decode cX12_doesOf 51 = .ok (.iload 4, 2) := by decide +kernel
theorem dX12_doesOf_53 : decode cX12_doesOf 53 = .ok (.iaload, 1) := by decide +kernel
theorem dX12_doesOf_54 : decode cX12_doesOf 54 = .ok (.goto 4, 3) := by decide +kernel
theorem dX12_doesOf_57 : decode cX12_doesOf 57 = .ok (.iconst 0, 1) := by decide +kernel
theorem dX12_doesOf_58 : decode cX12_doesOf 58 = .ok (.iadd, 1) := by decide +kernel
theorem dX12_doesOf_59 : decode cX12_doesOf 59 = .ok (.istore_n 3, 1) := by decide +kernel
theorem dX12_doesOf_60 : decode cX12_doesOf 60 = .ok (.iinc 4 1, 3) := by decide +kernel
theorem dX12_doesOf_63 : decode cX12_doesOf 63 = .ok (.goto (-56), 3) := by decide +kernel
theorem dX12_doesOf_66 : decode cX12_doesOf 66 = .ok (.iload_n 2, 1) := by decide +kernel
theorem dX12_doesOf_67 : decode cX12_doesOf 67 = .ok (.ifCond .ne 8, 3) := by decide +kernel
theorem dX12_doesOf_70 : decode cX12_doesOf 70 = .ok (.bipush (-5), 2) := by decide +kernel
theorem dX12_doesOf_72 : decode cX12_doesOf 72 = .ok (.goto 10, 3) := by decide +kernel
theorem dX12_doesOf_75 : decode cX12_doesOf 75 = .ok (.sipush 1000, 3) := by decide +kernel
theorem dX12_doesOf_78 : decode cX12_doesOf 78 = .ok (.iload_n 3, 1) := by decide +kernel
theorem dX12_doesOf_79 : decode cX12_doesOf 79 = .ok (.imul, 1) := by decide +kernel
theorem dX12_doesOf_80 : decode cX12_doesOf 80 = .ok (.iload_n 2, 1) := by decide +kernel
theorem dX12_doesOf_81 : decode cX12_doesOf 81 = .ok (.idiv, 1) := by decide +kernel
theorem dX12_doesOf_82 : decode cX12_doesOf 82 = .ok (.ireturn, 1) := by decide +kernel
def LX12_doesOf_7 (D : GD) (d : Nat) (v1 : Int32) (v2 : Int32) (v3 : Int32) (v4 : Int32) (M : Mm) (post : Option Value → Mm → Prop) : Prop := AW D d 0 0 mX12_doesOf 0 0 7 [(0, .ref 62), (1, .int v1), (2, .int v2), (3, .int v3), (4, .int v4)] [] M post
set_option maxRecDepth 20000 in
theorem rX12_doesOf (D : GD) (d : Nat) (a1 : Int32) (M : Mm) (post : Option Value → Mm → Prop) (hL : Lay 62 98 M) 
    (h : LX12_doesOf_7 D d a1 (0 : Int32) (0 : Int32) (0 : Int32) M post) :
    AM D d 0 0 mX12_doesOf [.ref 62, .int a1] M post := by
  refine AM.of (by decide) (Nat.le_of_ble_eq_true rfl) ?_
  show AW D d 0 0 mX12_doesOf 0 0 0 [(0, .ref 62), (1, .int a1)] [] M post
  refine ab_iconst (v := 0) dX12_doesOf_0 (by decide) ?_
  refine ab_istore_n (lv1 := [(2, .int (0 : Int32)), (0, .ref 62), (1, .int a1)]) dX12_doesOf_1 (by decide) rfl ?_
  refine ab_iconst (v := 0) dX12_doesOf_2 (by decide) ?_
  refine ab_istore_n (lv1 := [(3, .int (0 : Int32)), (2, .int (0 : Int32)), (0, .ref 62), (1, .int a1)]) dX12_doesOf_3 (by decide) rfl ?_
  refine ab_iconst (v := 0) dX12_doesOf_4 (by decide) ?_
  refine ab_istore (lv1 := [(4, .int (0 : Int32)), (3, .int (0 : Int32)), (2, .int (0 : Int32)), (0, .ref 62), (1, .int a1)]) dX12_doesOf_5 (by decide) rfl ?_
  exact ab_sub [3, 4, 2, 1, 0] rfl h
set_option maxRecDepth 20000 in
theorem rX12_doesOf_7 (D : GD) (d : Nat)  (v1 : Int32) (v2 : Int32) (v3 : Int32) (v4 : Int32) (M : Mm) (post : Option Value → Mm → Prop) (hL : Lay 62 98 M) 
    (h : (((gI M 62 32) ≤ v4 → ((¬ v2 = 0 → (¬ v2 = 0) ∧ post (some (.int (((1000 : Int32) * v3) / v2))) M) ∧ (v2 = 0 → post (some (.int (-5 : Int32))) M))) ∧ (¬ (gI M 62 32) ≤ v4 → vp_in v4 30 ∧ ((¬ (gI M 79 v4.toNatClampNeg) = v1 → ∀ x6 : Int32, x6 = (v2 + (0 : Int32)) → ((¬ (gI M 79 v4.toNatClampNeg) = v1 → ∀ x8 : Int32, x8 = (v3 + (0 : Int32)) → ∀ x9 : Int32, x9 = v4 + (1 : Int32) → LX12_doesOf_7 D d v1 x6 x8 x9 M post) ∧ ((gI M 79 v4.toNatClampNeg) = v1 → ∀ x10 : Int32, x10 = (v3 + (gI M 81 v4.toNatClampNeg)) → ∀ x11 : Int32, x11 = v4 + (1 : Int32) → LX12_doesOf_7 D d v1 x6 x10 x11 M post))) ∧ ((gI M 79 v4.toNatClampNeg) = v1 → ∀ x12 : Int32, x12 = (v2 + (1 : Int32)) → ((¬ (gI M 79 v4.toNatClampNeg) = v1 → ∀ x14 : Int32, x14 = (v3 + (0 : Int32)) → ∀ x15 : Int32, x15 = v4 + (1 : Int32) → LX12_doesOf_7 D d v1 x12 x14 x15 M post) ∧ ((gI M 79 v4.toNatClampNeg) = v1 → ∀ x16 : Int32, x16 = (v3 + (gI M 81 v4.toNatClampNeg)) → ∀ x17 : Int32, x17 = v4 + (1 : Int32) → LX12_doesOf_7 D d v1 x12 x16 x17 M post))))))) :
    LX12_doesOf_7 D d v1 v2 v3 v4 M post := by
  show AW D d 0 0 mX12_doesOf 0 0 7 [(0, .ref 62), (1, .int v1), (2, .int v2), (3, .int v3), (4, .int v4)] [] M post
  refine ab_iload 4 dX12_doesOf_7 rfl ?_
  refine ab_aload_n 0 dX12_doesOf_9 rfl ?_
  refine ab_getI dX12_doesOf_10 fs_12_109_12 rfl (hL.sh 62 rfl (by decide) (by decide)).1 (hL.sh 62 rfl (by decide) (by decide)).2 ?_
  refine ab_icmp_ge (tgt := 66) dX12_doesOf_13 (by decide) (fun c1 => ?_) (fun c1 => ?_)
  · have h := h.1 c1
    refine ab_iload_n 2 dX12_doesOf_66 rfl ?_
    refine ab_if_ne (tgt := 75) dX12_doesOf_67 (by decide) (fun c2 => ?_) (fun c2 => ?_)
    · have h := h.1 c2
      refine ab_sipush (v := 1000) dX12_doesOf_75 (by decide) ?_
      refine ab_iload_n 3 dX12_doesOf_78 rfl ?_
      refine ab_imul dX12_doesOf_79 ?_
      refine ab_iload_n 2 dX12_doesOf_80 rfl ?_
      have hn3 := h.1
      have h := h.2
      refine ab_idiv dX12_doesOf_81 hn3 ?_
      exact ab_iret dX12_doesOf_82 rfl h
    · have h := h.2 c2
      refine ab_bipush (v := (-5)) dX12_doesOf_70 (by decide) ?_
      refine ab_goto (tgt := 82) dX12_doesOf_72 (by decide) ?_
      exact ab_iret dX12_doesOf_82 rfl h
  · have h := h.2 c1
    refine ab_iload_n 2 dX12_doesOf_16 rfl ?_
    refine ab_aload_n 0 dX12_doesOf_17 rfl ?_
    refine ab_getP (r := 79) dX12_doesOf_18 fs_12_112_12 rfl (hL.sh 62 rfl (by decide) (by decide)).1 (hL.sh 62 rfl (by decide) (by decide)).2 (hL.pt 77 rfl (by decide) (by decide)) ?_
    refine ab_iload 4 dX12_doesOf_21 rfl ?_
    have hb4 := h.1
    have h := h.2
    refine ab_ialdj (j := v4.toNatClampNeg) dX12_doesOf_23 (hL.sh 79 rfl (by decide) (by decide)) hb4 rfl ?_
    refine ab_iload_n 1 dX12_doesOf_24 rfl ?_
    refine ab_icmp_ne (tgt := 32) dX12_doesOf_25 (by decide) (fun c5 => ?_) (fun c5 => ?_)
    · have h := h.1 c5
      refine ab_iconst (v := 0) dX12_doesOf_32 (by decide) ?_
      refine ab_iadd dX12_doesOf_33 ?_
      refine ab_topi (fun x6 hx6 => ?_)
      have h := h x6 hx6
      refine ab_istore_n (lv1 := [(2, .int x6), (0, .ref 62), (1, .int v1), (3, .int v3), (4, .int v4)]) dX12_doesOf_34 (by decide) rfl ?_
      refine ab_iload_n 3 dX12_doesOf_35 rfl ?_
      refine ab_aload_n 1 dX12_doesOf_36 rfl ?_
      refine ab_getP (r := 79) dX12_doesOf_37 fs_12_112_12 rfl (hL.sh 62 rfl (by decide) (by decide)).1 (hL.sh 62 rfl (by decide) (by decide)).2 (hL.pt 77 rfl (by decide) (by decide)) ?_
      refine ab_iload 4 dX12_doesOf_40 rfl ?_
      refine ab_ialdj (j := v4.toNatClampNeg) dX12_doesOf_42 (hL.sh 79 rfl (by decide) (by decide)) hb4 rfl ?_
      refine ab_iload_n 2 dX12_doesOf_43 rfl ?_
      refine ab_icmp_ne (tgt := 57) dX12_doesOf_44 (by decide) (fun c7 => ?_) (fun c7 => ?_)
      · have h := h.1 c7
        refine ab_iconst (v := 0) dX12_doesOf_57 (by decide) ?_
        refine ab_iadd dX12_doesOf_58 ?_
        refine ab_topi (fun x8 hx8 => ?_)
        have h := h x8 hx8
        refine ab_istore_n (lv1 := [(3, .int x8), (2, .int x6), (0, .ref 62), (1, .int v1), (4, .int v4)]) dX12_doesOf_59 (by decide) rfl ?_
        obtain ⟨x9, hx9⟩ : ∃ y : Int32, y = v4 + (1 : Int32) := ⟨_, rfl⟩
        have h := h x9 hx9
        refine ab_iinc (v := x9) 4 (lv1 := [(4, .int x9), (3, .int x8), (2, .int x6), (0, .ref 62), (1, .int v1)]) dX12_doesOf_60 rfl (by rw [hx9]; rfl) (by decide) rfl ?_
        refine ab_goto (tgt := 7) dX12_doesOf_63 (by decide) ?_
        exact ab_sub [3, 4, 2, 1, 0] rfl h
      · have h := h.2 c7
        refine ab_aload_n 1 dX12_doesOf_47 rfl ?_
        refine ab_getP (r := 81) dX12_doesOf_48 fs_12_118_12 rfl (hL.sh 62 rfl (by decide) (by decide)).1 (hL.sh 62 rfl (by decide) (by decide)).2 (hL.pt 79 rfl (by decide) (by decide)) ?_
        refine ab_iload 4 dX12_doesOf_51 rfl ?_
        refine ab_ialdj (j := v4.toNatClampNeg) dX12_doesOf_53 (hL.sh 81 rfl (by decide) (by decide)) hb4 rfl ?_
        refine ab_goto (tgt := 58) dX12_doesOf_54 (by decide) ?_
        refine ab_iadd dX12_doesOf_58 ?_
        refine ab_topi (fun x10 hx10 => ?_)
        have h := h x10 hx10
        refine ab_istore_n (lv1 := [(3, .int x10), (2, .int x6), (0, .ref 62), (1, .int v1), (4, .int v4)]) dX12_doesOf_59 (by decide) rfl ?_
        obtain ⟨x11, hx11⟩ : ∃ y : Int32, y = v4 + (1 : Int32) := ⟨_, rfl⟩
        have h := h x11 hx11
        refine ab_iinc (v := x11) 4 (lv1 := [(4, .int x11), (3, .int x10), (2, .int x6), (0, .ref 62), (1, .int v1)]) dX12_doesOf_60 rfl (by rw [hx11]; rfl) (by decide) rfl ?_
        refine ab_goto (tgt := 7) dX12_doesOf_63 (by decide) ?_
        exact ab_sub [3, 4, 2, 1, 0] rfl h
    · have h := h.2 c5
      refine ab_iconst (v := 1) dX12_doesOf_28 (by decide) ?_
      refine ab_goto (tgt := 33) dX12_doesOf_29 (by decide) ?_
      refine ab_iadd dX12_doesOf_33 ?_
      refine ab_topi (fun x12 hx12 => ?_)
      have h := h x12 hx12
      refine ab_istore_n (lv1 := [(2, .int x12), (0, .ref 62), (1, .int v1), (3, .int v3), (4, .int v4)]) dX12_doesOf_34 (by decide) rfl ?_
      refine ab_iload_n 3 dX12_doesOf_35 rfl ?_
      refine ab_aload_n 1 dX12_doesOf_36 rfl ?_
      refine ab_getP (r := 79) dX12_doesOf_37 fs_12_112_12 rfl (hL.sh 62 rfl (by decide) (by decide)).1 (hL.sh 62 rfl (by decide) (by decide)).2 (hL.pt 77 rfl (by decide) (by decide)) ?_
      refine ab_iload 4 dX12_doesOf_40 rfl ?_
      refine ab_ialdj (j := v4.toNatClampNeg) dX12_doesOf_42 (hL.sh 79 rfl (by decide) (by decide)) hb4 rfl ?_
      refine ab_iload_n 2 dX12_doesOf_43 rfl ?_
      refine ab_icmp_ne (tgt := 57) dX12_doesOf_44 (by decide) (fun c13 => ?_) (fun c13 => ?_)
      · have h := h.1 c13
        refine ab_iconst (v := 0) dX12_doesOf_57 (by decide) ?_
        refine ab_iadd dX12_doesOf_58 ?_
        refine ab_topi (fun x14 hx14 => ?_)
        have h := h x14 hx14
        refine ab_istore_n (lv1 := [(3, .int x14), (2, .int x12), (0, .ref 62), (1, .int v1), (4, .int v4)]) dX12_doesOf_59 (by decide) rfl ?_
        obtain ⟨x15, hx15⟩ : ∃ y : Int32, y = v4 + (1 : Int32) := ⟨_, rfl⟩
        have h := h x15 hx15
        refine ab_iinc (v := x15) 4 (lv1 := [(4, .int x15), (3, .int x14), (2, .int x12), (0, .ref 62), (1, .int v1)]) dX12_doesOf_60 rfl (by rw [hx15]; rfl) (by decide) rfl ?_
        refine ab_goto (tgt := 7) dX12_doesOf_63 (by decide) ?_
        exact ab_sub [3, 4, 2, 1, 0] rfl h
      · have h := h.2 c13
        refine ab_aload_n 1 dX12_doesOf_47 rfl ?_
        refine ab_getP (r := 81) dX12_doesOf_48 fs_12_118_12 rfl (hL.sh 62 rfl (by decide) (by decide)).1 (hL.sh 62 rfl (by decide) (by decide)).2 (hL.pt 79 rfl (by decide) (by decide)) ?_
        refine ab_iload 4 dX12_doesOf_51 rfl ?_
        refine ab_ialdj (j := v4.toNatClampNeg) dX12_doesOf_53 (hL.sh 81 rfl (by decide) (by decide)) hb4 rfl ?_
        refine ab_goto (tgt := 58) dX12_doesOf_54 (by decide) ?_
        refine ab_iadd dX12_doesOf_58 ?_
        refine ab_topi (fun x16 hx16 => ?_)
        have h := h x16 hx16
        refine ab_istore_n (lv1 := [(3, .int x16), (2, .int x12), (0, .ref 62), (1, .int v1), (4, .int v4)]) dX12_doesOf_59 (by decide) rfl ?_
        obtain ⟨x17, hx17⟩ : ∃ y : Int32, y = v4 + (1 : Int32) := ⟨_, rfl⟩
        have h := h x17 hx17
        refine ab_iinc (v := x17) 4 (lv1 := [(4, .int x17), (3, .int x16), (2, .int x12), (0, .ref 62), (1, .int v1)]) dX12_doesOf_60 rfl (by rw [hx17]; rfl) (by decide) rfl ?_
        refine ab_goto (tgt := 7) dX12_doesOf_63 (by decide) ?_
        exact ab_sub [3, 4, 2, 1, 0] rfl h
theorem dX12_does_0 : decode cX12_does 0 = .ok (.aload_n 0, 1) := by decide +kernel
theorem dX12_does_1 : decode cX12_does 1 = .ok (.iload_n 1, 1) := by decide +kernel
theorem dX12_does_2 : decode cX12_does 2 = .ok (.invokevirtual 184, 3) := by decide +kernel
theorem dX12_does_5 : decode cX12_does 5 = .ok (.ifCond .eq 11, 3) := by decide +kernel
theorem dX12_does_8 : decode cX12_does 8 = .ok (.aload_n 0, 1) := by decide +kernel
theorem dX12_does_9 : decode cX12_does 9 = .ok (.iload_n 1, 1) := by decide +kernel
theorem dX12_does_10 : decode cX12_does 10 = .ok (.invokevirtual 307, 3) := by decide +kernel
theorem dX12_does_13 : decode cX12_does 13 = .ok (.goto 4, 3) := by decide +kernel
theorem dX12_does_16 : decode cX12_does 16 = .ok (.iconst (-1), 1) := by decide +kernel
theorem dX12_does_17 : decode cX12_does 17 = .ok (.ireturn, 1) := by decide +kernel
set_option maxRecDepth 20000 in
theorem rX12_does (D : GD) (d : Nat) (a1 : Int32) (M : Mm) (post : Option Value → Mm → Prop) (hL : Lay 62 98 M) 
    (h : AMi D d mX12_isSide [.ref 62, .int a1] M (fun x2 M1 => ((x2 = 0 → post (some (.int (-1 : Int32))) M1) ∧ (¬ x2 = 0 → AMi D d mX12_doesOf [.ref 62, .int a1] M1 (fun x9 M8 => post (some (.int x9)) M8))))) :
    AM D (d + 1) 0 0 mX12_does [.ref 62, .int a1] M post := by
  refine AM.of (by decide) (Nat.le_of_ble_eq_true rfl) ?_
  show AW D (d + 1) 0 0 mX12_does 0 0 0 [(0, .ref 62), (1, .int a1)] [] M post
  refine ab_aload_n 0 dX12_does_0 rfl ?_
  refine ab_iload_n 1 dX12_does_1 rfl ?_
  refine ab_callV (a := 62) (c0 := 12) (d' := d) (mc' := 0) (ms' := 0) (vs := [.int a1]) (st := []) dX12_does_2 ⟨cw_X12_isSide, w_1166⟩ w_1168 w_22 (by decide) (hL.sh 62 rfl (by decide) (by decide)).1 (hL.sh 62 rfl (by decide) (by decide)).2 rfl rfl (Nat.le_of_ble_eq_true rfl) (Nat.le_refl _) (Nat.zero_le _) (Nat.zero_le _) (AM.mono h (fun r M1 ⟨x2, hr3, hc4, h⟩ => ?_))
  subst hr3
  refine ab_rs ?_
  have hm5 : Sm M M1 := (Sm.refl M).trans hc4
  have hl6 := hL.of hm5
  refine ab_if_eq (tgt := 16) dX12_does_5 (by decide) (fun c7 => ?_) (fun c7 => ?_)
  · have h := h.1 c7
    refine ab_iconst (v := (-1)) dX12_does_16 (by decide) ?_
    exact ab_iret dX12_does_17 rfl h
  · have h := h.2 c7
    refine ab_aload_n 0 dX12_does_8 rfl ?_
    refine ab_iload_n 1 dX12_does_9 rfl ?_
    refine ab_callV (a := 62) (c0 := 12) (d' := d) (mc' := 0) (ms' := 0) (vs := [.int a1]) (st := []) dX12_does_10 ⟨cw_X12_doesOf, w_1369⟩ w_1371 w_58 (by decide) (hl6.sh 62 rfl (by decide) (by decide)).1 (hl6.sh 62 rfl (by decide) (by decide)).2 rfl rfl (Nat.le_of_ble_eq_true rfl) (Nat.le_refl _) (Nat.zero_le _) (Nat.zero_le _) (AM.mono h (fun r M8 ⟨x9, hr10, hc11, h⟩ => ?_))
    subst hr10
    refine ab_rs ?_
    have hm12 : Sm M M8 := hm5.trans hc11
    have hl13 := hL.of hm12
    refine ab_goto (tgt := 17) dX12_does_13 (by decide) ?_
    exact ab_iret dX12_does_17 rfl h
theorem dX12_shows_0 : decode cX12_shows 0 = .ok (.aload_n 0, 1) := by decide +kernel
theorem dX12_shows_1 : decode cX12_shows 1 = .ok (.iload_n 1, 1) := by decide +kernel
theorem dX12_shows_2 : decode cX12_shows 2 = .ok (.iconst 0, 1) := by decide +kernel
theorem dX12_shows_3 : decode cX12_shows 3 = .ok (.iconst 1, 1) := by decide +kernel
theorem dX12_shows_4 : decode cX12_shows 4 = .ok (.invokevirtual 180, 3) := by decide +kernel
theorem dX12_shows_7 : decode cX12_shows 7 = .ok (.ifCond .ne 5, 3) := by decide +kernel
theorem dX12_shows_10 : decode cX12_shows 10 = .ok (.iconst (-1), 1) := by decide +kernel
theorem dX12_shows_11 : decode cX12_shows 11 = .ok (.ireturn, 1) := by decide +kernel
theorem dX12_shows_12 : decode cX12_shows 12 = .ok (.iload_n 1, 1) := by decide +kernel
theorem dX12_shows_13 : decode cX12_shows 13 = .ok (.iconst 1, 1) := by decide +kernel
theorem dX12_shows_14 : decode cX12_shows 14 = .ok (.if_icmp .ne 52, 3) := by decide +kernel
theorem dX12_shows_17 : decode cX12_shows 17 = .ok (.iconst 0, 1) := by decide +kernel
theorem dX12_shows_18 : decode cX12_shows 18 = .ok (.istore_n 2, 1) := by decide +kernel
theorem dX12_shows_19 : decode cX12_shows 19 = .ok (.iconst 0, 1) := by decide +kernel
theorem dX12_shows_20 : decode cX12_shows 20 = .ok (.istore_n 3, 1) := by decide +kernel
theorem dX12_shows_21 : decode cX12_shows 21 = .ok (.iload_n 3, 1) := by decide +kernel
theorem dX12_shows_22 : decode cX12_shows 22 = .ok (.aload_n 0, 1) := by decide +kernel
theorem dX12_shows_23 : decode cX12_shows 23 = .ok (.getfield 109, 3) := by decide +kernel
theorem dX12_shows_26 : decode cX12_shows 26 = .ok (.if_icmp .ge 38, 3) := by decide +kernel
theorem dX12_shows_29 : decode cX12_shows 29 = .ok (.iload_n 2, 1) := by decide +kernel
theorem dX12_shows_30 : decode cX12_shows 30 = .ok (.iload_n 3, 1) := by decide +kernel
theorem dX12_shows_31 : decode cX12_shows 31 = .ok (.ifCond .eq 20, 3) := by decide +kernel
theorem dX12_shows_34 : decode cX12_shows 34 = .ok (.aload_n 0, 1) := by decide +kernel
theorem dX12_shows_35 : decode cX12_shows 35 = .ok (.getfield 112, 3) := by decide +kernel
theorem dX12_shows_38 : decode cX12_shows 38 = .ok (.iload_n 3, 1) := by decide +kernel
theorem dX12_shows_39 : decode cX12_shows 39 = .ok (.iaload, 1) := by decide +kernel
theorem dX12_shows_40 : decode cX12_shows 40 = .ok (.aload_n 0, 1) := by decide +kernel
theorem dX12_shows_41 : decode cX12_shows 41 = .ok (.getfield 112, 3) := by decide +kernel
theorem dX12_shows_44 : decode cX12_shows 44 = .ok (.iload_n 3, 1) := by decide +kernel
theorem dX12_shows_45 : decode cX12_shows 45 = .ok (.iconst 1, 1) := by decide +kernel
theorem dX12_shows_46 : decode cX12_shows 46 = .ok (.isub, 1) := by decide +kernel
theorem dX12_shows_47 : decode cX12_shows 47 = .ok (.iaload, 1) := by decide +kernel
theorem dX12_shows_48 : decode cX12_shows 48 = .ok (.if_icmp .eq 7, 3) := by decide +kernel
theorem dX12_shows_51 : decode cX12_shows 51 = .ok (.iconst 1, 1) := by decide +kernel
theorem dX12_shows_52 : decode cX12_shows 52 = .ok (.goto 4, 3) := by decide +kernel
theorem dX12_shows_55 : decode cX12_shows 55 = .ok (.iconst 0, 1) := by decide +kernel
theorem dX12_shows_56 : decode cX12_shows 56 = .ok (.iadd, 1) := by decide +kernel
theorem dX12_shows_57 : decode cX12_shows 57 = .ok (.istore_n 2, 1) := by decide +kernel
theorem dX12_shows_58 : decode cX12_shows 58 = .ok (.iinc 3 1, 3) := by decide +kernel
theorem dX12_shows_61 : decode cX12_shows 61 = .ok (.goto (-40), 3) := by decide +kernel
theorem dX12_shows_64 : decode cX12_shows 64 = .ok (.iload_n 2, 1) := by decide +kernel
theorem dX12_shows_65 : decode cX12_shows 65 = .ok (.ireturn, 1) := by decide +kernel
theorem dX12_shows_66 : decode cX12_shows 66 = .ok (.sipush 1001, 3) := by decide +kernel
theorem dX12_shows_69 : decode cX12_shows 69 = .ok (.istore_n 2, 1) := by decide +kernel
theorem dX12_shows_70 : decode cX12_shows 70 = .ok (.iconst (-1), 1) := by decide +kernel
theorem dX12_shows_71 : decode cX12_shows 71 = .ok (.istore_n 3, 1) := by decide +kernel
theorem dX12_shows_72 : decode cX12_shows 72 = .ok (.iconst 0, 1) := by decide +kernel
theorem dX12_shows_73 : decode cX12_shows 73 = .ok (.istore 4, 2) := by decide +kernel
theorem dX12_shows_75 : decode cX12_shows 75 = .ok (.iload 4, 2) := by decide +kernel
theorem dX12_shows_77 : decode cX12_shows 77 = .ok (.iconst 3, 1) := by decide +kernel
theorem dX12_shows_78 : decode cX12_shows 78 = .ok (.if_icmp .ge 51, 3) := by decide +kernel
theorem dX12_shows_81 : decode cX12_shows 81 = .ok (.aload_n 0, 1) := by decide +kernel
theorem dX12_shows_82 : decode cX12_shows 82 = .ok (.iload 4, 2) := by decide +kernel
theorem dX12_shows_84 : decode cX12_shows 84 = .ok (.invokevirtual 307, 3) := by decide +kernel
theorem dX12_shows_87 : decode cX12_shows 87 = .ok (.istore 5, 2) := by decide +kernel
theorem dX12_shows_89 : decode cX12_shows 89 = .ok (.iload 5, 2) := by decide +kernel
theorem dX12_shows_91 : decode cX12_shows 91 = .ok (.ifCond .ge 6, 3) := by decide +kernel
theorem dX12_shows_94 : decode cX12_shows 94 = .ok (.goto 29, 3) := by decide +kernel
theorem dX12_shows_97 : decode cX12_shows 97 = .ok (.iload 5, 2) := by decide +kernel
theorem dX12_shows_99 : decode cX12_shows 99 = .ok (.iload_n 2, 1) := by decide +kernel
theorem dX12_shows_100 : decode cX12_shows 100 = .ok (.if_icmp .ge 8, 3) := by decide +kernel
theorem dX12_shows_103 : decode cX12_shows 103 = .ok (.iload 5, 2) := by decide +kernel
theorem dX12_shows_105 : decode cX12_shows 105 = .ok (.goto 4, 3) := by decide +kernel
theorem dX12_shows_108 : decode cX12_shows 108 = .ok (.iload_n 2, 1) := by decide +kernel
theorem dX12_shows_109 : decode cX12_shows 109 = .ok (.istore_n 2, 1) := by decide +kernel
theorem dX12_shows_110 : decode cX12_shows 110 = .ok (.iload 5, 2) := by decide +kernel
theorem dX12_shows_112 : decode cX12_shows 112 = .ok (.iload_n 3, 1) := by decide +kernel
theorem dX12_shows_113 : decode cX12_shows 113 = .ok (.if_icmp .le 8, 3) := by decide +kernel
theorem dX12_shows_116 : decode cX12_shows 116 = .ok (.iload 5, 2) := by decide +kernel
theorem dX12_shows_118 : decode cX12_shows 118 = .ok (.goto 4, 3) := by decide +kernel
theorem dX12_shows_121 : decode cX12_shows 121 = .ok (.iload_n 3, 1) := by decide +kernel
theorem dX12_shows_122 : decode cX12_shows 122 = .ok (.istore_n 3, 1) := by decide +kernel
theorem dX12_shows_123 : decode cX12_shows 123 = .ok (.iinc 4 1, 3) := by decide +kernel
theorem dX12_shows_126 : decode cX12_shows 126 = .ok (.goto (-51), 3) := by decide +kernel
theorem dX12_shows_129 : decode cX12_shows 129 = .ok (.iload_n 3, 1) := by decide +kernel
theorem dX12_shows_130 : decode cX12_shows 130 = .ok (.iload_n 2, 1) := by decide +kernel
theorem dX12_shows_131 : decode cX12_shows 131 = .ok (.if_icmp .ge 7, 3) := by decide +kernel
theorem dX12_shows_134 : decode cX12_shows 134 = .ok (.iconst 0, 1) := by decide +kernel
theorem dX12_shows_135 : decode cX12_shows 135 = .ok (.goto 6, 3) := by decide +kernel
theorem dX12_shows_138 : decode cX12_shows 138 = .ok (.iload_n 3, 1) := by decide +kernel
theorem dX12_shows_139 : decode cX12_shows 139 = .ok (.iload_n 2, 1) := by decide +kernel
theorem dX12_shows_140 : decode cX12_shows 140 = .ok (.isub, 1) := by decide +kernel
theorem dX12_shows_141 : decode cX12_shows 141 = .ok (.ireturn, 1) := by decide +kernel
def LX12_shows_75 (D : GD) (d : Nat) (v2 : Int32) (v3 : Int32) (v4 : Int32) (M : Mm) (post : Option Value → Mm → Prop) : Prop := AW D (d + 1) 0 0 mX12_shows 0 0 75 [(0, .ref 62), (2, .int v2), (3, .int v3), (4, .int v4)] [] M post
def LX12_shows_21 (D : GD) (d : Nat) (v2 : Int32) (v3 : Int32) (M : Mm) (post : Option Value → Mm → Prop) : Prop := AW D (d + 1) 0 0 mX12_shows 0 0 21 [(0, .ref 62), (2, .int v2), (3, .int v3)] [] M post
set_option maxRecDepth 20000 in
theorem rX12_shows (D : GD) (d : Nat) (a1 : Int32) (M : Mm) (post : Option Value → Mm → Prop) (hL : Lay 62 98 M) 
    (h : AMi D d mX12_in [.ref 62, .int a1, .int (0 : Int32), .int (1 : Int32)] M (fun x2 M1 => ((¬ x2 = 0 → ((¬ a1 = (1 : Int32) → LX12_shows_75 D d (1001 : Int32) (-1 : Int32) (0 : Int32) M1 post) ∧ (a1 = (1 : Int32) → LX12_shows_21 D d (0 : Int32) (0 : Int32) M1 post))) ∧ (x2 = 0 → post (some (.int (-1 : Int32))) M1)))) :
    AM D (d + 1) 0 0 mX12_shows [.ref 62, .int a1] M post := by
  refine AM.of (by decide) (Nat.le_of_ble_eq_true rfl) ?_
  show AW D (d + 1) 0 0 mX12_shows 0 0 0 [(0, .ref 62), (1, .int a1)] [] M post
  refine ab_aload_n 0 dX12_shows_0 rfl ?_
  refine ab_iload_n 1 dX12_shows_1 rfl ?_
  refine ab_iconst (v := 0) dX12_shows_2 (by decide) ?_
  refine ab_iconst (v := 1) dX12_shows_3 (by decide) ?_
  refine ab_callV (a := 62) (c0 := 12) (d' := d) (mc' := 0) (ms' := 0) (vs := [.int a1, .int (0 : Int32), .int (1 : Int32)]) (st := []) dX12_shows_4 ⟨cw_X12_in, w_1170⟩ w_1172 w_23 (by decide) (hL.sh 62 rfl (by decide) (by decide)).1 (hL.sh 62 rfl (by decide) (by decide)).2 rfl rfl (Nat.le_of_ble_eq_true rfl) (Nat.le_refl _) (Nat.zero_le _) (Nat.zero_le _) (AM.mono h (fun r M1 ⟨x2, hr3, hc4, h⟩ => ?_))
  subst hr3
  refine ab_rs ?_
  have hm5 : Sm M M1 := (Sm.refl M).trans hc4
  have hl6 := hL.of hm5
  refine ab_if_ne (tgt := 12) dX12_shows_7 (by decide) (fun c7 => ?_) (fun c7 => ?_)
  · have h := h.1 c7
    refine ab_iload_n 1 dX12_shows_12 rfl ?_
    refine ab_iconst (v := 1) dX12_shows_13 (by decide) ?_
    refine ab_icmp_ne (tgt := 66) dX12_shows_14 (by decide) (fun c8 => ?_) (fun c8 => ?_)
    · have h := h.1 c8
      refine ab_sipush (v := 1001) dX12_shows_66 (by decide) ?_
      refine ab_istore_n (lv1 := [(2, .int (1001 : Int32)), (0, .ref 62), (1, .int a1)]) dX12_shows_69 (by decide) rfl ?_
      refine ab_iconst (v := (-1)) dX12_shows_70 (by decide) ?_
      refine ab_istore_n (lv1 := [(3, .int (-1 : Int32)), (2, .int (1001 : Int32)), (0, .ref 62), (1, .int a1)]) dX12_shows_71 (by decide) rfl ?_
      refine ab_iconst (v := 0) dX12_shows_72 (by decide) ?_
      refine ab_istore (lv1 := [(4, .int (0 : Int32)), (3, .int (-1 : Int32)), (2, .int (1001 : Int32)), (0, .ref 62), (1, .int a1)]) dX12_shows_73 (by decide) rfl ?_
      exact ab_sub [3, 2, 1, 0] rfl h
    · have h := h.2 c8
      refine ab_iconst (v := 0) dX12_shows_17 (by decide) ?_
      refine ab_istore_n (lv1 := [(2, .int (0 : Int32)), (0, .ref 62), (1, .int a1)]) dX12_shows_18 (by decide) rfl ?_
      refine ab_iconst (v := 0) dX12_shows_19 (by decide) ?_
      refine ab_istore_n (lv1 := [(3, .int (0 : Int32)), (2, .int (0 : Int32)), (0, .ref 62), (1, .int a1)]) dX12_shows_20 (by decide) rfl ?_
      exact ab_sub [2, 1, 0] rfl h
  · have h := h.2 c7
    refine ab_iconst (v := (-1)) dX12_shows_10 (by decide) ?_
    exact ab_iret dX12_shows_11 rfl h
set_option maxRecDepth 20000 in
theorem rX12_shows_75 (D : GD) (d : Nat)  (v2 : Int32) (v3 : Int32) (v4 : Int32) (M : Mm) (post : Option Value → Mm → Prop) (hL : Lay 62 98 M) 
    (h : (((3 : Int32) ≤ v4 → ((v2 ≤ v3 → post (some (.int (v3 - v2))) M) ∧ (¬ v2 ≤ v3 → post (some (.int (0 : Int32))) M))) ∧ (¬ (3 : Int32) ≤ v4 → AMi D d mX12_doesOf [.ref 62, .int v4] M (fun x4 M3 => ((0 ≤ x4 → ((v2 ≤ x4 → ((x4 ≤ v3 → ∀ x12 : Int32, x12 = v4 + (1 : Int32) → LX12_shows_75 D d v2 v3 x12 M3 post) ∧ (¬ x4 ≤ v3 → ∀ x13 : Int32, x13 = v4 + (1 : Int32) → LX12_shows_75 D d v2 x4 x13 M3 post))) ∧ (¬ v2 ≤ x4 → ((x4 ≤ v3 → ∀ x15 : Int32, x15 = v4 + (1 : Int32) → LX12_shows_75 D d x4 v3 x15 M3 post) ∧ (¬ x4 ≤ v3 → ∀ x16 : Int32, x16 = v4 + (1 : Int32) → LX12_shows_75 D d x4 x4 x16 M3 post))))) ∧ (¬ 0 ≤ x4 → ∀ x17 : Int32, x17 = v4 + (1 : Int32) → LX12_shows_75 D d v2 v3 x17 M3 post)))))) :
    LX12_shows_75 D d v2 v3 v4 M post := by
  show AW D (d + 1) 0 0 mX12_shows 0 0 75 [(0, .ref 62), (2, .int v2), (3, .int v3), (4, .int v4)] [] M post
  refine ab_iload 3 dX12_shows_75 rfl ?_
  refine ab_iconst (v := 3) dX12_shows_77 (by decide) ?_
  refine ab_icmp_ge (tgt := 129) dX12_shows_78 (by decide) (fun c1 => ?_) (fun c1 => ?_)
  · have h := h.1 c1
    refine ab_iload_n 2 dX12_shows_129 rfl ?_
    refine ab_iload_n 1 dX12_shows_130 rfl ?_
    refine ab_icmp_ge (tgt := 138) dX12_shows_131 (by decide) (fun c2 => ?_) (fun c2 => ?_)
    · have h := h.1 c2
      refine ab_iload_n 2 dX12_shows_138 rfl ?_
      refine ab_iload_n 1 dX12_shows_139 rfl ?_
      refine ab_isub dX12_shows_140 ?_
      exact ab_iret dX12_shows_141 rfl h
    · have h := h.2 c2
      refine ab_iconst (v := 0) dX12_shows_134 (by decide) ?_
      refine ab_goto (tgt := 141) dX12_shows_135 (by decide) ?_
      exact ab_iret dX12_shows_141 rfl h
  · have h := h.2 c1
    refine ab_aload_n 0 dX12_shows_81 rfl ?_
    refine ab_iload 3 dX12_shows_82 rfl ?_
    refine ab_callV (a := 62) (c0 := 12) (d' := d) (mc' := 0) (ms' := 0) (vs := [.int v4]) (st := []) dX12_shows_84 ⟨cw_X12_doesOf, w_1369⟩ w_1371 w_58 (by decide) (hL.sh 62 rfl (by decide) (by decide)).1 (hL.sh 62 rfl (by decide) (by decide)).2 rfl rfl (Nat.le_of_ble_eq_true rfl) (Nat.le_refl _) (Nat.zero_le _) (Nat.zero_le _) (AM.mono h (fun r M3 ⟨x4, hr5, hc6, h⟩ => ?_))
    subst hr5
    refine ab_rs ?_
    have hm7 : Sm M M3 := (Sm.refl M).trans hc6
    have hl8 := hL.of hm7
    refine ab_istore (lv1 := [(5, .int x4), (0, .ref 62), (2, .int v2), (3, .int v3), (4, .int v4)]) dX12_shows_87 (by decide) rfl ?_
    refine ab_iload 0 dX12_shows_89 rfl ?_
    refine ab_if_ge (tgt := 97) dX12_shows_91 (by decide) (fun c9 => ?_) (fun c9 => ?_)
    · have h := h.1 c9
      refine ab_iload 0 dX12_shows_97 rfl ?_
      refine ab_iload_n 2 dX12_shows_99 rfl ?_
      refine ab_icmp_ge (tgt := 108) dX12_shows_100 (by decide) (fun c10 => ?_) (fun c10 => ?_)
      · have h := h.1 c10
        refine ab_iload_n 2 dX12_shows_108 rfl ?_
        refine ab_istore_n (lv1 := [(2, .int v2), (5, .int x4), (0, .ref 62), (3, .int v3), (4, .int v4)]) dX12_shows_109 (by decide) rfl ?_
        refine ab_iload 1 dX12_shows_110 rfl ?_
        refine ab_iload_n 3 dX12_shows_112 rfl ?_
        refine ab_icmp_le (tgt := 121) dX12_shows_113 (by decide) (fun c11 => ?_) (fun c11 => ?_)
        · have h := h.1 c11
          refine ab_iload_n 3 dX12_shows_121 rfl ?_
          refine ab_istore_n (lv1 := [(3, .int v3), (2, .int v2), (5, .int x4), (0, .ref 62), (4, .int v4)]) dX12_shows_122 (by decide) rfl ?_
          obtain ⟨x12, hx12⟩ : ∃ y : Int32, y = v4 + (1 : Int32) := ⟨_, rfl⟩
          have h := h x12 hx12
          refine ab_iinc (v := x12) 4 (lv1 := [(4, .int x12), (3, .int v3), (2, .int v2), (5, .int x4), (0, .ref 62)]) dX12_shows_123 rfl (by rw [hx12]; rfl) (by decide) rfl ?_
          refine ab_goto (tgt := 75) dX12_shows_126 (by decide) ?_
          exact ab_sub [4, 2, 1, 0] rfl h
        · have h := h.2 c11
          refine ab_iload 1 dX12_shows_116 rfl ?_
          refine ab_goto (tgt := 122) dX12_shows_118 (by decide) ?_
          refine ab_istore_n (lv1 := [(3, .int x4), (2, .int v2), (5, .int x4), (0, .ref 62), (4, .int v4)]) dX12_shows_122 (by decide) rfl ?_
          obtain ⟨x13, hx13⟩ : ∃ y : Int32, y = v4 + (1 : Int32) := ⟨_, rfl⟩
          have h := h x13 hx13
          refine ab_iinc (v := x13) 4 (lv1 := [(4, .int x13), (3, .int x4), (2, .int v2), (5, .int x4), (0, .ref 62)]) dX12_shows_123 rfl (by rw [hx13]; rfl) (by decide) rfl ?_
          refine ab_goto (tgt := 75) dX12_shows_126 (by decide) ?_
          exact ab_sub [4, 2, 1, 0] rfl h
      · have h := h.2 c10
        refine ab_iload 0 dX12_shows_103 rfl ?_
        refine ab_goto (tgt := 109) dX12_shows_105 (by decide) ?_
        refine ab_istore_n (lv1 := [(2, .int x4), (5, .int x4), (0, .ref 62), (3, .int v3), (4, .int v4)]) dX12_shows_109 (by decide) rfl ?_
        refine ab_iload 1 dX12_shows_110 rfl ?_
        refine ab_iload_n 3 dX12_shows_112 rfl ?_
        refine ab_icmp_le (tgt := 121) dX12_shows_113 (by decide) (fun c14 => ?_) (fun c14 => ?_)
        · have h := h.1 c14
          refine ab_iload_n 3 dX12_shows_121 rfl ?_
          refine ab_istore_n (lv1 := [(3, .int v3), (2, .int x4), (5, .int x4), (0, .ref 62), (4, .int v4)]) dX12_shows_122 (by decide) rfl ?_
          obtain ⟨x15, hx15⟩ : ∃ y : Int32, y = v4 + (1 : Int32) := ⟨_, rfl⟩
          have h := h x15 hx15
          refine ab_iinc (v := x15) 4 (lv1 := [(4, .int x15), (3, .int v3), (2, .int x4), (5, .int x4), (0, .ref 62)]) dX12_shows_123 rfl (by rw [hx15]; rfl) (by decide) rfl ?_
          refine ab_goto (tgt := 75) dX12_shows_126 (by decide) ?_
          exact ab_sub [4, 2, 1, 0] rfl h
        · have h := h.2 c14
          refine ab_iload 1 dX12_shows_116 rfl ?_
          refine ab_goto (tgt := 122) dX12_shows_118 (by decide) ?_
          refine ab_istore_n (lv1 := [(3, .int x4), (2, .int x4), (5, .int x4), (0, .ref 62), (4, .int v4)]) dX12_shows_122 (by decide) rfl ?_
          obtain ⟨x16, hx16⟩ : ∃ y : Int32, y = v4 + (1 : Int32) := ⟨_, rfl⟩
          have h := h x16 hx16
          refine ab_iinc (v := x16) 4 (lv1 := [(4, .int x16), (3, .int x4), (2, .int x4), (5, .int x4), (0, .ref 62)]) dX12_shows_123 rfl (by rw [hx16]; rfl) (by decide) rfl ?_
          refine ab_goto (tgt := 75) dX12_shows_126 (by decide) ?_
          exact ab_sub [4, 2, 1, 0] rfl h
    · have h := h.2 c9
      refine ab_goto (tgt := 123) dX12_shows_94 (by decide) ?_
      obtain ⟨x17, hx17⟩ : ∃ y : Int32, y = v4 + (1 : Int32) := ⟨_, rfl⟩
      have h := h x17 hx17
      refine ab_iinc (v := x17) 4 (lv1 := [(4, .int x17), (5, .int x4), (0, .ref 62), (2, .int v2), (3, .int v3)]) dX12_shows_123 rfl (by rw [hx17]; rfl) (by decide) rfl ?_
      refine ab_goto (tgt := 75) dX12_shows_126 (by decide) ?_
      exact ab_sub [2, 3, 4, 0] rfl h
set_option maxRecDepth 20000 in
theorem rX12_shows_21 (D : GD) (d : Nat)  (v2 : Int32) (v3 : Int32) (M : Mm) (post : Option Value → Mm → Prop) (hL : Lay 62 98 M) 
    (h : (((gI M 62 32) ≤ v3 → post (some (.int v2)) M) ∧ (¬ (gI M 62 32) ≤ v3 → ((v3 = 0 → ∀ x3 : Int32, x3 = (v2 + (1 : Int32)) → ∀ x4 : Int32, x4 = v3 + (1 : Int32) → LX12_shows_21 D d x3 x4 M post) ∧ (¬ v3 = 0 → vp_in v3 30 ∧ vp_in (v3 - (1 : Int32)) 30 ∧ (((gI M 79 v3.toNatClampNeg) = (gI M 79 ((v3 - (1 : Int32)).toNatClampNeg)) → ∀ x8 : Int32, x8 = (v2 + (0 : Int32)) → ∀ x9 : Int32, x9 = v3 + (1 : Int32) → LX12_shows_21 D d x8 x9 M post) ∧ (¬ (gI M 79 v3.toNatClampNeg) = (gI M 79 ((v3 - (1 : Int32)).toNatClampNeg)) → ∀ x10 : Int32, x10 = (v2 + (1 : Int32)) → ∀ x11 : Int32, x11 = v3 + (1 : Int32) → LX12_shows_21 D d x10 x11 M post))))))) :
    LX12_shows_21 D d v2 v3 M post := by
  show AW D (d + 1) 0 0 mX12_shows 0 0 21 [(0, .ref 62), (2, .int v2), (3, .int v3)] [] M post
  refine ab_iload_n 2 dX12_shows_21 rfl ?_
  refine ab_aload_n 0 dX12_shows_22 rfl ?_
  refine ab_getI dX12_shows_23 fs_12_109_12 rfl (hL.sh 62 rfl (by decide) (by decide)).1 (hL.sh 62 rfl (by decide) (by decide)).2 ?_
  refine ab_icmp_ge (tgt := 64) dX12_shows_26 (by decide) (fun c1 => ?_) (fun c1 => ?_)
  · have h := h.1 c1
    refine ab_iload_n 1 dX12_shows_64 rfl ?_
    exact ab_iret dX12_shows_65 rfl h
  · have h := h.2 c1
    refine ab_iload_n 1 dX12_shows_29 rfl ?_
    refine ab_iload_n 2 dX12_shows_30 rfl ?_
    refine ab_if_eq (tgt := 51) dX12_shows_31 (by decide) (fun c2 => ?_) (fun c2 => ?_)
    · have h := h.1 c2
      refine ab_iconst (v := 1) dX12_shows_51 (by decide) ?_
      refine ab_goto (tgt := 56) dX12_shows_52 (by decide) ?_
      refine ab_iadd dX12_shows_56 ?_
      refine ab_topi (fun x3 hx3 => ?_)
      have h := h x3 hx3
      refine ab_istore_n (lv1 := [(2, .int x3), (0, .ref 62), (3, .int v3)]) dX12_shows_57 (by decide) rfl ?_
      obtain ⟨x4, hx4⟩ : ∃ y : Int32, y = v3 + (1 : Int32) := ⟨_, rfl⟩
      have h := h x4 hx4
      refine ab_iinc (v := x4) 2 (lv1 := [(3, .int x4), (2, .int x3), (0, .ref 62)]) dX12_shows_58 rfl (by rw [hx4]; rfl) (by decide) rfl ?_
      refine ab_goto (tgt := 21) dX12_shows_61 (by decide) ?_
      exact ab_sub [2, 1, 0] rfl h
    · have h := h.2 c2
      refine ab_aload_n 0 dX12_shows_34 rfl ?_
      refine ab_getP (r := 79) dX12_shows_35 fs_12_112_12 rfl (hL.sh 62 rfl (by decide) (by decide)).1 (hL.sh 62 rfl (by decide) (by decide)).2 (hL.pt 77 rfl (by decide) (by decide)) ?_
      refine ab_iload_n 2 dX12_shows_38 rfl ?_
      have hb5 := h.1
      have h := h.2
      refine ab_ialdj (j := v3.toNatClampNeg) dX12_shows_39 (hL.sh 79 rfl (by decide) (by decide)) hb5 rfl ?_
      refine ab_aload_n 0 dX12_shows_40 rfl ?_
      refine ab_getP (r := 79) dX12_shows_41 fs_12_112_12 rfl (hL.sh 62 rfl (by decide) (by decide)).1 (hL.sh 62 rfl (by decide) (by decide)).2 (hL.pt 77 rfl (by decide) (by decide)) ?_
      refine ab_iload_n 2 dX12_shows_44 rfl ?_
      refine ab_iconst (v := 1) dX12_shows_45 (by decide) ?_
      refine ab_isub dX12_shows_46 ?_
      have hb6 := h.1
      have h := h.2
      refine ab_ialdj (j := (v3 - (1 : Int32)).toNatClampNeg) dX12_shows_47 (hL.sh 79 rfl (by decide) (by decide)) hb6 rfl ?_
      refine ab_icmp_eq (tgt := 55) dX12_shows_48 (by decide) (fun c7 => ?_) (fun c7 => ?_)
      · have h := h.1 c7
        refine ab_iconst (v := 0) dX12_shows_55 (by decide) ?_
        refine ab_iadd dX12_shows_56 ?_
        refine ab_topi (fun x8 hx8 => ?_)
        have h := h x8 hx8
        refine ab_istore_n (lv1 := [(2, .int x8), (0, .ref 62), (3, .int v3)]) dX12_shows_57 (by decide) rfl ?_
        obtain ⟨x9, hx9⟩ : ∃ y : Int32, y = v3 + (1 : Int32) := ⟨_, rfl⟩
        have h := h x9 hx9
        refine ab_iinc (v := x9) 2 (lv1 := [(3, .int x9), (2, .int x8), (0, .ref 62)]) dX12_shows_58 rfl (by rw [hx9]; rfl) (by decide) rfl ?_
        refine ab_goto (tgt := 21) dX12_shows_61 (by decide) ?_
        exact ab_sub [2, 1, 0] rfl h
      · have h := h.2 c7
        refine ab_iconst (v := 1) dX12_shows_51 (by decide) ?_
        refine ab_goto (tgt := 56) dX12_shows_52 (by decide) ?_
        refine ab_iadd dX12_shows_56 ?_
        refine ab_topi (fun x10 hx10 => ?_)
        have h := h x10 hx10
        refine ab_istore_n (lv1 := [(2, .int x10), (0, .ref 62), (3, .int v3)]) dX12_shows_57 (by decide) rfl ?_
        obtain ⟨x11, hx11⟩ : ∃ y : Int32, y = v3 + (1 : Int32) := ⟨_, rfl⟩
        have h := h x11 hx11
        refine ab_iinc (v := x11) 2 (lv1 := [(3, .int x11), (2, .int x10), (0, .ref 62)]) dX12_shows_58 rfl (by rw [hx11]; rfl) (by decide) rfl ?_
        refine ab_goto (tgt := 21) dX12_shows_61 (by decide) ?_
        exact ab_sub [2, 1, 0] rfl h
theorem dX12_manyTo_0 : decode cX12_manyTo 0 = .ok (.iconst 0, 1) := by decide +kernel
theorem dX12_manyTo_1 : decode cX12_manyTo 1 = .ok (.istore_n 2, 1) := by decide +kernel
theorem dX12_manyTo_2 : decode cX12_manyTo 2 = .ok (.iconst 0, 1) := by decide +kernel
theorem dX12_manyTo_3 : decode cX12_manyTo 3 = .ok (.istore_n 3, 1) := by decide +kernel
theorem dX12_manyTo_4 : decode cX12_manyTo 4 = .ok (.iload_n 3, 1) := by decide +kernel
theorem dX12_manyTo_5 : decode cX12_manyTo 5 = .ok (.aload_n 0, 1) := by decide +kernel
theorem dX12_manyTo_6 : decode cX12_manyTo 6 = .ok (.getfield 109, 3) := by decide +kernel
theorem dX12_manyTo_9 : decode cX12_manyTo 9 = .ok (.if_icmp .ge 27, 3) := by decide +kernel
theorem dX12_manyTo_12 : decode cX12_manyTo 12 = .ok (.iload_n 2, 1) := by decide +kernel
theorem dX12_manyTo_13 : decode cX12_manyTo 13 = .ok (.aload_n 0, 1) := by decide +kernel
theorem dX12_manyTo_14 : decode cX12_manyTo 14 = .ok (.getfield 112, 3) := by decide +kernel
theorem dX12_manyTo_17 : decode cX12_manyTo 17 = .ok (.iload_n 3, 1) := by decide +kernel
theorem dX12_manyTo_18 : decode cX12_manyTo 18 = .ok (.iaload, 1) := by decide +kernel
theorem dX12_manyTo_19 : decode cX12_manyTo 19 = .ok (.iload_n 1, 1) := by decide +kernel
theorem dX12_manyTo_20 : decode cX12_manyTo 20 = .ok (.if_icmp .ne 7, 3) := by decide +kernel
theorem dX12_manyTo_23 : decode cX12_manyTo 23 = .ok (.iconst 1, 1) := by decide +kernel
theorem dX12_manyTo_24 : decode cX12_manyTo 24 = .ok (.goto 4, 3) := by decide +kernel
theorem dX12_manyTo_27 : decode cX12_manyTo 27 = .ok (.iconst 0, 1) := by decide +kernel
theorem dX12_manyTo_28 : decode cX12_manyTo 28 = .ok (.iadd, 1) := by decide +kernel
theorem dX12_manyTo_29 : decode cX12_manyTo 29 = .ok (.istore_n 2, 1) := by decide +kernel
theorem dX12_manyTo_30 : decode cX12_manyTo 30 = .ok (.iinc 3 1, 3) := by decide +kernel
theorem dX12_manyTo_33 : decode cX12_manyTo 33 = .ok (.goto (-29), 3) := by decide +kernel
theorem dX12_manyTo_36 : decode cX12_manyTo 36 = .ok (.iload_n 2, 1) := by decide +kernel
theorem dX12_manyTo_37 : decode cX12_manyTo 37 = .ok (.ireturn, 1) := by decide +kernel
def LX12_manyTo_4 (D : GD) (d : Nat) (v1 : Int32) (v2 : Int32) (v3 : Int32) (M : Mm) (post : Option Value → Mm → Prop) : Prop := AW D d 0 0 mX12_manyTo 0 0 4 [(0, .ref 62), (1, .int v1), (2, .int v2), (3, .int v3)] [] M post
set_option maxRecDepth 20000 in
theorem rX12_manyTo (D : GD) (d : Nat) (a1 : Int32) (M : Mm) (post : Option Value → Mm → Prop) (hL : Lay 62 98 M) 
    (h : LX12_manyTo_4 D d a1 (0 : Int32) (0 : Int32) M post) :
    AM D d 0 0 mX12_manyTo [.ref 62, .int a1] M post := by
  refine AM.of (by decide) (Nat.le_of_ble_eq_true rfl) ?_
  show AW D d 0 0 mX12_manyTo 0 0 0 [(0, .ref 62), (1, .int a1)] [] M post
  refine ab_iconst (v := 0) dX12_manyTo_0 (by decide) ?_
  refine ab_istore_n (lv1 := [(2, .int (0 : Int32)), (0, .ref 62), (1, .int a1)]) dX12_manyTo_1 (by decide) rfl ?_
  refine ab_iconst (v := 0) dX12_manyTo_2 (by decide) ?_
  refine ab_istore_n (lv1 := [(3, .int (0 : Int32)), (2, .int (0 : Int32)), (0, .ref 62), (1, .int a1)]) dX12_manyTo_3 (by decide) rfl ?_
  exact ab_sub [2, 3, 1, 0] rfl h
set_option maxRecDepth 20000 in
theorem rX12_manyTo_4 (D : GD) (d : Nat)  (v1 : Int32) (v2 : Int32) (v3 : Int32) (M : Mm) (post : Option Value → Mm → Prop) (hL : Lay 62 98 M) 
    (h : (((gI M 62 32) ≤ v3 → post (some (.int v2)) M) ∧ (¬ (gI M 62 32) ≤ v3 → vp_in v3 30 ∧ ((¬ (gI M 79 v3.toNatClampNeg) = v1 → ∀ x4 : Int32, x4 = (v2 + (0 : Int32)) → ∀ x5 : Int32, x5 = v3 + (1 : Int32) → LX12_manyTo_4 D d v1 x4 x5 M post) ∧ ((gI M 79 v3.toNatClampNeg) = v1 → ∀ x6 : Int32, x6 = (v2 + (1 : Int32)) → ∀ x7 : Int32, x7 = v3 + (1 : Int32) → LX12_manyTo_4 D d v1 x6 x7 M post))))) :
    LX12_manyTo_4 D d v1 v2 v3 M post := by
  show AW D d 0 0 mX12_manyTo 0 0 4 [(0, .ref 62), (1, .int v1), (2, .int v2), (3, .int v3)] [] M post
  refine ab_iload_n 3 dX12_manyTo_4 rfl ?_
  refine ab_aload_n 0 dX12_manyTo_5 rfl ?_
  refine ab_getI dX12_manyTo_6 fs_12_109_12 rfl (hL.sh 62 rfl (by decide) (by decide)).1 (hL.sh 62 rfl (by decide) (by decide)).2 ?_
  refine ab_icmp_ge (tgt := 36) dX12_manyTo_9 (by decide) (fun c1 => ?_) (fun c1 => ?_)
  · have h := h.1 c1
    refine ab_iload_n 2 dX12_manyTo_36 rfl ?_
    exact ab_iret dX12_manyTo_37 rfl h
  · have h := h.2 c1
    refine ab_iload_n 2 dX12_manyTo_12 rfl ?_
    refine ab_aload_n 0 dX12_manyTo_13 rfl ?_
    refine ab_getP (r := 79) dX12_manyTo_14 fs_12_112_12 rfl (hL.sh 62 rfl (by decide) (by decide)).1 (hL.sh 62 rfl (by decide) (by decide)).2 (hL.pt 77 rfl (by decide) (by decide)) ?_
    refine ab_iload_n 3 dX12_manyTo_17 rfl ?_
    have hb2 := h.1
    have h := h.2
    refine ab_ialdj (j := v3.toNatClampNeg) dX12_manyTo_18 (hL.sh 79 rfl (by decide) (by decide)) hb2 rfl ?_
    refine ab_iload_n 1 dX12_manyTo_19 rfl ?_
    refine ab_icmp_ne (tgt := 27) dX12_manyTo_20 (by decide) (fun c3 => ?_) (fun c3 => ?_)
    · have h := h.1 c3
      refine ab_iconst (v := 0) dX12_manyTo_27 (by decide) ?_
      refine ab_iadd dX12_manyTo_28 ?_
      refine ab_topi (fun x4 hx4 => ?_)
      have h := h x4 hx4
      refine ab_istore_n (lv1 := [(2, .int x4), (0, .ref 62), (1, .int v1), (3, .int v3)]) dX12_manyTo_29 (by decide) rfl ?_
      obtain ⟨x5, hx5⟩ : ∃ y : Int32, y = v3 + (1 : Int32) := ⟨_, rfl⟩
      have h := h x5 hx5
      refine ab_iinc (v := x5) 3 (lv1 := [(3, .int x5), (2, .int x4), (0, .ref 62), (1, .int v1)]) dX12_manyTo_30 rfl (by rw [hx5]; rfl) (by decide) rfl ?_
      refine ab_goto (tgt := 4) dX12_manyTo_33 (by decide) ?_
      exact ab_sub [2, 3, 1, 0] rfl h
    · have h := h.2 c3
      refine ab_iconst (v := 1) dX12_manyTo_23 (by decide) ?_
      refine ab_goto (tgt := 28) dX12_manyTo_24 (by decide) ?_
      refine ab_iadd dX12_manyTo_28 ?_
      refine ab_topi (fun x6 hx6 => ?_)
      have h := h x6 hx6
      refine ab_istore_n (lv1 := [(2, .int x6), (0, .ref 62), (1, .int v1), (3, .int v3)]) dX12_manyTo_29 (by decide) rfl ?_
      obtain ⟨x7, hx7⟩ : ∃ y : Int32, y = v3 + (1 : Int32) := ⟨_, rfl⟩
      have h := h x7 hx7
      refine ab_iinc (v := x7) 3 (lv1 := [(3, .int x7), (2, .int x6), (0, .ref 62), (1, .int v1)]) dX12_manyTo_30 rfl (by rw [hx7]; rfl) (by decide) rfl ?_
      refine ab_goto (tgt := 4) dX12_manyTo_33 (by decide) ?_
      exact ab_sub [2, 3, 1, 0] rfl h
