theorem dX0_settleMixes_0 : decode cX0_settleMixes 0 = .ok (.aload_n 0, 1) := by decide +kernel
theorem dX0_settleMixes_1 : decode cX0_settleMixes 1 = .ok (.iconst 0, 1) := by decide +kernel
theorem dX0_settleMixes_2 : decode cX0_settleMixes 2 = .ok (.invokevirtual 49, 3) := by decide +kernel
theorem dX0_settleMixes_5 : decode cX0_settleMixes 5 = .ok (.aload_n 0, 1) := by decide +kernel
theorem dX0_settleMixes_6 : decode cX0_settleMixes 6 = .ok (.iconst 1, 1) := by decide +kernel
theorem dX0_settleMixes_7 : decode cX0_settleMixes 7 = .ok (.invokevirtual 49, 3) := by decide +kernel
theorem dX0_settleMixes_10 : decode cX0_settleMixes 10 = .ok (.return_, 1) := by decide +kernel
set_option maxRecDepth 20000 in
theorem rX0_settleMixes (D : GD) (d : Nat)  (M : Mm) (post : Option Value → Mm → Prop) (hL : Lay 13 25 M) 
    (h : AMv D d mX0_settleMix [.ref 13, .int (0 : Int32)] M (fun M1 => AMv D d mX0_settleMix [.ref 13, .int (1 : Int32)] M1 (fun M7 => post none M7))) :
    AM D (d + 1) 0 0 mX0_settleMixes [.ref 13] M post := by
  refine AM.of (by decide) (Nat.le_of_ble_eq_true rfl) ?_
  show AW D (d + 1) 0 0 mX0_settleMixes 0 0 0 [(0, .ref 13)] [] M post
  refine ab_aload_n 0 dX0_settleMixes_0 rfl ?_
  refine ab_iconst (v := 0) dX0_settleMixes_1 (by decide) ?_
  refine ab_callV (a := 13) (c0 := 0) (d' := d) (mc' := 0) (ms' := 0) (vs := [.int (0 : Int32)]) (st := []) dX0_settleMixes_2 ⟨cw_X0_settleMix, w_156⟩ w_158 w_0 (by decide) (hL.sh 13 rfl (by decide) (by decide)).1 (hL.sh 13 rfl (by decide) (by decide)).2 rfl rfl (Nat.le_of_ble_eq_true rfl) (Nat.le_refl _) (Nat.zero_le _) (Nat.zero_le _) (AM.mono h (fun r M1 ⟨hr3, hc4, h⟩ => ?_))
  subst hr3
  refine ab_rv ?_
  have hm5 : Sm M M1 := (Sm.refl M).trans hc4
  have hl6 := hL.of hm5
  refine ab_aload_n 0 dX0_settleMixes_5 rfl ?_
  refine ab_iconst (v := 1) dX0_settleMixes_6 (by decide) ?_
  refine ab_callV (a := 13) (c0 := 0) (d' := d) (mc' := 0) (ms' := 0) (vs := [.int (1 : Int32)]) (st := []) dX0_settleMixes_7 ⟨cw_X0_settleMix, w_156⟩ w_158 w_0 (by decide) (hl6.sh 13 rfl (by decide) (by decide)).1 (hl6.sh 13 rfl (by decide) (by decide)).2 rfl rfl (Nat.le_of_ble_eq_true rfl) (Nat.le_refl _) (Nat.zero_le _) (Nat.zero_le _) (AM.mono h (fun r M7 ⟨hr9, hc10, h⟩ => ?_))
  subst hr9
  refine ab_rv ?_
  have hm11 : Sm M M7 := hm5.trans hc10
  have hl12 := hL.of hm11
  exact ab_vret dX0_settleMixes_10 rfl h
theorem dX0_settleMix_0 : decode cX0_settleMix 0 = .ok (.iconst 0, 1) := by decide +kernel
theorem dX0_settleMix_1 : decode cX0_settleMix 1 = .ok (.istore_n 2, 1) := by decide +kernel
theorem dX0_settleMix_2 : decode cX0_settleMix 2 = .ok (.iconst 0, 1) := by decide +kernel
theorem dX0_settleMix_3 : decode cX0_settleMix 3 = .ok (.istore_n 3, 1) := by decide +kernel
theorem dX0_settleMix_4 : decode cX0_settleMix 4 = .ok (.iload_n 3, 1) := by decide +kernel
theorem dX0_settleMix_5 : decode cX0_settleMix 5 = .ok (.bipush 20, 2) := by decide +kernel
theorem dX0_settleMix_7 : decode cX0_settleMix 7 = .ok (.if_icmp .gt 106, 3) := by decide +kernel
theorem dX0_settleMix_10 : decode cX0_settleMix 10 = .ok (.iconst 0, 1) := by decide +kernel
theorem dX0_settleMix_11 : decode cX0_settleMix 11 = .ok (.istore 4, 2) := by decide +kernel
theorem dX0_settleMix_13 : decode cX0_settleMix 13 = .ok (.iload 4, 2) := by decide +kernel
theorem dX0_settleMix_15 : decode cX0_settleMix 15 = .ok (.bipush 20, 2) := by decide +kernel
theorem dX0_settleMix_17 : decode cX0_settleMix 17 = .ok (.iload_n 3, 1) := by decide +kernel
theorem dX0_settleMix_18 : decode cX0_settleMix 18 = .ok (.isub, 1) := by decide +kernel
theorem dX0_settleMix_19 : decode cX0_settleMix 19 = .ok (.if_icmp .gt 88, 3) := by decide +kernel
theorem dX0_settleMix_22 : decode cX0_settleMix 22 = .ok (.bipush 20, 2) := by decide +kernel
theorem dX0_settleMix_24 : decode cX0_settleMix 24 = .ok (.iload_n 3, 1) := by decide +kernel
theorem dX0_settleMix_25 : decode cX0_settleMix 25 = .ok (.isub, 1) := by decide +kernel
theorem dX0_settleMix_26 : decode cX0_settleMix 26 = .ok (.iload 4, 2) := by decide +kernel
theorem dX0_settleMix_28 : decode cX0_settleMix 28 = .ok (.isub, 1) := by decide +kernel
theorem dX0_settleMix_29 : decode cX0_settleMix 29 = .ok (.istore 5, 2) := by decide +kernel
theorem dX0_settleMix_31 : decode cX0_settleMix 31 = .ok (.aload_n 0, 1) := by decide +kernel
theorem dX0_settleMix_32 : decode cX0_settleMix 32 = .ok (.iload_n 1, 1) := by decide +kernel
theorem dX0_settleMix_33 : decode cX0_settleMix 33 = .ok (.iload_n 3, 1) := by decide +kernel
theorem dX0_settleMix_34 : decode cX0_settleMix 34 = .ok (.iload 4, 2) := by decide +kernel
theorem dX0_settleMix_36 : decode cX0_settleMix 36 = .ok (.iload 5, 2) := by decide +kernel
theorem dX0_settleMix_38 : decode cX0_settleMix 38 = .ok (.invokevirtual 53, 3) := by decide +kernel
theorem dX0_settleMix_41 : decode cX0_settleMix 41 = .ok (.istore 6, 2) := by decide +kernel
theorem dX0_settleMix_43 : decode cX0_settleMix 43 = .ok (.iload_n 2, 1) := by decide +kernel
theorem dX0_settleMix_44 : decode cX0_settleMix 44 = .ok (.ifCond .eq 18, 3) := by decide +kernel
theorem dX0_settleMix_47 : decode cX0_settleMix 47 = .ok (.iload_n 1, 1) := by decide +kernel
theorem dX0_settleMix_48 : decode cX0_settleMix 48 = .ok (.iload 6, 2) := by decide +kernel
theorem dX0_settleMix_50 : decode cX0_settleMix 50 = .ok (.aload_n 0, 1) := by decide +kernel
theorem dX0_settleMix_51 : decode cX0_settleMix 51 = .ok (.getfield 20, 3) := by decide +kernel
theorem dX0_settleMix_54 : decode cX0_settleMix 54 = .ok (.iload_n 1, 1) := by decide +kernel
theorem dX0_settleMix_55 : decode cX0_settleMix 55 = .ok (.iaload, 1) := by decide +kernel
theorem dX0_settleMix_56 : decode cX0_settleMix 56 = .ok (.invokestatic 57, 3) := by decide +kernel
theorem dX0_settleMix_59 : decode cX0_settleMix 59 = .ok (.ifCond .eq 42, 3) := by decide +kernel
theorem dX0_settleMix_62 : decode cX0_settleMix 62 = .ok (.iconst 1, 1) := by decide +kernel
theorem dX0_settleMix_63 : decode cX0_settleMix 63 = .ok (.istore_n 2, 1) := by decide +kernel
theorem dX0_settleMix_64 : decode cX0_settleMix 64 = .ok (.aload_n 0, 1) := by decide +kernel
theorem dX0_settleMix_65 : decode cX0_settleMix 65 = .ok (.getfield 20, 3) := by decide +kernel
theorem dX0_settleMix_68 : decode cX0_settleMix 68 = .ok (.iload_n 1, 1) := by decide +kernel
theorem dX0_settleMix_69 : decode cX0_settleMix 69 = .ok (.iload 6, 2) := by decide +kernel
theorem dX0_settleMix_71 : decode cX0_settleMix 71 = .ok (.iastore, 1) := by decide +kernel
theorem dX0_settleMix_72 : decode cX0_settleMix 72 = .ok (.aload_n 0, 1) := by decide +kernel
theorem dX0_settleMix_73 : decode cX0_settleMix 73 = .ok (.getfield 17, 3) := by decide +kernel
theorem dX0_settleMix_76 : decode cX0_settleMix 76 = .ok (.iload_n 1, 1) := by decide +kernel
theorem dX0_settleMix_77 : decode cX0_settleMix 77 = .ok (.aaload, 1) := by decide +kernel
theorem dX0_settleMix_78 : decode cX0_settleMix 78 = .ok (.iconst 0, 1) := by decide +kernel
theorem dX0_settleMix_79 : decode cX0_settleMix 79 = .ok (.iload_n 3, 1) := by decide +kernel
theorem dX0_settleMix_80 : decode cX0_settleMix 80 = .ok (.iastore, 1) := by decide +kernel
theorem dX0_settleMix_81 : decode cX0_settleMix 81 = .ok (.aload_n 0, 1) := by decide +kernel
theorem dX0_settleMix_82 : decode cX0_settleMix 82 = .ok (.getfield 17, 3) := by decide +kernel
theorem dX0_settleMix_85 : decode cX0_settleMix 85 = .ok (.iload_n 1, 1) := by decide +kernel
theorem dX0_settleMix_86 : decode cX0_settleMix 86 = .ok (.aaload, 1) := by decide +kernel
theorem dX0_settleMix_87 : decode cX0_settleMix 87 = .ok (.iconst 1, 1) := by decide +kernel
theorem dX0_settleMix_88 : decode cX0_settleMix 88 = .ok (.iload 4, 2) := by decide +kernel
theorem dX0_settleMix_90 : decode cX0_settleMix 90 = .ok (.iastore, 1) := by decide +kernel
theorem dX0_settleMix_91 : decode cX0_settleMix 91 = .ok (.aload_n 0, 1) := by decide +kernel
theorem dX0_settleMix_92 : decode cX0_settleMix 92 = .ok (.getfield 17, 3) := by decide +kernel
theorem dX0_settleMix_95 : decode cX0_settleMix 95 = .ok (.iload_n 1, 1) := by decide +kernel
theorem dX0_settleMix_96 : decode cX0_settleMix 96 = .ok (.aaload, 1) := by decide +kernel
theorem dX0_settleMix_97 : decode cX0_settleMix 97 = .ok (.iconst 2, 1) := by decide +kernel
theorem dX0_settleMix_98 : decode cX0_settleMix 98 = .ok (.iload 5, 2) := by decide +kernel
theorem dX0_settleMix_100 : decode cX0_settleMix 100 = .ok (.iastore, 1) := by decide +kernel
theorem dX0_settleMix_101 : decode cX0_settleMix 101 = .ok (.iinc 4 1, 3) := by decide +kernel
theorem dX0_settleMix_104 : decode cX0_settleMix 104 = .ok (.goto (-91), 3) := by decide +kernel
theorem dX0_settleMix_107 : decode cX0_settleMix 107 = .ok (.iinc 3 1, 3) := by decide +kernel
theorem dX0_settleMix_110 : decode cX0_settleMix 110 = .ok (.goto (-106), 3) := by decide +kernel
theorem dX0_settleMix_113 : decode cX0_settleMix 113 = .ok (.return_, 1) := by decide +kernel
def LX0_settleMix_4 (D : GD) (d : Nat) (v1 : Int32) (v2 : Int32) (v3 : Int32) (M : Mm) (post : Option Value → Mm → Prop) : Prop := AW D (d + 1) 0 0 mX0_settleMix 0 0 4 [(0, .ref 13), (1, .int v1), (2, .int v2), (3, .int v3)] [] M post
def LX0_settleMix_13 (D : GD) (d : Nat) (v1 : Int32) (v2 : Int32) (v3 : Int32) (v4 : Int32) (M : Mm) (post : Option Value → Mm → Prop) : Prop := AW D (d + 1) 0 0 mX0_settleMix 0 0 13 [(0, .ref 13), (1, .int v1), (2, .int v2), (3, .int v3), (4, .int v4)] [] M post
set_option maxRecDepth 20000 in
theorem rX0_settleMix (D : GD) (d : Nat) (a1 : Int32) (M : Mm) (post : Option Value → Mm → Prop) (hL : Lay 13 25 M) 
    (h : LX0_settleMix_4 D d a1 (0 : Int32) (0 : Int32) M post) :
    AM D (d + 1) 0 0 mX0_settleMix [.ref 13, .int a1] M post := by
  refine AM.of (by decide) (Nat.le_of_ble_eq_true rfl) ?_
  show AW D (d + 1) 0 0 mX0_settleMix 0 0 0 [(0, .ref 13), (1, .int a1)] [] M post
  refine ab_iconst (v := 0) dX0_settleMix_0 (by decide) ?_
  refine ab_istore_n (lv1 := [(2, .int (0 : Int32)), (0, .ref 13), (1, .int a1)]) dX0_settleMix_1 (by decide) rfl ?_
  refine ab_iconst (v := 0) dX0_settleMix_2 (by decide) ?_
  refine ab_istore_n (lv1 := [(3, .int (0 : Int32)), (2, .int (0 : Int32)), (0, .ref 13), (1, .int a1)]) dX0_settleMix_3 (by decide) rfl ?_
  exact ab_sub [2, 3, 1, 0] rfl h
set_option maxRecDepth 20000 in
theorem rX0_settleMix_4 (D : GD) (d : Nat)  (v1 : Int32) (v2 : Int32) (v3 : Int32) (M : Mm) (post : Option Value → Mm → Prop) (hL : Lay 13 25 M) 
    (h : (((20 : Int32) < v3 → post none M) ∧ (¬ (20 : Int32) < v3 → LX0_settleMix_13 D d v1 v2 v3 (0 : Int32) M post))) :
    LX0_settleMix_4 D d v1 v2 v3 M post := by
  show AW D (d + 1) 0 0 mX0_settleMix 0 0 4 [(0, .ref 13), (1, .int v1), (2, .int v2), (3, .int v3)] [] M post
  refine ab_iload_n 3 dX0_settleMix_4 rfl ?_
  refine ab_bipush (v := 20) dX0_settleMix_5 (by decide) ?_
  refine ab_icmp_gt (tgt := 113) dX0_settleMix_7 (by decide) (fun c1 => ?_) (fun c1 => ?_)
  · have h := h.1 c1
    exact ab_vret dX0_settleMix_113 rfl h
  · have h := h.2 c1
    refine ab_iconst (v := 0) dX0_settleMix_10 (by decide) ?_
    refine ab_istore (lv1 := [(4, .int (0 : Int32)), (0, .ref 13), (1, .int v1), (2, .int v2), (3, .int v3)]) dX0_settleMix_11 (by decide) rfl ?_
    exact ab_sub [1, 2, 3, 4, 0] rfl h
set_option maxRecDepth 20000 in
theorem rX0_settleMix_13 (D : GD) (d : Nat)  (v1 : Int32) (v2 : Int32) (v3 : Int32) (v4 : Int32) (M : Mm) (post : Option Value → Mm → Prop) (hL : Lay 13 25 M) 
    (h : ((((20 : Int32) - v3) < v4 → ∀ x2 : Int32, x2 = v3 + (1 : Int32) → LX0_settleMix_4 D d v1 v2 x2 M post) ∧ (¬ ((20 : Int32) - v3) < v4 → ∀ x3 : Int32, x3 = (((20 : Int32) - v3) - v4) → AMi D d mX0_worstChance [.ref 13, .int v1, .int v3, .int v4, .int x3] M (fun x5 M4 => ((v2 = 0 → vp_in v1 2 ∧ ∀ M12 : Mm, M12 = sI M4 18 v1.toNatClampNeg x5 → ∀ M16 : Mm, M16 = sI M12 (16 + v1.toNatClampNeg) 0 v3 → ∀ M20 : Mm, M20 = sI M16 (16 + v1.toNatClampNeg) 1 v4 → ∀ M24 : Mm, M24 = sI M20 (16 + v1.toNatClampNeg) 2 x3 → ∀ x28 : Int32, x28 = v4 + (1 : Int32) → LX0_settleMix_13 D d v1 (1 : Int32) v3 x28 M24 post) ∧ (¬ v2 = 0 → vp_in v1 2 ∧ AMi D d mX0_isBetter [.int v1, .int x5, .int (gI M4 18 v1.toNatClampNeg)] M4 (fun x31 M30 => ((x31 = 0 → ∀ x37 : Int32, x37 = v4 + (1 : Int32) → LX0_settleMix_13 D d v1 v2 v3 x37 M30 post) ∧ (¬ x31 = 0 → ∀ M38 : Mm, M38 = sI M30 18 v1.toNatClampNeg x5 → ∀ M42 : Mm, M42 = sI M38 (16 + v1.toNatClampNeg) 0 v3 → ∀ M46 : Mm, M46 = sI M42 (16 + v1.toNatClampNeg) 1 v4 → ∀ M50 : Mm, M50 = sI M46 (16 + v1.toNatClampNeg) 2 x3 → ∀ x54 : Int32, x54 = v4 + (1 : Int32) → LX0_settleMix_13 D d v1 (1 : Int32) v3 x54 M50 post))))))))) :
    LX0_settleMix_13 D d v1 v2 v3 v4 M post := by
  show AW D (d + 1) 0 0 mX0_settleMix 0 0 13 [(0, .ref 13), (1, .int v1), (2, .int v2), (3, .int v3), (4, .int v4)] [] M post
  refine ab_iload 4 dX0_settleMix_13 rfl ?_
  refine ab_bipush (v := 20) dX0_settleMix_15 (by decide) ?_
  refine ab_iload_n 3 dX0_settleMix_17 rfl ?_
  refine ab_isub dX0_settleMix_18 ?_
  refine ab_icmp_gt (tgt := 107) dX0_settleMix_19 (by decide) (fun c1 => ?_) (fun c1 => ?_)
  · have h := h.1 c1
    obtain ⟨x2, hx2⟩ : ∃ y : Int32, y = v3 + (1 : Int32) := ⟨_, rfl⟩
    have h := h x2 hx2
    refine ab_iinc (v := x2) 3 (lv1 := [(3, .int x2), (0, .ref 13), (1, .int v1), (2, .int v2), (4, .int v4)]) dX0_settleMix_107 rfl (by rw [hx2]; rfl) (by decide) rfl ?_
    refine ab_goto (tgt := 4) dX0_settleMix_110 (by decide) ?_
    exact ab_sub [1, 2, 3, 0] rfl h
  · have h := h.2 c1
    refine ab_bipush (v := 20) dX0_settleMix_22 (by decide) ?_
    refine ab_iload_n 3 dX0_settleMix_24 rfl ?_
    refine ab_isub dX0_settleMix_25 ?_
    refine ab_iload 4 dX0_settleMix_26 rfl ?_
    refine ab_isub dX0_settleMix_28 ?_
    refine ab_topi (fun x3 hx3 => ?_)
    have h := h x3 hx3
    refine ab_istore (lv1 := [(5, .int x3), (0, .ref 13), (1, .int v1), (2, .int v2), (3, .int v3), (4, .int v4)]) dX0_settleMix_29 (by decide) rfl ?_
    refine ab_aload_n 1 dX0_settleMix_31 rfl ?_
    refine ab_iload_n 2 dX0_settleMix_32 rfl ?_
    refine ab_iload_n 4 dX0_settleMix_33 rfl ?_
    refine ab_iload 5 dX0_settleMix_34 rfl ?_
    refine ab_iload 0 dX0_settleMix_36 rfl ?_
    refine ab_callV (a := 13) (c0 := 0) (d' := d) (mc' := 0) (ms' := 0) (vs := [.int v1, .int v3, .int v4, .int x3]) (st := []) dX0_settleMix_38 ⟨cw_X0_worstChance, w_160⟩ w_162 w_1 (by decide) (hL.sh 13 rfl (by decide) (by decide)).1 (hL.sh 13 rfl (by decide) (by decide)).2 rfl rfl (Nat.le_of_ble_eq_true rfl) (Nat.le_refl _) (Nat.zero_le _) (Nat.zero_le _) (AM.mono h (fun r M4 ⟨x5, hr6, hc7, h⟩ => ?_))
    subst hr6
    refine ab_rs ?_
    have hm8 : Sm M M4 := (Sm.refl M).trans hc7
    have hl9 := hL.of hm8
    refine ab_istore (lv1 := [(6, .int x5), (5, .int x3), (0, .ref 13), (1, .int v1), (2, .int v2), (3, .int v3), (4, .int v4)]) dX0_settleMix_41 (by decide) rfl ?_
    refine ab_iload_n 4 dX0_settleMix_43 rfl ?_
    refine ab_if_eq (tgt := 62) dX0_settleMix_44 (by decide) (fun c10 => ?_) (fun c10 => ?_)
    · have h := h.1 c10
      refine ab_iconst (v := 1) dX0_settleMix_62 (by decide) ?_
      refine ab_istore_n (lv1 := [(2, .int (1 : Int32)), (6, .int x5), (5, .int x3), (0, .ref 13), (1, .int v1), (3, .int v3), (4, .int v4)]) dX0_settleMix_63 (by decide) rfl ?_
      refine ab_aload_n 3 dX0_settleMix_64 rfl ?_
      refine ab_getP (r := 18) dX0_settleMix_65 fs_0_20_0 rfl (hl9.sh 13 rfl (by decide) (by decide)).1 (hl9.sh 13 rfl (by decide) (by decide)).2 (hl9.pt 24 rfl (by decide) (by decide)) ?_
      refine ab_iload_n 4 dX0_settleMix_68 rfl ?_
      refine ab_iload 1 dX0_settleMix_69 rfl ?_
      have hb11 := h.1
      have h := h.2
      refine ab_iastj (j := v1.toNatClampNeg) dX0_settleMix_71 (hl9.sh 18 rfl (by decide) (by decide)) hb11 rfl ?_
      refine ab_nameM (fun M12 hM12 => ?_)
      have h := h M12 hM12
      have hs15 : Sm M4 M12 := hM12 ▸ (Sm.refl _).i
      have hm13 : Sm M M12 := hm8.trans hs15
      have hl14 := hL.of hm13
      refine ab_aload_n 3 dX0_settleMix_72 rfl ?_
      refine ab_getP (r := 15) dX0_settleMix_73 fs_0_17_0 rfl (hl14.sh 13 rfl (by decide) (by decide)).1 (hl14.sh 13 rfl (by decide) (by decide)).2 (hl14.pt 23 rfl (by decide) (by decide)) ?_
      refine ab_iload_n 4 dX0_settleMix_76 rfl ?_
      refine ab_aald4j (j := v1.toNatClampNeg) (r := 16 + v1.toNatClampNeg) dX0_settleMix_77 (hl14.sh 15 rfl (by decide) (by decide)) hb11 rfl (row_15 hl14 (by decide) (by decide) (vin_lt hb11)).1 ?_
      refine ab_iconst (v := 0) dX0_settleMix_78 (by decide) ?_
      refine ab_iload_n 5 dX0_settleMix_79 rfl ?_
      refine ab_iastj (j := 0) dX0_settleMix_80 (row_15 hl14 (by decide) (by decide) (vin_lt hb11)).2 (vin (by decide)) (by decide) ?_
      refine ab_nameM (fun M16 hM16 => ?_)
      have h := h M16 hM16
      have hs19 : Sm M12 M16 := hM16 ▸ (Sm.refl _).i
      have hm17 : Sm M M16 := hm13.trans hs19
      have hl18 := hL.of hm17
      refine ab_aload_n 3 dX0_settleMix_81 rfl ?_
      refine ab_getP (r := 15) dX0_settleMix_82 fs_0_17_0 rfl (hl18.sh 13 rfl (by decide) (by decide)).1 (hl18.sh 13 rfl (by decide) (by decide)).2 (hl18.pt 23 rfl (by decide) (by decide)) ?_
      refine ab_iload_n 4 dX0_settleMix_85 rfl ?_
      refine ab_aald4j (j := v1.toNatClampNeg) (r := 16 + v1.toNatClampNeg) dX0_settleMix_86 (hl18.sh 15 rfl (by decide) (by decide)) hb11 rfl (row_15 hl18 (by decide) (by decide) (vin_lt hb11)).1 ?_
      refine ab_iconst (v := 1) dX0_settleMix_87 (by decide) ?_
      refine ab_iload 6 dX0_settleMix_88 rfl ?_
      refine ab_iastj (j := 1) dX0_settleMix_90 (row_15 hl18 (by decide) (by decide) (vin_lt hb11)).2 (vin (by decide)) (by decide) ?_
      refine ab_nameM (fun M20 hM20 => ?_)
      have h := h M20 hM20
      have hs23 : Sm M16 M20 := hM20 ▸ (Sm.refl _).i
      have hm21 : Sm M M20 := hm17.trans hs23
      have hl22 := hL.of hm21
      refine ab_aload_n 3 dX0_settleMix_91 rfl ?_
      refine ab_getP (r := 15) dX0_settleMix_92 fs_0_17_0 rfl (hl22.sh 13 rfl (by decide) (by decide)).1 (hl22.sh 13 rfl (by decide) (by decide)).2 (hl22.pt 23 rfl (by decide) (by decide)) ?_
      refine ab_iload_n 4 dX0_settleMix_95 rfl ?_
      refine ab_aald4j (j := v1.toNatClampNeg) (r := 16 + v1.toNatClampNeg) dX0_settleMix_96 (hl22.sh 15 rfl (by decide) (by decide)) hb11 rfl (row_15 hl22 (by decide) (by decide) (vin_lt hb11)).1 ?_
      refine ab_iconst (v := 2) dX0_settleMix_97 (by decide) ?_
      refine ab_iload 2 dX0_settleMix_98 rfl ?_
      refine ab_iastj (j := 2) dX0_settleMix_100 (row_15 hl22 (by decide) (by decide) (vin_lt hb11)).2 (vin (by decide)) (by decide) ?_
      refine ab_nameM (fun M24 hM24 => ?_)
      have h := h M24 hM24
      have hs27 : Sm M20 M24 := hM24 ▸ (Sm.refl _).i
      have hm25 : Sm M M24 := hm21.trans hs27
      have hl26 := hL.of hm25
      obtain ⟨x28, hx28⟩ : ∃ y : Int32, y = v4 + (1 : Int32) := ⟨_, rfl⟩
      have h := h x28 hx28
      refine ab_iinc (v := x28) 6 (lv1 := [(4, .int x28), (2, .int (1 : Int32)), (6, .int x5), (5, .int x3), (0, .ref 13), (1, .int v1), (3, .int v3)]) dX0_settleMix_101 rfl (by rw [hx28]; rfl) (by decide) rfl ?_
      refine ab_goto (tgt := 13) dX0_settleMix_104 (by decide) ?_
      exact ab_sub [4, 5, 1, 6, 0] rfl h
    · have h := h.2 c10
      refine ab_iload_n 3 dX0_settleMix_47 rfl ?_
      refine ab_iload 0 dX0_settleMix_48 rfl ?_
      refine ab_aload_n 2 dX0_settleMix_50 rfl ?_
      refine ab_getP (r := 18) dX0_settleMix_51 fs_0_20_0 rfl (hl9.sh 13 rfl (by decide) (by decide)).1 (hl9.sh 13 rfl (by decide) (by decide)).2 (hl9.pt 24 rfl (by decide) (by decide)) ?_
      refine ab_iload_n 3 dX0_settleMix_54 rfl ?_
      have hb29 := h.1
      have h := h.2
      refine ab_ialdj (j := v1.toNatClampNeg) dX0_settleMix_55 (hl9.sh 18 rfl (by decide) (by decide)) hb29 rfl ?_
      refine ab_callS (d' := d) (mc' := 0) (ms' := 0) (vs := [.int v1, .int x5, .int (gI M4 18 v1.toNatClampNeg)]) (st := []) dX0_settleMix_56 ⟨cw_X0_isBetter, w_168⟩ w_169 rfl rfl (Nat.le_of_ble_eq_true rfl) (Nat.le_refl _) (Nat.zero_le _) (Nat.zero_le _) (AM.mono h (fun r M30 ⟨x31, hr32, hc33, h⟩ => ?_))
      subst hr32
      refine ab_rs ?_
      have hm34 : Sm M M30 := hm8.trans hc33
      have hl35 := hL.of hm34
      refine ab_if_eq (tgt := 101) dX0_settleMix_59 (by decide) (fun c36 => ?_) (fun c36 => ?_)
      · have h := h.1 c36
        obtain ⟨x37, hx37⟩ : ∃ y : Int32, y = v4 + (1 : Int32) := ⟨_, rfl⟩
        have h := h x37 hx37
        refine ab_iinc (v := x37) 6 (lv1 := [(4, .int x37), (6, .int x5), (5, .int x3), (0, .ref 13), (1, .int v1), (2, .int v2), (3, .int v3)]) dX0_settleMix_101 rfl (by rw [hx37]; rfl) (by decide) rfl ?_
        refine ab_goto (tgt := 13) dX0_settleMix_104 (by decide) ?_
        exact ab_sub [3, 4, 5, 6, 0] rfl h
      · have h := h.2 c36
        refine ab_iconst (v := 1) dX0_settleMix_62 (by decide) ?_
        refine ab_istore_n (lv1 := [(2, .int (1 : Int32)), (6, .int x5), (5, .int x3), (0, .ref 13), (1, .int v1), (3, .int v3), (4, .int v4)]) dX0_settleMix_63 (by decide) rfl ?_
        refine ab_aload_n 3 dX0_settleMix_64 rfl ?_
        refine ab_getP (r := 18) dX0_settleMix_65 fs_0_20_0 rfl (hl35.sh 13 rfl (by decide) (by decide)).1 (hl35.sh 13 rfl (by decide) (by decide)).2 (hl35.pt 24 rfl (by decide) (by decide)) ?_
        refine ab_iload_n 4 dX0_settleMix_68 rfl ?_
        refine ab_iload 1 dX0_settleMix_69 rfl ?_
        refine ab_iastj (j := v1.toNatClampNeg) dX0_settleMix_71 (hl35.sh 18 rfl (by decide) (by decide)) hb29 rfl ?_
        refine ab_nameM (fun M38 hM38 => ?_)
        have h := h M38 hM38
        have hs41 : Sm M30 M38 := hM38 ▸ (Sm.refl _).i
        have hm39 : Sm M M38 := hm34.trans hs41
        have hl40 := hL.of hm39
        refine ab_aload_n 3 dX0_settleMix_72 rfl ?_
        refine ab_getP (r := 15) dX0_settleMix_73 fs_0_17_0 rfl (hl40.sh 13 rfl (by decide) (by decide)).1 (hl40.sh 13 rfl (by decide) (by decide)).2 (hl40.pt 23 rfl (by decide) (by decide)) ?_
        refine ab_iload_n 4 dX0_settleMix_76 rfl ?_
        refine ab_aald4j (j := v1.toNatClampNeg) (r := 16 + v1.toNatClampNeg) dX0_settleMix_77 (hl40.sh 15 rfl (by decide) (by decide)) hb29 rfl (row_15 hl40 (by decide) (by decide) (vin_lt hb29)).1 ?_
        refine ab_iconst (v := 0) dX0_settleMix_78 (by decide) ?_
        refine ab_iload_n 5 dX0_settleMix_79 rfl ?_
        refine ab_iastj (j := 0) dX0_settleMix_80 (row_15 hl40 (by decide) (by decide) (vin_lt hb29)).2 (vin (by decide)) (by decide) ?_
        refine ab_nameM (fun M42 hM42 => ?_)
        have h := h M42 hM42
        have hs45 : Sm M38 M42 := hM42 ▸ (Sm.refl _).i
        have hm43 : Sm M M42 := hm39.trans hs45
        have hl44 := hL.of hm43
        refine ab_aload_n 3 dX0_settleMix_81 rfl ?_
        refine ab_getP (r := 15) dX0_settleMix_82 fs_0_17_0 rfl (hl44.sh 13 rfl (by decide) (by decide)).1 (hl44.sh 13 rfl (by decide) (by decide)).2 (hl44.pt 23 rfl (by decide) (by decide)) ?_
        refine ab_iload_n 4 dX0_settleMix_85 rfl ?_
        refine ab_aald4j (j := v1.toNatClampNeg) (r := 16 + v1.toNatClampNeg) dX0_settleMix_86 (hl44.sh 15 rfl (by decide) (by decide)) hb29 rfl (row_15 hl44 (by decide) (by decide) (vin_lt hb29)).1 ?_
        refine ab_iconst (v := 1) dX0_settleMix_87 (by decide) ?_
        refine ab_iload 6 dX0_settleMix_88 rfl ?_
        refine ab_iastj (j := 1) dX0_settleMix_90 (row_15 hl44 (by decide) (by decide) (vin_lt hb29)).2 (vin (by decide)) (by decide) ?_
        refine ab_nameM (fun M46 hM46 => ?_)
        have h := h M46 hM46
        have hs49 : Sm M42 M46 := hM46 ▸ (Sm.refl _).i
        have hm47 : Sm M M46 := hm43.trans hs49
        have hl48 := hL.of hm47
        refine ab_aload_n 3 dX0_settleMix_91 rfl ?_
        refine ab_getP (r := 15) dX0_settleMix_92 fs_0_17_0 rfl (hl48.sh 13 rfl (by decide) (by decide)).1 (hl48.sh 13 rfl (by decide) (by decide)).2 (hl48.pt 23 rfl (by decide) (by decide)) ?_
        refine ab_iload_n 4 dX0_settleMix_95 rfl ?_
        refine ab_aald4j (j := v1.toNatClampNeg) (r := 16 + v1.toNatClampNeg) dX0_settleMix_96 (hl48.sh 15 rfl (by decide) (by decide)) hb29 rfl (row_15 hl48 (by decide) (by decide) (vin_lt hb29)).1 ?_
        refine ab_iconst (v := 2) dX0_settleMix_97 (by decide) ?_
        refine ab_iload 2 dX0_settleMix_98 rfl ?_
        refine ab_iastj (j := 2) dX0_settleMix_100 (row_15 hl48 (by decide) (by decide) (vin_lt hb29)).2 (vin (by decide)) (by decide) ?_
        refine ab_nameM (fun M50 hM50 => ?_)
        have h := h M50 hM50
        have hs53 : Sm M46 M50 := hM50 ▸ (Sm.refl _).i
        have hm51 : Sm M M50 := hm47.trans hs53
        have hl52 := hL.of hm51
        obtain ⟨x54, hx54⟩ : ∃ y : Int32, y = v4 + (1 : Int32) := ⟨_, rfl⟩
        have h := h x54 hx54
        refine ab_iinc (v := x54) 6 (lv1 := [(4, .int x54), (2, .int (1 : Int32)), (6, .int x5), (5, .int x3), (0, .ref 13), (1, .int v1), (3, .int v3)]) dX0_settleMix_101 rfl (by rw [hx54]; rfl) (by decide) rfl ?_
        refine ab_goto (tgt := 13) dX0_settleMix_104 (by decide) ?_
        exact ab_sub [4, 5, 1, 6, 0] rfl h
theorem dX0_worstChance_0 : decode cX0_worstChance 0 = .ok (.iconst 0, 1) := by decide +kernel
theorem dX0_worstChance_1 : decode cX0_worstChance 1 = .ok (.istore 5, 2) := by decide +kernel
theorem dX0_worstChance_3 : decode cX0_worstChance 3 = .ok (.iconst 0, 1) := by decide +kernel
theorem dX0_worstChance_4 : decode cX0_worstChance 4 = .ok (.istore 6, 2) := by decide +kernel
theorem dX0_worstChance_6 : decode cX0_worstChance 6 = .ok (.iload 6, 2) := by decide +kernel
theorem dX0_worstChance_8 : decode cX0_worstChance 8 = .ok (.iconst 3, 1) := by decide +kernel
theorem dX0_worstChance_9 : decode cX0_worstChance 9 = .ok (.if_icmp .ge 66, 3) := by decide +kernel
theorem dX0_worstChance_12 : decode cX0_worstChance 12 = .ok (.iload_n 2, 1) := by decide +kernel
theorem dX0_worstChance_13 : decode cX0_worstChance 13 = .ok (.aload_n 0, 1) := by decide +kernel
theorem dX0_worstChance_14 : decode cX0_worstChance 14 = .ok (.iload_n 1, 1) := by decide +kernel
theorem dX0_worstChance_15 : decode cX0_worstChance 15 = .ok (.iconst 0, 1) := by decide +kernel
theorem dX0_worstChance_16 : decode cX0_worstChance 16 = .ok (.iload 6, 2) := by decide +kernel
theorem dX0_worstChance_18 : decode cX0_worstChance 18 = .ok (.invokevirtual 61, 3) := by decide +kernel
theorem dX0_worstChance_21 : decode cX0_worstChance 21 = .ok (.imul, 1) := by decide +kernel
theorem dX0_worstChance_22 : decode cX0_worstChance 22 = .ok (.iload_n 3, 1) := by decide +kernel
theorem dX0_worstChance_23 : decode cX0_worstChance 23 = .ok (.aload_n 0, 1) := by decide +kernel
theorem dX0_worstChance_24 : decode cX0_worstChance 24 = .ok (.iload_n 1, 1) := by decide +kernel
theorem dX0_worstChance_25 : decode cX0_worstChance 25 = .ok (.iconst 1, 1) := by decide +kernel
theorem dX0_worstChance_26 : decode cX0_worstChance 26 = .ok (.iload 6, 2) := by decide +kernel
theorem dX0_worstChance_28 : decode cX0_worstChance 28 = .ok (.invokevirtual 61, 3) := by decide +kernel
theorem dX0_worstChance_31 : decode cX0_worstChance 31 = .ok (.imul, 1) := by decide +kernel
theorem dX0_worstChance_32 : decode cX0_worstChance 32 = .ok (.iadd, 1) := by decide +kernel
theorem dX0_worstChance_33 : decode cX0_worstChance 33 = .ok (.iload 4, 2) := by decide +kernel
theorem dX0_worstChance_35 : decode cX0_worstChance 35 = .ok (.aload_n 0, 1) := by decide +kernel
theorem dX0_worstChance_36 : decode cX0_worstChance 36 = .ok (.iload_n 1, 1) := by decide +kernel
theorem dX0_worstChance_37 : decode cX0_worstChance 37 = .ok (.iconst 2, 1) := by decide +kernel
theorem dX0_worstChance_38 : decode cX0_worstChance 38 = .ok (.iload 6, 2) := by decide +kernel
theorem dX0_worstChance_40 : decode cX0_worstChance 40 = .ok (.invokevirtual 61, 3) := by decide +kernel
theorem dX0_worstChance_43 : decode cX0_worstChance 43 = .ok (.imul, 1) := by decide +kernel
theorem dX0_worstChance_44 : decode cX0_worstChance 44 = .ok (.iadd, 1) := by decide +kernel
theorem dX0_worstChance_45 : decode cX0_worstChance 45 = .ok (.istore 7, 2) := by decide +kernel
theorem dX0_worstChance_47 : decode cX0_worstChance 47 = .ok (.iload 6, 2) := by decide +kernel
theorem dX0_worstChance_49 : decode cX0_worstChance 49 = .ok (.ifCond .eq 16, 3) := by decide +kernel
theorem dX0_worstChance_52 : decode cX0_worstChance 52 = .ok (.iconst 1, 1) := by decide +kernel
theorem dX0_worstChance_53 : decode cX0_worstChance 53 = .ok (.iload_n 1, 1) := by decide +kernel
theorem dX0_worstChance_54 : decode cX0_worstChance 54 = .ok (.isub, 1) := by decide +kernel
theorem dX0_worstChance_55 : decode cX0_worstChance 55 = .ok (.iload 7, 2) := by decide +kernel
theorem dX0_worstChance_57 : decode cX0_worstChance 57 = .ok (.iload 5, 2) := by decide +kernel
theorem dX0_worstChance_59 : decode cX0_worstChance 59 = .ok (.invokestatic 57, 3) := by decide +kernel
theorem dX0_worstChance_62 : decode cX0_worstChance 62 = .ok (.ifCond .eq 7, 3) := by decide +kernel
theorem dX0_worstChance_65 : decode cX0_worstChance 65 = .ok (.iload 7, 2) := by decide +kernel
theorem dX0_worstChance_67 : decode cX0_worstChance 67 = .ok (.istore 5, 2) := by decide +kernel
theorem dX0_worstChance_69 : decode cX0_worstChance 69 = .ok (.iinc 6 1, 3) := by decide +kernel
theorem dX0_worstChance_72 : decode cX0_worstChance 72 = .ok (.goto (-66), 3) := by decide +kernel
theorem dX0_worstChance_75 : decode cX0_worstChance 75 = .ok (.iload 5, 2) := by decide +kernel
theorem dX0_worstChance_77 : decode cX0_worstChance 77 = .ok (.ireturn, 1) := by decide +kernel
def LX0_worstChance_6 (D : GD) (d : Nat) (v1 : Int32) (v2 : Int32) (v3 : Int32) (v4 : Int32) (v5 : Int32) (v6 : Int32) (M : Mm) (post : Option Value → Mm → Prop) : Prop := AW D (d + 1) 0 0 mX0_worstChance 0 0 6 [(0, .ref 13), (1, .int v1), (2, .int v2), (3, .int v3), (4, .int v4), (5, .int v5), (6, .int v6)] [] M post
set_option maxRecDepth 20000 in
theorem rX0_worstChance (D : GD) (d : Nat) (a1 : Int32) (a2 : Int32) (a3 : Int32) (a4 : Int32) (M : Mm) (post : Option Value → Mm → Prop) (hL : Lay 13 25 M) 
    (h : LX0_worstChance_6 D d a1 a2 a3 a4 (0 : Int32) (0 : Int32) M post) :
    AM D (d + 1) 0 0 mX0_worstChance [.ref 13, .int a1, .int a2, .int a3, .int a4] M post := by
  refine AM.of (by decide) (Nat.le_of_ble_eq_true rfl) ?_
  show AW D (d + 1) 0 0 mX0_worstChance 0 0 0 [(0, .ref 13), (1, .int a1), (2, .int a2), (3, .int a3), (4, .int a4)] [] M post
  refine ab_iconst (v := 0) dX0_worstChance_0 (by decide) ?_
  refine ab_istore (lv1 := [(5, .int (0 : Int32)), (0, .ref 13), (1, .int a1), (2, .int a2), (3, .int a3), (4, .int a4)]) dX0_worstChance_1 (by decide) rfl ?_
  refine ab_iconst (v := 0) dX0_worstChance_3 (by decide) ?_
  refine ab_istore (lv1 := [(6, .int (0 : Int32)), (5, .int (0 : Int32)), (0, .ref 13), (1, .int a1), (2, .int a2), (3, .int a3), (4, .int a4)]) dX0_worstChance_4 (by decide) rfl ?_
  exact ab_sub [2, 3, 4, 5, 6, 1, 0] rfl h
set_option maxRecDepth 20000 in
theorem rX0_worstChance_6 (D : GD) (d : Nat)  (v1 : Int32) (v2 : Int32) (v3 : Int32) (v4 : Int32) (v5 : Int32) (v6 : Int32) (M : Mm) (post : Option Value → Mm → Prop) (hL : Lay 13 25 M) 
    (h : (((3 : Int32) ≤ v6 → post (some (.int v5)) M) ∧ (¬ (3 : Int32) ≤ v6 → AMi D d mX0_cell [.ref 13, .int v1, .int (0 : Int32), .int v6] M (fun x3 M2 => AMi D d mX0_cell [.ref 13, .int v1, .int (1 : Int32), .int v6] M2 (fun x9 M8 => AMi D d mX0_cell [.ref 13, .int v1, .int (2 : Int32), .int v6] M8 (fun x15 M14 => ∀ x20 : Int32, x20 = (((v2 * x3) + (v3 * x9)) + (v4 * x15)) → ((v6 = 0 → ∀ x22 : Int32, x22 = v6 + (1 : Int32) → LX0_worstChance_6 D d v1 v2 v3 v4 x20 x22 M14 post) ∧ (¬ v6 = 0 → AMi D d mX0_isBetter [.int ((1 : Int32) - v1), .int x20, .int v5] M14 (fun x24 M23 => ((x24 = 0 → ∀ x30 : Int32, x30 = v6 + (1 : Int32) → LX0_worstChance_6 D d v1 v2 v3 v4 v5 x30 M23 post) ∧ (¬ x24 = 0 → ∀ x31 : Int32, x31 = v6 + (1 : Int32) → LX0_worstChance_6 D d v1 v2 v3 v4 x20 x31 M23 post))))))))))) :
    LX0_worstChance_6 D d v1 v2 v3 v4 v5 v6 M post := by
  show AW D (d + 1) 0 0 mX0_worstChance 0 0 6 [(0, .ref 13), (1, .int v1), (2, .int v2), (3, .int v3), (4, .int v4), (5, .int v5), (6, .int v6)] [] M post
  refine ab_iload 6 dX0_worstChance_6 rfl ?_
  refine ab_iconst (v := 3) dX0_worstChance_8 (by decide) ?_
  refine ab_icmp_ge (tgt := 75) dX0_worstChance_9 (by decide) (fun c1 => ?_) (fun c1 => ?_)
  · have h := h.1 c1
    refine ab_iload 5 dX0_worstChance_75 rfl ?_
    exact ab_iret dX0_worstChance_77 rfl h
  · have h := h.2 c1
    refine ab_iload_n 2 dX0_worstChance_12 rfl ?_
    refine ab_aload_n 0 dX0_worstChance_13 rfl ?_
    refine ab_iload_n 1 dX0_worstChance_14 rfl ?_
    refine ab_iconst (v := 0) dX0_worstChance_15 (by decide) ?_
    refine ab_iload 6 dX0_worstChance_16 rfl ?_
    refine ab_callV (a := 13) (c0 := 0) (d' := d) (mc' := 0) (ms' := 0) (vs := [.int v1, .int (0 : Int32), .int v6]) (st := [.int v2]) dX0_worstChance_18 ⟨cw_X0_cell, w_164⟩ w_166 w_2 (by decide) (hL.sh 13 rfl (by decide) (by decide)).1 (hL.sh 13 rfl (by decide) (by decide)).2 rfl rfl (Nat.le_of_ble_eq_true rfl) (Nat.le_refl _) (Nat.zero_le _) (Nat.zero_le _) (AM.mono h (fun r M2 ⟨x3, hr4, hc5, h⟩ => ?_))
    subst hr4
    refine ab_rs ?_
    have hm6 : Sm M M2 := (Sm.refl M).trans hc5
    have hl7 := hL.of hm6
    refine ab_imul dX0_worstChance_21 ?_
    refine ab_iload_n 3 dX0_worstChance_22 rfl ?_
    refine ab_aload_n 0 dX0_worstChance_23 rfl ?_
    refine ab_iload_n 1 dX0_worstChance_24 rfl ?_
    refine ab_iconst (v := 1) dX0_worstChance_25 (by decide) ?_
    refine ab_iload 6 dX0_worstChance_26 rfl ?_
    refine ab_callV (a := 13) (c0 := 0) (d' := d) (mc' := 0) (ms' := 0) (vs := [.int v1, .int (1 : Int32), .int v6]) (st := [.int v3, .int (v2 * x3)]) dX0_worstChance_28 ⟨cw_X0_cell, w_164⟩ w_166 w_2 (by decide) (hl7.sh 13 rfl (by decide) (by decide)).1 (hl7.sh 13 rfl (by decide) (by decide)).2 rfl rfl (Nat.le_of_ble_eq_true rfl) (Nat.le_refl _) (Nat.zero_le _) (Nat.zero_le _) (AM.mono h (fun r M8 ⟨x9, hr10, hc11, h⟩ => ?_))
    subst hr10
    refine ab_rs ?_
    have hm12 : Sm M M8 := hm6.trans hc11
    have hl13 := hL.of hm12
    refine ab_imul dX0_worstChance_31 ?_
    refine ab_iadd dX0_worstChance_32 ?_
    refine ab_iload 4 dX0_worstChance_33 rfl ?_
    refine ab_aload_n 0 dX0_worstChance_35 rfl ?_
    refine ab_iload_n 1 dX0_worstChance_36 rfl ?_
    refine ab_iconst (v := 2) dX0_worstChance_37 (by decide) ?_
    refine ab_iload 6 dX0_worstChance_38 rfl ?_
    refine ab_callV (a := 13) (c0 := 0) (d' := d) (mc' := 0) (ms' := 0) (vs := [.int v1, .int (2 : Int32), .int v6]) (st := [.int v4, .int ((v2 * x3) + (v3 * x9))]) dX0_worstChance_40 ⟨cw_X0_cell, w_164⟩ w_166 w_2 (by decide) (hl13.sh 13 rfl (by decide) (by decide)).1 (hl13.sh 13 rfl (by decide) (by decide)).2 rfl rfl (Nat.le_of_ble_eq_true rfl) (Nat.le_refl _) (Nat.zero_le _) (Nat.zero_le _) (AM.mono h (fun r M14 ⟨x15, hr16, hc17, h⟩ => ?_))
    subst hr16
    refine ab_rs ?_
    have hm18 : Sm M M14 := hm12.trans hc17
    have hl19 := hL.of hm18
    refine ab_imul dX0_worstChance_43 ?_
    refine ab_iadd dX0_worstChance_44 ?_
    refine ab_topi (fun x20 hx20 => ?_)
    have h := h x20 hx20
    refine ab_istore (lv1 := [(7, .int x20), (0, .ref 13), (1, .int v1), (2, .int v2), (3, .int v3), (4, .int v4), (5, .int v5), (6, .int v6)]) dX0_worstChance_45 (by decide) rfl ?_
    refine ab_iload 7 dX0_worstChance_47 rfl ?_
    refine ab_if_eq (tgt := 65) dX0_worstChance_49 (by decide) (fun c21 => ?_) (fun c21 => ?_)
    · have h := h.1 c21
      refine ab_iload 0 dX0_worstChance_65 rfl ?_
      refine ab_istore (lv1 := [(5, .int x20), (7, .int x20), (0, .ref 13), (1, .int v1), (2, .int v2), (3, .int v3), (4, .int v4), (6, .int v6)]) dX0_worstChance_67 (by decide) rfl ?_
      obtain ⟨x22, hx22⟩ : ∃ y : Int32, y = v6 + (1 : Int32) := ⟨_, rfl⟩
      have h := h x22 hx22
      refine ab_iinc (v := x22) 7 (lv1 := [(6, .int x22), (5, .int x20), (7, .int x20), (0, .ref 13), (1, .int v1), (2, .int v2), (3, .int v3), (4, .int v4)]) dX0_worstChance_69 rfl (by rw [hx22]; rfl) (by decide) rfl ?_
      refine ab_goto (tgt := 6) dX0_worstChance_72 (by decide) ?_
      exact ab_sub [3, 4, 5, 6, 7, 1, 0] rfl h
    · have h := h.2 c21
      refine ab_iconst (v := 1) dX0_worstChance_52 (by decide) ?_
      refine ab_iload_n 2 dX0_worstChance_53 rfl ?_
      refine ab_isub dX0_worstChance_54 ?_
      refine ab_iload 0 dX0_worstChance_55 rfl ?_
      refine ab_iload 6 dX0_worstChance_57 rfl ?_
      refine ab_callS (d' := d) (mc' := 0) (ms' := 0) (vs := [.int ((1 : Int32) - v1), .int x20, .int v5]) (st := []) dX0_worstChance_59 ⟨cw_X0_isBetter, w_168⟩ w_169 rfl rfl (Nat.le_of_ble_eq_true rfl) (Nat.le_refl _) (Nat.zero_le _) (Nat.zero_le _) (AM.mono h (fun r M23 ⟨x24, hr25, hc26, h⟩ => ?_))
      subst hr25
      refine ab_rs ?_
      have hm27 : Sm M M23 := hm18.trans hc26
      have hl28 := hL.of hm27
      refine ab_if_eq (tgt := 69) dX0_worstChance_62 (by decide) (fun c29 => ?_) (fun c29 => ?_)
      · have h := h.1 c29
        obtain ⟨x30, hx30⟩ : ∃ y : Int32, y = v6 + (1 : Int32) := ⟨_, rfl⟩
        have h := h x30 hx30
        refine ab_iinc (v := x30) 7 (lv1 := [(6, .int x30), (7, .int x20), (0, .ref 13), (1, .int v1), (2, .int v2), (3, .int v3), (4, .int v4), (5, .int v5)]) dX0_worstChance_69 rfl (by rw [hx30]; rfl) (by decide) rfl ?_
        refine ab_goto (tgt := 6) dX0_worstChance_72 (by decide) ?_
        exact ab_sub [2, 3, 4, 5, 6, 7, 0] rfl h
      · have h := h.2 c29
        refine ab_iload 0 dX0_worstChance_65 rfl ?_
        refine ab_istore (lv1 := [(5, .int x20), (7, .int x20), (0, .ref 13), (1, .int v1), (2, .int v2), (3, .int v3), (4, .int v4), (6, .int v6)]) dX0_worstChance_67 (by decide) rfl ?_
        obtain ⟨x31, hx31⟩ : ∃ y : Int32, y = v6 + (1 : Int32) := ⟨_, rfl⟩
        have h := h x31 hx31
        refine ab_iinc (v := x31) 7 (lv1 := [(6, .int x31), (5, .int x20), (7, .int x20), (0, .ref 13), (1, .int v1), (2, .int v2), (3, .int v3), (4, .int v4)]) dX0_worstChance_69 rfl (by rw [hx31]; rfl) (by decide) rfl ?_
        refine ab_goto (tgt := 6) dX0_worstChance_72 (by decide) ?_
        exact ab_sub [3, 4, 5, 6, 7, 1, 0] rfl h
theorem dX0_cell_0 : decode cX0_cell 0 = .ok (.iload_n 1, 1) := by decide +kernel
theorem dX0_cell_1 : decode cX0_cell 1 = .ok (.ifCond .ne 16, 3) := by decide +kernel
theorem dX0_cell_4 : decode cX0_cell 4 = .ok (.aload_n 0, 1) := by decide +kernel
theorem dX0_cell_5 : decode cX0_cell 5 = .ok (.getfield 9, 3) := by decide +kernel
theorem dX0_cell_8 : decode cX0_cell 8 = .ok (.iload_n 2, 1) := by decide +kernel
theorem dX0_cell_9 : decode cX0_cell 9 = .ok (.iconst 3, 1) := by decide +kernel
theorem dX0_cell_10 : decode cX0_cell 10 = .ok (.imul, 1) := by decide +kernel
theorem dX0_cell_11 : decode cX0_cell 11 = .ok (.iload_n 3, 1) := by decide +kernel
theorem dX0_cell_12 : decode cX0_cell 12 = .ok (.iadd, 1) := by decide +kernel
theorem dX0_cell_13 : decode cX0_cell 13 = .ok (.iaload, 1) := by decide +kernel
theorem dX0_cell_14 : decode cX0_cell 14 = .ok (.goto 13, 3) := by decide +kernel
theorem dX0_cell_17 : decode cX0_cell 17 = .ok (.aload_n 0, 1) := by decide +kernel
theorem dX0_cell_18 : decode cX0_cell 18 = .ok (.getfield 9, 3) := by decide +kernel
theorem dX0_cell_21 : decode cX0_cell 21 = .ok (.iload_n 3, 1) := by decide +kernel
theorem dX0_cell_22 : decode cX0_cell 22 = .ok (.iconst 3, 1) := by decide +kernel
theorem dX0_cell_23 : decode cX0_cell 23 = .ok (.imul, 1) := by decide +kernel
theorem dX0_cell_24 : decode cX0_cell 24 = .ok (.iload_n 2, 1) := by decide +kernel
theorem dX0_cell_25 : decode cX0_cell 25 = .ok (.iadd, 1) := by decide +kernel
theorem dX0_cell_26 : decode cX0_cell 26 = .ok (.iaload, 1) := by decide +kernel
theorem dX0_cell_27 : decode cX0_cell 27 = .ok (.ireturn, 1) := by decide +kernel
set_option maxRecDepth 20000 in
theorem rX0_cell (D : GD) (d : Nat) (a1 : Int32) (a2 : Int32) (a3 : Int32) (M : Mm) (post : Option Value → Mm → Prop) (hL : Lay 13 25 M) 
    (h : ((¬ a1 = 0 → vp_in ((a3 * (3 : Int32)) + a2) 9 ∧ post (some (.int (gI M 14 (((a3 * (3 : Int32)) + a2).toNatClampNeg)))) M) ∧ (a1 = 0 → vp_in ((a2 * (3 : Int32)) + a3) 9 ∧ post (some (.int (gI M 14 (((a2 * (3 : Int32)) + a3).toNatClampNeg)))) M))) :
    AM D d 0 0 mX0_cell [.ref 13, .int a1, .int a2, .int a3] M post := by
  refine AM.of (by decide) (Nat.le_of_ble_eq_true rfl) ?_
  show AW D d 0 0 mX0_cell 0 0 0 [(0, .ref 13), (1, .int a1), (2, .int a2), (3, .int a3)] [] M post
  refine ab_iload_n 1 dX0_cell_0 rfl ?_
  refine ab_if_ne (tgt := 17) dX0_cell_1 (by decide) (fun c1 => ?_) (fun c1 => ?_)
  · have h := h.1 c1
    refine ab_aload_n 0 dX0_cell_17 rfl ?_
    refine ab_getP (r := 14) dX0_cell_18 fs_0_9_0 rfl (hL.sh 13 rfl (by decide) (by decide)).1 (hL.sh 13 rfl (by decide) (by decide)).2 (hL.pt 22 rfl (by decide) (by decide)) ?_
    refine ab_iload_n 3 dX0_cell_21 rfl ?_
    refine ab_iconst (v := 3) dX0_cell_22 (by decide) ?_
    refine ab_imul dX0_cell_23 ?_
    refine ab_iload_n 2 dX0_cell_24 rfl ?_
    refine ab_iadd dX0_cell_25 ?_
    have hb2 := h.1
    have h := h.2
    refine ab_ialdj (j := ((a3 * (3 : Int32)) + a2).toNatClampNeg) dX0_cell_26 (hL.sh 14 rfl (by decide) (by decide)) hb2 rfl ?_
    exact ab_iret dX0_cell_27 rfl h
  · have h := h.2 c1
    refine ab_aload_n 0 dX0_cell_4 rfl ?_
    refine ab_getP (r := 14) dX0_cell_5 fs_0_9_0 rfl (hL.sh 13 rfl (by decide) (by decide)).1 (hL.sh 13 rfl (by decide) (by decide)).2 (hL.pt 22 rfl (by decide) (by decide)) ?_
    refine ab_iload_n 2 dX0_cell_8 rfl ?_
    refine ab_iconst (v := 3) dX0_cell_9 (by decide) ?_
    refine ab_imul dX0_cell_10 ?_
    refine ab_iload_n 3 dX0_cell_11 rfl ?_
    refine ab_iadd dX0_cell_12 ?_
    have hb3 := h.1
    have h := h.2
    refine ab_ialdj (j := ((a2 * (3 : Int32)) + a3).toNatClampNeg) dX0_cell_13 (hL.sh 14 rfl (by decide) (by decide)) hb3 rfl ?_
    refine ab_goto (tgt := 27) dX0_cell_14 (by decide) ?_
    exact ab_iret dX0_cell_27 rfl h
theorem dX0_isBetter_0 : decode cX0_isBetter 0 = .ok (.iload_n 0, 1) := by decide +kernel
theorem dX0_isBetter_1 : decode cX0_isBetter 1 = .ok (.ifCond .ne 16, 3) := by decide +kernel
theorem dX0_isBetter_4 : decode cX0_isBetter 4 = .ok (.iload_n 1, 1) := by decide +kernel
theorem dX0_isBetter_5 : decode cX0_isBetter 5 = .ok (.iload_n 2, 1) := by decide +kernel
theorem dX0_isBetter_6 : decode cX0_isBetter 6 = .ok (.if_icmp .le 7, 3) := by decide +kernel
theorem dX0_isBetter_9 : decode cX0_isBetter 9 = .ok (.iconst 1, 1) := by decide +kernel
theorem dX0_isBetter_10 : decode cX0_isBetter 10 = .ok (.goto 17, 3) := by decide +kernel
theorem dX0_isBetter_13 : decode cX0_isBetter 13 = .ok (.iconst 0, 1) := by decide +kernel
theorem dX0_isBetter_14 : decode cX0_isBetter 14 = .ok (.goto 13, 3) := by decide +kernel
theorem dX0_isBetter_17 : decode cX0_isBetter 17 = .ok (.iload_n 1, 1) := by decide +kernel
theorem dX0_isBetter_18 : decode cX0_isBetter 18 = .ok (.iload_n 2, 1) := by decide +kernel
theorem dX0_isBetter_19 : decode cX0_isBetter 19 = .ok (.if_icmp .ge 7, 3) := by decide +kernel
theorem dX0_isBetter_22 : decode cX0_isBetter 22 = .ok (.iconst 1, 1) := by decide +kernel
theorem dX0_isBetter_23 : decode cX0_isBetter 23 = .ok (.goto 4, 3) := by decide +kernel
theorem dX0_isBetter_26 : decode cX0_isBetter 26 = .ok (.iconst 0, 1) := by decide +kernel
theorem dX0_isBetter_27 : decode cX0_isBetter 27 = .ok (.ireturn, 1) := by decide +kernel
set_option maxRecDepth 20000 in
theorem rX0_isBetter (D : GD) (d : Nat) (a1 : Int32) (a2 : Int32) (a3 : Int32) (M : Mm) (post : Option Value → Mm → Prop) (hL : Lay 13 25 M) 
    (h : ((¬ a1 = 0 → ((a3 ≤ a2 → post (some (.int (0 : Int32))) M) ∧ (¬ a3 ≤ a2 → post (some (.int (1 : Int32))) M))) ∧ (a1 = 0 → ((a2 ≤ a3 → post (some (.int (0 : Int32))) M) ∧ (¬ a2 ≤ a3 → post (some (.int (1 : Int32))) M))))) :
    AM D d 0 0 mX0_isBetter [.int a1, .int a2, .int a3] M post := by
  refine AM.of (by decide) (Nat.le_of_ble_eq_true rfl) ?_
  show AW D d 0 0 mX0_isBetter 0 0 0 [(0, .int a1), (1, .int a2), (2, .int a3)] [] M post
  refine ab_iload_n 0 dX0_isBetter_0 rfl ?_
  refine ab_if_ne (tgt := 17) dX0_isBetter_1 (by decide) (fun c1 => ?_) (fun c1 => ?_)
  · have h := h.1 c1
    refine ab_iload_n 1 dX0_isBetter_17 rfl ?_
    refine ab_iload_n 2 dX0_isBetter_18 rfl ?_
    refine ab_icmp_ge (tgt := 26) dX0_isBetter_19 (by decide) (fun c2 => ?_) (fun c2 => ?_)
    · have h := h.1 c2
      refine ab_iconst (v := 0) dX0_isBetter_26 (by decide) ?_
      exact ab_zret dX0_isBetter_27 rfl rfl h
    · have h := h.2 c2
      refine ab_iconst (v := 1) dX0_isBetter_22 (by decide) ?_
      refine ab_goto (tgt := 27) dX0_isBetter_23 (by decide) ?_
      exact ab_zret dX0_isBetter_27 rfl rfl h
  · have h := h.2 c1
    refine ab_iload_n 1 dX0_isBetter_4 rfl ?_
    refine ab_iload_n 2 dX0_isBetter_5 rfl ?_
    refine ab_icmp_le (tgt := 13) dX0_isBetter_6 (by decide) (fun c3 => ?_) (fun c3 => ?_)
    · have h := h.1 c3
      refine ab_iconst (v := 0) dX0_isBetter_13 (by decide) ?_
      refine ab_goto (tgt := 27) dX0_isBetter_14 (by decide) ?_
      exact ab_zret dX0_isBetter_27 rfl rfl h
    · have h := h.2 c3
      refine ab_iconst (v := 1) dX0_isBetter_9 (by decide) ?_
      refine ab_goto (tgt := 27) dX0_isBetter_10 (by decide) ?_
      exact ab_zret dX0_isBetter_27 rfl rfl h
theorem dX0_setState_0 : decode cX0_setState 0 = .ok (.aload_n 0, 1) := by decide +kernel
theorem dX0_setState_1 : decode cX0_setState 1 = .ok (.getfield 23, 3) := by decide +kernel
theorem dX0_setState_4 : decode cX0_setState 4 = .ok (.iconst 0, 1) := by decide +kernel
theorem dX0_setState_5 : decode cX0_setState 5 = .ok (.aaload, 1) := by decide +kernel
theorem dX0_setState_6 : decode cX0_setState 6 = .ok (.iload_n 1, 1) := by decide +kernel
theorem dX0_setState_7 : decode cX0_setState 7 = .ok (.iload_n 2, 1) := by decide +kernel
theorem dX0_setState_8 : decode cX0_setState 8 = .ok (.iload_n 3, 1) := by decide +kernel
theorem dX0_setState_9 : decode cX0_setState 9 = .ok (.iload 4, 2) := by decide +kernel
theorem dX0_setState_11 : decode cX0_setState 11 = .ok (.invokestatic 65, 3) := by decide +kernel
theorem dX0_setState_14 : decode cX0_setState 14 = .ok (.aload_n 0, 1) := by decide +kernel
theorem dX0_setState_15 : decode cX0_setState 15 = .ok (.getfield 23, 3) := by decide +kernel
theorem dX0_setState_18 : decode cX0_setState 18 = .ok (.iconst 1, 1) := by decide +kernel
theorem dX0_setState_19 : decode cX0_setState 19 = .ok (.aaload, 1) := by decide +kernel
theorem dX0_setState_20 : decode cX0_setState 20 = .ok (.iload_n 2, 1) := by decide +kernel
theorem dX0_setState_21 : decode cX0_setState 21 = .ok (.iload_n 1, 1) := by decide +kernel
theorem dX0_setState_22 : decode cX0_setState 22 = .ok (.iload_n 3, 1) := by decide +kernel
theorem dX0_setState_23 : decode cX0_setState 23 = .ok (.bipush 20, 2) := by decide +kernel
theorem dX0_setState_25 : decode cX0_setState 25 = .ok (.iload 4, 2) := by decide +kernel
theorem dX0_setState_27 : decode cX0_setState 27 = .ok (.isub, 1) := by decide +kernel
theorem dX0_setState_28 : decode cX0_setState 28 = .ok (.invokestatic 65, 3) := by decide +kernel
theorem dX0_setState_31 : decode cX0_setState 31 = .ok (.return_, 1) := by decide +kernel
set_option maxRecDepth 20000 in
theorem rX0_setState (D : GD) (d : Nat) (a1 : Int32) (a2 : Int32) (a3 : Int32) (a4 : Int32) (M : Mm) (post : Option Value → Mm → Prop) (hL : Lay 13 25 M) 
    (h : AMv D d mX0_setSeen [.ref 20, .int a1, .int a2, .int a3, .int a4] M (fun M1 => AMv D d mX0_setSeen [.ref 21, .int a2, .int a1, .int a3, .int ((20 : Int32) - a4)] M1 (fun M7 => post none M7))) :
    AM D (d + 1) 0 0 mX0_setState [.ref 13, .int a1, .int a2, .int a3, .int a4] M post := by
  refine AM.of (by decide) (Nat.le_of_ble_eq_true rfl) ?_
  show AW D (d + 1) 0 0 mX0_setState 0 0 0 [(0, .ref 13), (1, .int a1), (2, .int a2), (3, .int a3), (4, .int a4)] [] M post
  refine ab_aload_n 0 dX0_setState_0 rfl ?_
  refine ab_getP (r := 19) dX0_setState_1 fs_0_23_0 rfl (hL.sh 13 rfl (by decide) (by decide)).1 (hL.sh 13 rfl (by decide) (by decide)).2 (hL.pt 25 rfl (by decide) (by decide)) ?_
  refine ab_iconst (v := 0) dX0_setState_4 (by decide) ?_
  refine ab_aald4j (j := 0) (r := 20) dX0_setState_5 (hL.sh 19 rfl (by decide) (by decide)) (vin (by decide)) (by decide) (hL.pt 29 rfl (by decide) (by decide)) ?_
  refine ab_iload_n 1 dX0_setState_6 rfl ?_
  refine ab_iload_n 2 dX0_setState_7 rfl ?_
  refine ab_iload_n 3 dX0_setState_8 rfl ?_
  refine ab_iload 4 dX0_setState_9 rfl ?_
  refine ab_callS (d' := d) (mc' := 0) (ms' := 0) (vs := [.ref 20, .int a1, .int a2, .int a3, .int a4]) (st := []) dX0_setState_11 ⟨cw_X0_setSeen, w_596⟩ w_597 rfl rfl (Nat.le_of_ble_eq_true rfl) (Nat.le_refl _) (Nat.zero_le _) (Nat.zero_le _) (AM.mono h (fun r M1 ⟨hr3, hc4, h⟩ => ?_))
  subst hr3
  refine ab_rv ?_
  have hm5 : Sm M M1 := (Sm.refl M).trans hc4
  have hl6 := hL.of hm5
  refine ab_aload_n 0 dX0_setState_14 rfl ?_
  refine ab_getP (r := 19) dX0_setState_15 fs_0_23_0 rfl (hl6.sh 13 rfl (by decide) (by decide)).1 (hl6.sh 13 rfl (by decide) (by decide)).2 (hl6.pt 25 rfl (by decide) (by decide)) ?_
  refine ab_iconst (v := 1) dX0_setState_18 (by decide) ?_
  refine ab_aald4j (j := 1) (r := 21) dX0_setState_19 (hl6.sh 19 rfl (by decide) (by decide)) (vin (by decide)) (by decide) (hl6.pt 30 rfl (by decide) (by decide)) ?_
  refine ab_iload_n 2 dX0_setState_20 rfl ?_
  refine ab_iload_n 1 dX0_setState_21 rfl ?_
  refine ab_iload_n 3 dX0_setState_22 rfl ?_
  refine ab_bipush (v := 20) dX0_setState_23 (by decide) ?_
  refine ab_iload 4 dX0_setState_25 rfl ?_
  refine ab_isub dX0_setState_27 ?_
  refine ab_callS (d' := d) (mc' := 0) (ms' := 0) (vs := [.ref 21, .int a2, .int a1, .int a3, .int ((20 : Int32) - a4)]) (st := []) dX0_setState_28 ⟨cw_X0_setSeen, w_596⟩ w_597 rfl rfl (Nat.le_of_ble_eq_true rfl) (Nat.le_refl _) (Nat.zero_le _) (Nat.zero_le _) (AM.mono h (fun r M7 ⟨hr9, hc10, h⟩ => ?_))
  subst hr9
  refine ab_rv ?_
  have hm11 : Sm M M7 := hm5.trans hc10
  have hl12 := hL.of hm11
  exact ab_vret dX0_setState_31 rfl h
theorem dX0_holds_0 : decode cX0_holds 0 = .ok (.iload_n 1, 1) := by decide +kernel
theorem dX0_holds_1 : decode cX0_holds 1 = .ok (.lookupswitch 49 #[(0, 27), (1, 38)], 27) := by decide +kernel
theorem dX0_holds_28 : decode cX0_holds 28 = .ok (.iload_n 0, 1) := by decide +kernel
theorem dX0_holds_29 : decode cX0_holds 29 = .ok (.iload_n 2, 1) := by decide +kernel
theorem dX0_holds_30 : decode cX0_holds 30 = .ok (.if_icmp .ge 7, 3) := by decide +kernel
theorem dX0_holds_33 : decode cX0_holds 33 = .ok (.iconst 1, 1) := by decide +kernel
theorem dX0_holds_34 : decode cX0_holds 34 = .ok (.goto 4, 3) := by decide +kernel
theorem dX0_holds_37 : decode cX0_holds 37 = .ok (.iconst 0, 1) := by decide +kernel
theorem dX0_holds_38 : decode cX0_holds 38 = .ok (.ireturn, 1) := by decide +kernel
theorem dX0_holds_39 : decode cX0_holds 39 = .ok (.iload_n 0, 1) := by decide +kernel
theorem dX0_holds_40 : decode cX0_holds 40 = .ok (.iload_n 2, 1) := by decide +kernel
theorem dX0_holds_41 : decode cX0_holds 41 = .ok (.if_icmp .ne 7, 3) := by decide +kernel
theorem dX0_holds_44 : decode cX0_holds 44 = .ok (.iconst 1, 1) := by decide +kernel
theorem dX0_holds_45 : decode cX0_holds 45 = .ok (.goto 4, 3) := by decide +kernel
theorem dX0_holds_48 : decode cX0_holds 48 = .ok (.iconst 0, 1) := by decide +kernel
theorem dX0_holds_49 : decode cX0_holds 49 = .ok (.ireturn, 1) := by decide +kernel
theorem dX0_holds_50 : decode cX0_holds 50 = .ok (.iload_n 0, 1) := by decide +kernel
theorem dX0_holds_51 : decode cX0_holds 51 = .ok (.iload_n 2, 1) := by decide +kernel
theorem dX0_holds_52 : decode cX0_holds 52 = .ok (.if_icmp .le 7, 3) := by decide +kernel
theorem dX0_holds_55 : decode cX0_holds 55 = .ok (.iconst 1, 1) := by decide +kernel
theorem dX0_holds_56 : decode cX0_holds 56 = .ok (.goto 4, 3) := by decide +kernel
theorem dX0_holds_59 : decode cX0_holds 59 = .ok (.iconst 0, 1) := by decide +kernel
theorem dX0_holds_60 : decode cX0_holds 60 = .ok (.ireturn, 1) := by decide +kernel
set_option maxRecDepth 20000 in
theorem rX0_holds (D : GD) (d : Nat) (a1 : Int32) (a2 : Int32) (a3 : Int32) (M : Mm) (post : Option Value → Mm → Prop) (hL : Lay 13 25 M) 
    (h : ((a2 = (0 : Int32) → ((a3 ≤ a1 → post (some (.int (0 : Int32))) M) ∧ (¬ a3 ≤ a1 → post (some (.int (1 : Int32))) M))) ∧ ((a2 = (1 : Int32) → ((¬ a1 = a3 → post (some (.int (0 : Int32))) M) ∧ (a1 = a3 → post (some (.int (1 : Int32))) M))) ∧ ((¬ a2 = (0 : Int32) → ¬ a2 = (1 : Int32) → ((a1 ≤ a3 → post (some (.int (0 : Int32))) M) ∧ (¬ a1 ≤ a3 → post (some (.int (1 : Int32))) M))))))) :
    AM D d 0 0 mX0_holds [.int a1, .int a2, .int a3] M post := by
  refine AM.of (by decide) (Nat.le_of_ble_eq_true rfl) ?_
  show AW D d 0 0 mX0_holds 0 0 0 [(0, .int a1), (1, .int a2), (2, .int a3)] [] M post
  refine ab_iload_n 1 dX0_holds_0 rfl ?_
  by_cases c1 : a2 = (0 : Int32)
  · have h := h.1 c1
    refine ab_lookup (off := (27)) (tgt := 28) dX0_holds_1 (by decide) (by rw [c1]; decide) (by decide) ?_
    refine ab_iload_n 0 dX0_holds_28 rfl ?_
    refine ab_iload_n 2 dX0_holds_29 rfl ?_
    refine ab_icmp_ge (tgt := 37) dX0_holds_30 (by decide) (fun c2 => ?_) (fun c2 => ?_)
    · have h := h.1 c2
      refine ab_iconst (v := 0) dX0_holds_37 (by decide) ?_
      exact ab_zret dX0_holds_38 rfl rfl h
    · have h := h.2 c2
      refine ab_iconst (v := 1) dX0_holds_33 (by decide) ?_
      refine ab_goto (tgt := 38) dX0_holds_34 (by decide) ?_
      exact ab_zret dX0_holds_38 rfl rfl h
  · have h := h.2
    by_cases c3 : a2 = (1 : Int32)
    · have h := h.1 c3
      refine ab_lookup (off := (38)) (tgt := 39) dX0_holds_1 (by decide) (by rw [c3]; decide) (by decide) ?_
      refine ab_iload_n 0 dX0_holds_39 rfl ?_
      refine ab_iload_n 2 dX0_holds_40 rfl ?_
      refine ab_icmp_ne (tgt := 48) dX0_holds_41 (by decide) (fun c4 => ?_) (fun c4 => ?_)
      · have h := h.1 c4
        refine ab_iconst (v := 0) dX0_holds_48 (by decide) ?_
        exact ab_zret dX0_holds_49 rfl rfl h
      · have h := h.2 c4
        refine ab_iconst (v := 1) dX0_holds_44 (by decide) ?_
        refine ab_goto (tgt := 49) dX0_holds_45 (by decide) ?_
        exact ab_zret dX0_holds_49 rfl rfl h
    · have h := h.2
      have h := h c1 c3
      refine ab_lookup (off := (49)) (tgt := 50) dX0_holds_1 (by decide) (by show Op.lookupswitch.offset [(0, 27), (1, 38)] _ _ = _; rw [lv_osw c1 (by decide), lv_osw c3 (by decide)]; rfl) (by decide) ?_
      refine ab_iload_n 0 dX0_holds_50 rfl ?_
      refine ab_iload_n 2 dX0_holds_51 rfl ?_
      refine ab_icmp_le (tgt := 59) dX0_holds_52 (by decide) (fun c5 => ?_) (fun c5 => ?_)
      · have h := h.1 c5
        refine ab_iconst (v := 0) dX0_holds_59 (by decide) ?_
        exact ab_zret dX0_holds_60 rfl rfl h
      · have h := h.2 c5
        refine ab_iconst (v := 1) dX0_holds_55 (by decide) ?_
        refine ab_goto (tgt := 60) dX0_holds_56 (by decide) ?_
        exact ab_zret dX0_holds_60 rfl rfl h
theorem dX0_replySide_0 : decode cX0_replySide 0 = .ok (.aload_n 0, 1) := by decide +kernel
theorem dX0_replySide_1 : decode cX0_replySide 1 = .ok (.getfield 26, 3) := by decide +kernel
theorem dX0_replySide_4 : decode cX0_replySide 4 = .ok (.iconst 1, 1) := by decide +kernel
theorem dX0_replySide_5 : decode cX0_replySide 5 = .ok (.iload_n 1, 1) := by decide +kernel
theorem dX0_replySide_6 : decode cX0_replySide 6 = .ok (.isub, 1) := by decide +kernel
theorem dX0_replySide_7 : decode cX0_replySide 7 = .ok (.aaload, 1) := by decide +kernel
theorem dX0_replySide_8 : decode cX0_replySide 8 = .ok (.astore_n 2, 1) := by decide +kernel
theorem dX0_replySide_9 : decode cX0_replySide 9 = .ok (.iconst 0, 1) := by decide +kernel
theorem dX0_replySide_10 : decode cX0_replySide 10 = .ok (.istore_n 3, 1) := by decide +kernel
theorem dX0_replySide_11 : decode cX0_replySide 11 = .ok (.iconst 0, 1) := by decide +kernel
theorem dX0_replySide_12 : decode cX0_replySide 12 = .ok (.istore 4, 2) := by decide +kernel
theorem dX0_replySide_14 : decode cX0_replySide 14 = .ok (.iconst 0, 1) := by decide +kernel
theorem dX0_replySide_15 : decode cX0_replySide 15 = .ok (.istore 5, 2) := by decide +kernel
theorem dX0_replySide_17 : decode cX0_replySide 17 = .ok (.iload 5, 2) := by decide +kernel
theorem dX0_replySide_19 : decode cX0_replySide 19 = .ok (.iconst 3, 1) := by decide +kernel
theorem dX0_replySide_20 : decode cX0_replySide 20 = .ok (.if_icmp .ge 69, 3) := by decide +kernel
theorem dX0_replySide_23 : decode cX0_replySide 23 = .ok (.iconst 0, 1) := by decide +kernel
theorem dX0_replySide_24 : decode cX0_replySide 24 = .ok (.istore 6, 2) := by decide +kernel
theorem dX0_replySide_26 : decode cX0_replySide 26 = .ok (.iconst 0, 1) := by decide +kernel
theorem dX0_replySide_27 : decode cX0_replySide 27 = .ok (.istore 7, 2) := by decide +kernel
theorem dX0_replySide_29 : decode cX0_replySide 29 = .ok (.iload 7, 2) := by decide +kernel
theorem dX0_replySide_31 : decode cX0_replySide 31 = .ok (.iconst 3, 1) := by decide +kernel
theorem dX0_replySide_32 : decode cX0_replySide 32 = .ok (.if_icmp .ge 28, 3) := by decide +kernel
theorem dX0_replySide_35 : decode cX0_replySide 35 = .ok (.iload 6, 2) := by decide +kernel
theorem dX0_replySide_37 : decode cX0_replySide 37 = .ok (.aload_n 2, 1) := by decide +kernel
theorem dX0_replySide_38 : decode cX0_replySide 38 = .ok (.iload 7, 2) := by decide +kernel
theorem dX0_replySide_40 : decode cX0_replySide 40 = .ok (.iaload, 1) := by decide +kernel
theorem dX0_replySide_41 : decode cX0_replySide 41 = .ok (.aload_n 0, 1) := by decide +kernel
theorem dX0_replySide_42 : decode cX0_replySide 42 = .ok (.iload_n 1, 1) := by decide +kernel
theorem dX0_replySide_43 : decode cX0_replySide 43 = .ok (.iload 5, 2) := by decide +kernel
theorem dX0_replySide_45 : decode cX0_replySide 45 = .ok (.iload 7, 2) := by decide +kernel
theorem dX0_replySide_47 : decode cX0_replySide 47 = .ok (.invokevirtual 61, 3) := by decide +kernel
theorem dX0_replySide_50 : decode cX0_replySide 50 = .ok (.imul, 1) := by decide +kernel
theorem dX0_replySide_51 : decode cX0_replySide 51 = .ok (.iadd, 1) := by decide +kernel
theorem dX0_replySide_52 : decode cX0_replySide 52 = .ok (.istore 6, 2) := by decide +kernel
theorem dX0_replySide_54 : decode cX0_replySide 54 = .ok (.iinc 7 1, 3) := by decide +kernel
theorem dX0_replySide_57 : decode cX0_replySide 57 = .ok (.goto (-28), 3) := by decide +kernel
theorem dX0_replySide_60 : decode cX0_replySide 60 = .ok (.iload 5, 2) := by decide +kernel
theorem dX0_replySide_62 : decode cX0_replySide 62 = .ok (.ifCond .eq 14, 3) := by decide +kernel
theorem dX0_replySide_65 : decode cX0_replySide 65 = .ok (.iload_n 1, 1) := by decide +kernel
theorem dX0_replySide_66 : decode cX0_replySide 66 = .ok (.iload 6, 2) := by decide +kernel
theorem dX0_replySide_68 : decode cX0_replySide 68 = .ok (.iload 4, 2) := by decide +kernel
theorem dX0_replySide_70 : decode cX0_replySide 70 = .ok (.invokestatic 57, 3) := by decide +kernel
theorem dX0_replySide_73 : decode cX0_replySide 73 = .ok (.ifCond .eq 10, 3) := by decide +kernel
theorem dX0_replySide_76 : decode cX0_replySide 76 = .ok (.iload 5, 2) := by decide +kernel
theorem dX0_replySide_78 : decode cX0_replySide 78 = .ok (.istore_n 3, 1) := by decide +kernel
theorem dX0_replySide_79 : decode cX0_replySide 79 = .ok (.iload 6, 2) := by decide +kernel
theorem dX0_replySide_81 : decode cX0_replySide 81 = .ok (.istore 4, 2) := by decide +kernel
theorem dX0_replySide_83 : decode cX0_replySide 83 = .ok (.iinc 5 1, 3) := by decide +kernel
theorem dX0_replySide_86 : decode cX0_replySide 86 = .ok (.goto (-69), 3) := by decide +kernel
theorem dX0_replySide_89 : decode cX0_replySide 89 = .ok (.iload_n 3, 1) := by decide +kernel
theorem dX0_replySide_90 : decode cX0_replySide 90 = .ok (.ireturn, 1) := by decide +kernel
def LX0_replySide_17 (D : GD) (d : Nat) (v1 : Int32) (v2 : Nat) (v3 : Int32) (v4 : Int32) (v5 : Int32) (M : Mm) (post : Option Value → Mm → Prop) : Prop := AW D (d + 1) 0 0 mX0_replySide 0 0 17 [(0, .ref 13), (1, .int v1), (2, .ref v2), (3, .int v3), (4, .int v4), (5, .int v5)] [] M post
def LX0_replySide_29 (D : GD) (d : Nat) (v1 : Int32) (v2 : Nat) (v3 : Int32) (v4 : Int32) (v5 : Int32) (v6 : Int32) (v7 : Int32) (M : Mm) (post : Option Value → Mm → Prop) : Prop := AW D (d + 1) 0 0 mX0_replySide 0 0 29 [(0, .ref 13), (1, .int v1), (2, .ref v2), (3, .int v3), (4, .int v4), (5, .int v5), (6, .int v6), (7, .int v7)] [] M post
set_option maxRecDepth 20000 in
theorem rX0_replySide (D : GD) (d : Nat) (a1 : Int32) (M : Mm) (post : Option Value → Mm → Prop) (hL : Lay 13 25 M) 
    (h : vp_in ((1 : Int32) - a1) 2 ∧ LX0_replySide_17 D d a1 (23 + ((1 : Int32) - a1).toNatClampNeg) (0 : Int32) (0 : Int32) (0 : Int32) M post) :
    AM D (d + 1) 0 0 mX0_replySide [.ref 13, .int a1] M post := by
  refine AM.of (by decide) (Nat.le_of_ble_eq_true rfl) ?_
  show AW D (d + 1) 0 0 mX0_replySide 0 0 0 [(0, .ref 13), (1, .int a1)] [] M post
  refine ab_aload_n 0 dX0_replySide_0 rfl ?_
  refine ab_getP (r := 22) dX0_replySide_1 fs_0_26_0 rfl (hL.sh 13 rfl (by decide) (by decide)).1 (hL.sh 13 rfl (by decide) (by decide)).2 (hL.pt 26 rfl (by decide) (by decide)) ?_
  refine ab_iconst (v := 1) dX0_replySide_4 (by decide) ?_
  refine ab_iload_n 1 dX0_replySide_5 rfl ?_
  refine ab_isub dX0_replySide_6 ?_
  have hb1 := h.1
  have h := h.2
  refine ab_aald4j (j := ((1 : Int32) - a1).toNatClampNeg) (r := 23 + ((1 : Int32) - a1).toNatClampNeg) dX0_replySide_7 (hL.sh 22 rfl (by decide) (by decide)) hb1 rfl (row_22 hL (by decide) (by decide) (vin_lt hb1)).1 ?_
  refine ab_astore_n (lv1 := [(2, .ref (23 + ((1 : Int32) - a1).toNatClampNeg)), (0, .ref 13), (1, .int a1)]) dX0_replySide_8 (by decide) rfl ?_
  refine ab_iconst (v := 0) dX0_replySide_9 (by decide) ?_
  refine ab_istore_n (lv1 := [(3, .int (0 : Int32)), (2, .ref (23 + ((1 : Int32) - a1).toNatClampNeg)), (0, .ref 13), (1, .int a1)]) dX0_replySide_10 (by decide) rfl ?_
  refine ab_iconst (v := 0) dX0_replySide_11 (by decide) ?_
  refine ab_istore (lv1 := [(4, .int (0 : Int32)), (3, .int (0 : Int32)), (2, .ref (23 + ((1 : Int32) - a1).toNatClampNeg)), (0, .ref 13), (1, .int a1)]) dX0_replySide_12 (by decide) rfl ?_
  refine ab_iconst (v := 0) dX0_replySide_14 (by decide) ?_
  refine ab_istore (lv1 := [(5, .int (0 : Int32)), (4, .int (0 : Int32)), (3, .int (0 : Int32)), (2, .ref (23 + ((1 : Int32) - a1).toNatClampNeg)), (0, .ref 13), (1, .int a1)]) dX0_replySide_15 (by decide) rfl ?_
  exact ab_sub [4, 5, 3, 2, 1, 0] rfl h
set_option maxRecDepth 20000 in
theorem rX0_replySide_17 (D : GD) (d : Nat)  (v1 : Int32) (v2 : Nat) (v3 : Int32) (v4 : Int32) (v5 : Int32) (M : Mm) (post : Option Value → Mm → Prop) (hL : Lay 13 25 M) (sv2 : Sh M v2 (1, 4))
    (h : (((3 : Int32) ≤ v5 → post (some (.int v3)) M) ∧ (¬ (3 : Int32) ≤ v5 → LX0_replySide_29 D d v1 v2 v3 v4 v5 (0 : Int32) (0 : Int32) M post))) :
    LX0_replySide_17 D d v1 v2 v3 v4 v5 M post := by
  show AW D (d + 1) 0 0 mX0_replySide 0 0 17 [(0, .ref 13), (1, .int v1), (2, .ref v2), (3, .int v3), (4, .int v4), (5, .int v5)] [] M post
  refine ab_iload 5 dX0_replySide_17 rfl ?_
  refine ab_iconst (v := 3) dX0_replySide_19 (by decide) ?_
  refine ab_icmp_ge (tgt := 89) dX0_replySide_20 (by decide) (fun c1 => ?_) (fun c1 => ?_)
  · have h := h.1 c1
    refine ab_iload_n 3 dX0_replySide_89 rfl ?_
    exact ab_iret dX0_replySide_90 rfl h
  · have h := h.2 c1
    refine ab_iconst (v := 0) dX0_replySide_23 (by decide) ?_
    refine ab_istore (lv1 := [(6, .int (0 : Int32)), (0, .ref 13), (1, .int v1), (2, .ref v2), (3, .int v3), (4, .int v4), (5, .int v5)]) dX0_replySide_24 (by decide) rfl ?_
    refine ab_iconst (v := 0) dX0_replySide_26 (by decide) ?_
    refine ab_istore (lv1 := [(7, .int (0 : Int32)), (6, .int (0 : Int32)), (0, .ref 13), (1, .int v1), (2, .ref v2), (3, .int v3), (4, .int v4), (5, .int v5)]) dX0_replySide_27 (by decide) rfl ?_
    exact ab_sub [2, 3, 4, 5, 6, 7, 1, 0] rfl h
set_option maxRecDepth 20000 in
theorem rX0_replySide_29 (D : GD) (d : Nat)  (v1 : Int32) (v2 : Nat) (v3 : Int32) (v4 : Int32) (v5 : Int32) (v6 : Int32) (v7 : Int32) (M : Mm) (post : Option Value → Mm → Prop) (hL : Lay 13 25 M) (sv2 : Sh M v2 (1, 4))
    (h : (((3 : Int32) ≤ v7 → ((v5 = 0 → ∀ x3 : Int32, x3 = v5 + (1 : Int32) → LX0_replySide_17 D d v1 v2 v5 v6 x3 M post) ∧ (¬ v5 = 0 → AMi D d mX0_isBetter [.int v1, .int v6, .int v4] M (fun x5 M4 => ((x5 = 0 → ∀ x11 : Int32, x11 = v5 + (1 : Int32) → LX0_replySide_17 D d v1 v2 v3 v4 x11 M4 post) ∧ (¬ x5 = 0 → ∀ x12 : Int32, x12 = v5 + (1 : Int32) → LX0_replySide_17 D d v1 v2 v5 v6 x12 M4 post)))))) ∧ (¬ (3 : Int32) ≤ v7 → vp_in v7 4 ∧ AMi D d mX0_cell [.ref 13, .int v1, .int v5, .int v7] M (fun x15 M14 => ∀ x20 : Int32, x20 = (v6 + ((gI M v2 v7.toNatClampNeg) * x15)) → ∀ x21 : Int32, x21 = v7 + (1 : Int32) → LX0_replySide_29 D d v1 v2 v3 v4 v5 x20 x21 M14 post)))) :
    LX0_replySide_29 D d v1 v2 v3 v4 v5 v6 v7 M post := by
  show AW D (d + 1) 0 0 mX0_replySide 0 0 29 [(0, .ref 13), (1, .int v1), (2, .ref v2), (3, .int v3), (4, .int v4), (5, .int v5), (6, .int v6), (7, .int v7)] [] M post
  refine ab_iload 7 dX0_replySide_29 rfl ?_
  refine ab_iconst (v := 3) dX0_replySide_31 (by decide) ?_
  refine ab_icmp_ge (tgt := 60) dX0_replySide_32 (by decide) (fun c1 => ?_) (fun c1 => ?_)
  · have h := h.1 c1
    refine ab_iload 5 dX0_replySide_60 rfl ?_
    refine ab_if_eq (tgt := 76) dX0_replySide_62 (by decide) (fun c2 => ?_) (fun c2 => ?_)
    · have h := h.1 c2
      refine ab_iload 5 dX0_replySide_76 rfl ?_
      refine ab_istore_n (lv1 := [(3, .int v5), (0, .ref 13), (1, .int v1), (2, .ref v2), (4, .int v4), (5, .int v5), (6, .int v6), (7, .int v7)]) dX0_replySide_78 (by decide) rfl ?_
      refine ab_iload 6 dX0_replySide_79 rfl ?_
      refine ab_istore (lv1 := [(4, .int v6), (3, .int v5), (0, .ref 13), (1, .int v1), (2, .ref v2), (5, .int v5), (6, .int v6), (7, .int v7)]) dX0_replySide_81 (by decide) rfl ?_
      obtain ⟨x3, hx3⟩ : ∃ y : Int32, y = v5 + (1 : Int32) := ⟨_, rfl⟩
      have h := h x3 hx3
      refine ab_iinc (v := x3) 5 (lv1 := [(5, .int x3), (4, .int v6), (3, .int v5), (0, .ref 13), (1, .int v1), (2, .ref v2), (6, .int v6), (7, .int v7)]) dX0_replySide_83 rfl (by rw [hx3]; rfl) (by decide) rfl ?_
      refine ab_goto (tgt := 17) dX0_replySide_86 (by decide) ?_
      exact ab_sub [3, 4, 5, 2, 1, 0] rfl h
    · have h := h.2 c2
      refine ab_iload_n 1 dX0_replySide_65 rfl ?_
      refine ab_iload 6 dX0_replySide_66 rfl ?_
      refine ab_iload 4 dX0_replySide_68 rfl ?_
      refine ab_callS (d' := d) (mc' := 0) (ms' := 0) (vs := [.int v1, .int v6, .int v4]) (st := []) dX0_replySide_70 ⟨cw_X0_isBetter, w_168⟩ w_169 rfl rfl (Nat.le_of_ble_eq_true rfl) (Nat.le_refl _) (Nat.zero_le _) (Nat.zero_le _) (AM.mono h (fun r M4 ⟨x5, hr6, hc7, h⟩ => ?_))
      subst hr6
      refine ab_rs ?_
      have hm8 : Sm M M4 := (Sm.refl M).trans hc7
      have hl9 := hL.of hm8
      refine ab_if_eq (tgt := 83) dX0_replySide_73 (by decide) (fun c10 => ?_) (fun c10 => ?_)
      · have h := h.1 c10
        obtain ⟨x11, hx11⟩ : ∃ y : Int32, y = v5 + (1 : Int32) := ⟨_, rfl⟩
        have h := h x11 hx11
        refine ab_iinc (v := x11) 5 (lv1 := [(5, .int x11), (0, .ref 13), (1, .int v1), (2, .ref v2), (3, .int v3), (4, .int v4), (6, .int v6), (7, .int v7)]) dX0_replySide_83 rfl (by rw [hx11]; rfl) (by decide) rfl ?_
        refine ab_goto (tgt := 17) dX0_replySide_86 (by decide) ?_
        exact ab_sub [1, 2, 3, 4, 5, 0] rfl h
      · have h := h.2 c10
        refine ab_iload 5 dX0_replySide_76 rfl ?_
        refine ab_istore_n (lv1 := [(3, .int v5), (0, .ref 13), (1, .int v1), (2, .ref v2), (4, .int v4), (5, .int v5), (6, .int v6), (7, .int v7)]) dX0_replySide_78 (by decide) rfl ?_
        refine ab_iload 6 dX0_replySide_79 rfl ?_
        refine ab_istore (lv1 := [(4, .int v6), (3, .int v5), (0, .ref 13), (1, .int v1), (2, .ref v2), (5, .int v5), (6, .int v6), (7, .int v7)]) dX0_replySide_81 (by decide) rfl ?_
        obtain ⟨x12, hx12⟩ : ∃ y : Int32, y = v5 + (1 : Int32) := ⟨_, rfl⟩
        have h := h x12 hx12
        refine ab_iinc (v := x12) 5 (lv1 := [(5, .int x12), (4, .int v6), (3, .int v5), (0, .ref 13), (1, .int v1), (2, .ref v2), (6, .int v6), (7, .int v7)]) dX0_replySide_83 rfl (by rw [hx12]; rfl) (by decide) rfl ?_
        refine ab_goto (tgt := 17) dX0_replySide_86 (by decide) ?_
        exact ab_sub [3, 4, 5, 2, 1, 0] rfl h
  · have h := h.2 c1
    refine ab_iload 6 dX0_replySide_35 rfl ?_
    refine ab_aload_n 2 dX0_replySide_37 rfl ?_
    refine ab_iload 7 dX0_replySide_38 rfl ?_
    have hb13 := h.1
    have h := h.2
    refine ab_ialdj (j := v7.toNatClampNeg) dX0_replySide_40 (sv2.of (Sm.refl M)) hb13 rfl ?_
    refine ab_aload_n 0 dX0_replySide_41 rfl ?_
    refine ab_iload_n 1 dX0_replySide_42 rfl ?_
    refine ab_iload 5 dX0_replySide_43 rfl ?_
    refine ab_iload 7 dX0_replySide_45 rfl ?_
    refine ab_callV (a := 13) (c0 := 0) (d' := d) (mc' := 0) (ms' := 0) (vs := [.int v1, .int v5, .int v7]) (st := [.int (gI M v2 v7.toNatClampNeg), .int v6]) dX0_replySide_47 ⟨cw_X0_cell, w_164⟩ w_166 w_2 (by decide) (hL.sh 13 rfl (by decide) (by decide)).1 (hL.sh 13 rfl (by decide) (by decide)).2 rfl rfl (Nat.le_of_ble_eq_true rfl) (Nat.le_refl _) (Nat.zero_le _) (Nat.zero_le _) (AM.mono h (fun r M14 ⟨x15, hr16, hc17, h⟩ => ?_))
    subst hr16
    refine ab_rs ?_
    have hm18 : Sm M M14 := (Sm.refl M).trans hc17
    have hl19 := hL.of hm18
    refine ab_imul dX0_replySide_50 ?_
    refine ab_iadd dX0_replySide_51 ?_
    refine ab_topi (fun x20 hx20 => ?_)
    have h := h x20 hx20
    refine ab_istore (lv1 := [(6, .int x20), (0, .ref 13), (1, .int v1), (2, .ref v2), (3, .int v3), (4, .int v4), (5, .int v5), (7, .int v7)]) dX0_replySide_52 (by decide) rfl ?_
    obtain ⟨x21, hx21⟩ : ∃ y : Int32, y = v7 + (1 : Int32) := ⟨_, rfl⟩
    have h := h x21 hx21
    refine ab_iinc (v := x21) 7 (lv1 := [(7, .int x21), (6, .int x20), (0, .ref 13), (1, .int v1), (2, .ref v2), (3, .int v3), (4, .int v4), (5, .int v5)]) dX0_replySide_54 rfl (by rw [hx21]; rfl) (by decide) rfl ?_
    refine ab_goto (tgt := 29) dX0_replySide_57 (by decide) ?_
    exact ab_sub [2, 3, 4, 5, 6, 7, 1, 0] rfl h
theorem dX0_millionths_0 : decode cX0_millionths 0 = .ok (.aload_n 0, 1) := by decide +kernel
theorem dX0_millionths_1 : decode cX0_millionths 1 = .ok (.iconst 0, 1) := by decide +kernel
theorem dX0_millionths_2 : decode cX0_millionths 2 = .ok (.invokevirtual 113, 3) := by decide +kernel
theorem dX0_millionths_5 : decode cX0_millionths 5 = .ok (.aload_n 0, 1) := by decide +kernel
theorem dX0_millionths_6 : decode cX0_millionths 6 = .ok (.getfield 37, 3) := by decide +kernel
theorem dX0_millionths_9 : decode cX0_millionths 9 = .ok (.lconst 0, 1) := by decide +kernel
theorem dX0_millionths_10 : decode cX0_millionths 10 = .ok (.lcmp, 1) := by decide +kernel
theorem dX0_millionths_11 : decode cX0_millionths 11 = .ok (.ifCond .le 20, 3) := by decide +kernel
theorem dX0_millionths_14 : decode cX0_millionths 14 = .ok (.aload_n 0, 1) := by decide +kernel
theorem dX0_millionths_15 : decode cX0_millionths 15 = .ok (.getfield 33, 3) := by decide +kernel
theorem dX0_millionths_18 : decode cX0_millionths 18 = .ok (.ldc2_w 140, 3) := by decide +kernel
theorem dX0_millionths_21 : decode cX0_millionths 21 = .ok (.lmul, 1) := by decide +kernel
theorem dX0_millionths_22 : decode cX0_millionths 22 = .ok (.aload_n 0, 1) := by decide +kernel
theorem dX0_millionths_23 : decode cX0_millionths 23 = .ok (.getfield 37, 3) := by decide +kernel
theorem dX0_millionths_26 : decode cX0_millionths 26 = .ok (.ldiv, 1) := by decide +kernel
theorem dX0_millionths_27 : decode cX0_millionths 27 = .ok (.l2i, 1) := by decide +kernel
theorem dX0_millionths_28 : decode cX0_millionths 28 = .ok (.goto 4, 3) := by decide +kernel
theorem dX0_millionths_31 : decode cX0_millionths 31 = .ok (.iconst 0, 1) := by decide +kernel
theorem dX0_millionths_32 : decode cX0_millionths 32 = .ok (.ireturn, 1) := by decide +kernel
set_option maxRecDepth 20000 in
theorem rX0_millionths (D : GD) (d : Nat)  (M : Mm) (post : Option Value → Mm → Prop) (hL : Lay 13 25 M) 
    (h : AMv D d mX0_weighGoals [.ref 13, .int (0 : Int32)] M (fun M1 => (((lg_cmp (gL M1 13 7) (0 : Int64)) ≤ 0 → post (some (.int (0 : Int32))) M1) ∧ (¬ (lg_cmp (gL M1 13 7) (0 : Int64)) ≤ 0 → (¬ (gL M1 13 7) = 0) ∧ post (some (.int (((((gL M1 13 6) * (1000000 : Int64)) / (gL M1 13 7))).toInt32))) M1)))) :
    AM D (d + 1) 0 0 mX0_millionths [.ref 13] M post := by
  refine AM.of (by decide) (Nat.le_of_ble_eq_true rfl) ?_
  show AW D (d + 1) 0 0 mX0_millionths 0 0 0 [(0, .ref 13)] [] M post
  refine ab_aload_n 0 dX0_millionths_0 rfl ?_
  refine ab_iconst (v := 0) dX0_millionths_1 (by decide) ?_
  refine ab_callV (a := 13) (c0 := 0) (d' := d) (mc' := 0) (ms' := 0) (vs := [.int (0 : Int32)]) (st := []) dX0_millionths_2 ⟨cw_X0_weighGoals, w_687⟩ w_689 w_16 (by decide) (hL.sh 13 rfl (by decide) (by decide)).1 (hL.sh 13 rfl (by decide) (by decide)).2 rfl rfl (Nat.le_of_ble_eq_true rfl) (Nat.le_refl _) (Nat.zero_le _) (Nat.zero_le _) (AM.mono h (fun r M1 ⟨hr3, hc4, h⟩ => ?_))
  subst hr3
  refine ab_rv ?_
  have hm5 : Sm M M1 := (Sm.refl M).trans hc4
  have hl6 := hL.of hm5
  refine ab_aload_n 0 dX0_millionths_5 rfl ?_
  refine ab_getL dX0_millionths_6 fs_0_37_0 rfl (hl6.sh 13 rfl (by decide) (by decide)).1 (hl6.sh 13 rfl (by decide) (by decide)).2 ?_
  refine ab_lconst (v := 0) dX0_millionths_9 (by decide) ?_
  refine ab_lcmp dX0_millionths_10 ?_
  refine ab_if_le (tgt := 31) dX0_millionths_11 (by decide) (fun c7 => ?_) (fun c7 => ?_)
  · have h := h.1 c7
    refine ab_iconst (v := 0) dX0_millionths_31 (by decide) ?_
    exact ab_iret dX0_millionths_32 rfl h
  · have h := h.2 c7
    refine ab_aload_n 0 dX0_millionths_14 rfl ?_
    refine ab_getL dX0_millionths_15 fs_0_33_0 rfl (hl6.sh 13 rfl (by decide) (by decide)).1 (hl6.sh 13 rfl (by decide) (by decide)).2 ?_
    refine ab_ldc2 dX0_millionths_18 w_695 ?_
    refine ab_lmul dX0_millionths_21 ?_
    refine ab_aload_n 0 dX0_millionths_22 rfl ?_
    refine ab_getL dX0_millionths_23 fs_0_37_0 rfl (hl6.sh 13 rfl (by decide) (by decide)).1 (hl6.sh 13 rfl (by decide) (by decide)).2 ?_
    have hn8 := h.1
    have h := h.2
    refine ab_ldiv dX0_millionths_26 hn8 ?_
    refine ab_l2i dX0_millionths_27 ?_
    refine ab_goto (tgt := 32) dX0_millionths_28 (by decide) ?_
    exact ab_iret dX0_millionths_32 rfl h
theorem dX0_weighGoals_0 : decode cX0_weighGoals 0 = .ok (.lconst 0, 1) := by decide +kernel
theorem dX0_weighGoals_1 : decode cX0_weighGoals 1 = .ok (.lstore_n 2, 1) := by decide +kernel
theorem dX0_weighGoals_2 : decode cX0_weighGoals 2 = .ok (.lconst 0, 1) := by decide +kernel
theorem dX0_weighGoals_3 : decode cX0_weighGoals 3 = .ok (.lstore 4, 2) := by decide +kernel
theorem dX0_weighGoals_5 : decode cX0_weighGoals 5 = .ok (.iconst 0, 1) := by decide +kernel
theorem dX0_weighGoals_6 : decode cX0_weighGoals 6 = .ok (.istore 6, 2) := by decide +kernel
theorem dX0_weighGoals_8 : decode cX0_weighGoals 8 = .ok (.iload 6, 2) := by decide +kernel
theorem dX0_weighGoals_10 : decode cX0_weighGoals 10 = .ok (.iconst 3, 1) := by decide +kernel
theorem dX0_weighGoals_11 : decode cX0_weighGoals 11 = .ok (.if_icmp .ge 37, 3) := by decide +kernel
theorem dX0_weighGoals_14 : decode cX0_weighGoals 14 = .ok (.lload_n 2, 1) := by decide +kernel
theorem dX0_weighGoals_15 : decode cX0_weighGoals 15 = .ok (.aload_n 0, 1) := by decide +kernel
theorem dX0_weighGoals_16 : decode cX0_weighGoals 16 = .ok (.getfield 26, 3) := by decide +kernel
theorem dX0_weighGoals_19 : decode cX0_weighGoals 19 = .ok (.iconst 0, 1) := by decide +kernel
theorem dX0_weighGoals_20 : decode cX0_weighGoals 20 = .ok (.aaload, 1) := by decide +kernel
theorem dX0_weighGoals_21 : decode cX0_weighGoals 21 = .ok (.iload 6, 2) := by decide +kernel
theorem dX0_weighGoals_23 : decode cX0_weighGoals 23 = .ok (.iaload, 1) := by decide +kernel
theorem dX0_weighGoals_24 : decode cX0_weighGoals 24 = .ok (.i2l, 1) := by decide +kernel
theorem dX0_weighGoals_25 : decode cX0_weighGoals 25 = .ok (.ladd, 1) := by decide +kernel
theorem dX0_weighGoals_26 : decode cX0_weighGoals 26 = .ok (.lstore_n 2, 1) := by decide +kernel
theorem dX0_weighGoals_27 : decode cX0_weighGoals 27 = .ok (.lload 4, 2) := by decide +kernel
theorem dX0_weighGoals_29 : decode cX0_weighGoals 29 = .ok (.aload_n 0, 1) := by decide +kernel
theorem dX0_weighGoals_30 : decode cX0_weighGoals 30 = .ok (.getfield 26, 3) := by decide +kernel
theorem dX0_weighGoals_33 : decode cX0_weighGoals 33 = .ok (.iconst 1, 1) := by decide +kernel
theorem dX0_weighGoals_34 : decode cX0_weighGoals 34 = .ok (.aaload, 1) := by decide +kernel
theorem dX0_weighGoals_35 : decode cX0_weighGoals 35 = .ok (.iload 6, 2) := by decide +kernel
theorem dX0_weighGoals_37 : decode cX0_weighGoals 37 = .ok (.iaload, 1) := by decide +kernel
theorem dX0_weighGoals_38 : decode cX0_weighGoals 38 = .ok (.i2l, 1) := by decide +kernel
theorem dX0_weighGoals_39 : decode cX0_weighGoals 39 = .ok (.ladd, 1) := by decide +kernel
theorem dX0_weighGoals_40 : decode cX0_weighGoals 40 = .ok (.lstore 4, 2) := by decide +kernel
theorem dX0_weighGoals_42 : decode cX0_weighGoals 42 = .ok (.iinc 6 1, 3) := by decide +kernel
theorem dX0_weighGoals_45 : decode cX0_weighGoals 45 = .ok (.goto (-37), 3) := by decide +kernel
theorem dX0_weighGoals_48 : decode cX0_weighGoals 48 = .ok (.lconst 0, 1) := by decide +kernel
theorem dX0_weighGoals_49 : decode cX0_weighGoals 49 = .ok (.lstore 6, 2) := by decide +kernel
theorem dX0_weighGoals_51 : decode cX0_weighGoals 51 = .ok (.iconst 0, 1) := by decide +kernel
theorem dX0_weighGoals_52 : decode cX0_weighGoals 52 = .ok (.istore 8, 2) := by decide +kernel
theorem dX0_weighGoals_54 : decode cX0_weighGoals 54 = .ok (.iload 8, 2) := by decide +kernel
theorem dX0_weighGoals_56 : decode cX0_weighGoals 56 = .ok (.iconst 3, 1) := by decide +kernel
theorem dX0_weighGoals_57 : decode cX0_weighGoals 57 = .ok (.if_icmp .ge 107, 3) := by decide +kernel
theorem dX0_weighGoals_60 : decode cX0_weighGoals 60 = .ok (.lconst 0, 1) := by decide +kernel
theorem dX0_weighGoals_61 : decode cX0_weighGoals 61 = .ok (.lstore 9, 2) := by decide +kernel
theorem dX0_weighGoals_63 : decode cX0_weighGoals 63 = .ok (.ldc2_w 142, 3) := by decide +kernel
theorem dX0_weighGoals_66 : decode cX0_weighGoals 66 = .ok (.lstore 11, 2) := by decide +kernel
theorem dX0_weighGoals_68 : decode cX0_weighGoals 68 = .ok (.iconst 0, 1) := by decide +kernel
theorem dX0_weighGoals_69 : decode cX0_weighGoals 69 = .ok (.istore 13, 2) := by decide +kernel
theorem dX0_weighGoals_71 : decode cX0_weighGoals 71 = .ok (.iload 13, 2) := by decide +kernel
theorem dX0_weighGoals_73 : decode cX0_weighGoals 73 = .ok (.iconst 3, 1) := by decide +kernel
theorem dX0_weighGoals_74 : decode cX0_weighGoals 74 = .ok (.if_icmp .ge 51, 3) := by decide +kernel
theorem dX0_weighGoals_77 : decode cX0_weighGoals 77 = .ok (.lload 9, 2) := by decide +kernel
theorem dX0_weighGoals_79 : decode cX0_weighGoals 79 = .ok (.aload_n 0, 1) := by decide +kernel
theorem dX0_weighGoals_80 : decode cX0_weighGoals 80 = .ok (.getfield 26, 3) := by decide +kernel
theorem dX0_weighGoals_83 : decode cX0_weighGoals 83 = .ok (.iconst 1, 1) := by decide +kernel
theorem dX0_weighGoals_84 : decode cX0_weighGoals 84 = .ok (.aaload, 1) := by decide +kernel
theorem dX0_weighGoals_85 : decode cX0_weighGoals 85 = .ok (.iload 13, 2) := by decide +kernel
theorem dX0_weighGoals_87 : decode cX0_weighGoals 87 = .ok (.iaload, 1) := by decide +kernel
theorem dX0_weighGoals_88 : decode cX0_weighGoals 88 = .ok (.aload_n 0, 1) := by decide +kernel
theorem dX0_weighGoals_89 : decode cX0_weighGoals 89 = .ok (.iconst 0, 1) := by decide +kernel
theorem dX0_weighGoals_90 : decode cX0_weighGoals 90 = .ok (.iload 8, 2) := by decide +kernel
theorem dX0_weighGoals_92 : decode cX0_weighGoals 92 = .ok (.iload 13, 2) := by decide +kernel
theorem dX0_weighGoals_94 : decode cX0_weighGoals 94 = .ok (.invokevirtual 61, 3) := by decide +kernel
theorem dX0_weighGoals_97 : decode cX0_weighGoals 97 = .ok (.imul, 1) := by decide +kernel
theorem dX0_weighGoals_98 : decode cX0_weighGoals 98 = .ok (.i2l, 1) := by decide +kernel
theorem dX0_weighGoals_99 : decode cX0_weighGoals 99 = .ok (.ladd, 1) := by decide +kernel
theorem dX0_weighGoals_100 : decode cX0_weighGoals 100 = .ok (.lstore 9, 2) := by decide +kernel
theorem dX0_weighGoals_102 : decode cX0_weighGoals 102 = .ok (.lload 11, 2) := by decide +kernel
theorem dX0_weighGoals_104 : decode cX0_weighGoals 104 = .ok (.aload_n 0, 1) := by decide +kernel
theorem dX0_weighGoals_105 : decode cX0_weighGoals 105 = .ok (.iconst 0, 1) := by decide +kernel
theorem dX0_weighGoals_106 : decode cX0_weighGoals 106 = .ok (.iload 8, 2) := by decide +kernel
theorem dX0_weighGoals_108 : decode cX0_weighGoals 108 = .ok (.iload 13, 2) := by decide +kernel
theorem dX0_weighGoals_110 : decode cX0_weighGoals 110 = .ok (.invokevirtual 61, 3) := by decide +kernel
theorem dX0_weighGoals_113 : decode cX0_weighGoals 113 = .ok (.i2l, 1) := by decide +kernel
theorem dX0_weighGoals_114 : decode cX0_weighGoals 114 = .ok (.invokestatic 144, 3) := by decide +kernel
theorem dX0_weighGoals_117 : decode cX0_weighGoals 117 = .ok (.lstore 11, 2) := by decide +kernel
theorem dX0_weighGoals_119 : decode cX0_weighGoals 119 = .ok (.iinc 13 1, 3) := by decide +kernel
theorem dX0_weighGoals_122 : decode cX0_weighGoals 122 = .ok (.goto (-51), 3) := by decide +kernel
theorem dX0_weighGoals_125 : decode cX0_weighGoals 125 = .ok (.lload 6, 2) := by decide +kernel
theorem dX0_weighGoals_127 : decode cX0_weighGoals 127 = .ok (.aload_n 0, 1) := by decide +kernel
theorem dX0_weighGoals_128 : decode cX0_weighGoals 128 = .ok (.getfield 26, 3) := by decide +kernel
theorem dX0_weighGoals_131 : decode cX0_weighGoals 131 = .ok (.iconst 0, 1) := by decide +kernel
theorem dX0_weighGoals_132 : decode cX0_weighGoals 132 = .ok (.aaload, 1) := by decide +kernel
theorem dX0_weighGoals_133 : decode cX0_weighGoals 133 = .ok (.iload 8, 2) := by decide +kernel
theorem dX0_weighGoals_135 : decode cX0_weighGoals 135 = .ok (.iaload, 1) := by decide +kernel
theorem dX0_weighGoals_136 : decode cX0_weighGoals 136 = .ok (.i2l, 1) := by decide +kernel
theorem dX0_weighGoals_137 : decode cX0_weighGoals 137 = .ok (.iload_n 1, 1) := by decide +kernel
theorem dX0_weighGoals_138 : decode cX0_weighGoals 138 = .ok (.i2l, 1) := by decide +kernel
theorem dX0_weighGoals_139 : decode cX0_weighGoals 139 = .ok (.lload 11, 2) := by decide +kernel
theorem dX0_weighGoals_141 : decode cX0_weighGoals 141 = .ok (.lmul, 1) := by decide +kernel
theorem dX0_weighGoals_142 : decode cX0_weighGoals 142 = .ok (.lload 4, 2) := by decide +kernel
theorem dX0_weighGoals_144 : decode cX0_weighGoals 144 = .ok (.lmul, 1) := by decide +kernel
theorem dX0_weighGoals_145 : decode cX0_weighGoals 145 = .ok (.bipush 100, 2) := by decide +kernel
theorem dX0_weighGoals_147 : decode cX0_weighGoals 147 = .ok (.iload_n 1, 1) := by decide +kernel
theorem dX0_weighGoals_148 : decode cX0_weighGoals 148 = .ok (.isub, 1) := by decide +kernel
theorem dX0_weighGoals_149 : decode cX0_weighGoals 149 = .ok (.i2l, 1) := by decide +kernel
theorem dX0_weighGoals_150 : decode cX0_weighGoals 150 = .ok (.lload 9, 2) := by decide +kernel
theorem dX0_weighGoals_152 : decode cX0_weighGoals 152 = .ok (.lmul, 1) := by decide +kernel
theorem dX0_weighGoals_153 : decode cX0_weighGoals 153 = .ok (.ladd, 1) := by decide +kernel
theorem dX0_weighGoals_154 : decode cX0_weighGoals 154 = .ok (.lmul, 1) := by decide +kernel
theorem dX0_weighGoals_155 : decode cX0_weighGoals 155 = .ok (.ladd, 1) := by decide +kernel
theorem dX0_weighGoals_156 : decode cX0_weighGoals 156 = .ok (.lstore 6, 2) := by decide +kernel
theorem dX0_weighGoals_158 : decode cX0_weighGoals 158 = .ok (.iinc 8 1, 3) := by decide +kernel
theorem dX0_weighGoals_161 : decode cX0_weighGoals 161 = .ok (.goto (-107), 3) := by decide +kernel
theorem dX0_weighGoals_164 : decode cX0_weighGoals 164 = .ok (.aload_n 0, 1) := by decide +kernel
theorem dX0_weighGoals_165 : decode cX0_weighGoals 165 = .ok (.lload 6, 2) := by decide +kernel
theorem dX0_weighGoals_167 : decode cX0_weighGoals 167 = .ok (.bipush 100, 2) := by decide +kernel
theorem dX0_weighGoals_169 : decode cX0_weighGoals 169 = .ok (.aload_n 0, 1) := by decide +kernel
theorem dX0_weighGoals_170 : decode cX0_weighGoals 170 = .ok (.getfield 29, 3) := by decide +kernel
theorem dX0_weighGoals_173 : decode cX0_weighGoals 173 = .ok (.isub, 1) := by decide +kernel
theorem dX0_weighGoals_174 : decode cX0_weighGoals 174 = .ok (.i2l, 1) := by decide +kernel
theorem dX0_weighGoals_175 : decode cX0_weighGoals 175 = .ok (.lmul, 1) := by decide +kernel
theorem dX0_weighGoals_176 : decode cX0_weighGoals 176 = .ok (.putfield 33, 3) := by decide +kernel
theorem dX0_weighGoals_179 : decode cX0_weighGoals 179 = .ok (.aload_n 0, 1) := by decide +kernel
theorem dX0_weighGoals_180 : decode cX0_weighGoals 180 = .ok (.lload_n 2, 1) := by decide +kernel
theorem dX0_weighGoals_181 : decode cX0_weighGoals 181 = .ok (.lload 4, 2) := by decide +kernel
theorem dX0_weighGoals_183 : decode cX0_weighGoals 183 = .ok (.lmul, 1) := by decide +kernel
theorem dX0_weighGoals_184 : decode cX0_weighGoals 184 = .ok (.ldc2_w 140, 3) := by decide +kernel
theorem dX0_weighGoals_187 : decode cX0_weighGoals 187 = .ok (.lmul, 1) := by decide +kernel
theorem dX0_weighGoals_188 : decode cX0_weighGoals 188 = .ok (.putfield 37, 3) := by decide +kernel
theorem dX0_weighGoals_191 : decode cX0_weighGoals 191 = .ok (.return_, 1) := by decide +kernel
def LX0_weighGoals_8 (D : GD) (d : Nat) (v1 : Int32) (v2 : Int64) (v4 : Int64) (v6 : Int32) (M : Mm) (post : Option Value → Mm → Prop) : Prop := AW D (d + 1) 0 0 mX0_weighGoals 0 0 8 [(0, .ref 13), (1, .int v1), (2, .long v2), (4, .long v4), (6, .int v6)] [] M post
def LX0_weighGoals_54 (D : GD) (d : Nat) (v1 : Int32) (v2 : Int64) (v4 : Int64) (v6 : Int64) (v8 : Int32) (M : Mm) (post : Option Value → Mm → Prop) : Prop := AW D (d + 1) 0 0 mX0_weighGoals 0 0 54 [(0, .ref 13), (1, .int v1), (2, .long v2), (4, .long v4), (6, .long v6), (8, .int v8)] [] M post
def LX0_weighGoals_71 (D : GD) (d : Nat) (v1 : Int32) (v2 : Int64) (v4 : Int64) (v6 : Int64) (v8 : Int32) (v9 : Int64) (v11 : Int64) (v13 : Int32) (M : Mm) (post : Option Value → Mm → Prop) : Prop := AW D (d + 1) 0 0 mX0_weighGoals 0 0 71 [(0, .ref 13), (1, .int v1), (2, .long v2), (4, .long v4), (6, .long v6), (8, .int v8), (9, .long v9), (11, .long v11), (13, .int v13)] [] M post
set_option maxRecDepth 20000 in
theorem rX0_weighGoals (D : GD) (d : Nat) (a1 : Int32) (M : Mm) (post : Option Value → Mm → Prop) (hL : Lay 13 25 M) 
    (h : LX0_weighGoals_8 D d a1 (0 : Int64) (0 : Int64) (0 : Int32) M post) :
    AM D (d + 1) 0 0 mX0_weighGoals [.ref 13, .int a1] M post := by
  refine AM.of (by decide) (Nat.le_of_ble_eq_true rfl) ?_
  show AW D (d + 1) 0 0 mX0_weighGoals 0 0 0 [(0, .ref 13), (1, .int a1)] [] M post
  refine ab_lconst (v := 0) dX0_weighGoals_0 (by decide) ?_
  refine ab_lstore_n (lv1 := [(2, .long (0 : Int64)), (0, .ref 13), (1, .int a1)]) dX0_weighGoals_1 (by decide) rfl ?_
  refine ab_lconst (v := 0) dX0_weighGoals_2 (by decide) ?_
  refine ab_lstore (lv1 := [(4, .long (0 : Int64)), (2, .long (0 : Int64)), (0, .ref 13), (1, .int a1)]) dX0_weighGoals_3 (by decide) rfl ?_
  refine ab_iconst (v := 0) dX0_weighGoals_5 (by decide) ?_
  refine ab_istore (lv1 := [(6, .int (0 : Int32)), (4, .long (0 : Int64)), (2, .long (0 : Int64)), (0, .ref 13), (1, .int a1)]) dX0_weighGoals_6 (by decide) rfl ?_
  exact ab_sub [3, 4, 2, 1, 0] rfl h
set_option maxRecDepth 20000 in
theorem rX0_weighGoals_8 (D : GD) (d : Nat)  (v1 : Int32) (v2 : Int64) (v4 : Int64) (v6 : Int32) (M : Mm) (post : Option Value → Mm → Prop) (hL : Lay 13 25 M) 
    (h : (((3 : Int32) ≤ v6 → LX0_weighGoals_54 D d v1 v2 v4 (0 : Int64) (0 : Int32) M post) ∧ (¬ (3 : Int32) ≤ v6 → vp_in v6 4 ∧ ∀ x3 : Int64, x3 = (v2 + ((gI M 23 v6.toNatClampNeg)).toInt64) → ∀ x4 : Int64, x4 = (v4 + ((gI M 24 v6.toNatClampNeg)).toInt64) → ∀ x5 : Int32, x5 = v6 + (1 : Int32) → LX0_weighGoals_8 D d v1 x3 x4 x5 M post))) :
    LX0_weighGoals_8 D d v1 v2 v4 v6 M post := by
  show AW D (d + 1) 0 0 mX0_weighGoals 0 0 8 [(0, .ref 13), (1, .int v1), (2, .long v2), (4, .long v4), (6, .int v6)] [] M post
  refine ab_iload 4 dX0_weighGoals_8 rfl ?_
  refine ab_iconst (v := 3) dX0_weighGoals_10 (by decide) ?_
  refine ab_icmp_ge (tgt := 48) dX0_weighGoals_11 (by decide) (fun c1 => ?_) (fun c1 => ?_)
  · have h := h.1 c1
    refine ab_lconst (v := 0) dX0_weighGoals_48 (by decide) ?_
    refine ab_lstore (lv1 := [(6, .long (0 : Int64)), (0, .ref 13), (1, .int v1), (2, .long v2), (4, .long v4)]) dX0_weighGoals_49 (by decide) rfl ?_
    refine ab_iconst (v := 0) dX0_weighGoals_51 (by decide) ?_
    refine ab_istore (lv1 := [(8, .int (0 : Int32)), (6, .long (0 : Int64)), (0, .ref 13), (1, .int v1), (2, .long v2), (4, .long v4)]) dX0_weighGoals_52 (by decide) rfl ?_
    exact ab_sub [2, 3, 4, 5, 1, 0] rfl h
  · have h := h.2 c1
    refine ab_lload_n 2 dX0_weighGoals_14 rfl ?_
    refine ab_aload_n 0 dX0_weighGoals_15 rfl ?_
    refine ab_getP (r := 22) dX0_weighGoals_16 fs_0_26_0 rfl (hL.sh 13 rfl (by decide) (by decide)).1 (hL.sh 13 rfl (by decide) (by decide)).2 (hL.pt 26 rfl (by decide) (by decide)) ?_
    refine ab_iconst (v := 0) dX0_weighGoals_19 (by decide) ?_
    refine ab_aald4j (j := 0) (r := 23) dX0_weighGoals_20 (hL.sh 22 rfl (by decide) (by decide)) (vin (by decide)) (by decide) (hL.pt 31 rfl (by decide) (by decide)) ?_
    refine ab_iload 4 dX0_weighGoals_21 rfl ?_
    have hb2 := h.1
    have h := h.2
    refine ab_ialdj (j := v6.toNatClampNeg) dX0_weighGoals_23 (hL.sh 23 rfl (by decide) (by decide)) hb2 rfl ?_
    refine ab_i2l dX0_weighGoals_24 ?_
    refine ab_ladd dX0_weighGoals_25 ?_
    refine ab_topl (fun x3 hx3 => ?_)
    have h := h x3 hx3
    refine ab_lstore_n (lv1 := [(2, .long x3), (0, .ref 13), (1, .int v1), (4, .long v4), (6, .int v6)]) dX0_weighGoals_26 (by decide) rfl ?_
    refine ab_lload 3 dX0_weighGoals_27 rfl ?_
    refine ab_aload_n 1 dX0_weighGoals_29 rfl ?_
    refine ab_getP (r := 22) dX0_weighGoals_30 fs_0_26_0 rfl (hL.sh 13 rfl (by decide) (by decide)).1 (hL.sh 13 rfl (by decide) (by decide)).2 (hL.pt 26 rfl (by decide) (by decide)) ?_
    refine ab_iconst (v := 1) dX0_weighGoals_33 (by decide) ?_
    refine ab_aald4j (j := 1) (r := 24) dX0_weighGoals_34 (hL.sh 22 rfl (by decide) (by decide)) (vin (by decide)) (by decide) (hL.pt 32 rfl (by decide) (by decide)) ?_
    refine ab_iload 4 dX0_weighGoals_35 rfl ?_
    refine ab_ialdj (j := v6.toNatClampNeg) dX0_weighGoals_37 (hL.sh 24 rfl (by decide) (by decide)) hb2 rfl ?_
    refine ab_i2l dX0_weighGoals_38 ?_
    refine ab_ladd dX0_weighGoals_39 ?_
    refine ab_topl (fun x4 hx4 => ?_)
    have h := h x4 hx4
    refine ab_lstore (lv1 := [(4, .long x4), (2, .long x3), (0, .ref 13), (1, .int v1), (6, .int v6)]) dX0_weighGoals_40 (by decide) rfl ?_
    obtain ⟨x5, hx5⟩ : ∃ y : Int32, y = v6 + (1 : Int32) := ⟨_, rfl⟩
    have h := h x5 hx5
    refine ab_iinc (v := x5) 4 (lv1 := [(6, .int x5), (4, .long x4), (2, .long x3), (0, .ref 13), (1, .int v1)]) dX0_weighGoals_42 rfl (by rw [hx5]; rfl) (by decide) rfl ?_
    refine ab_goto (tgt := 8) dX0_weighGoals_45 (by decide) ?_
    exact ab_sub [3, 4, 2, 1, 0] rfl h
set_option maxRecDepth 20000 in
theorem rX0_weighGoals_54 (D : GD) (d : Nat)  (v1 : Int32) (v2 : Int64) (v4 : Int64) (v6 : Int64) (v8 : Int32) (M : Mm) (post : Option Value → Mm → Prop) (hL : Lay 13 25 M) 
    (h : (((3 : Int32) ≤ v8 → ∀ M2 : Mm, M2 = sL M 13 6 (v6 * (((100 : Int32) - (gI M 13 5))).toInt64) → ∀ M6 : Mm, M6 = sL M2 13 7 ((v2 * v4) * (1000000 : Int64)) → post none M6) ∧ (¬ (3 : Int32) ≤ v8 → LX0_weighGoals_71 D d v1 v2 v4 v6 v8 (0 : Int64) (100 : Int64) (0 : Int32) M post))) :
    LX0_weighGoals_54 D d v1 v2 v4 v6 v8 M post := by
  show AW D (d + 1) 0 0 mX0_weighGoals 0 0 54 [(0, .ref 13), (1, .int v1), (2, .long v2), (4, .long v4), (6, .long v6), (8, .int v8)] [] M post
  refine ab_iload 5 dX0_weighGoals_54 rfl ?_
  refine ab_iconst (v := 3) dX0_weighGoals_56 (by decide) ?_
  refine ab_icmp_ge (tgt := 164) dX0_weighGoals_57 (by decide) (fun c1 => ?_) (fun c1 => ?_)
  · have h := h.1 c1
    refine ab_aload_n 0 dX0_weighGoals_164 rfl ?_
    refine ab_lload 4 dX0_weighGoals_165 rfl ?_
    refine ab_bipush (v := 100) dX0_weighGoals_167 (by decide) ?_
    refine ab_aload_n 0 dX0_weighGoals_169 rfl ?_
    refine ab_getI dX0_weighGoals_170 fs_0_29_0 rfl (hL.sh 13 rfl (by decide) (by decide)).1 (hL.sh 13 rfl (by decide) (by decide)).2 ?_
    refine ab_isub dX0_weighGoals_173 ?_
    refine ab_i2l dX0_weighGoals_174 ?_
    refine ab_lmul dX0_weighGoals_175 ?_
    refine ab_putL dX0_weighGoals_176 fs_0_33_0 rfl rfl (hL.sh 13 rfl (by decide) (by decide)).1 (hL.sh 13 rfl (by decide) (by decide)).2 ?_
    refine ab_nameM (fun M2 hM2 => ?_)
    have h := h M2 hM2
    have hs5 : Sm M M2 := hM2 ▸ (Sm.refl _).l
    have hm3 : Sm M M2 := (Sm.refl M).trans hs5
    have hl4 := hL.of hm3
    refine ab_aload_n 0 dX0_weighGoals_179 rfl ?_
    refine ab_lload_n 2 dX0_weighGoals_180 rfl ?_
    refine ab_lload 3 dX0_weighGoals_181 rfl ?_
    refine ab_lmul dX0_weighGoals_183 ?_
    refine ab_ldc2 dX0_weighGoals_184 w_695 ?_
    refine ab_lmul dX0_weighGoals_187 ?_
    refine ab_putL dX0_weighGoals_188 fs_0_37_0 rfl rfl (hl4.sh 13 rfl (by decide) (by decide)).1 (hl4.sh 13 rfl (by decide) (by decide)).2 ?_
    refine ab_nameM (fun M6 hM6 => ?_)
    have h := h M6 hM6
    have hs9 : Sm M2 M6 := hM6 ▸ (Sm.refl _).l
    have hm7 : Sm M M6 := hm3.trans hs9
    have hl8 := hL.of hm7
    exact ab_vret dX0_weighGoals_191 rfl h
  · have h := h.2 c1
    refine ab_lconst (v := 0) dX0_weighGoals_60 (by decide) ?_
    refine ab_lstore (lv1 := [(9, .long (0 : Int64)), (0, .ref 13), (1, .int v1), (2, .long v2), (4, .long v4), (6, .long v6), (8, .int v8)]) dX0_weighGoals_61 (by decide) rfl ?_
    refine ab_ldc2 dX0_weighGoals_63 w_691 ?_
    refine ab_lstore (lv1 := [(11, .long (100 : Int64)), (9, .long (0 : Int64)), (0, .ref 13), (1, .int v1), (2, .long v2), (4, .long v4), (6, .long v6), (8, .int v8)]) dX0_weighGoals_66 (by decide) rfl ?_
    refine ab_iconst (v := 0) dX0_weighGoals_68 (by decide) ?_
    refine ab_istore (lv1 := [(13, .int (0 : Int32)), (11, .long (100 : Int64)), (9, .long (0 : Int64)), (0, .ref 13), (1, .int v1), (2, .long v2), (4, .long v4), (6, .long v6), (8, .int v8)]) dX0_weighGoals_69 (by decide) rfl ?_
    exact ab_sub [3, 4, 5, 6, 7, 8, 2, 1, 0] rfl h
set_option maxRecDepth 20000 in
theorem rX0_weighGoals_71 (D : GD) (d : Nat)  (v1 : Int32) (v2 : Int64) (v4 : Int64) (v6 : Int64) (v8 : Int32) (v9 : Int64) (v11 : Int64) (v13 : Int32) (M : Mm) (post : Option Value → Mm → Prop) (hL : Lay 13 25 M) 
    (h : (((3 : Int32) ≤ v13 → vp_in v8 4 ∧ ∀ x3 : Int64, x3 = (v6 + (((gI M 23 v8.toNatClampNeg)).toInt64 * ((((v1).toInt64 * v11) * v4) + ((((100 : Int32) - v1)).toInt64 * v9)))) → ∀ x4 : Int32, x4 = v8 + (1 : Int32) → LX0_weighGoals_54 D d v1 v2 v4 x3 x4 M post) ∧ (¬ (3 : Int32) ≤ v13 → vp_in v13 4 ∧ AMi D d mX0_cell [.ref 13, .int (0 : Int32), .int v8, .int v13] M (fun x7 M6 => ∀ x12 : Int64, x12 = (v9 + (((gI M 24 v13.toNatClampNeg) * x7)).toInt64) → AMi D d mX0_cell [.ref 13, .int (0 : Int32), .int v8, .int v13] M6 (fun x14 M13 => ∀ x19 : Int64, x19 = (if (x14).toInt64 < v11 then (x14).toInt64 else v11) → ∀ x20 : Int32, x20 = v13 + (1 : Int32) → LX0_weighGoals_71 D d v1 v2 v4 v6 v8 x12 x19 x20 M13 post))))) :
    LX0_weighGoals_71 D d v1 v2 v4 v6 v8 v9 v11 v13 M post := by
  show AW D (d + 1) 0 0 mX0_weighGoals 0 0 71 [(0, .ref 13), (1, .int v1), (2, .long v2), (4, .long v4), (6, .long v6), (8, .int v8), (9, .long v9), (11, .long v11), (13, .int v13)] [] M post
  refine ab_iload 8 dX0_weighGoals_71 rfl ?_
  refine ab_iconst (v := 3) dX0_weighGoals_73 (by decide) ?_
  refine ab_icmp_ge (tgt := 125) dX0_weighGoals_74 (by decide) (fun c1 => ?_) (fun c1 => ?_)
  · have h := h.1 c1
    refine ab_lload 4 dX0_weighGoals_125 rfl ?_
    refine ab_aload_n 0 dX0_weighGoals_127 rfl ?_
    refine ab_getP (r := 22) dX0_weighGoals_128 fs_0_26_0 rfl (hL.sh 13 rfl (by decide) (by decide)).1 (hL.sh 13 rfl (by decide) (by decide)).2 (hL.pt 26 rfl (by decide) (by decide)) ?_
    refine ab_iconst (v := 0) dX0_weighGoals_131 (by decide) ?_
    refine ab_aald4j (j := 0) (r := 23) dX0_weighGoals_132 (hL.sh 22 rfl (by decide) (by decide)) (vin (by decide)) (by decide) (hL.pt 31 rfl (by decide) (by decide)) ?_
    refine ab_iload 5 dX0_weighGoals_133 rfl ?_
    have hb2 := h.1
    have h := h.2
    refine ab_ialdj (j := v8.toNatClampNeg) dX0_weighGoals_135 (hL.sh 23 rfl (by decide) (by decide)) hb2 rfl ?_
    refine ab_i2l dX0_weighGoals_136 ?_
    refine ab_iload_n 1 dX0_weighGoals_137 rfl ?_
    refine ab_i2l dX0_weighGoals_138 ?_
    refine ab_lload 7 dX0_weighGoals_139 rfl ?_
    refine ab_lmul dX0_weighGoals_141 ?_
    refine ab_lload 3 dX0_weighGoals_142 rfl ?_
    refine ab_lmul dX0_weighGoals_144 ?_
    refine ab_bipush (v := 100) dX0_weighGoals_145 (by decide) ?_
    refine ab_iload_n 1 dX0_weighGoals_147 rfl ?_
    refine ab_isub dX0_weighGoals_148 ?_
    refine ab_i2l dX0_weighGoals_149 ?_
    refine ab_lload 6 dX0_weighGoals_150 rfl ?_
    refine ab_lmul dX0_weighGoals_152 ?_
    refine ab_ladd dX0_weighGoals_153 ?_
    refine ab_lmul dX0_weighGoals_154 ?_
    refine ab_ladd dX0_weighGoals_155 ?_
    refine ab_topl (fun x3 hx3 => ?_)
    have h := h x3 hx3
    refine ab_lstore (lv1 := [(6, .long x3), (0, .ref 13), (1, .int v1), (2, .long v2), (4, .long v4), (8, .int v8), (9, .long v9), (11, .long v11), (13, .int v13)]) dX0_weighGoals_156 (by decide) rfl ?_
    obtain ⟨x4, hx4⟩ : ∃ y : Int32, y = v8 + (1 : Int32) := ⟨_, rfl⟩
    have h := h x4 hx4
    refine ab_iinc (v := x4) 5 (lv1 := [(8, .int x4), (6, .long x3), (0, .ref 13), (1, .int v1), (2, .long v2), (4, .long v4), (9, .long v9), (11, .long v11), (13, .int v13)]) dX0_weighGoals_158 rfl (by rw [hx4]; rfl) (by decide) rfl ?_
    refine ab_goto (tgt := 54) dX0_weighGoals_161 (by decide) ?_
    exact ab_sub [2, 3, 4, 5, 1, 0] rfl h
  · have h := h.2 c1
    refine ab_lload 6 dX0_weighGoals_77 rfl ?_
    refine ab_aload_n 0 dX0_weighGoals_79 rfl ?_
    refine ab_getP (r := 22) dX0_weighGoals_80 fs_0_26_0 rfl (hL.sh 13 rfl (by decide) (by decide)).1 (hL.sh 13 rfl (by decide) (by decide)).2 (hL.pt 26 rfl (by decide) (by decide)) ?_
    refine ab_iconst (v := 1) dX0_weighGoals_83 (by decide) ?_
    refine ab_aald4j (j := 1) (r := 24) dX0_weighGoals_84 (hL.sh 22 rfl (by decide) (by decide)) (vin (by decide)) (by decide) (hL.pt 32 rfl (by decide) (by decide)) ?_
    refine ab_iload 8 dX0_weighGoals_85 rfl ?_
    have hb5 := h.1
    have h := h.2
    refine ab_ialdj (j := v13.toNatClampNeg) dX0_weighGoals_87 (hL.sh 24 rfl (by decide) (by decide)) hb5 rfl ?_
    refine ab_aload_n 0 dX0_weighGoals_88 rfl ?_
    refine ab_iconst (v := 0) dX0_weighGoals_89 (by decide) ?_
    refine ab_iload 5 dX0_weighGoals_90 rfl ?_
    refine ab_iload 8 dX0_weighGoals_92 rfl ?_
    refine ab_callV (a := 13) (c0 := 0) (d' := d) (mc' := 0) (ms' := 0) (vs := [.int (0 : Int32), .int v8, .int v13]) (st := [.int (gI M 24 v13.toNatClampNeg), .long v9]) dX0_weighGoals_94 ⟨cw_X0_cell, w_164⟩ w_166 w_2 (by decide) (hL.sh 13 rfl (by decide) (by decide)).1 (hL.sh 13 rfl (by decide) (by decide)).2 rfl rfl (Nat.le_of_ble_eq_true rfl) (Nat.le_refl _) (Nat.zero_le _) (Nat.zero_le _) (AM.mono h (fun r M6 ⟨x7, hr8, hc9, h⟩ => ?_))
    subst hr8
    refine ab_rs ?_
    have hm10 : Sm M M6 := (Sm.refl M).trans hc9
    have hl11 := hL.of hm10
    refine ab_imul dX0_weighGoals_97 ?_
    refine ab_i2l dX0_weighGoals_98 ?_
    refine ab_ladd dX0_weighGoals_99 ?_
    refine ab_topl (fun x12 hx12 => ?_)
    have h := h x12 hx12
    refine ab_lstore (lv1 := [(9, .long x12), (0, .ref 13), (1, .int v1), (2, .long v2), (4, .long v4), (6, .long v6), (8, .int v8), (11, .long v11), (13, .int v13)]) dX0_weighGoals_100 (by decide) rfl ?_
    refine ab_lload 7 dX0_weighGoals_102 rfl ?_
    refine ab_aload_n 1 dX0_weighGoals_104 rfl ?_
    refine ab_iconst (v := 0) dX0_weighGoals_105 (by decide) ?_
    refine ab_iload 6 dX0_weighGoals_106 rfl ?_
    refine ab_iload 8 dX0_weighGoals_108 rfl ?_
    refine ab_callV (a := 13) (c0 := 0) (d' := d) (mc' := 0) (ms' := 0) (vs := [.int (0 : Int32), .int v8, .int v13]) (st := [.long v11]) dX0_weighGoals_110 ⟨cw_X0_cell, w_164⟩ w_166 w_2 (by decide) (hl11.sh 13 rfl (by decide) (by decide)).1 (hl11.sh 13 rfl (by decide) (by decide)).2 rfl rfl (Nat.le_of_ble_eq_true rfl) (Nat.le_refl _) (Nat.zero_le _) (Nat.zero_le _) (AM.mono h (fun r M13 ⟨x14, hr15, hc16, h⟩ => ?_))
    subst hr15
    refine ab_rs ?_
    have hm17 : Sm M M13 := hm10.trans hc16
    have hl18 := hL.of hm17
    refine ab_i2l dX0_weighGoals_113 ?_
    refine ab_mmin_long (st := []) dX0_weighGoals_114 w_692 (Nat.le_of_ble_eq_true rfl) (Nat.succ_le_succ (Nat.zero_le _)) ?_
    refine ab_topl (fun x19 hx19 => ?_)
    have h := h x19 hx19
    refine ab_lstore (lv1 := [(11, .long x19), (9, .long x12), (0, .ref 13), (1, .int v1), (2, .long v2), (4, .long v4), (6, .long v6), (8, .int v8), (13, .int v13)]) dX0_weighGoals_117 (by decide) rfl ?_
    obtain ⟨x20, hx20⟩ : ∃ y : Int32, y = v13 + (1 : Int32) := ⟨_, rfl⟩
    have h := h x20 hx20
    refine ab_iinc (v := x20) 8 (lv1 := [(13, .int x20), (11, .long x19), (9, .long x12), (0, .ref 13), (1, .int v1), (2, .long v2), (4, .long v4), (6, .long v6), (8, .int v8)]) dX0_weighGoals_119 rfl (by rw [hx20]; rfl) (by decide) rfl ?_
    refine ab_goto (tgt := 71) dX0_weighGoals_122 (by decide) ?_
    exact ab_sub [3, 4, 5, 6, 7, 8, 2, 1, 0] rfl h
theorem dX0_reduce_0 : decode cX0_reduce 0 = .ok (.aload_n 0, 1) := by decide +kernel
theorem dX0_reduce_1 : decode cX0_reduce 1 = .ok (.getfield 33, 3) := by decide +kernel
theorem dX0_reduce_4 : decode cX0_reduce 4 = .ok (.invokestatic 147, 3) := by decide +kernel
theorem dX0_reduce_7 : decode cX0_reduce 7 = .ok (.lstore_n 1, 1) := by decide +kernel
theorem dX0_reduce_8 : decode cX0_reduce 8 = .ok (.aload_n 0, 1) := by decide +kernel
theorem dX0_reduce_9 : decode cX0_reduce 9 = .ok (.getfield 37, 3) := by decide +kernel
theorem dX0_reduce_12 : decode cX0_reduce 12 = .ok (.lstore_n 3, 1) := by decide +kernel
theorem dX0_reduce_13 : decode cX0_reduce 13 = .ok (.iconst 0, 1) := by decide +kernel
theorem dX0_reduce_14 : decode cX0_reduce 14 = .ok (.istore 5, 2) := by decide +kernel
theorem dX0_reduce_16 : decode cX0_reduce 16 = .ok (.iload 5, 2) := by decide +kernel
theorem dX0_reduce_18 : decode cX0_reduce 18 = .ok (.bipush 100, 2) := by decide +kernel
theorem dX0_reduce_20 : decode cX0_reduce 20 = .ok (.if_icmp .ge 25, 3) := by decide +kernel
theorem dX0_reduce_23 : decode cX0_reduce 23 = .ok (.lload_n 3, 1) := by decide +kernel
theorem dX0_reduce_24 : decode cX0_reduce 24 = .ok (.lconst 0, 1) := by decide +kernel
theorem dX0_reduce_25 : decode cX0_reduce 25 = .ok (.lcmp, 1) := by decide +kernel
theorem dX0_reduce_26 : decode cX0_reduce 26 = .ok (.ifCond .eq 19, 3) := by decide +kernel
theorem dX0_reduce_29 : decode cX0_reduce 29 = .ok (.lload_n 1, 1) := by decide +kernel
theorem dX0_reduce_30 : decode cX0_reduce 30 = .ok (.lload_n 3, 1) := by decide +kernel
theorem dX0_reduce_31 : decode cX0_reduce 31 = .ok (.lrem, 1) := by decide +kernel
theorem dX0_reduce_32 : decode cX0_reduce 32 = .ok (.lstore 6, 2) := by decide +kernel
theorem dX0_reduce_34 : decode cX0_reduce 34 = .ok (.lload_n 3, 1) := by decide +kernel
theorem dX0_reduce_35 : decode cX0_reduce 35 = .ok (.lstore_n 1, 1) := by decide +kernel
theorem dX0_reduce_36 : decode cX0_reduce 36 = .ok (.lload 6, 2) := by decide +kernel
theorem dX0_reduce_38 : decode cX0_reduce 38 = .ok (.lstore_n 3, 1) := by decide +kernel
theorem dX0_reduce_39 : decode cX0_reduce 39 = .ok (.iinc 5 1, 3) := by decide +kernel
theorem dX0_reduce_42 : decode cX0_reduce 42 = .ok (.goto (-26), 3) := by decide +kernel
theorem dX0_reduce_45 : decode cX0_reduce 45 = .ok (.lload_n 1, 1) := by decide +kernel
theorem dX0_reduce_46 : decode cX0_reduce 46 = .ok (.lconst 1, 1) := by decide +kernel
theorem dX0_reduce_47 : decode cX0_reduce 47 = .ok (.lcmp, 1) := by decide +kernel
theorem dX0_reduce_48 : decode cX0_reduce 48 = .ok (.ifCond .le 23, 3) := by decide +kernel
theorem dX0_reduce_51 : decode cX0_reduce 51 = .ok (.aload_n 0, 1) := by decide +kernel
theorem dX0_reduce_52 : decode cX0_reduce 52 = .ok (.dup, 1) := by decide +kernel
theorem dX0_reduce_53 : decode cX0_reduce 53 = .ok (.getfield 33, 3) := by decide +kernel
theorem dX0_reduce_56 : decode cX0_reduce 56 = .ok (.lload_n 1, 1) := by decide +kernel
theorem dX0_reduce_57 : decode cX0_reduce 57 = .ok (.ldiv, 1) := by decide +kernel
theorem dX0_reduce_58 : decode cX0_reduce 58 = .ok (.putfield 33, 3) := by decide +kernel
theorem dX0_reduce_61 : decode cX0_reduce 61 = .ok (.aload_n 0, 1) := by decide +kernel
theorem dX0_reduce_62 : decode cX0_reduce 62 = .ok (.dup, 1) := by decide +kernel
theorem dX0_reduce_63 : decode cX0_reduce 63 = .ok (.getfield 37, 3) := by decide +kernel
theorem dX0_reduce_66 : decode cX0_reduce 66 = .ok (.lload_n 1, 1) := by decide +kernel
theorem dX0_reduce_67 : decode cX0_reduce 67 = .ok (.ldiv, 1) := by decide +kernel
theorem dX0_reduce_68 : decode cX0_reduce 68 = .ok (.putfield 37, 3) := by decide +kernel
theorem dX0_reduce_71 : decode cX0_reduce 71 = .ok (.return_, 1) := by decide +kernel
def LX0_reduce_16 (D : GD) (d : Nat) (v1 : Int64) (v3 : Int64) (v5 : Int32) (M : Mm) (post : Option Value → Mm → Prop) : Prop := AW D (d + 1) 0 0 mX0_reduce 0 0 16 [(0, .ref 13), (1, .long v1), (3, .long v3), (5, .int v5)] [] M post
set_option maxRecDepth 20000 in
theorem rX0_reduce (D : GD) (d : Nat)  (M : Mm) (post : Option Value → Mm → Prop) (hL : Lay 13 25 M) 
    (h : ∀ x1 : Int64, x1 = (if 0 < (gL M 13 6) then (gL M 13 6) else -(gL M 13 6)) → ∀ x2 : Int64, x2 = (gL M 13 7) → LX0_reduce_16 D d x1 x2 (0 : Int32) M post) :
    AM D (d + 1) 0 0 mX0_reduce [.ref 13] M post := by
  refine AM.of (by decide) (Nat.le_of_ble_eq_true rfl) ?_
  show AW D (d + 1) 0 0 mX0_reduce 0 0 0 [(0, .ref 13)] [] M post
  refine ab_aload_n 0 dX0_reduce_0 rfl ?_
  refine ab_getL dX0_reduce_1 fs_0_33_0 rfl (hL.sh 13 rfl (by decide) (by decide)).1 (hL.sh 13 rfl (by decide) (by decide)).2 ?_
  refine ab_mabs_long (st := []) dX0_reduce_4 w_700 (Nat.le_of_ble_eq_true rfl) (Nat.succ_le_succ (Nat.zero_le _)) ?_
  refine ab_topl (fun x1 hx1 => ?_)
  have h := h x1 hx1
  refine ab_lstore_n (lv1 := [(1, .long x1), (0, .ref 13)]) dX0_reduce_7 (by decide) rfl ?_
  refine ab_aload_n 1 dX0_reduce_8 rfl ?_
  refine ab_getL dX0_reduce_9 fs_0_37_0 rfl (hL.sh 13 rfl (by decide) (by decide)).1 (hL.sh 13 rfl (by decide) (by decide)).2 ?_
  refine ab_topl (fun x2 hx2 => ?_)
  have h := h x2 hx2
  refine ab_lstore_n (lv1 := [(3, .long x2), (1, .long x1), (0, .ref 13)]) dX0_reduce_12 (by decide) rfl ?_
  refine ab_iconst (v := 0) dX0_reduce_13 (by decide) ?_
  refine ab_istore (lv1 := [(5, .int (0 : Int32)), (3, .long x2), (1, .long x1), (0, .ref 13)]) dX0_reduce_14 (by decide) rfl ?_
  exact ab_sub [3, 2, 1, 0] rfl h
set_option maxRecDepth 20000 in
theorem rX0_reduce_16 (D : GD) (d : Nat)  (v1 : Int64) (v3 : Int64) (v5 : Int32) (M : Mm) (post : Option Value → Mm → Prop) (hL : Lay 13 25 M) 
    (h : (((100 : Int32) ≤ v5 → (((lg_cmp v1 (1 : Int64)) ≤ 0 → post none M) ∧ (¬ (lg_cmp v1 (1 : Int64)) ≤ 0 → (¬ v1 = 0) ∧ ∀ M4 : Mm, M4 = sL M 13 6 ((gL M 13 6) / v1) → (¬ v1 = 0) ∧ ∀ M9 : Mm, M9 = sL M4 13 7 ((gL M4 13 7) / v1) → post none M9))) ∧ (¬ (100 : Int32) ≤ v5 → (((lg_cmp v3 (0 : Int64)) = 0 → (((lg_cmp v1 (1 : Int64)) ≤ 0 → post none M) ∧ (¬ (lg_cmp v1 (1 : Int64)) ≤ 0 → (¬ v1 = 0) ∧ ∀ M16 : Mm, M16 = sL M 13 6 ((gL M 13 6) / v1) → (¬ v1 = 0) ∧ ∀ M21 : Mm, M21 = sL M16 13 7 ((gL M16 13 7) / v1) → post none M21))) ∧ (¬ (lg_cmp v3 (0 : Int64)) = 0 → (¬ v3 = 0) ∧ ∀ x26 : Int64, x26 = (v1 - v1 / v3 * v3) → ∀ x27 : Int32, x27 = v5 + (1 : Int32) → LX0_reduce_16 D d v3 x26 x27 M post))))) :
    LX0_reduce_16 D d v1 v3 v5 M post := by
  show AW D (d + 1) 0 0 mX0_reduce 0 0 16 [(0, .ref 13), (1, .long v1), (3, .long v3), (5, .int v5)] [] M post
  refine ab_iload 3 dX0_reduce_16 rfl ?_
  refine ab_bipush (v := 100) dX0_reduce_18 (by decide) ?_
  refine ab_icmp_ge (tgt := 45) dX0_reduce_20 (by decide) (fun c1 => ?_) (fun c1 => ?_)
  · have h := h.1 c1
    refine ab_lload_n 1 dX0_reduce_45 rfl ?_
    refine ab_lconst (v := 1) dX0_reduce_46 (by decide) ?_
    refine ab_lcmp dX0_reduce_47 ?_
    refine ab_if_le (tgt := 71) dX0_reduce_48 (by decide) (fun c2 => ?_) (fun c2 => ?_)
    · have h := h.1 c2
      exact ab_vret dX0_reduce_71 rfl h
    · have h := h.2 c2
      refine ab_aload_n 0 dX0_reduce_51 rfl ?_
      refine ab_dup dX0_reduce_52 rfl ?_
      refine ab_getL dX0_reduce_53 fs_0_33_0 rfl (hL.sh 13 rfl (by decide) (by decide)).1 (hL.sh 13 rfl (by decide) (by decide)).2 ?_
      refine ab_lload_n 1 dX0_reduce_56 rfl ?_
      have hn3 := h.1
      have h := h.2
      refine ab_ldiv dX0_reduce_57 hn3 ?_
      refine ab_putL dX0_reduce_58 fs_0_33_0 rfl rfl (hL.sh 13 rfl (by decide) (by decide)).1 (hL.sh 13 rfl (by decide) (by decide)).2 ?_
      refine ab_nameM (fun M4 hM4 => ?_)
      have h := h M4 hM4
      have hs7 : Sm M M4 := hM4 ▸ (Sm.refl _).l
      have hm5 : Sm M M4 := (Sm.refl M).trans hs7
      have hl6 := hL.of hm5
      refine ab_aload_n 0 dX0_reduce_61 rfl ?_
      refine ab_dup dX0_reduce_62 rfl ?_
      refine ab_getL dX0_reduce_63 fs_0_37_0 rfl (hl6.sh 13 rfl (by decide) (by decide)).1 (hl6.sh 13 rfl (by decide) (by decide)).2 ?_
      refine ab_lload_n 1 dX0_reduce_66 rfl ?_
      have hn8 := h.1
      have h := h.2
      refine ab_ldiv dX0_reduce_67 hn8 ?_
      refine ab_putL dX0_reduce_68 fs_0_37_0 rfl rfl (hl6.sh 13 rfl (by decide) (by decide)).1 (hl6.sh 13 rfl (by decide) (by decide)).2 ?_
      refine ab_nameM (fun M9 hM9 => ?_)
      have h := h M9 hM9
      have hs12 : Sm M4 M9 := hM9 ▸ (Sm.refl _).l
      have hm10 : Sm M M9 := hm5.trans hs12
      have hl11 := hL.of hm10
      exact ab_vret dX0_reduce_71 rfl h
  · have h := h.2 c1
    refine ab_lload_n 2 dX0_reduce_23 rfl ?_
    refine ab_lconst (v := 0) dX0_reduce_24 (by decide) ?_
    refine ab_lcmp dX0_reduce_25 ?_
    refine ab_if_eq (tgt := 45) dX0_reduce_26 (by decide) (fun c13 => ?_) (fun c13 => ?_)
    · have h := h.1 c13
      refine ab_lload_n 1 dX0_reduce_45 rfl ?_
      refine ab_lconst (v := 1) dX0_reduce_46 (by decide) ?_
      refine ab_lcmp dX0_reduce_47 ?_
      refine ab_if_le (tgt := 71) dX0_reduce_48 (by decide) (fun c14 => ?_) (fun c14 => ?_)
      · have h := h.1 c14
        exact ab_vret dX0_reduce_71 rfl h
      · have h := h.2 c14
        refine ab_aload_n 0 dX0_reduce_51 rfl ?_
        refine ab_dup dX0_reduce_52 rfl ?_
        refine ab_getL dX0_reduce_53 fs_0_33_0 rfl (hL.sh 13 rfl (by decide) (by decide)).1 (hL.sh 13 rfl (by decide) (by decide)).2 ?_
        refine ab_lload_n 1 dX0_reduce_56 rfl ?_
        have hn15 := h.1
        have h := h.2
        refine ab_ldiv dX0_reduce_57 hn15 ?_
        refine ab_putL dX0_reduce_58 fs_0_33_0 rfl rfl (hL.sh 13 rfl (by decide) (by decide)).1 (hL.sh 13 rfl (by decide) (by decide)).2 ?_
        refine ab_nameM (fun M16 hM16 => ?_)
        have h := h M16 hM16
        have hs19 : Sm M M16 := hM16 ▸ (Sm.refl _).l
        have hm17 : Sm M M16 := (Sm.refl M).trans hs19
        have hl18 := hL.of hm17
        refine ab_aload_n 0 dX0_reduce_61 rfl ?_
        refine ab_dup dX0_reduce_62 rfl ?_
        refine ab_getL dX0_reduce_63 fs_0_37_0 rfl (hl18.sh 13 rfl (by decide) (by decide)).1 (hl18.sh 13 rfl (by decide) (by decide)).2 ?_
        refine ab_lload_n 1 dX0_reduce_66 rfl ?_
        have hn20 := h.1
        have h := h.2
        refine ab_ldiv dX0_reduce_67 hn20 ?_
        refine ab_putL dX0_reduce_68 fs_0_37_0 rfl rfl (hl18.sh 13 rfl (by decide) (by decide)).1 (hl18.sh 13 rfl (by decide) (by decide)).2 ?_
        refine ab_nameM (fun M21 hM21 => ?_)
        have h := h M21 hM21
        have hs24 : Sm M16 M21 := hM21 ▸ (Sm.refl _).l
        have hm22 : Sm M M21 := hm17.trans hs24
        have hl23 := hL.of hm22
        exact ab_vret dX0_reduce_71 rfl h
    · have h := h.2 c13
      refine ab_lload_n 1 dX0_reduce_29 rfl ?_
      refine ab_lload_n 2 dX0_reduce_30 rfl ?_
      have hn25 := h.1
      have h := h.2
      refine ab_lrem dX0_reduce_31 hn25 ?_
      refine ab_topl (fun x26 hx26 => ?_)
      have h := h x26 hx26
      refine ab_lstore (lv1 := [(6, .long x26), (0, .ref 13), (1, .long v1), (3, .long v3), (5, .int v5)]) dX0_reduce_32 (by decide) rfl ?_
      refine ab_lload_n 3 dX0_reduce_34 rfl ?_
      refine ab_lstore_n (lv1 := [(1, .long v3), (6, .long x26), (0, .ref 13), (3, .long v3), (5, .int v5)]) dX0_reduce_35 (by decide) rfl ?_
      refine ab_lload 1 dX0_reduce_36 rfl ?_
      refine ab_lstore_n (lv1 := [(3, .long x26), (1, .long v3), (6, .long x26), (0, .ref 13), (5, .int v5)]) dX0_reduce_38 (by decide) rfl ?_
      obtain ⟨x27, hx27⟩ : ∃ y : Int32, y = v5 + (1 : Int32) := ⟨_, rfl⟩
      have h := h x27 hx27
      refine ab_iinc (v := x27) 4 (lv1 := [(5, .int x27), (3, .long x26), (1, .long v3), (6, .long x26), (0, .ref 13)]) dX0_reduce_39 rfl (by rw [hx27]; rfl) (by decide) rfl ?_
      refine ab_goto (tgt := 16) dX0_reduce_42 (by decide) ?_
      exact ab_sub [4, 2, 1, 0] rfl h
