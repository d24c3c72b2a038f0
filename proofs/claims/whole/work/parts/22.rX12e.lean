theorem dX12_judge_0 : decode cX12_judge 0 = .ok (.aload_n 0, 1) := by decide +kernel
theorem dX12_judge_1 : decode cX12_judge 1 = .ok (.iload_n 1, 1) := by decide +kernel
theorem dX12_judge_2 : decode cX12_judge 2 = .ok (.invokevirtual 345, 3) := by decide +kernel
theorem dX12_judge_5 : decode cX12_judge 5 = .ok (.ifCond .ne 5, 3) := by decide +kernel
theorem dX12_judge_8 : decode cX12_judge 8 = .ok (.iconst (-1), 1) := by decide +kernel
theorem dX12_judge_9 : decode cX12_judge 9 = .ok (.ireturn, 1) := by decide +kernel
theorem dX12_judge_10 : decode cX12_judge 10 = .ok (.aload_n 0, 1) := by decide +kernel
theorem dX12_judge_11 : decode cX12_judge 11 = .ok (.getfield 167, 3) := by decide +kernel
theorem dX12_judge_14 : decode cX12_judge 14 = .ok (.iload_n 1, 1) := by decide +kernel
theorem dX12_judge_15 : decode cX12_judge 15 = .ok (.iaload, 1) := by decide +kernel
theorem dX12_judge_16 : decode cX12_judge 16 = .ok (.ifCond .le 6, 3) := by decide +kernel
theorem dX12_judge_19 : decode cX12_judge 19 = .ok (.bipush (-12), 2) := by decide +kernel
theorem dX12_judge_21 : decode cX12_judge 21 = .ok (.ireturn, 1) := by decide +kernel
theorem dX12_judge_22 : decode cX12_judge 22 = .ok (.iconst 0, 1) := by decide +kernel
theorem dX12_judge_23 : decode cX12_judge 23 = .ok (.istore_n 3, 1) := by decide +kernel
theorem dX12_judge_24 : decode cX12_judge 24 = .ok (.iconst 0, 1) := by decide +kernel
theorem dX12_judge_25 : decode cX12_judge 25 = .ok (.istore 4, 2) := by decide +kernel
theorem dX12_judge_27 : decode cX12_judge 27 = .ok (.iconst 0, 1) := by decide +kernel
theorem dX12_judge_28 : decode cX12_judge 28 = .ok (.istore 5, 2) := by decide +kernel
theorem dX12_judge_30 : decode cX12_judge 30 = .ok (.aload_n 0, 1) := by decide +kernel
theorem dX12_judge_31 : decode cX12_judge 31 = .ok (.iload 5, 2) := by decide +kernel
theorem dX12_judge_33 : decode cX12_judge 33 = .ok (.iload_n 3, 1) := by decide +kernel
theorem dX12_judge_34 : decode cX12_judge 34 = .ok (.iload 4, 2) := by decide +kernel
theorem dX12_judge_36 : decode cX12_judge 36 = .ok (.invokevirtual 322, 3) := by decide +kernel
theorem dX12_judge_39 : decode cX12_judge 39 = .ok (.istore 6, 2) := by decide +kernel
theorem dX12_judge_41 : decode cX12_judge 41 = .ok (.iload 6, 2) := by decide +kernel
theorem dX12_judge_43 : decode cX12_judge 43 = .ok (.ifCond .le 6, 3) := by decide +kernel
theorem dX12_judge_46 : decode cX12_judge 46 = .ok (.iload 6, 2) := by decide +kernel
theorem dX12_judge_48 : decode cX12_judge 48 = .ok (.ireturn, 1) := by decide +kernel
theorem dX12_judge_49 : decode cX12_judge 49 = .ok (.aload_n 0, 1) := by decide +kernel
theorem dX12_judge_50 : decode cX12_judge 50 = .ok (.getfield 167, 3) := by decide +kernel
theorem dX12_judge_53 : decode cX12_judge 53 = .ok (.iload_n 1, 1) := by decide +kernel
theorem dX12_judge_54 : decode cX12_judge 54 = .ok (.iaload, 1) := by decide +kernel
theorem dX12_judge_55 : decode cX12_judge 55 = .ok (.ifCond .lt 22, 3) := by decide +kernel
theorem dX12_judge_58 : decode cX12_judge 58 = .ok (.iload_n 2, 1) := by decide +kernel
theorem dX12_judge_59 : decode cX12_judge 59 = .ok (.ifCond .lt 18, 3) := by decide +kernel
theorem dX12_judge_62 : decode cX12_judge 62 = .ok (.iload_n 2, 1) := by decide +kernel
theorem dX12_judge_63 : decode cX12_judge 63 = .ok (.aload_n 0, 1) := by decide +kernel
theorem dX12_judge_64 : decode cX12_judge 64 = .ok (.getfield 170, 3) := by decide +kernel
theorem dX12_judge_67 : decode cX12_judge 67 = .ok (.iload_n 1, 1) := by decide +kernel
theorem dX12_judge_68 : decode cX12_judge 68 = .ok (.iaload, 1) := by decide +kernel
theorem dX12_judge_69 : decode cX12_judge 69 = .ok (.iload 5, 2) := by decide +kernel
theorem dX12_judge_71 : decode cX12_judge 71 = .ok (.isub, 1) := by decide +kernel
theorem dX12_judge_72 : decode cX12_judge 72 = .ok (.iconst 1, 1) := by decide +kernel
theorem dX12_judge_73 : decode cX12_judge 73 = .ok (.isub, 1) := by decide +kernel
theorem dX12_judge_74 : decode cX12_judge 74 = .ok (.if_icmp .le 10, 3) := by decide +kernel
theorem dX12_judge_77 : decode cX12_judge 77 = .ok (.sipush 1000, 3) := by decide +kernel
theorem dX12_judge_80 : decode cX12_judge 80 = .ok (.iload 5, 2) := by decide +kernel
theorem dX12_judge_82 : decode cX12_judge 82 = .ok (.iadd, 1) := by decide +kernel
theorem dX12_judge_83 : decode cX12_judge 83 = .ok (.ireturn, 1) := by decide +kernel
theorem dX12_judge_84 : decode cX12_judge 84 = .ok (.aload_n 0, 1) := by decide +kernel
theorem dX12_judge_85 : decode cX12_judge 85 = .ok (.getfield 173, 3) := by decide +kernel
theorem dX12_judge_88 : decode cX12_judge 88 = .ok (.bipush 60, 2) := by decide +kernel
theorem dX12_judge_90 : decode cX12_judge 90 = .ok (.iload_n 1, 1) := by decide +kernel
theorem dX12_judge_91 : decode cX12_judge 91 = .ok (.imul, 1) := by decide +kernel
theorem dX12_judge_92 : decode cX12_judge 92 = .ok (.iload_n 2, 1) := by decide +kernel
theorem dX12_judge_93 : decode cX12_judge 93 = .ok (.iadd, 1) := by decide +kernel
theorem dX12_judge_94 : decode cX12_judge 94 = .ok (.iload 5, 2) := by decide +kernel
theorem dX12_judge_96 : decode cX12_judge 96 = .ok (.iadd, 1) := by decide +kernel
theorem dX12_judge_97 : decode cX12_judge 97 = .ok (.laload, 1) := by decide +kernel
theorem dX12_judge_98 : decode cX12_judge 98 = .ok (.lstore 7, 2) := by decide +kernel
theorem dX12_judge_100 : decode cX12_judge 100 = .ok (.lload 7, 2) := by decide +kernel
theorem dX12_judge_102 : decode cX12_judge 102 = .ok (.lconst 0, 1) := by decide +kernel
theorem dX12_judge_103 : decode cX12_judge 103 = .ok (.lcmp, 1) := by decide +kernel
theorem dX12_judge_104 : decode cX12_judge 104 = .ok (.ifCond .eq 16, 3) := by decide +kernel
theorem dX12_judge_107 : decode cX12_judge 107 = .ok (.lload 7, 2) := by decide +kernel
theorem dX12_judge_109 : decode cX12_judge 109 = .ok (.lconst 1, 1) := by decide +kernel
theorem dX12_judge_110 : decode cX12_judge 110 = .ok (.lcmp, 1) := by decide +kernel
theorem dX12_judge_111 : decode cX12_judge 111 = .ok (.ifCond .eq 9, 3) := by decide +kernel
theorem dX12_judge_114 : decode cX12_judge 114 = .ok (.bipush (-10), 2) := by decide +kernel
theorem dX12_judge_116 : decode cX12_judge 116 = .ok (.iload 5, 2) := by decide +kernel
theorem dX12_judge_118 : decode cX12_judge 118 = .ok (.isub, 1) := by decide +kernel
theorem dX12_judge_119 : decode cX12_judge 119 = .ok (.ireturn, 1) := by decide +kernel
theorem dX12_judge_120 : decode cX12_judge 120 = .ok (.iload_n 3, 1) := by decide +kernel
theorem dX12_judge_121 : decode cX12_judge 121 = .ok (.iload 5, 2) := by decide +kernel
theorem dX12_judge_123 : decode cX12_judge 123 = .ok (.iconst 2, 1) := by decide +kernel
theorem dX12_judge_124 : decode cX12_judge 124 = .ok (.irem, 1) := by decide +kernel
theorem dX12_judge_125 : decode cX12_judge 125 = .ok (.ifCond .ne 9, 3) := by decide +kernel
theorem dX12_judge_128 : decode cX12_judge 128 = .ok (.lload 7, 2) := by decide +kernel
theorem dX12_judge_130 : decode cX12_judge 130 = .ok (.l2i, 1) := by decide +kernel
theorem dX12_judge_131 : decode cX12_judge 131 = .ok (.goto 4, 3) := by decide +kernel
theorem dX12_judge_134 : decode cX12_judge 134 = .ok (.iconst 0, 1) := by decide +kernel
theorem dX12_judge_135 : decode cX12_judge 135 = .ok (.iadd, 1) := by decide +kernel
theorem dX12_judge_136 : decode cX12_judge 136 = .ok (.istore_n 3, 1) := by decide +kernel
theorem dX12_judge_137 : decode cX12_judge 137 = .ok (.iload 4, 2) := by decide +kernel
theorem dX12_judge_139 : decode cX12_judge 139 = .ok (.iload 5, 2) := by decide +kernel
theorem dX12_judge_141 : decode cX12_judge 141 = .ok (.iconst 2, 1) := by decide +kernel
theorem dX12_judge_142 : decode cX12_judge 142 = .ok (.irem, 1) := by decide +kernel
theorem dX12_judge_143 : decode cX12_judge 143 = .ok (.iconst 1, 1) := by decide +kernel
theorem dX12_judge_144 : decode cX12_judge 144 = .ok (.if_icmp .ne 9, 3) := by decide +kernel
theorem dX12_judge_147 : decode cX12_judge 147 = .ok (.lload 7, 2) := by decide +kernel
theorem dX12_judge_149 : decode cX12_judge 149 = .ok (.l2i, 1) := by decide +kernel
theorem dX12_judge_150 : decode cX12_judge 150 = .ok (.goto 4, 3) := by decide +kernel
theorem dX12_judge_153 : decode cX12_judge 153 = .ok (.iconst 0, 1) := by decide +kernel
theorem dX12_judge_154 : decode cX12_judge 154 = .ok (.iadd, 1) := by decide +kernel
theorem dX12_judge_155 : decode cX12_judge 155 = .ok (.istore 4, 2) := by decide +kernel
theorem dX12_judge_157 : decode cX12_judge 157 = .ok (.iinc 5 1, 3) := by decide +kernel
theorem dX12_judge_160 : decode cX12_judge 160 = .ok (.goto (-130), 3) := by decide +kernel
def LX12_judge_30 (D : GD) (d : Nat) (v1 : Int32) (v2 : Int32) (v3 : Int32) (v4 : Int32) (v5 : Int32) (M : Mm) (post : Option Value → Mm → Prop) : Prop := AW D (d + 1) 0 0 mX12_judge 0 0 30 [(0, .ref 62), (1, .int v1), (2, .int v2), (3, .int v3), (4, .int v4), (5, .int v5)] [] M post
set_option maxRecDepth 20000 in
theorem rX12_judge (D : GD) (d : Nat) (a1 : Int32) (a2 : Int32) (M : Mm) (post : Option Value → Mm → Prop) (hL : Lay 62 98 M) 
    (h : AMi D d mX12_isTape [.ref 62, .int a1] M (fun x2 M1 => ((¬ x2 = 0 → vp_in a1 6 ∧ (((gI M1 94 a1.toNatClampNeg) ≤ 0 → LX12_judge_30 D d a1 a2 (0 : Int32) (0 : Int32) (0 : Int32) M1 post) ∧ (¬ (gI M1 94 a1.toNatClampNeg) ≤ 0 → post (some (.int (-12 : Int32))) M1))) ∧ (x2 = 0 → post (some (.int (-1 : Int32))) M1)))) :
    AM D (d + 1) 0 0 mX12_judge [.ref 62, .int a1, .int a2] M post := by
  refine AM.of (by decide) (Nat.le_of_ble_eq_true rfl) ?_
  show AW D (d + 1) 0 0 mX12_judge 0 0 0 [(0, .ref 62), (1, .int a1), (2, .int a2)] [] M post
  refine ab_aload_n 0 dX12_judge_0 rfl ?_
  refine ab_iload_n 1 dX12_judge_1 rfl ?_
  refine ab_callV (a := 62) (c0 := 12) (d' := d) (mc' := 0) (ms' := 0) (vs := [.int a1]) (st := []) dX12_judge_2 ⟨cw_X12_isTape, w_1439⟩ w_1441 w_67 (by decide) (hL.sh 62 rfl (by decide) (by decide)).1 (hL.sh 62 rfl (by decide) (by decide)).2 rfl rfl (Nat.le_of_ble_eq_true rfl) (Nat.le_refl _) (Nat.zero_le _) (Nat.zero_le _) (AM.mono h (fun r M1 ⟨x2, hr3, hc4, h⟩ => ?_))
  subst hr3
  refine ab_rs ?_
  have hm5 : Sm M M1 := (Sm.refl M).trans hc4
  have hl6 := hL.of hm5
  refine ab_if_ne (tgt := 10) dX12_judge_5 (by decide) (fun c7 => ?_) (fun c7 => ?_)
  · have h := h.1 c7
    refine ab_aload_n 0 dX12_judge_10 rfl ?_
    refine ab_getP (r := 94) dX12_judge_11 fs_12_167_12 rfl (hl6.sh 62 rfl (by decide) (by decide)).1 (hl6.sh 62 rfl (by decide) (by decide)).2 (hl6.pt 92 rfl (by decide) (by decide)) ?_
    refine ab_iload_n 1 dX12_judge_14 rfl ?_
    have hb8 := h.1
    have h := h.2
    refine ab_ialdj (j := a1.toNatClampNeg) dX12_judge_15 (hl6.sh 94 rfl (by decide) (by decide)) hb8 rfl ?_
    refine ab_if_le (tgt := 22) dX12_judge_16 (by decide) (fun c9 => ?_) (fun c9 => ?_)
    · have h := h.1 c9
      refine ab_iconst (v := 0) dX12_judge_22 (by decide) ?_
      refine ab_istore_n (lv1 := [(3, .int (0 : Int32)), (0, .ref 62), (1, .int a1), (2, .int a2)]) dX12_judge_23 (by decide) rfl ?_
      refine ab_iconst (v := 0) dX12_judge_24 (by decide) ?_
      refine ab_istore (lv1 := [(4, .int (0 : Int32)), (3, .int (0 : Int32)), (0, .ref 62), (1, .int a1), (2, .int a2)]) dX12_judge_25 (by decide) rfl ?_
      refine ab_iconst (v := 0) dX12_judge_27 (by decide) ?_
      refine ab_istore (lv1 := [(5, .int (0 : Int32)), (4, .int (0 : Int32)), (3, .int (0 : Int32)), (0, .ref 62), (1, .int a1), (2, .int a2)]) dX12_judge_28 (by decide) rfl ?_
      exact ab_sub [3, 4, 5, 2, 1, 0] rfl h
    · have h := h.2 c9
      refine ab_bipush (v := (-12)) dX12_judge_19 (by decide) ?_
      exact ab_iret dX12_judge_21 rfl h
  · have h := h.2 c7
    refine ab_iconst (v := (-1)) dX12_judge_8 (by decide) ?_
    exact ab_iret dX12_judge_9 rfl h
set_option maxRecDepth 20000 in
theorem rX12_judge_30 (D : GD) (d : Nat)  (v1 : Int32) (v2 : Int32) (v3 : Int32) (v4 : Int32) (v5 : Int32) (M : Mm) (post : Option Value → Mm → Prop) (hL : Lay 62 98 M) 
    (h : AMi D d mX12_ended [.ref 62, .int v5, .int v3, .int v4] M (fun x2 M1 => ((x2 ≤ 0 → vp_in v1 6 ∧ (((gI M1 94 v1.toNatClampNeg) < 0 → post (some (.int ((1000 : Int32) + v5))) M1) ∧ (¬ (gI M1 94 v1.toNatClampNeg) < 0 → ((v2 < 0 → post (some (.int ((1000 : Int32) + v5))) M1) ∧ (¬ v2 < 0 → ((v2 ≤ (((gI M1 95 v1.toNatClampNeg) - v5) - (1 : Int32)) → vp_in ((((60 : Int32) * v1) + v2) + v5) 360 ∧ ∀ x13 : Int64, x13 = (gL M1 96 (((((60 : Int32) * v1) + v2) + v5).toNatClampNeg)) → (((lg_cmp x13 (0 : Int64)) = 0 → ((¬ (v5 - v5 / (2 : Int32) * (2 : Int32)) = 0 → ∀ x16 : Int32, x16 = (v3 + (0 : Int32)) → ((¬ (v5 - v5 / (2 : Int32) * (2 : Int32)) = (1 : Int32) → ∀ x18 : Int32, x18 = (v4 + (0 : Int32)) → ∀ x19 : Int32, x19 = v5 + (1 : Int32) → LX12_judge_30 D d v1 v2 x16 x18 x19 M1 post) ∧ ((v5 - v5 / (2 : Int32) * (2 : Int32)) = (1 : Int32) → ∀ x20 : Int32, x20 = (v4 + (x13).toInt32) → ∀ x21 : Int32, x21 = v5 + (1 : Int32) → LX12_judge_30 D d v1 v2 x16 x20 x21 M1 post))) ∧ ((v5 - v5 / (2 : Int32) * (2 : Int32)) = 0 → ∀ x22 : Int32, x22 = (v3 + (x13).toInt32) → ((¬ (v5 - v5 / (2 : Int32) * (2 : Int32)) = (1 : Int32) → ∀ x24 : Int32, x24 = (v4 + (0 : Int32)) → ∀ x25 : Int32, x25 = v5 + (1 : Int32) → LX12_judge_30 D d v1 v2 x22 x24 x25 M1 post) ∧ ((v5 - v5 / (2 : Int32) * (2 : Int32)) = (1 : Int32) → ∀ x26 : Int32, x26 = (v4 + (x13).toInt32) → ∀ x27 : Int32, x27 = v5 + (1 : Int32) → LX12_judge_30 D d v1 v2 x22 x26 x27 M1 post))))) ∧ (¬ (lg_cmp x13 (0 : Int64)) = 0 → (((lg_cmp x13 (1 : Int64)) = 0 → ((¬ (v5 - v5 / (2 : Int32) * (2 : Int32)) = 0 → ∀ x30 : Int32, x30 = (v3 + (0 : Int32)) → ((¬ (v5 - v5 / (2 : Int32) * (2 : Int32)) = (1 : Int32) → ∀ x32 : Int32, x32 = (v4 + (0 : Int32)) → ∀ x33 : Int32, x33 = v5 + (1 : Int32) → LX12_judge_30 D d v1 v2 x30 x32 x33 M1 post) ∧ ((v5 - v5 / (2 : Int32) * (2 : Int32)) = (1 : Int32) → ∀ x34 : Int32, x34 = (v4 + (x13).toInt32) → ∀ x35 : Int32, x35 = v5 + (1 : Int32) → LX12_judge_30 D d v1 v2 x30 x34 x35 M1 post))) ∧ ((v5 - v5 / (2 : Int32) * (2 : Int32)) = 0 → ∀ x36 : Int32, x36 = (v3 + (x13).toInt32) → ((¬ (v5 - v5 / (2 : Int32) * (2 : Int32)) = (1 : Int32) → ∀ x38 : Int32, x38 = (v4 + (0 : Int32)) → ∀ x39 : Int32, x39 = v5 + (1 : Int32) → LX12_judge_30 D d v1 v2 x36 x38 x39 M1 post) ∧ ((v5 - v5 / (2 : Int32) * (2 : Int32)) = (1 : Int32) → ∀ x40 : Int32, x40 = (v4 + (x13).toInt32) → ∀ x41 : Int32, x41 = v5 + (1 : Int32) → LX12_judge_30 D d v1 v2 x36 x40 x41 M1 post))))) ∧ (¬ (lg_cmp x13 (1 : Int64)) = 0 → post (some (.int ((-10 : Int32) - v5))) M1))))) ∧ (¬ v2 ≤ (((gI M1 95 v1.toNatClampNeg) - v5) - (1 : Int32)) → post (some (.int ((1000 : Int32) + v5))) M1))))))) ∧ (¬ x2 ≤ 0 → post (some (.int x2)) M1)))) :
    LX12_judge_30 D d v1 v2 v3 v4 v5 M post := by
  show AW D (d + 1) 0 0 mX12_judge 0 0 30 [(0, .ref 62), (1, .int v1), (2, .int v2), (3, .int v3), (4, .int v4), (5, .int v5)] [] M post
  refine ab_aload_n 0 dX12_judge_30 rfl ?_
  refine ab_iload 5 dX12_judge_31 rfl ?_
  refine ab_iload_n 3 dX12_judge_33 rfl ?_
  refine ab_iload 4 dX12_judge_34 rfl ?_
  refine ab_callV (a := 62) (c0 := 12) (d' := d) (mc' := 0) (ms' := 0) (vs := [.int v5, .int v3, .int v4]) (st := []) dX12_judge_36 ⟨cw_X12_ended, w_1417⟩ w_1419 w_65 (by decide) (hL.sh 62 rfl (by decide) (by decide)).1 (hL.sh 62 rfl (by decide) (by decide)).2 rfl rfl (Nat.le_of_ble_eq_true rfl) (Nat.le_refl _) (Nat.zero_le _) (Nat.zero_le _) (AM.mono h (fun r M1 ⟨x2, hr3, hc4, h⟩ => ?_))
  subst hr3
  refine ab_rs ?_
  have hm5 : Sm M M1 := (Sm.refl M).trans hc4
  have hl6 := hL.of hm5
  refine ab_istore (lv1 := [(6, .int x2), (0, .ref 62), (1, .int v1), (2, .int v2), (3, .int v3), (4, .int v4), (5, .int v5)]) dX12_judge_39 (by decide) rfl ?_
  refine ab_iload 0 dX12_judge_41 rfl ?_
  refine ab_if_le (tgt := 49) dX12_judge_43 (by decide) (fun c7 => ?_) (fun c7 => ?_)
  · have h := h.1 c7
    refine ab_aload_n 1 dX12_judge_49 rfl ?_
    refine ab_getP (r := 94) dX12_judge_50 fs_12_167_12 rfl (hl6.sh 62 rfl (by decide) (by decide)).1 (hl6.sh 62 rfl (by decide) (by decide)).2 (hl6.pt 92 rfl (by decide) (by decide)) ?_
    refine ab_iload_n 2 dX12_judge_53 rfl ?_
    have hb8 := h.1
    have h := h.2
    refine ab_ialdj (j := v1.toNatClampNeg) dX12_judge_54 (hl6.sh 94 rfl (by decide) (by decide)) hb8 rfl ?_
    refine ab_if_lt (tgt := 77) dX12_judge_55 (by decide) (fun c9 => ?_) (fun c9 => ?_)
    · have h := h.1 c9
      refine ab_sipush (v := 1000) dX12_judge_77 (by decide) ?_
      refine ab_iload 6 dX12_judge_80 rfl ?_
      refine ab_iadd dX12_judge_82 ?_
      exact ab_iret dX12_judge_83 rfl h
    · have h := h.2 c9
      refine ab_iload_n 3 dX12_judge_58 rfl ?_
      refine ab_if_lt (tgt := 77) dX12_judge_59 (by decide) (fun c10 => ?_) (fun c10 => ?_)
      · have h := h.1 c10
        refine ab_sipush (v := 1000) dX12_judge_77 (by decide) ?_
        refine ab_iload 6 dX12_judge_80 rfl ?_
        refine ab_iadd dX12_judge_82 ?_
        exact ab_iret dX12_judge_83 rfl h
      · have h := h.2 c10
        refine ab_iload_n 3 dX12_judge_62 rfl ?_
        refine ab_aload_n 1 dX12_judge_63 rfl ?_
        refine ab_getP (r := 95) dX12_judge_64 fs_12_170_12 rfl (hl6.sh 62 rfl (by decide) (by decide)).1 (hl6.sh 62 rfl (by decide) (by decide)).2 (hl6.pt 93 rfl (by decide) (by decide)) ?_
        refine ab_iload_n 2 dX12_judge_67 rfl ?_
        refine ab_ialdj (j := v1.toNatClampNeg) dX12_judge_68 (hl6.sh 95 rfl (by decide) (by decide)) hb8 rfl ?_
        refine ab_iload 6 dX12_judge_69 rfl ?_
        refine ab_isub dX12_judge_71 ?_
        refine ab_iconst (v := 1) dX12_judge_72 (by decide) ?_
        refine ab_isub dX12_judge_73 ?_
        refine ab_icmp_le (tgt := 84) dX12_judge_74 (by decide) (fun c11 => ?_) (fun c11 => ?_)
        · have h := h.1 c11
          refine ab_aload_n 1 dX12_judge_84 rfl ?_
          refine ab_getP (r := 96) dX12_judge_85 fs_12_173_12 rfl (hl6.sh 62 rfl (by decide) (by decide)).1 (hl6.sh 62 rfl (by decide) (by decide)).2 (hl6.pt 94 rfl (by decide) (by decide)) ?_
          refine ab_bipush (v := 60) dX12_judge_88 (by decide) ?_
          refine ab_iload_n 2 dX12_judge_90 rfl ?_
          refine ab_imul dX12_judge_91 ?_
          refine ab_iload_n 3 dX12_judge_92 rfl ?_
          refine ab_iadd dX12_judge_93 ?_
          refine ab_iload 6 dX12_judge_94 rfl ?_
          refine ab_iadd dX12_judge_96 ?_
          have hb12 := h.1
          have h := h.2
          refine ab_laldj (j := ((((60 : Int32) * v1) + v2) + v5).toNatClampNeg) dX12_judge_97 (hl6.sh 96 rfl (by decide) (by decide)) hb12 rfl ?_
          refine ab_topl (fun x13 hx13 => ?_)
          have h := h x13 hx13
          refine ab_lstore (lv1 := [(7, .long x13), (6, .int x2), (0, .ref 62), (1, .int v1), (2, .int v2), (3, .int v3), (4, .int v4), (5, .int v5)]) dX12_judge_98 (by decide) rfl ?_
          refine ab_lload 0 dX12_judge_100 rfl ?_
          refine ab_lconst (v := 0) dX12_judge_102 (by decide) ?_
          refine ab_lcmp dX12_judge_103 ?_
          refine ab_if_eq (tgt := 120) dX12_judge_104 (by decide) (fun c14 => ?_) (fun c14 => ?_)
          · have h := h.1 c14
            refine ab_iload_n 5 dX12_judge_120 rfl ?_
            refine ab_iload 7 dX12_judge_121 rfl ?_
            refine ab_iconst (v := 2) dX12_judge_123 (by decide) ?_
            refine ab_irem dX12_judge_124 (by decide) ?_
            refine ab_if_ne (tgt := 134) dX12_judge_125 (by decide) (fun c15 => ?_) (fun c15 => ?_)
            · have h := h.1 c15
              refine ab_iconst (v := 0) dX12_judge_134 (by decide) ?_
              refine ab_iadd dX12_judge_135 ?_
              refine ab_topi (fun x16 hx16 => ?_)
              have h := h x16 hx16
              refine ab_istore_n (lv1 := [(3, .int x16), (7, .long x13), (6, .int x2), (0, .ref 62), (1, .int v1), (2, .int v2), (4, .int v4), (5, .int v5)]) dX12_judge_136 (by decide) rfl ?_
              refine ab_iload 6 dX12_judge_137 rfl ?_
              refine ab_iload 7 dX12_judge_139 rfl ?_
              refine ab_iconst (v := 2) dX12_judge_141 (by decide) ?_
              refine ab_irem dX12_judge_142 (by decide) ?_
              refine ab_iconst (v := 1) dX12_judge_143 (by decide) ?_
              refine ab_icmp_ne (tgt := 153) dX12_judge_144 (by decide) (fun c17 => ?_) (fun c17 => ?_)
              · have h := h.1 c17
                refine ab_iconst (v := 0) dX12_judge_153 (by decide) ?_
                refine ab_iadd dX12_judge_154 ?_
                refine ab_topi (fun x18 hx18 => ?_)
                have h := h x18 hx18
                refine ab_istore (lv1 := [(4, .int x18), (3, .int x16), (7, .long x13), (6, .int x2), (0, .ref 62), (1, .int v1), (2, .int v2), (5, .int v5)]) dX12_judge_155 (by decide) rfl ?_
                obtain ⟨x19, hx19⟩ : ∃ y : Int32, y = v5 + (1 : Int32) := ⟨_, rfl⟩
                have h := h x19 hx19
                refine ab_iinc (v := x19) 7 (lv1 := [(5, .int x19), (4, .int x18), (3, .int x16), (7, .long x13), (6, .int x2), (0, .ref 62), (1, .int v1), (2, .int v2)]) dX12_judge_157 rfl (by rw [hx19]; rfl) (by decide) rfl ?_
                refine ab_goto (tgt := 30) dX12_judge_160 (by decide) ?_
                exact ab_sub [5, 6, 7, 2, 1, 0] rfl h
              · have h := h.2 c17
                refine ab_lload 1 dX12_judge_147 rfl ?_
                refine ab_l2i dX12_judge_149 ?_
                refine ab_goto (tgt := 154) dX12_judge_150 (by decide) ?_
                refine ab_iadd dX12_judge_154 ?_
                refine ab_topi (fun x20 hx20 => ?_)
                have h := h x20 hx20
                refine ab_istore (lv1 := [(4, .int x20), (3, .int x16), (7, .long x13), (6, .int x2), (0, .ref 62), (1, .int v1), (2, .int v2), (5, .int v5)]) dX12_judge_155 (by decide) rfl ?_
                obtain ⟨x21, hx21⟩ : ∃ y : Int32, y = v5 + (1 : Int32) := ⟨_, rfl⟩
                have h := h x21 hx21
                refine ab_iinc (v := x21) 7 (lv1 := [(5, .int x21), (4, .int x20), (3, .int x16), (7, .long x13), (6, .int x2), (0, .ref 62), (1, .int v1), (2, .int v2)]) dX12_judge_157 rfl (by rw [hx21]; rfl) (by decide) rfl ?_
                refine ab_goto (tgt := 30) dX12_judge_160 (by decide) ?_
                exact ab_sub [5, 6, 7, 2, 1, 0] rfl h
            · have h := h.2 c15
              refine ab_lload 0 dX12_judge_128 rfl ?_
              refine ab_l2i dX12_judge_130 ?_
              refine ab_goto (tgt := 135) dX12_judge_131 (by decide) ?_
              refine ab_iadd dX12_judge_135 ?_
              refine ab_topi (fun x22 hx22 => ?_)
              have h := h x22 hx22
              refine ab_istore_n (lv1 := [(3, .int x22), (7, .long x13), (6, .int x2), (0, .ref 62), (1, .int v1), (2, .int v2), (4, .int v4), (5, .int v5)]) dX12_judge_136 (by decide) rfl ?_
              refine ab_iload 6 dX12_judge_137 rfl ?_
              refine ab_iload 7 dX12_judge_139 rfl ?_
              refine ab_iconst (v := 2) dX12_judge_141 (by decide) ?_
              refine ab_irem dX12_judge_142 (by decide) ?_
              refine ab_iconst (v := 1) dX12_judge_143 (by decide) ?_
              refine ab_icmp_ne (tgt := 153) dX12_judge_144 (by decide) (fun c23 => ?_) (fun c23 => ?_)
              · have h := h.1 c23
                refine ab_iconst (v := 0) dX12_judge_153 (by decide) ?_
                refine ab_iadd dX12_judge_154 ?_
                refine ab_topi (fun x24 hx24 => ?_)
                have h := h x24 hx24
                refine ab_istore (lv1 := [(4, .int x24), (3, .int x22), (7, .long x13), (6, .int x2), (0, .ref 62), (1, .int v1), (2, .int v2), (5, .int v5)]) dX12_judge_155 (by decide) rfl ?_
                obtain ⟨x25, hx25⟩ : ∃ y : Int32, y = v5 + (1 : Int32) := ⟨_, rfl⟩
                have h := h x25 hx25
                refine ab_iinc (v := x25) 7 (lv1 := [(5, .int x25), (4, .int x24), (3, .int x22), (7, .long x13), (6, .int x2), (0, .ref 62), (1, .int v1), (2, .int v2)]) dX12_judge_157 rfl (by rw [hx25]; rfl) (by decide) rfl ?_
                refine ab_goto (tgt := 30) dX12_judge_160 (by decide) ?_
                exact ab_sub [5, 6, 7, 2, 1, 0] rfl h
              · have h := h.2 c23
                refine ab_lload 1 dX12_judge_147 rfl ?_
                refine ab_l2i dX12_judge_149 ?_
                refine ab_goto (tgt := 154) dX12_judge_150 (by decide) ?_
                refine ab_iadd dX12_judge_154 ?_
                refine ab_topi (fun x26 hx26 => ?_)
                have h := h x26 hx26
                refine ab_istore (lv1 := [(4, .int x26), (3, .int x22), (7, .long x13), (6, .int x2), (0, .ref 62), (1, .int v1), (2, .int v2), (5, .int v5)]) dX12_judge_155 (by decide) rfl ?_
                obtain ⟨x27, hx27⟩ : ∃ y : Int32, y = v5 + (1 : Int32) := ⟨_, rfl⟩
                have h := h x27 hx27
                refine ab_iinc (v := x27) 7 (lv1 := [(5, .int x27), (4, .int x26), (3, .int x22), (7, .long x13), (6, .int x2), (0, .ref 62), (1, .int v1), (2, .int v2)]) dX12_judge_157 rfl (by rw [hx27]; rfl) (by decide) rfl ?_
                refine ab_goto (tgt := 30) dX12_judge_160 (by decide) ?_
                exact ab_sub [5, 6, 7, 2, 1, 0] rfl h
          · have h := h.2 c14
            refine ab_lload 0 dX12_judge_107 rfl ?_
            refine ab_lconst (v := 1) dX12_judge_109 (by decide) ?_
            refine ab_lcmp dX12_judge_110 ?_
            refine ab_if_eq (tgt := 120) dX12_judge_111 (by decide) (fun c28 => ?_) (fun c28 => ?_)
            · have h := h.1 c28
              refine ab_iload_n 5 dX12_judge_120 rfl ?_
              refine ab_iload 7 dX12_judge_121 rfl ?_
              refine ab_iconst (v := 2) dX12_judge_123 (by decide) ?_
              refine ab_irem dX12_judge_124 (by decide) ?_
              refine ab_if_ne (tgt := 134) dX12_judge_125 (by decide) (fun c29 => ?_) (fun c29 => ?_)
              · have h := h.1 c29
                refine ab_iconst (v := 0) dX12_judge_134 (by decide) ?_
                refine ab_iadd dX12_judge_135 ?_
                refine ab_topi (fun x30 hx30 => ?_)
                have h := h x30 hx30
                refine ab_istore_n (lv1 := [(3, .int x30), (7, .long x13), (6, .int x2), (0, .ref 62), (1, .int v1), (2, .int v2), (4, .int v4), (5, .int v5)]) dX12_judge_136 (by decide) rfl ?_
                refine ab_iload 6 dX12_judge_137 rfl ?_
                refine ab_iload 7 dX12_judge_139 rfl ?_
                refine ab_iconst (v := 2) dX12_judge_141 (by decide) ?_
                refine ab_irem dX12_judge_142 (by decide) ?_
                refine ab_iconst (v := 1) dX12_judge_143 (by decide) ?_
                refine ab_icmp_ne (tgt := 153) dX12_judge_144 (by decide) (fun c31 => ?_) (fun c31 => ?_)
                · have h := h.1 c31
                  refine ab_iconst (v := 0) dX12_judge_153 (by decide) ?_
                  refine ab_iadd dX12_judge_154 ?_
                  refine ab_topi (fun x32 hx32 => ?_)
                  have h := h x32 hx32
                  refine ab_istore (lv1 := [(4, .int x32), (3, .int x30), (7, .long x13), (6, .int x2), (0, .ref 62), (1, .int v1), (2, .int v2), (5, .int v5)]) dX12_judge_155 (by decide) rfl ?_
                  obtain ⟨x33, hx33⟩ : ∃ y : Int32, y = v5 + (1 : Int32) := ⟨_, rfl⟩
                  have h := h x33 hx33
                  refine ab_iinc (v := x33) 7 (lv1 := [(5, .int x33), (4, .int x32), (3, .int x30), (7, .long x13), (6, .int x2), (0, .ref 62), (1, .int v1), (2, .int v2)]) dX12_judge_157 rfl (by rw [hx33]; rfl) (by decide) rfl ?_
                  refine ab_goto (tgt := 30) dX12_judge_160 (by decide) ?_
                  exact ab_sub [5, 6, 7, 2, 1, 0] rfl h
                · have h := h.2 c31
                  refine ab_lload 1 dX12_judge_147 rfl ?_
                  refine ab_l2i dX12_judge_149 ?_
                  refine ab_goto (tgt := 154) dX12_judge_150 (by decide) ?_
                  refine ab_iadd dX12_judge_154 ?_
                  refine ab_topi (fun x34 hx34 => ?_)
                  have h := h x34 hx34
                  refine ab_istore (lv1 := [(4, .int x34), (3, .int x30), (7, .long x13), (6, .int x2), (0, .ref 62), (1, .int v1), (2, .int v2), (5, .int v5)]) dX12_judge_155 (by decide) rfl ?_
                  obtain ⟨x35, hx35⟩ : ∃ y : Int32, y = v5 + (1 : Int32) := ⟨_, rfl⟩
                  have h := h x35 hx35
                  refine ab_iinc (v := x35) 7 (lv1 := [(5, .int x35), (4, .int x34), (3, .int x30), (7, .long x13), (6, .int x2), (0, .ref 62), (1, .int v1), (2, .int v2)]) dX12_judge_157 rfl (by rw [hx35]; rfl) (by decide) rfl ?_
                  refine ab_goto (tgt := 30) dX12_judge_160 (by decide) ?_
                  exact ab_sub [5, 6, 7, 2, 1, 0] rfl h
              · have h := h.2 c29
                refine ab_lload 0 dX12_judge_128 rfl ?_
                refine ab_l2i dX12_judge_130 ?_
                refine ab_goto (tgt := 135) dX12_judge_131 (by decide) ?_
                refine ab_iadd dX12_judge_135 ?_
                refine ab_topi (fun x36 hx36 => ?_)
                have h := h x36 hx36
                refine ab_istore_n (lv1 := [(3, .int x36), (7, .long x13), (6, .int x2), (0, .ref 62), (1, .int v1), (2, .int v2), (4, .int v4), (5, .int v5)]) dX12_judge_136 (by decide) rfl ?_
                refine ab_iload 6 dX12_judge_137 rfl ?_
                refine ab_iload 7 dX12_judge_139 rfl ?_
                refine ab_iconst (v := 2) dX12_judge_141 (by decide) ?_
                refine ab_irem dX12_judge_142 (by decide) ?_
                refine ab_iconst (v := 1) dX12_judge_143 (by decide) ?_
                refine ab_icmp_ne (tgt := 153) dX12_judge_144 (by decide) (fun c37 => ?_) (fun c37 => ?_)
                · have h := h.1 c37
                  refine ab_iconst (v := 0) dX12_judge_153 (by decide) ?_
                  refine ab_iadd dX12_judge_154 ?_
                  refine ab_topi (fun x38 hx38 => ?_)
                  have h := h x38 hx38
                  refine ab_istore (lv1 := [(4, .int x38), (3, .int x36), (7, .long x13), (6, .int x2), (0, .ref 62), (1, .int v1), (2, .int v2), (5, .int v5)]) dX12_judge_155 (by decide) rfl ?_
                  obtain ⟨x39, hx39⟩ : ∃ y : Int32, y = v5 + (1 : Int32) := ⟨_, rfl⟩
                  have h := h x39 hx39
                  refine ab_iinc (v := x39) 7 (lv1 := [(5, .int x39), (4, .int x38), (3, .int x36), (7, .long x13), (6, .int x2), (0, .ref 62), (1, .int v1), (2, .int v2)]) dX12_judge_157 rfl (by rw [hx39]; rfl) (by decide) rfl ?_
                  refine ab_goto (tgt := 30) dX12_judge_160 (by decide) ?_
                  exact ab_sub [5, 6, 7, 2, 1, 0] rfl h
                · have h := h.2 c37
                  refine ab_lload 1 dX12_judge_147 rfl ?_
                  refine ab_l2i dX12_judge_149 ?_
                  refine ab_goto (tgt := 154) dX12_judge_150 (by decide) ?_
                  refine ab_iadd dX12_judge_154 ?_
                  refine ab_topi (fun x40 hx40 => ?_)
                  have h := h x40 hx40
                  refine ab_istore (lv1 := [(4, .int x40), (3, .int x36), (7, .long x13), (6, .int x2), (0, .ref 62), (1, .int v1), (2, .int v2), (5, .int v5)]) dX12_judge_155 (by decide) rfl ?_
                  obtain ⟨x41, hx41⟩ : ∃ y : Int32, y = v5 + (1 : Int32) := ⟨_, rfl⟩
                  have h := h x41 hx41
                  refine ab_iinc (v := x41) 7 (lv1 := [(5, .int x41), (4, .int x40), (3, .int x36), (7, .long x13), (6, .int x2), (0, .ref 62), (1, .int v1), (2, .int v2)]) dX12_judge_157 rfl (by rw [hx41]; rfl) (by decide) rfl ?_
                  refine ab_goto (tgt := 30) dX12_judge_160 (by decide) ?_
                  exact ab_sub [5, 6, 7, 2, 1, 0] rfl h
            · have h := h.2 c28
              refine ab_bipush (v := (-10)) dX12_judge_114 (by decide) ?_
              refine ab_iload 7 dX12_judge_116 rfl ?_
              refine ab_isub dX12_judge_118 ?_
              exact ab_iret dX12_judge_119 rfl h
        · have h := h.2 c11
          refine ab_sipush (v := 1000) dX12_judge_77 (by decide) ?_
          refine ab_iload 6 dX12_judge_80 rfl ?_
          refine ab_iadd dX12_judge_82 ?_
          exact ab_iret dX12_judge_83 rfl h
  · have h := h.2 c7
    refine ab_iload 0 dX12_judge_46 rfl ?_
    exact ab_iret dX12_judge_48 rfl h
theorem dX12_image_0 : decode cX12_image 0 = .ok (.aload_n 0, 1) := by decide +kernel
theorem dX12_image_1 : decode cX12_image 1 = .ok (.iconst 1, 1) := by decide +kernel
theorem dX12_image_2 : decode cX12_image 2 = .ok (.putfield 139, 3) := by decide +kernel
theorem dX12_image_5 : decode cX12_image 5 = .ok (.aload_n 0, 1) := by decide +kernel
theorem dX12_image_6 : decode cX12_image 6 = .ok (.aload_n 0, 1) := by decide +kernel
theorem dX12_image_7 : decode cX12_image 7 = .ok (.getfield 109, 3) := by decide +kernel
theorem dX12_image_10 : decode cX12_image 10 = .ok (.putfield 143, 3) := by decide +kernel
theorem dX12_image_13 : decode cX12_image 13 = .ok (.aload_n 0, 1) := by decide +kernel
theorem dX12_image_14 : decode cX12_image 14 = .ok (.aload_n 0, 1) := by decide +kernel
theorem dX12_image_15 : decode cX12_image 15 = .ok (.getfield 7, 3) := by decide +kernel
theorem dX12_image_18 : decode cX12_image 18 = .ok (.aload_n 0, 1) := by decide +kernel
theorem dX12_image_19 : decode cX12_image 19 = .ok (.getfield 146, 3) := by decide +kernel
theorem dX12_image_22 : decode cX12_image 22 = .ok (.invokevirtual 348, 3) := by decide +kernel
theorem dX12_image_25 : decode cX12_image 25 = .ok (.aload_n 0, 1) := by decide +kernel
theorem dX12_image_26 : decode cX12_image 26 = .ok (.aload_n 0, 1) := by decide +kernel
theorem dX12_image_27 : decode cX12_image 27 = .ok (.getfield 112, 3) := by decide +kernel
theorem dX12_image_30 : decode cX12_image 30 = .ok (.aload_n 0, 1) := by decide +kernel
theorem dX12_image_31 : decode cX12_image 31 = .ok (.getfield 149, 3) := by decide +kernel
theorem dX12_image_34 : decode cX12_image 34 = .ok (.invokevirtual 348, 3) := by decide +kernel
theorem dX12_image_37 : decode cX12_image 37 = .ok (.aload_n 0, 1) := by decide +kernel
theorem dX12_image_38 : decode cX12_image 38 = .ok (.aload_n 0, 1) := by decide +kernel
theorem dX12_image_39 : decode cX12_image 39 = .ok (.getfield 115, 3) := by decide +kernel
theorem dX12_image_42 : decode cX12_image 42 = .ok (.aload_n 0, 1) := by decide +kernel
theorem dX12_image_43 : decode cX12_image 43 = .ok (.getfield 152, 3) := by decide +kernel
theorem dX12_image_46 : decode cX12_image 46 = .ok (.invokevirtual 348, 3) := by decide +kernel
theorem dX12_image_49 : decode cX12_image 49 = .ok (.aload_n 0, 1) := by decide +kernel
theorem dX12_image_50 : decode cX12_image 50 = .ok (.aload_n 0, 1) := by decide +kernel
theorem dX12_image_51 : decode cX12_image 51 = .ok (.getfield 118, 3) := by decide +kernel
theorem dX12_image_54 : decode cX12_image 54 = .ok (.aload_n 0, 1) := by decide +kernel
theorem dX12_image_55 : decode cX12_image 55 = .ok (.getfield 155, 3) := by decide +kernel
theorem dX12_image_58 : decode cX12_image 58 = .ok (.invokevirtual 348, 3) := by decide +kernel
theorem dX12_image_61 : decode cX12_image 61 = .ok (.aload_n 0, 1) := by decide +kernel
theorem dX12_image_62 : decode cX12_image 62 = .ok (.aload_n 0, 1) := by decide +kernel
theorem dX12_image_63 : decode cX12_image 63 = .ok (.getfield 121, 3) := by decide +kernel
theorem dX12_image_66 : decode cX12_image 66 = .ok (.aload_n 0, 1) := by decide +kernel
theorem dX12_image_67 : decode cX12_image 67 = .ok (.getfield 158, 3) := by decide +kernel
theorem dX12_image_70 : decode cX12_image 70 = .ok (.invokevirtual 348, 3) := by decide +kernel
theorem dX12_image_73 : decode cX12_image 73 = .ok (.aload_n 0, 1) := by decide +kernel
theorem dX12_image_74 : decode cX12_image 74 = .ok (.getfield 109, 3) := by decide +kernel
theorem dX12_image_77 : decode cX12_image 77 = .ok (.ireturn, 1) := by decide +kernel
set_option maxRecDepth 20000 in
theorem rX12_image (D : GD) (d : Nat)  (M : Mm) (post : Option Value → Mm → Prop) (hL : Lay 62 98 M) 
    (h : ∀ M1 : Mm, M1 = sI M 62 42 (1 : Int32) → ∀ M5 : Mm, M5 = sI M1 62 43 (gI M1 62 32) → AMv D d mX12_copy [.ref 62, .ref 63, .ref 88] M5 (fun M9 => AMv D d mX12_copy [.ref 62, .ref 79, .ref 89] M9 (fun M15 => AMv D d mX12_copy [.ref 62, .ref 80, .ref 90] M15 (fun M21 => AMv D d mX12_copy [.ref 62, .ref 81, .ref 91] M21 (fun M27 => AMv D d mX12_copy [.ref 62, .ref 82, .ref 92] M27 (fun M33 => post (some (.int (gI M33 62 32))) M33)))))) :
    AM D (d + 1) 0 0 mX12_image [.ref 62] M post := by
  refine AM.of (by decide) (Nat.le_of_ble_eq_true rfl) ?_
  show AW D (d + 1) 0 0 mX12_image 0 0 0 [(0, .ref 62)] [] M post
  refine ab_aload_n 0 dX12_image_0 rfl ?_
  refine ab_iconst (v := 1) dX12_image_1 (by decide) ?_
  refine ab_putZ dX12_image_2 fs_12_139_12 rfl rfl (hL.sh 62 rfl (by decide) (by decide)).1 (hL.sh 62 rfl (by decide) (by decide)).2 (by decide) ?_
  refine ab_nameM (fun M1 hM1 => ?_)
  have h := h M1 hM1
  have hs4 : Sm M M1 := hM1 ▸ (Sm.refl _).i
  have hm2 : Sm M M1 := (Sm.refl M).trans hs4
  have hl3 := hL.of hm2
  refine ab_aload_n 0 dX12_image_5 rfl ?_
  refine ab_aload_n 0 dX12_image_6 rfl ?_
  refine ab_getI dX12_image_7 fs_12_109_12 rfl (hl3.sh 62 rfl (by decide) (by decide)).1 (hl3.sh 62 rfl (by decide) (by decide)).2 ?_
  refine ab_putI dX12_image_10 fs_12_143_12 rfl rfl (hl3.sh 62 rfl (by decide) (by decide)).1 (hl3.sh 62 rfl (by decide) (by decide)).2 ?_
  refine ab_nameM (fun M5 hM5 => ?_)
  have h := h M5 hM5
  have hs8 : Sm M1 M5 := hM5 ▸ (Sm.refl _).i
  have hm6 : Sm M M5 := hm2.trans hs8
  have hl7 := hL.of hm6
  refine ab_aload_n 0 dX12_image_13 rfl ?_
  refine ab_aload_n 0 dX12_image_14 rfl ?_
  refine ab_getP (r := 63) dX12_image_15 fs_12_7_12 rfl (hl7.sh 62 rfl (by decide) (by decide)).1 (hl7.sh 62 rfl (by decide) (by decide)).2 (hl7.pt 61 rfl (by decide) (by decide)) ?_
  refine ab_aload_n 0 dX12_image_18 rfl ?_
  refine ab_getP (r := 88) dX12_image_19 fs_12_146_12 rfl (hl7.sh 62 rfl (by decide) (by decide)).1 (hl7.sh 62 rfl (by decide) (by decide)).2 (hl7.pt 86 rfl (by decide) (by decide)) ?_
  refine ab_callV (a := 62) (c0 := 12) (d' := d) (mc' := 0) (ms' := 0) (vs := [.ref 63, .ref 88]) (st := []) dX12_image_22 ⟨cw_X12_copy, w_1447⟩ w_1449 w_68 (by decide) (hl7.sh 62 rfl (by decide) (by decide)).1 (hl7.sh 62 rfl (by decide) (by decide)).2 rfl rfl (Nat.le_of_ble_eq_true rfl) (Nat.le_refl _) (Nat.zero_le _) (Nat.zero_le _) (AM.mono h (fun r M9 ⟨hr11, hc12, h⟩ => ?_))
  subst hr11
  refine ab_rv ?_
  have hm13 : Sm M M9 := hm6.trans hc12
  have hl14 := hL.of hm13
  refine ab_aload_n 0 dX12_image_25 rfl ?_
  refine ab_aload_n 0 dX12_image_26 rfl ?_
  refine ab_getP (r := 79) dX12_image_27 fs_12_112_12 rfl (hl14.sh 62 rfl (by decide) (by decide)).1 (hl14.sh 62 rfl (by decide) (by decide)).2 (hl14.pt 77 rfl (by decide) (by decide)) ?_
  refine ab_aload_n 0 dX12_image_30 rfl ?_
  refine ab_getP (r := 89) dX12_image_31 fs_12_149_12 rfl (hl14.sh 62 rfl (by decide) (by decide)).1 (hl14.sh 62 rfl (by decide) (by decide)).2 (hl14.pt 87 rfl (by decide) (by decide)) ?_
  refine ab_callV (a := 62) (c0 := 12) (d' := d) (mc' := 0) (ms' := 0) (vs := [.ref 79, .ref 89]) (st := []) dX12_image_34 ⟨cw_X12_copy, w_1447⟩ w_1449 w_68 (by decide) (hl14.sh 62 rfl (by decide) (by decide)).1 (hl14.sh 62 rfl (by decide) (by decide)).2 rfl rfl (Nat.le_of_ble_eq_true rfl) (Nat.le_refl _) (Nat.zero_le _) (Nat.zero_le _) (AM.mono h (fun r M15 ⟨hr17, hc18, h⟩ => ?_))
  subst hr17
  refine ab_rv ?_
  have hm19 : Sm M M15 := hm13.trans hc18
  have hl20 := hL.of hm19
  refine ab_aload_n 0 dX12_image_37 rfl ?_
  refine ab_aload_n 0 dX12_image_38 rfl ?_
  refine ab_getP (r := 80) dX12_image_39 fs_12_115_12 rfl (hl20.sh 62 rfl (by decide) (by decide)).1 (hl20.sh 62 rfl (by decide) (by decide)).2 (hl20.pt 78 rfl (by decide) (by decide)) ?_
  refine ab_aload_n 0 dX12_image_42 rfl ?_
  refine ab_getP (r := 90) dX12_image_43 fs_12_152_12 rfl (hl20.sh 62 rfl (by decide) (by decide)).1 (hl20.sh 62 rfl (by decide) (by decide)).2 (hl20.pt 88 rfl (by decide) (by decide)) ?_
  refine ab_callV (a := 62) (c0 := 12) (d' := d) (mc' := 0) (ms' := 0) (vs := [.ref 80, .ref 90]) (st := []) dX12_image_46 ⟨cw_X12_copy, w_1447⟩ w_1449 w_68 (by decide) (hl20.sh 62 rfl (by decide) (by decide)).1 (hl20.sh 62 rfl (by decide) (by decide)).2 rfl rfl (Nat.le_of_ble_eq_true rfl) (Nat.le_refl _) (Nat.zero_le _) (Nat.zero_le _) (AM.mono h (fun r M21 ⟨hr23, hc24, h⟩ => ?_))
  subst hr23
  refine ab_rv ?_
  have hm25 : Sm M M21 := hm19.trans hc24
  have hl26 := hL.of hm25
  refine ab_aload_n 0 dX12_image_49 rfl ?_
  refine ab_aload_n 0 dX12_image_50 rfl ?_
  refine ab_getP (r := 81) dX12_image_51 fs_12_118_12 rfl (hl26.sh 62 rfl (by decide) (by decide)).1 (hl26.sh 62 rfl (by decide) (by decide)).2 (hl26.pt 79 rfl (by decide) (by decide)) ?_
  refine ab_aload_n 0 dX12_image_54 rfl ?_
  refine ab_getP (r := 91) dX12_image_55 fs_12_155_12 rfl (hl26.sh 62 rfl (by decide) (by decide)).1 (hl26.sh 62 rfl (by decide) (by decide)).2 (hl26.pt 89 rfl (by decide) (by decide)) ?_
  refine ab_callV (a := 62) (c0 := 12) (d' := d) (mc' := 0) (ms' := 0) (vs := [.ref 81, .ref 91]) (st := []) dX12_image_58 ⟨cw_X12_copy, w_1447⟩ w_1449 w_68 (by decide) (hl26.sh 62 rfl (by decide) (by decide)).1 (hl26.sh 62 rfl (by decide) (by decide)).2 rfl rfl (Nat.le_of_ble_eq_true rfl) (Nat.le_refl _) (Nat.zero_le _) (Nat.zero_le _) (AM.mono h (fun r M27 ⟨hr29, hc30, h⟩ => ?_))
  subst hr29
  refine ab_rv ?_
  have hm31 : Sm M M27 := hm25.trans hc30
  have hl32 := hL.of hm31
  refine ab_aload_n 0 dX12_image_61 rfl ?_
  refine ab_aload_n 0 dX12_image_62 rfl ?_
  refine ab_getP (r := 82) dX12_image_63 fs_12_121_12 rfl (hl32.sh 62 rfl (by decide) (by decide)).1 (hl32.sh 62 rfl (by decide) (by decide)).2 (hl32.pt 80 rfl (by decide) (by decide)) ?_
  refine ab_aload_n 0 dX12_image_66 rfl ?_
  refine ab_getP (r := 92) dX12_image_67 fs_12_158_12 rfl (hl32.sh 62 rfl (by decide) (by decide)).1 (hl32.sh 62 rfl (by decide) (by decide)).2 (hl32.pt 90 rfl (by decide) (by decide)) ?_
  refine ab_callV (a := 62) (c0 := 12) (d' := d) (mc' := 0) (ms' := 0) (vs := [.ref 82, .ref 92]) (st := []) dX12_image_70 ⟨cw_X12_copy, w_1447⟩ w_1449 w_68 (by decide) (hl32.sh 62 rfl (by decide) (by decide)).1 (hl32.sh 62 rfl (by decide) (by decide)).2 rfl rfl (Nat.le_of_ble_eq_true rfl) (Nat.le_refl _) (Nat.zero_le _) (Nat.zero_le _) (AM.mono h (fun r M33 ⟨hr35, hc36, h⟩ => ?_))
  subst hr35
  refine ab_rv ?_
  have hm37 : Sm M M33 := hm31.trans hc36
  have hl38 := hL.of hm37
  refine ab_aload_n 0 dX12_image_73 rfl ?_
  refine ab_getI dX12_image_74 fs_12_109_12 rfl (hl38.sh 62 rfl (by decide) (by decide)).1 (hl38.sh 62 rfl (by decide) (by decide)).2 ?_
  exact ab_iret dX12_image_77 rfl h
theorem dX12_undo_0 : decode cX12_undo 0 = .ok (.aload_n 0, 1) := by decide +kernel
theorem dX12_undo_1 : decode cX12_undo 1 = .ok (.getfield 139, 3) := by decide +kernel
theorem dX12_undo_4 : decode cX12_undo 4 = .ok (.ifCond .ne 6, 3) := by decide +kernel
theorem dX12_undo_7 : decode cX12_undo 7 = .ok (.bipush (-3), 2) := by decide +kernel
theorem dX12_undo_9 : decode cX12_undo 9 = .ok (.ireturn, 1) := by decide +kernel
theorem dX12_undo_10 : decode cX12_undo 10 = .ok (.aload_n 0, 1) := by decide +kernel
theorem dX12_undo_11 : decode cX12_undo 11 = .ok (.aload_n 0, 1) := by decide +kernel
theorem dX12_undo_12 : decode cX12_undo 12 = .ok (.getfield 143, 3) := by decide +kernel
theorem dX12_undo_15 : decode cX12_undo 15 = .ok (.putfield 109, 3) := by decide +kernel
theorem dX12_undo_18 : decode cX12_undo 18 = .ok (.aload_n 0, 1) := by decide +kernel
theorem dX12_undo_19 : decode cX12_undo 19 = .ok (.aload_n 0, 1) := by decide +kernel
theorem dX12_undo_20 : decode cX12_undo 20 = .ok (.getfield 146, 3) := by decide +kernel
theorem dX12_undo_23 : decode cX12_undo 23 = .ok (.aload_n 0, 1) := by decide +kernel
theorem dX12_undo_24 : decode cX12_undo 24 = .ok (.getfield 7, 3) := by decide +kernel
theorem dX12_undo_27 : decode cX12_undo 27 = .ok (.invokevirtual 348, 3) := by decide +kernel
theorem dX12_undo_30 : decode cX12_undo 30 = .ok (.aload_n 0, 1) := by decide +kernel
theorem dX12_undo_31 : decode cX12_undo 31 = .ok (.aload_n 0, 1) := by decide +kernel
theorem dX12_undo_32 : decode cX12_undo 32 = .ok (.getfield 149, 3) := by decide +kernel
theorem dX12_undo_35 : decode cX12_undo 35 = .ok (.aload_n 0, 1) := by decide +kernel
theorem dX12_undo_36 : decode cX12_undo 36 = .ok (.getfield 112, 3) := by decide +kernel
theorem dX12_undo_39 : decode cX12_undo 39 = .ok (.invokevirtual 348, 3) := by decide +kernel
theorem dX12_undo_42 : decode cX12_undo 42 = .ok (.aload_n 0, 1) := by decide +kernel
theorem dX12_undo_43 : decode cX12_undo 43 = .ok (.aload_n 0, 1) := by decide +kernel
theorem dX12_undo_44 : decode cX12_undo 44 = .ok (.getfield 152, 3) := by decide +kernel
theorem dX12_undo_47 : decode cX12_undo 47 = .ok (.aload_n 0, 1) := by decide +kernel
theorem dX12_undo_48 : decode cX12_undo 48 = .ok (.getfield 115, 3) := by decide +kernel
theorem dX12_undo_51 : decode cX12_undo 51 = .ok (.invokevirtual 348, 3) := by decide +kernel
theorem dX12_undo_54 : decode cX12_undo 54 = .ok (.aload_n 0, 1) := by decide +kernel
theorem dX12_undo_55 : decode cX12_undo 55 = .ok (.aload_n 0, 1) := by decide +kernel
theorem dX12_undo_56 : decode cX12_undo 56 = .ok (.getfield 155, 3) := by decide +kernel
theorem dX12_undo_59 : decode cX12_undo 59 = .ok (.aload_n 0, 1) := by decide +kernel
theorem dX12_undo_60 : decode cX12_undo 60 = .ok (.getfield 118, 3) := by decide +kernel
theorem dX12_undo_63 : decode cX12_undo 63 = .ok (.invokevirtual 348, 3) := by decide +kernel
theorem dX12_undo_66 : decode cX12_undo 66 = .ok (.aload_n 0, 1) := by decide +kernel
theorem dX12_undo_67 : decode cX12_undo 67 = .ok (.aload_n 0, 1) := by decide +kernel
theorem dX12_undo_68 : decode cX12_undo 68 = .ok (.getfield 158, 3) := by decide +kernel
theorem dX12_undo_71 : decode cX12_undo 71 = .ok (.aload_n 0, 1) := by decide +kernel
theorem dX12_undo_72 : decode cX12_undo 72 = .ok (.getfield 121, 3) := by decide +kernel
theorem dX12_undo_75 : decode cX12_undo 75 = .ok (.invokevirtual 348, 3) := by decide +kernel
theorem dX12_undo_78 : decode cX12_undo 78 = .ok (.aload_n 0, 1) := by decide +kernel
theorem dX12_undo_79 : decode cX12_undo 79 = .ok (.getfield 109, 3) := by decide +kernel
theorem dX12_undo_82 : decode cX12_undo 82 = .ok (.ireturn, 1) := by decide +kernel
set_option maxRecDepth 20000 in
theorem rX12_undo (D : GD) (d : Nat)  (M : Mm) (post : Option Value → Mm → Prop) (hL : Lay 62 98 M) 
    (h : ((¬ (gI M 62 42) = 0 → ∀ M2 : Mm, M2 = sI M 62 32 (gI M 62 43) → AMv D d mX12_copy [.ref 62, .ref 88, .ref 63] M2 (fun M6 => AMv D d mX12_copy [.ref 62, .ref 89, .ref 79] M6 (fun M12 => AMv D d mX12_copy [.ref 62, .ref 90, .ref 80] M12 (fun M18 => AMv D d mX12_copy [.ref 62, .ref 91, .ref 81] M18 (fun M24 => AMv D d mX12_copy [.ref 62, .ref 92, .ref 82] M24 (fun M30 => post (some (.int (gI M30 62 32))) M30)))))) ∧ ((gI M 62 42) = 0 → post (some (.int (-3 : Int32))) M))) :
    AM D (d + 1) 0 0 mX12_undo [.ref 62] M post := by
  refine AM.of (by decide) (Nat.le_of_ble_eq_true rfl) ?_
  show AW D (d + 1) 0 0 mX12_undo 0 0 0 [(0, .ref 62)] [] M post
  refine ab_aload_n 0 dX12_undo_0 rfl ?_
  refine ab_getI dX12_undo_1 fs_12_139_12 rfl (hL.sh 62 rfl (by decide) (by decide)).1 (hL.sh 62 rfl (by decide) (by decide)).2 ?_
  refine ab_if_ne (tgt := 10) dX12_undo_4 (by decide) (fun c1 => ?_) (fun c1 => ?_)
  · have h := h.1 c1
    refine ab_aload_n 0 dX12_undo_10 rfl ?_
    refine ab_aload_n 0 dX12_undo_11 rfl ?_
    refine ab_getI dX12_undo_12 fs_12_143_12 rfl (hL.sh 62 rfl (by decide) (by decide)).1 (hL.sh 62 rfl (by decide) (by decide)).2 ?_
    refine ab_putI dX12_undo_15 fs_12_109_12 rfl rfl (hL.sh 62 rfl (by decide) (by decide)).1 (hL.sh 62 rfl (by decide) (by decide)).2 ?_
    refine ab_nameM (fun M2 hM2 => ?_)
    have h := h M2 hM2
    have hs5 : Sm M M2 := hM2 ▸ (Sm.refl _).i
    have hm3 : Sm M M2 := (Sm.refl M).trans hs5
    have hl4 := hL.of hm3
    refine ab_aload_n 0 dX12_undo_18 rfl ?_
    refine ab_aload_n 0 dX12_undo_19 rfl ?_
    refine ab_getP (r := 88) dX12_undo_20 fs_12_146_12 rfl (hl4.sh 62 rfl (by decide) (by decide)).1 (hl4.sh 62 rfl (by decide) (by decide)).2 (hl4.pt 86 rfl (by decide) (by decide)) ?_
    refine ab_aload_n 0 dX12_undo_23 rfl ?_
    refine ab_getP (r := 63) dX12_undo_24 fs_12_7_12 rfl (hl4.sh 62 rfl (by decide) (by decide)).1 (hl4.sh 62 rfl (by decide) (by decide)).2 (hl4.pt 61 rfl (by decide) (by decide)) ?_
    refine ab_callV (a := 62) (c0 := 12) (d' := d) (mc' := 0) (ms' := 0) (vs := [.ref 88, .ref 63]) (st := []) dX12_undo_27 ⟨cw_X12_copy, w_1447⟩ w_1449 w_68 (by decide) (hl4.sh 62 rfl (by decide) (by decide)).1 (hl4.sh 62 rfl (by decide) (by decide)).2 rfl rfl (Nat.le_of_ble_eq_true rfl) (Nat.le_refl _) (Nat.zero_le _) (Nat.zero_le _) (AM.mono h (fun r M6 ⟨hr8, hc9, h⟩ => ?_))
    subst hr8
    refine ab_rv ?_
    have hm10 : Sm M M6 := hm3.trans hc9
    have hl11 := hL.of hm10
    refine ab_aload_n 0 dX12_undo_30 rfl ?_
    refine ab_aload_n 0 dX12_undo_31 rfl ?_
    refine ab_getP (r := 89) dX12_undo_32 fs_12_149_12 rfl (hl11.sh 62 rfl (by decide) (by decide)).1 (hl11.sh 62 rfl (by decide) (by decide)).2 (hl11.pt 87 rfl (by decide) (by decide)) ?_
    refine ab_aload_n 0 dX12_undo_35 rfl ?_
    refine ab_getP (r := 79) dX12_undo_36 fs_12_112_12 rfl (hl11.sh 62 rfl (by decide) (by decide)).1 (hl11.sh 62 rfl (by decide) (by decide)).2 (hl11.pt 77 rfl (by decide) (by decide)) ?_
    refine ab_callV (a := 62) (c0 := 12) (d' := d) (mc' := 0) (ms' := 0) (vs := [.ref 89, .ref 79]) (st := []) dX12_undo_39 ⟨cw_X12_copy, w_1447⟩ w_1449 w_68 (by decide) (hl11.sh 62 rfl (by decide) (by decide)).1 (hl11.sh 62 rfl (by decide) (by decide)).2 rfl rfl (Nat.le_of_ble_eq_true rfl) (Nat.le_refl _) (Nat.zero_le _) (Nat.zero_le _) (AM.mono h (fun r M12 ⟨hr14, hc15, h⟩ => ?_))
    subst hr14
    refine ab_rv ?_
    have hm16 : Sm M M12 := hm10.trans hc15
    have hl17 := hL.of hm16
    refine ab_aload_n 0 dX12_undo_42 rfl ?_
    refine ab_aload_n 0 dX12_undo_43 rfl ?_
    refine ab_getP (r := 90) dX12_undo_44 fs_12_152_12 rfl (hl17.sh 62 rfl (by decide) (by decide)).1 (hl17.sh 62 rfl (by decide) (by decide)).2 (hl17.pt 88 rfl (by decide) (by decide)) ?_
    refine ab_aload_n 0 dX12_undo_47 rfl ?_
    refine ab_getP (r := 80) dX12_undo_48 fs_12_115_12 rfl (hl17.sh 62 rfl (by decide) (by decide)).1 (hl17.sh 62 rfl (by decide) (by decide)).2 (hl17.pt 78 rfl (by decide) (by decide)) ?_
    refine ab_callV (a := 62) (c0 := 12) (d' := d) (mc' := 0) (ms' := 0) (vs := [.ref 90, .ref 80]) (st := []) dX12_undo_51 ⟨cw_X12_copy, w_1447⟩ w_1449 w_68 (by decide) (hl17.sh 62 rfl (by decide) (by decide)).1 (hl17.sh 62 rfl (by decide) (by decide)).2 rfl rfl (Nat.le_of_ble_eq_true rfl) (Nat.le_refl _) (Nat.zero_le _) (Nat.zero_le _) (AM.mono h (fun r M18 ⟨hr20, hc21, h⟩ => ?_))
    subst hr20
    refine ab_rv ?_
    have hm22 : Sm M M18 := hm16.trans hc21
    have hl23 := hL.of hm22
    refine ab_aload_n 0 dX12_undo_54 rfl ?_
    refine ab_aload_n 0 dX12_undo_55 rfl ?_
    refine ab_getP (r := 91) dX12_undo_56 fs_12_155_12 rfl (hl23.sh 62 rfl (by decide) (by decide)).1 (hl23.sh 62 rfl (by decide) (by decide)).2 (hl23.pt 89 rfl (by decide) (by decide)) ?_
    refine ab_aload_n 0 dX12_undo_59 rfl ?_
    refine ab_getP (r := 81) dX12_undo_60 fs_12_118_12 rfl (hl23.sh 62 rfl (by decide) (by decide)).1 (hl23.sh 62 rfl (by decide) (by decide)).2 (hl23.pt 79 rfl (by decide) (by decide)) ?_
    refine ab_callV (a := 62) (c0 := 12) (d' := d) (mc' := 0) (ms' := 0) (vs := [.ref 91, .ref 81]) (st := []) dX12_undo_63 ⟨cw_X12_copy, w_1447⟩ w_1449 w_68 (by decide) (hl23.sh 62 rfl (by decide) (by decide)).1 (hl23.sh 62 rfl (by decide) (by decide)).2 rfl rfl (Nat.le_of_ble_eq_true rfl) (Nat.le_refl _) (Nat.zero_le _) (Nat.zero_le _) (AM.mono h (fun r M24 ⟨hr26, hc27, h⟩ => ?_))
    subst hr26
    refine ab_rv ?_
    have hm28 : Sm M M24 := hm22.trans hc27
    have hl29 := hL.of hm28
    refine ab_aload_n 0 dX12_undo_66 rfl ?_
    refine ab_aload_n 0 dX12_undo_67 rfl ?_
    refine ab_getP (r := 92) dX12_undo_68 fs_12_158_12 rfl (hl29.sh 62 rfl (by decide) (by decide)).1 (hl29.sh 62 rfl (by decide) (by decide)).2 (hl29.pt 90 rfl (by decide) (by decide)) ?_
    refine ab_aload_n 0 dX12_undo_71 rfl ?_
    refine ab_getP (r := 82) dX12_undo_72 fs_12_121_12 rfl (hl29.sh 62 rfl (by decide) (by decide)).1 (hl29.sh 62 rfl (by decide) (by decide)).2 (hl29.pt 80 rfl (by decide) (by decide)) ?_
    refine ab_callV (a := 62) (c0 := 12) (d' := d) (mc' := 0) (ms' := 0) (vs := [.ref 92, .ref 82]) (st := []) dX12_undo_75 ⟨cw_X12_copy, w_1447⟩ w_1449 w_68 (by decide) (hl29.sh 62 rfl (by decide) (by decide)).1 (hl29.sh 62 rfl (by decide) (by decide)).2 rfl rfl (Nat.le_of_ble_eq_true rfl) (Nat.le_refl _) (Nat.zero_le _) (Nat.zero_le _) (AM.mono h (fun r M30 ⟨hr32, hc33, h⟩ => ?_))
    subst hr32
    refine ab_rv ?_
    have hm34 : Sm M M30 := hm28.trans hc33
    have hl35 := hL.of hm34
    refine ab_aload_n 0 dX12_undo_78 rfl ?_
    refine ab_getI dX12_undo_79 fs_12_109_12 rfl (hl35.sh 62 rfl (by decide) (by decide)).1 (hl35.sh 62 rfl (by decide) (by decide)).2 ?_
    exact ab_iret dX12_undo_82 rfl h
  · have h := h.2 c1
    refine ab_bipush (v := (-3)) dX12_undo_7 (by decide) ?_
    exact ab_iret dX12_undo_9 rfl h
theorem dX12_body_0 : decode cX12_body 0 = .ok (.aload_n 0, 1) := by decide +kernel
theorem dX12_body_1 : decode cX12_body 1 = .ok (.getfield 161, 3) := by decide +kernel
theorem dX12_body_4 : decode cX12_body 4 = .ok (.bipush 20, 2) := by decide +kernel
theorem dX12_body_6 : decode cX12_body 6 = .ok (.if_icmp .ge 13, 3) := by decide +kernel
theorem dX12_body_9 : decode cX12_body 9 = .ok (.aload_n 0, 1) := by decide +kernel
theorem dX12_body_10 : decode cX12_body 10 = .ok (.getfield 164, 3) := by decide +kernel
theorem dX12_body_13 : decode cX12_body 13 = .ok (.aload_n 0, 1) := by decide +kernel
theorem dX12_body_14 : decode cX12_body 14 = .ok (.getfield 161, 3) := by decide +kernel
theorem dX12_body_17 : decode cX12_body 17 = .ok (.iload_n 1, 1) := by decide +kernel
theorem dX12_body_18 : decode cX12_body 18 = .ok (.iastore, 1) := by decide +kernel
theorem dX12_body_19 : decode cX12_body 19 = .ok (.aload_n 0, 1) := by decide +kernel
theorem dX12_body_20 : decode cX12_body 20 = .ok (.dup, 1) := by decide +kernel
theorem dX12_body_21 : decode cX12_body 21 = .ok (.getfield 161, 3) := by decide +kernel
theorem dX12_body_24 : decode cX12_body 24 = .ok (.iconst 1, 1) := by decide +kernel
theorem dX12_body_25 : decode cX12_body 25 = .ok (.iadd, 1) := by decide +kernel
theorem dX12_body_26 : decode cX12_body 26 = .ok (.putfield 161, 3) := by decide +kernel
theorem dX12_body_29 : decode cX12_body 29 = .ok (.return_, 1) := by decide +kernel
set_option maxRecDepth 20000 in
theorem rX12_body (D : GD) (d : Nat) (a1 : Int32) (M : Mm) (post : Option Value → Mm → Prop) (hL : Lay 62 98 M) 
    (h : (((20 : Int32) ≤ (gI M 62 49) → ∀ M2 : Mm, M2 = sI M 62 49 ((gI M 62 49) + (1 : Int32)) → post none M2) ∧ (¬ (20 : Int32) ≤ (gI M 62 49) → vp_in (gI M 62 49) 20 ∧ ∀ M7 : Mm, M7 = sI M 93 ((gI M 62 49).toNatClampNeg) a1 → ∀ M11 : Mm, M11 = sI M7 62 49 ((gI M7 62 49) + (1 : Int32)) → post none M11))) :
    AM D d 0 0 mX12_body [.ref 62, .int a1] M post := by
  refine AM.of (by decide) (Nat.le_of_ble_eq_true rfl) ?_
  show AW D d 0 0 mX12_body 0 0 0 [(0, .ref 62), (1, .int a1)] [] M post
  refine ab_aload_n 0 dX12_body_0 rfl ?_
  refine ab_getI dX12_body_1 fs_12_161_12 rfl (hL.sh 62 rfl (by decide) (by decide)).1 (hL.sh 62 rfl (by decide) (by decide)).2 ?_
  refine ab_bipush (v := 20) dX12_body_4 (by decide) ?_
  refine ab_icmp_ge (tgt := 19) dX12_body_6 (by decide) (fun c1 => ?_) (fun c1 => ?_)
  · have h := h.1 c1
    refine ab_aload_n 0 dX12_body_19 rfl ?_
    refine ab_dup dX12_body_20 rfl ?_
    refine ab_getI dX12_body_21 fs_12_161_12 rfl (hL.sh 62 rfl (by decide) (by decide)).1 (hL.sh 62 rfl (by decide) (by decide)).2 ?_
    refine ab_iconst (v := 1) dX12_body_24 (by decide) ?_
    refine ab_iadd dX12_body_25 ?_
    refine ab_putI dX12_body_26 fs_12_161_12 rfl rfl (hL.sh 62 rfl (by decide) (by decide)).1 (hL.sh 62 rfl (by decide) (by decide)).2 ?_
    refine ab_nameM (fun M2 hM2 => ?_)
    have h := h M2 hM2
    have hs5 : Sm M M2 := hM2 ▸ (Sm.refl _).i
    have hm3 : Sm M M2 := (Sm.refl M).trans hs5
    have hl4 := hL.of hm3
    exact ab_vret dX12_body_29 rfl h
  · have h := h.2 c1
    refine ab_aload_n 0 dX12_body_9 rfl ?_
    refine ab_getP (r := 93) dX12_body_10 fs_12_164_12 rfl (hL.sh 62 rfl (by decide) (by decide)).1 (hL.sh 62 rfl (by decide) (by decide)).2 (hL.pt 91 rfl (by decide) (by decide)) ?_
    refine ab_aload_n 0 dX12_body_13 rfl ?_
    refine ab_getI dX12_body_14 fs_12_161_12 rfl (hL.sh 62 rfl (by decide) (by decide)).1 (hL.sh 62 rfl (by decide) (by decide)).2 ?_
    refine ab_iload_n 1 dX12_body_17 rfl ?_
    have hb6 := h.1
    have h := h.2
    refine ab_iastj (j := (gI M 62 49).toNatClampNeg) dX12_body_18 (hL.sh 93 rfl (by decide) (by decide)) hb6 rfl ?_
    refine ab_nameM (fun M7 hM7 => ?_)
    have h := h M7 hM7
    have hs10 : Sm M M7 := hM7 ▸ (Sm.refl _).i
    have hm8 : Sm M M7 := (Sm.refl M).trans hs10
    have hl9 := hL.of hm8
    refine ab_aload_n 0 dX12_body_19 rfl ?_
    refine ab_dup dX12_body_20 rfl ?_
    refine ab_getI dX12_body_21 fs_12_161_12 rfl (hl9.sh 62 rfl (by decide) (by decide)).1 (hl9.sh 62 rfl (by decide) (by decide)).2 ?_
    refine ab_iconst (v := 1) dX12_body_24 (by decide) ?_
    refine ab_iadd dX12_body_25 ?_
    refine ab_putI dX12_body_26 fs_12_161_12 rfl rfl (hl9.sh 62 rfl (by decide) (by decide)).1 (hl9.sh 62 rfl (by decide) (by decide)).2 ?_
    refine ab_nameM (fun M11 hM11 => ?_)
    have h := h M11 hM11
    have hs14 : Sm M7 M11 := hM11 ▸ (Sm.refl _).i
    have hm12 : Sm M M11 := hm8.trans hs14
    have hl13 := hL.of hm12
    exact ab_vret dX12_body_29 rfl h
theorem dX12_plainLooks_0 : decode cX12_plainLooks 0 = .ok (.aload_n 0, 1) := by decide +kernel
theorem dX12_plainLooks_1 : decode cX12_plainLooks 1 = .ok (.bipush 10, 2) := by decide +kernel
theorem dX12_plainLooks_3 : decode cX12_plainLooks 3 = .ok (.invokevirtual 352, 3) := by decide +kernel
theorem dX12_plainLooks_6 : decode cX12_plainLooks 6 = .ok (.iload_n 2, 1) := by decide +kernel
theorem dX12_plainLooks_7 : decode cX12_plainLooks 7 = .ok (.iload_n 1, 1) := by decide +kernel
theorem dX12_plainLooks_8 : decode cX12_plainLooks 8 = .ok (.iadd, 1) := by decide +kernel
theorem dX12_plainLooks_9 : decode cX12_plainLooks 9 = .ok (.ireturn, 1) := by decide +kernel
set_option maxRecDepth 20000 in
theorem rX12_plainLooks (D : GD) (d : Nat) (a1 : Int32) (a2 : Int32) (M : Mm) (post : Option Value → Mm → Prop) (hL : Lay 62 98 M) 
    (h : AMv D d mX12_body [.ref 62, .int (10 : Int32)] M (fun M1 => post (some (.int (a2 + a1))) M1)) :
    AM D (d + 1) 0 0 mX12_plainLooks [.ref 62, .int a1, .int a2] M post := by
  refine AM.of (by decide) (Nat.le_of_ble_eq_true rfl) ?_
  show AW D (d + 1) 0 0 mX12_plainLooks 0 0 0 [(0, .ref 62), (1, .int a1), (2, .int a2)] [] M post
  refine ab_aload_n 0 dX12_plainLooks_0 rfl ?_
  refine ab_bipush (v := 10) dX12_plainLooks_1 (by decide) ?_
  refine ab_callV (a := 62) (c0 := 12) (d' := d) (mc' := 0) (ms' := 0) (vs := [.int (10 : Int32)]) (st := []) dX12_plainLooks_3 ⟨cw_X12_body, w_1467⟩ w_1469 w_71 (by decide) (hL.sh 62 rfl (by decide) (by decide)).1 (hL.sh 62 rfl (by decide) (by decide)).2 rfl rfl (Nat.le_of_ble_eq_true rfl) (Nat.le_refl _) (Nat.zero_le _) (Nat.zero_le _) (AM.mono h (fun r M1 ⟨hr3, hc4, h⟩ => ?_))
  subst hr3
  refine ab_rv ?_
  have hm5 : Sm M M1 := (Sm.refl M).trans hc4
  have hl6 := hL.of hm5
  refine ab_iload_n 2 dX12_plainLooks_6 rfl ?_
  refine ab_iload_n 1 dX12_plainLooks_7 rfl ?_
  refine ab_iadd dX12_plainLooks_8 ?_
  exact ab_iret dX12_plainLooks_9 rfl h
theorem dX12_mixedLooks_0 : decode cX12_mixedLooks 0 = .ok (.aload_n 0, 1) := by decide +kernel
theorem dX12_mixedLooks_1 : decode cX12_mixedLooks 1 = .ok (.bipush 30, 2) := by decide +kernel
theorem dX12_mixedLooks_3 : decode cX12_mixedLooks 3 = .ok (.invokevirtual 352, 3) := by decide +kernel
theorem dX12_mixedLooks_6 : decode cX12_mixedLooks 6 = .ok (.aload_n 0, 1) := by decide +kernel
theorem dX12_mixedLooks_7 : decode cX12_mixedLooks 7 = .ok (.iload_n 1, 1) := by decide +kernel
theorem dX12_mixedLooks_8 : decode cX12_mixedLooks 8 = .ok (.iload_n 2, 1) := by decide +kernel
theorem dX12_mixedLooks_9 : decode cX12_mixedLooks 9 = .ok (.iconst 3, 1) := by decide +kernel
theorem dX12_mixedLooks_10 : decode cX12_mixedLooks 10 = .ok (.imul, 1) := by decide +kernel
theorem dX12_mixedLooks_11 : decode cX12_mixedLooks 11 = .ok (.invokevirtual 355, 3) := by decide +kernel
theorem dX12_mixedLooks_14 : decode cX12_mixedLooks 14 = .ok (.ireturn, 1) := by decide +kernel
set_option maxRecDepth 20000 in
theorem rX12_mixedLooks (D : GD) (d : Nat) (a1 : Int32) (a2 : Int32) (M : Mm) (post : Option Value → Mm → Prop) (hL : Lay 62 98 M) 
    (h : AMv D d mX12_body [.ref 62, .int (30 : Int32)] M (fun M1 => AMi D d mX12_plainLooks [.ref 62, .int a1, .int (a2 * (3 : Int32))] M1 (fun x8 M7 => post (some (.int x8)) M7))) :
    AM D (d + 1) 0 0 mX12_mixedLooks [.ref 62, .int a1, .int a2] M post := by
  refine AM.of (by decide) (Nat.le_of_ble_eq_true rfl) ?_
  show AW D (d + 1) 0 0 mX12_mixedLooks 0 0 0 [(0, .ref 62), (1, .int a1), (2, .int a2)] [] M post
  refine ab_aload_n 0 dX12_mixedLooks_0 rfl ?_
  refine ab_bipush (v := 30) dX12_mixedLooks_1 (by decide) ?_
  refine ab_callV (a := 62) (c0 := 12) (d' := d) (mc' := 0) (ms' := 0) (vs := [.int (30 : Int32)]) (st := []) dX12_mixedLooks_3 ⟨cw_X12_body, w_1467⟩ w_1469 w_71 (by decide) (hL.sh 62 rfl (by decide) (by decide)).1 (hL.sh 62 rfl (by decide) (by decide)).2 rfl rfl (Nat.le_of_ble_eq_true rfl) (Nat.le_refl _) (Nat.zero_le _) (Nat.zero_le _) (AM.mono h (fun r M1 ⟨hr3, hc4, h⟩ => ?_))
  subst hr3
  refine ab_rv ?_
  have hm5 : Sm M M1 := (Sm.refl M).trans hc4
  have hl6 := hL.of hm5
  refine ab_aload_n 0 dX12_mixedLooks_6 rfl ?_
  refine ab_iload_n 1 dX12_mixedLooks_7 rfl ?_
  refine ab_iload_n 2 dX12_mixedLooks_8 rfl ?_
  refine ab_iconst (v := 3) dX12_mixedLooks_9 (by decide) ?_
  refine ab_imul dX12_mixedLooks_10 ?_
  refine ab_callV (a := 62) (c0 := 12) (d' := d) (mc' := 0) (ms' := 0) (vs := [.int a1, .int (a2 * (3 : Int32))]) (st := []) dX12_mixedLooks_11 ⟨cw_X12_plainLooks, w_1471⟩ w_1473 w_72 (by decide) (hl6.sh 62 rfl (by decide) (by decide)).1 (hl6.sh 62 rfl (by decide) (by decide)).2 rfl rfl (Nat.le_of_ble_eq_true rfl) (Nat.le_refl _) (Nat.zero_le _) (Nat.zero_le _) (AM.mono h (fun r M7 ⟨x8, hr9, hc10, h⟩ => ?_))
  subst hr9
  refine ab_rs ?_
  have hm11 : Sm M M7 := hm5.trans hc10
  have hl12 := hL.of hm11
  exact ab_iret dX12_mixedLooks_14 rfl h
theorem dX12_looksAct_0 : decode cX12_looksAct 0 = .ok (.aload_n 0, 1) := by decide +kernel
theorem dX12_looksAct_1 : decode cX12_looksAct 1 = .ok (.getfield 69, 3) := by decide +kernel
theorem dX12_looksAct_4 : decode cX12_looksAct 4 = .ok (.iload_n 1, 1) := by decide +kernel
theorem dX12_looksAct_5 : decode cX12_looksAct 5 = .ok (.iaload, 1) := by decide +kernel
theorem dX12_looksAct_6 : decode cX12_looksAct 6 = .ok (.tableswitch 75 2 6 #[34, 75, 41, 34, 55], 34) := by decide +kernel
theorem dX12_looksAct_40 : decode cX12_looksAct 40 = .ok (.aload_n 0, 1) := by decide +kernel
theorem dX12_looksAct_41 : decode cX12_looksAct 41 = .ok (.iload_n 1, 1) := by decide +kernel
theorem dX12_looksAct_42 : decode cX12_looksAct 42 = .ok (.iload_n 2, 1) := by decide +kernel
theorem dX12_looksAct_43 : decode cX12_looksAct 43 = .ok (.invokevirtual 358, 3) := by decide +kernel
theorem dX12_looksAct_46 : decode cX12_looksAct 46 = .ok (.ireturn, 1) := by decide +kernel
theorem dX12_looksAct_47 : decode cX12_looksAct 47 = .ok (.aload_n 0, 1) := by decide +kernel
theorem dX12_looksAct_48 : decode cX12_looksAct 48 = .ok (.bipush 50, 2) := by decide +kernel
theorem dX12_looksAct_50 : decode cX12_looksAct 50 = .ok (.invokevirtual 352, 3) := by decide +kernel
theorem dX12_looksAct_53 : decode cX12_looksAct 53 = .ok (.aload_n 0, 1) := by decide +kernel
theorem dX12_looksAct_54 : decode cX12_looksAct 54 = .ok (.iload_n 1, 1) := by decide +kernel
theorem dX12_looksAct_55 : decode cX12_looksAct 55 = .ok (.iload_n 2, 1) := by decide +kernel
theorem dX12_looksAct_56 : decode cX12_looksAct 56 = .ok (.invokevirtual 355, 3) := by decide +kernel
theorem dX12_looksAct_59 : decode cX12_looksAct 59 = .ok (.ineg, 1) := by decide +kernel
theorem dX12_looksAct_60 : decode cX12_looksAct 60 = .ok (.ireturn, 1) := by decide +kernel
theorem dX12_looksAct_61 : decode cX12_looksAct 61 = .ok (.aload_n 0, 1) := by decide +kernel
theorem dX12_looksAct_62 : decode cX12_looksAct 62 = .ok (.bipush 71, 2) := by decide +kernel
theorem dX12_looksAct_64 : decode cX12_looksAct 64 = .ok (.invokevirtual 352, 3) := by decide +kernel
theorem dX12_looksAct_67 : decode cX12_looksAct 67 = .ok (.aload_n 0, 1) := by decide +kernel
theorem dX12_looksAct_68 : decode cX12_looksAct 68 = .ok (.iload_n 1, 1) := by decide +kernel
theorem dX12_looksAct_69 : decode cX12_looksAct 69 = .ok (.iload_n 2, 1) := by decide +kernel
theorem dX12_looksAct_70 : decode cX12_looksAct 70 = .ok (.invokevirtual 358, 3) := by decide +kernel
theorem dX12_looksAct_73 : decode cX12_looksAct 73 = .ok (.aload_n 0, 1) := by decide +kernel
theorem dX12_looksAct_74 : decode cX12_looksAct 74 = .ok (.getfield 72, 3) := by decide +kernel
theorem dX12_looksAct_77 : decode cX12_looksAct 77 = .ok (.iload_n 1, 1) := by decide +kernel
theorem dX12_looksAct_78 : decode cX12_looksAct 78 = .ok (.iaload, 1) := by decide +kernel
theorem dX12_looksAct_79 : decode cX12_looksAct 79 = .ok (.ixor, 1) := by decide +kernel
theorem dX12_looksAct_80 : decode cX12_looksAct 80 = .ok (.ireturn, 1) := by decide +kernel
theorem dX12_looksAct_81 : decode cX12_looksAct 81 = .ok (.aload_n 0, 1) := by decide +kernel
theorem dX12_looksAct_82 : decode cX12_looksAct 82 = .ok (.iload_n 1, 1) := by decide +kernel
theorem dX12_looksAct_83 : decode cX12_looksAct 83 = .ok (.iload_n 2, 1) := by decide +kernel
theorem dX12_looksAct_84 : decode cX12_looksAct 84 = .ok (.invokevirtual 355, 3) := by decide +kernel
theorem dX12_looksAct_87 : decode cX12_looksAct 87 = .ok (.ireturn, 1) := by decide +kernel
set_option maxRecDepth 20000 in
theorem rX12_looksAct (D : GD) (d : Nat) (a1 : Int32) (a2 : Int32) (M : Mm) (post : Option Value → Mm → Prop) (hL : Lay 62 98 M) 
    (h : vp_in a1 11 ∧ (((gI M 74 a1.toNatClampNeg) = (2 : Int32) → AMi D d mX12_mixedLooks [.ref 62, .int a1, .int a2] M (fun x4 M3 => post (some (.int x4)) M3)) ∧ (((gI M 74 a1.toNatClampNeg) = (3 : Int32) → AMi D d mX12_plainLooks [.ref 62, .int a1, .int a2] M (fun x11 M10 => post (some (.int x11)) M10)) ∧ (((gI M 74 a1.toNatClampNeg) = (4 : Int32) → AMv D d mX12_body [.ref 62, .int (50 : Int32)] M (fun M17 => AMi D d mX12_plainLooks [.ref 62, .int a1, .int a2] M17 (fun x24 M23 => post (some (.int (-x24))) M23))) ∧ (((gI M 74 a1.toNatClampNeg) = (5 : Int32) → AMi D d mX12_mixedLooks [.ref 62, .int a1, .int a2] M (fun x31 M30 => post (some (.int x31)) M30)) ∧ (((gI M 74 a1.toNatClampNeg) = (6 : Int32) → AMv D d mX12_body [.ref 62, .int (71 : Int32)] M (fun M37 => AMi D d mX12_mixedLooks [.ref 62, .int a1, .int a2] M37 (fun x44 M43 => post (some (.int (x44 ^^^ (gI M43 75 a1.toNatClampNeg)))) M43))) ∧ ((¬ (gI M 74 a1.toNatClampNeg) = (2 : Int32) → ¬ (gI M 74 a1.toNatClampNeg) = (3 : Int32) → ¬ (gI M 74 a1.toNatClampNeg) = (4 : Int32) → ¬ (gI M 74 a1.toNatClampNeg) = (5 : Int32) → ¬ (gI M 74 a1.toNatClampNeg) = (6 : Int32) → AMi D d mX12_plainLooks [.ref 62, .int a1, .int a2] M (fun x50 M49 => post (some (.int x50)) M49))))))))) :
    AM D (d + 1) 0 0 mX12_looksAct [.ref 62, .int a1, .int a2] M post := by
  refine AM.of (by decide) (Nat.le_of_ble_eq_true rfl) ?_
  show AW D (d + 1) 0 0 mX12_looksAct 0 0 0 [(0, .ref 62), (1, .int a1), (2, .int a2)] [] M post
  refine ab_aload_n 0 dX12_looksAct_0 rfl ?_
  refine ab_getP (r := 74) dX12_looksAct_1 fs_12_69_12 rfl (hL.sh 62 rfl (by decide) (by decide)).1 (hL.sh 62 rfl (by decide) (by decide)).2 (hL.pt 72 rfl (by decide) (by decide)) ?_
  refine ab_iload_n 1 dX12_looksAct_4 rfl ?_
  have hb1 := h.1
  have h := h.2
  refine ab_ialdj (j := a1.toNatClampNeg) dX12_looksAct_5 (hL.sh 74 rfl (by decide) (by decide)) hb1 rfl ?_
  by_cases c2 : (gI M 74 a1.toNatClampNeg) = (2 : Int32)
  · have h := h.1 c2
    refine ab_tableIn (off := (34)) (tgt := 40) dX12_looksAct_6 (by rw [c2]; decide) (by rw [c2]; decide) (by rw [c2]; decide) (by decide) ?_
    refine ab_aload_n 0 dX12_looksAct_40 rfl ?_
    refine ab_iload_n 1 dX12_looksAct_41 rfl ?_
    refine ab_iload_n 2 dX12_looksAct_42 rfl ?_
    refine ab_callV (a := 62) (c0 := 12) (d' := d) (mc' := 0) (ms' := 0) (vs := [.int a1, .int a2]) (st := []) dX12_looksAct_43 ⟨cw_X12_mixedLooks, w_1463⟩ w_1465 w_70 (by decide) (hL.sh 62 rfl (by decide) (by decide)).1 (hL.sh 62 rfl (by decide) (by decide)).2 rfl rfl (Nat.le_of_ble_eq_true rfl) (Nat.le_refl _) (Nat.zero_le _) (Nat.zero_le _) (AM.mono h (fun r M3 ⟨x4, hr5, hc6, h⟩ => ?_))
    subst hr5
    refine ab_rs ?_
    have hm7 : Sm M M3 := (Sm.refl M).trans hc6
    have hl8 := hL.of hm7
    exact ab_iret dX12_looksAct_46 rfl h
  · have h := h.2
    by_cases c9 : (gI M 74 a1.toNatClampNeg) = (3 : Int32)
    · have h := h.1 c9
      refine ab_tableIn (off := (75)) (tgt := 81) dX12_looksAct_6 (by rw [c9]; decide) (by rw [c9]; decide) (by rw [c9]; decide) (by decide) ?_
      refine ab_aload_n 0 dX12_looksAct_81 rfl ?_
      refine ab_iload_n 1 dX12_looksAct_82 rfl ?_
      refine ab_iload_n 2 dX12_looksAct_83 rfl ?_
      refine ab_callV (a := 62) (c0 := 12) (d' := d) (mc' := 0) (ms' := 0) (vs := [.int a1, .int a2]) (st := []) dX12_looksAct_84 ⟨cw_X12_plainLooks, w_1471⟩ w_1473 w_72 (by decide) (hL.sh 62 rfl (by decide) (by decide)).1 (hL.sh 62 rfl (by decide) (by decide)).2 rfl rfl (Nat.le_of_ble_eq_true rfl) (Nat.le_refl _) (Nat.zero_le _) (Nat.zero_le _) (AM.mono h (fun r M10 ⟨x11, hr12, hc13, h⟩ => ?_))
      subst hr12
      refine ab_rs ?_
      have hm14 : Sm M M10 := (Sm.refl M).trans hc13
      have hl15 := hL.of hm14
      exact ab_iret dX12_looksAct_87 rfl h
    · have h := h.2
      by_cases c16 : (gI M 74 a1.toNatClampNeg) = (4 : Int32)
      · have h := h.1 c16
        refine ab_tableIn (off := (41)) (tgt := 47) dX12_looksAct_6 (by rw [c16]; decide) (by rw [c16]; decide) (by rw [c16]; decide) (by decide) ?_
        refine ab_aload_n 0 dX12_looksAct_47 rfl ?_
        refine ab_bipush (v := 50) dX12_looksAct_48 (by decide) ?_
        refine ab_callV (a := 62) (c0 := 12) (d' := d) (mc' := 0) (ms' := 0) (vs := [.int (50 : Int32)]) (st := []) dX12_looksAct_50 ⟨cw_X12_body, w_1467⟩ w_1469 w_71 (by decide) (hL.sh 62 rfl (by decide) (by decide)).1 (hL.sh 62 rfl (by decide) (by decide)).2 rfl rfl (Nat.le_of_ble_eq_true rfl) (Nat.le_refl _) (Nat.zero_le _) (Nat.zero_le _) (AM.mono h (fun r M17 ⟨hr19, hc20, h⟩ => ?_))
        subst hr19
        refine ab_rv ?_
        have hm21 : Sm M M17 := (Sm.refl M).trans hc20
        have hl22 := hL.of hm21
        refine ab_aload_n 0 dX12_looksAct_53 rfl ?_
        refine ab_iload_n 1 dX12_looksAct_54 rfl ?_
        refine ab_iload_n 2 dX12_looksAct_55 rfl ?_
        refine ab_callV (a := 62) (c0 := 12) (d' := d) (mc' := 0) (ms' := 0) (vs := [.int a1, .int a2]) (st := []) dX12_looksAct_56 ⟨cw_X12_plainLooks, w_1471⟩ w_1473 w_72 (by decide) (hl22.sh 62 rfl (by decide) (by decide)).1 (hl22.sh 62 rfl (by decide) (by decide)).2 rfl rfl (Nat.le_of_ble_eq_true rfl) (Nat.le_refl _) (Nat.zero_le _) (Nat.zero_le _) (AM.mono h (fun r M23 ⟨x24, hr25, hc26, h⟩ => ?_))
        subst hr25
        refine ab_rs ?_
        have hm27 : Sm M M23 := hm21.trans hc26
        have hl28 := hL.of hm27
        refine ab_ineg dX12_looksAct_59 ?_
        exact ab_iret dX12_looksAct_60 rfl h
      · have h := h.2
        by_cases c29 : (gI M 74 a1.toNatClampNeg) = (5 : Int32)
        · have h := h.1 c29
          refine ab_tableIn (off := (34)) (tgt := 40) dX12_looksAct_6 (by rw [c29]; decide) (by rw [c29]; decide) (by rw [c29]; decide) (by decide) ?_
          refine ab_aload_n 0 dX12_looksAct_40 rfl ?_
          refine ab_iload_n 1 dX12_looksAct_41 rfl ?_
          refine ab_iload_n 2 dX12_looksAct_42 rfl ?_
          refine ab_callV (a := 62) (c0 := 12) (d' := d) (mc' := 0) (ms' := 0) (vs := [.int a1, .int a2]) (st := []) dX12_looksAct_43 ⟨cw_X12_mixedLooks, w_1463⟩ w_1465 w_70 (by decide) (hL.sh 62 rfl (by decide) (by decide)).1 (hL.sh 62 rfl (by decide) (by decide)).2 rfl rfl (Nat.le_of_ble_eq_true rfl) (Nat.le_refl _) (Nat.zero_le _) (Nat.zero_le _) (AM.mono h (fun r M30 ⟨x31, hr32, hc33, h⟩ => ?_))
          subst hr32
          refine ab_rs ?_
          have hm34 : Sm M M30 := (Sm.refl M).trans hc33
          have hl35 := hL.of hm34
          exact ab_iret dX12_looksAct_46 rfl h
        · have h := h.2
          by_cases c36 : (gI M 74 a1.toNatClampNeg) = (6 : Int32)
          · have h := h.1 c36
            refine ab_tableIn (off := (55)) (tgt := 61) dX12_looksAct_6 (by rw [c36]; decide) (by rw [c36]; decide) (by rw [c36]; decide) (by decide) ?_
            refine ab_aload_n 0 dX12_looksAct_61 rfl ?_
            refine ab_bipush (v := 71) dX12_looksAct_62 (by decide) ?_
            refine ab_callV (a := 62) (c0 := 12) (d' := d) (mc' := 0) (ms' := 0) (vs := [.int (71 : Int32)]) (st := []) dX12_looksAct_64 ⟨cw_X12_body, w_1467⟩ w_1469 w_71 (by decide) (hL.sh 62 rfl (by decide) (by decide)).1 (hL.sh 62 rfl (by decide) (by decide)).2 rfl rfl (Nat.le_of_ble_eq_true rfl) (Nat.le_refl _) (Nat.zero_le _) (Nat.zero_le _) (AM.mono h (fun r M37 ⟨hr39, hc40, h⟩ => ?_))
            subst hr39
            refine ab_rv ?_
            have hm41 : Sm M M37 := (Sm.refl M).trans hc40
            have hl42 := hL.of hm41
            refine ab_aload_n 0 dX12_looksAct_67 rfl ?_
            refine ab_iload_n 1 dX12_looksAct_68 rfl ?_
            refine ab_iload_n 2 dX12_looksAct_69 rfl ?_
            refine ab_callV (a := 62) (c0 := 12) (d' := d) (mc' := 0) (ms' := 0) (vs := [.int a1, .int a2]) (st := []) dX12_looksAct_70 ⟨cw_X12_mixedLooks, w_1463⟩ w_1465 w_70 (by decide) (hl42.sh 62 rfl (by decide) (by decide)).1 (hl42.sh 62 rfl (by decide) (by decide)).2 rfl rfl (Nat.le_of_ble_eq_true rfl) (Nat.le_refl _) (Nat.zero_le _) (Nat.zero_le _) (AM.mono h (fun r M43 ⟨x44, hr45, hc46, h⟩ => ?_))
            subst hr45
            refine ab_rs ?_
            have hm47 : Sm M M43 := hm41.trans hc46
            have hl48 := hL.of hm47
            refine ab_aload_n 0 dX12_looksAct_73 rfl ?_
            refine ab_getP (r := 75) dX12_looksAct_74 fs_12_72_12 rfl (hl48.sh 62 rfl (by decide) (by decide)).1 (hl48.sh 62 rfl (by decide) (by decide)).2 (hl48.pt 73 rfl (by decide) (by decide)) ?_
            refine ab_iload_n 1 dX12_looksAct_77 rfl ?_
            refine ab_ialdj (j := a1.toNatClampNeg) dX12_looksAct_78 (hl48.sh 75 rfl (by decide) (by decide)) hb1 rfl ?_
            refine ab_ixor dX12_looksAct_79 ?_
            exact ab_iret dX12_looksAct_80 rfl h
          · have h := h.2
            have h := h c2 c9 c16 c29 c36
            refine ab_tableOut (tgt := 81) dX12_looksAct_6 (by have e0 := lv_neT (a := 2) c2 (by decide); have e1 := lv_neT (a := 3) c9 (by decide); have e2 := lv_neT (a := 4) c16 (by decide); have e3 := lv_neT (a := 5) c29 (by decide); have e4 := lv_neT (a := 6) c36 (by decide); omega) (by decide) ?_
            refine ab_aload_n 0 dX12_looksAct_81 rfl ?_
            refine ab_iload_n 1 dX12_looksAct_82 rfl ?_
            refine ab_iload_n 2 dX12_looksAct_83 rfl ?_
            refine ab_callV (a := 62) (c0 := 12) (d' := d) (mc' := 0) (ms' := 0) (vs := [.int a1, .int a2]) (st := []) dX12_looksAct_84 ⟨cw_X12_plainLooks, w_1471⟩ w_1473 w_72 (by decide) (hL.sh 62 rfl (by decide) (by decide)).1 (hL.sh 62 rfl (by decide) (by decide)).2 rfl rfl (Nat.le_of_ble_eq_true rfl) (Nat.le_refl _) (Nat.zero_le _) (Nat.zero_le _) (AM.mono h (fun r M49 ⟨x50, hr51, hc52, h⟩ => ?_))
            subst hr51
            refine ab_rs ?_
            have hm53 : Sm M M49 := (Sm.refl M).trans hc52
            have hl54 := hL.of hm53
            exact ab_iret dX12_looksAct_87 rfl h
theorem dX12_plainGoes_0 : decode cX12_plainGoes 0 = .ok (.aload_n 0, 1) := by decide +kernel
theorem dX12_plainGoes_1 : decode cX12_plainGoes 1 = .ok (.bipush 11, 2) := by decide +kernel
theorem dX12_plainGoes_3 : decode cX12_plainGoes 3 = .ok (.invokevirtual 352, 3) := by decide +kernel
theorem dX12_plainGoes_6 : decode cX12_plainGoes 6 = .ok (.aload_n 0, 1) := by decide +kernel
theorem dX12_plainGoes_7 : decode cX12_plainGoes 7 = .ok (.iload_n 1, 1) := by decide +kernel
theorem dX12_plainGoes_8 : decode cX12_plainGoes 8 = .ok (.iload_n 2, 1) := by decide +kernel
theorem dX12_plainGoes_9 : decode cX12_plainGoes 9 = .ok (.invokevirtual 361, 3) := by decide +kernel
theorem dX12_plainGoes_12 : decode cX12_plainGoes 12 = .ok (.aload_n 0, 1) := by decide +kernel
theorem dX12_plainGoes_13 : decode cX12_plainGoes 13 = .ok (.getfield 72, 3) := by decide +kernel
theorem dX12_plainGoes_16 : decode cX12_plainGoes 16 = .ok (.iload_n 1, 1) := by decide +kernel
theorem dX12_plainGoes_17 : decode cX12_plainGoes 17 = .ok (.iaload, 1) := by decide +kernel
theorem dX12_plainGoes_18 : decode cX12_plainGoes 18 = .ok (.isub, 1) := by decide +kernel
theorem dX12_plainGoes_19 : decode cX12_plainGoes 19 = .ok (.ireturn, 1) := by decide +kernel
set_option maxRecDepth 20000 in
theorem rX12_plainGoes (D : GD) (d : Nat) (a1 : Int32) (a2 : Int32) (M : Mm) (post : Option Value → Mm → Prop) (hL : Lay 62 98 M) 
    (h : AMv D d mX12_body [.ref 62, .int (11 : Int32)] M (fun M1 => AMi D d mX12_looksAct [.ref 62, .int a1, .int a2] M1 (fun x8 M7 => vp_in a1 11 ∧ post (some (.int (x8 - (gI M7 75 a1.toNatClampNeg)))) M7))) :
    AM D (d + 1) 0 0 mX12_plainGoes [.ref 62, .int a1, .int a2] M post := by
  refine AM.of (by decide) (Nat.le_of_ble_eq_true rfl) ?_
  show AW D (d + 1) 0 0 mX12_plainGoes 0 0 0 [(0, .ref 62), (1, .int a1), (2, .int a2)] [] M post
  refine ab_aload_n 0 dX12_plainGoes_0 rfl ?_
  refine ab_bipush (v := 11) dX12_plainGoes_1 (by decide) ?_
  refine ab_callV (a := 62) (c0 := 12) (d' := d) (mc' := 0) (ms' := 0) (vs := [.int (11 : Int32)]) (st := []) dX12_plainGoes_3 ⟨cw_X12_body, w_1467⟩ w_1469 w_71 (by decide) (hL.sh 62 rfl (by decide) (by decide)).1 (hL.sh 62 rfl (by decide) (by decide)).2 rfl rfl (Nat.le_of_ble_eq_true rfl) (Nat.le_refl _) (Nat.zero_le _) (Nat.zero_le _) (AM.mono h (fun r M1 ⟨hr3, hc4, h⟩ => ?_))
  subst hr3
  refine ab_rv ?_
  have hm5 : Sm M M1 := (Sm.refl M).trans hc4
  have hl6 := hL.of hm5
  refine ab_aload_n 0 dX12_plainGoes_6 rfl ?_
  refine ab_iload_n 1 dX12_plainGoes_7 rfl ?_
  refine ab_iload_n 2 dX12_plainGoes_8 rfl ?_
  refine ab_callV (a := 62) (c0 := 12) (d' := d) (mc' := 0) (ms' := 0) (vs := [.int a1, .int a2]) (st := []) dX12_plainGoes_9 ⟨cw_X12_looksAct, w_1459⟩ w_1461 w_69 (by decide) (hl6.sh 62 rfl (by decide) (by decide)).1 (hl6.sh 62 rfl (by decide) (by decide)).2 rfl rfl (Nat.le_of_ble_eq_true rfl) (Nat.le_refl _) (Nat.zero_le _) (Nat.zero_le _) (AM.mono h (fun r M7 ⟨x8, hr9, hc10, h⟩ => ?_))
  subst hr9
  refine ab_rs ?_
  have hm11 : Sm M M7 := hm5.trans hc10
  have hl12 := hL.of hm11
  refine ab_aload_n 0 dX12_plainGoes_12 rfl ?_
  refine ab_getP (r := 75) dX12_plainGoes_13 fs_12_72_12 rfl (hl12.sh 62 rfl (by decide) (by decide)).1 (hl12.sh 62 rfl (by decide) (by decide)).2 (hl12.pt 73 rfl (by decide) (by decide)) ?_
  refine ab_iload_n 1 dX12_plainGoes_16 rfl ?_
  have hb13 := h.1
  have h := h.2
  refine ab_ialdj (j := a1.toNatClampNeg) dX12_plainGoes_17 (hl12.sh 75 rfl (by decide) (by decide)) hb13 rfl ?_
  refine ab_isub dX12_plainGoes_18 ?_
  exact ab_iret dX12_plainGoes_19 rfl h
theorem dX12_ownGoes_0 : decode cX12_ownGoes 0 = .ok (.aload_n 0, 1) := by decide +kernel
theorem dX12_ownGoes_1 : decode cX12_ownGoes 1 = .ok (.bipush 20, 2) := by decide +kernel
theorem dX12_ownGoes_3 : decode cX12_ownGoes 3 = .ok (.invokevirtual 352, 3) := by decide +kernel
theorem dX12_ownGoes_6 : decode cX12_ownGoes 6 = .ok (.aload_n 0, 1) := by decide +kernel
theorem dX12_ownGoes_7 : decode cX12_ownGoes 7 = .ok (.iload_n 1, 1) := by decide +kernel
theorem dX12_ownGoes_8 : decode cX12_ownGoes 8 = .ok (.iload_n 2, 1) := by decide +kernel
theorem dX12_ownGoes_9 : decode cX12_ownGoes 9 = .ok (.invokevirtual 364, 3) := by decide +kernel
theorem dX12_ownGoes_12 : decode cX12_ownGoes 12 = .ok (.bipush 6, 2) := by decide +kernel
theorem dX12_ownGoes_14 : decode cX12_ownGoes 14 = .ok (.ixor, 1) := by decide +kernel
theorem dX12_ownGoes_15 : decode cX12_ownGoes 15 = .ok (.ireturn, 1) := by decide +kernel
set_option maxRecDepth 20000 in
theorem rX12_ownGoes (D : GD) (d : Nat) (a1 : Int32) (a2 : Int32) (M : Mm) (post : Option Value → Mm → Prop) (hL : Lay 62 98 M) 
    (h : AMv D d mX12_body [.ref 62, .int (20 : Int32)] M (fun M1 => AMi D d mX12_plainGoes [.ref 62, .int a1, .int a2] M1 (fun x8 M7 => post (some (.int (x8 ^^^ (6 : Int32)))) M7))) :
    AM D (d + 1) 0 0 mX12_ownGoes [.ref 62, .int a1, .int a2] M post := by
  refine AM.of (by decide) (Nat.le_of_ble_eq_true rfl) ?_
  show AW D (d + 1) 0 0 mX12_ownGoes 0 0 0 [(0, .ref 62), (1, .int a1), (2, .int a2)] [] M post
  refine ab_aload_n 0 dX12_ownGoes_0 rfl ?_
  refine ab_bipush (v := 20) dX12_ownGoes_1 (by decide) ?_
  refine ab_callV (a := 62) (c0 := 12) (d' := d) (mc' := 0) (ms' := 0) (vs := [.int (20 : Int32)]) (st := []) dX12_ownGoes_3 ⟨cw_X12_body, w_1467⟩ w_1469 w_71 (by decide) (hL.sh 62 rfl (by decide) (by decide)).1 (hL.sh 62 rfl (by decide) (by decide)).2 rfl rfl (Nat.le_of_ble_eq_true rfl) (Nat.le_refl _) (Nat.zero_le _) (Nat.zero_le _) (AM.mono h (fun r M1 ⟨hr3, hc4, h⟩ => ?_))
  subst hr3
  refine ab_rv ?_
  have hm5 : Sm M M1 := (Sm.refl M).trans hc4
  have hl6 := hL.of hm5
  refine ab_aload_n 0 dX12_ownGoes_6 rfl ?_
  refine ab_iload_n 1 dX12_ownGoes_7 rfl ?_
  refine ab_iload_n 2 dX12_ownGoes_8 rfl ?_
  refine ab_callV (a := 62) (c0 := 12) (d' := d) (mc' := 0) (ms' := 0) (vs := [.int a1, .int a2]) (st := []) dX12_ownGoes_9 ⟨cw_X12_plainGoes, w_1483⟩ w_1485 w_75 (by decide) (hl6.sh 62 rfl (by decide) (by decide)).1 (hl6.sh 62 rfl (by decide) (by decide)).2 rfl rfl (Nat.le_of_ble_eq_true rfl) (Nat.le_refl _) (Nat.zero_le _) (Nat.zero_le _) (AM.mono h (fun r M7 ⟨x8, hr9, hc10, h⟩ => ?_))
  subst hr9
  refine ab_rs ?_
  have hm11 : Sm M M7 := hm5.trans hc10
  have hl12 := hL.of hm11
  refine ab_bipush (v := 6) dX12_ownGoes_12 (by decide) ?_
  refine ab_ixor dX12_ownGoes_14 ?_
  exact ab_iret dX12_ownGoes_15 rfl h
theorem dX12_goesAct_0 : decode cX12_goesAct 0 = .ok (.aload_n 0, 1) := by decide +kernel
theorem dX12_goesAct_1 : decode cX12_goesAct 1 = .ok (.getfield 69, 3) := by decide +kernel
theorem dX12_goesAct_4 : decode cX12_goesAct 4 = .ok (.iload_n 1, 1) := by decide +kernel
theorem dX12_goesAct_5 : decode cX12_goesAct 5 = .ok (.iaload, 1) := by decide +kernel
theorem dX12_goesAct_6 : decode cX12_goesAct 6 = .ok (.lookupswitch 78 #[(1, 34), (4, 41), (6, 56)], 34) := by decide +kernel
theorem dX12_goesAct_40 : decode cX12_goesAct 40 = .ok (.aload_n 0, 1) := by decide +kernel
theorem dX12_goesAct_41 : decode cX12_goesAct 41 = .ok (.iload_n 1, 1) := by decide +kernel
theorem dX12_goesAct_42 : decode cX12_goesAct 42 = .ok (.iload_n 2, 1) := by decide +kernel
theorem dX12_goesAct_43 : decode cX12_goesAct 43 = .ok (.invokevirtual 367, 3) := by decide +kernel
theorem dX12_goesAct_46 : decode cX12_goesAct 46 = .ok (.ireturn, 1) := by decide +kernel
theorem dX12_goesAct_47 : decode cX12_goesAct 47 = .ok (.aload_n 0, 1) := by decide +kernel
theorem dX12_goesAct_48 : decode cX12_goesAct 48 = .ok (.bipush 51, 2) := by decide +kernel
theorem dX12_goesAct_50 : decode cX12_goesAct 50 = .ok (.invokevirtual 352, 3) := by decide +kernel
theorem dX12_goesAct_53 : decode cX12_goesAct 53 = .ok (.aload_n 0, 1) := by decide +kernel
theorem dX12_goesAct_54 : decode cX12_goesAct 54 = .ok (.iload_n 1, 1) := by decide +kernel
theorem dX12_goesAct_55 : decode cX12_goesAct 55 = .ok (.iload_n 2, 1) := by decide +kernel
theorem dX12_goesAct_56 : decode cX12_goesAct 56 = .ok (.iconst 1, 1) := by decide +kernel
theorem dX12_goesAct_57 : decode cX12_goesAct 57 = .ok (.iadd, 1) := by decide +kernel
theorem dX12_goesAct_58 : decode cX12_goesAct 58 = .ok (.invokevirtual 367, 3) := by decide +kernel
theorem dX12_goesAct_61 : decode cX12_goesAct 61 = .ok (.ireturn, 1) := by decide +kernel
theorem dX12_goesAct_62 : decode cX12_goesAct 62 = .ok (.aload_n 0, 1) := by decide +kernel
theorem dX12_goesAct_63 : decode cX12_goesAct 63 = .ok (.bipush 70, 2) := by decide +kernel
theorem dX12_goesAct_65 : decode cX12_goesAct 65 = .ok (.invokevirtual 352, 3) := by decide +kernel
theorem dX12_goesAct_68 : decode cX12_goesAct 68 = .ok (.aload_n 0, 1) := by decide +kernel
theorem dX12_goesAct_69 : decode cX12_goesAct 69 = .ok (.iload_n 1, 1) := by decide +kernel
theorem dX12_goesAct_70 : decode cX12_goesAct 70 = .ok (.iload_n 2, 1) := by decide +kernel
theorem dX12_goesAct_71 : decode cX12_goesAct 71 = .ok (.invokevirtual 364, 3) := by decide +kernel
theorem dX12_goesAct_74 : decode cX12_goesAct 74 = .ok (.istore_n 3, 1) := by decide +kernel
theorem dX12_goesAct_75 : decode cX12_goesAct 75 = .ok (.iload_n 3, 1) := by decide +kernel
theorem dX12_goesAct_76 : decode cX12_goesAct 76 = .ok (.aload_n 0, 1) := by decide +kernel
theorem dX12_goesAct_77 : decode cX12_goesAct 77 = .ok (.iload_n 1, 1) := by decide +kernel
theorem dX12_goesAct_78 : decode cX12_goesAct 78 = .ok (.iconst 2, 1) := by decide +kernel
theorem dX12_goesAct_79 : decode cX12_goesAct 79 = .ok (.invokevirtual 358, 3) := by decide +kernel
theorem dX12_goesAct_82 : decode cX12_goesAct 82 = .ok (.iadd, 1) := by decide +kernel
theorem dX12_goesAct_83 : decode cX12_goesAct 83 = .ok (.ireturn, 1) := by decide +kernel
theorem dX12_goesAct_84 : decode cX12_goesAct 84 = .ok (.aload_n 0, 1) := by decide +kernel
theorem dX12_goesAct_85 : decode cX12_goesAct 85 = .ok (.iload_n 1, 1) := by decide +kernel
theorem dX12_goesAct_86 : decode cX12_goesAct 86 = .ok (.iload_n 2, 1) := by decide +kernel
theorem dX12_goesAct_87 : decode cX12_goesAct 87 = .ok (.invokevirtual 364, 3) := by decide +kernel
theorem dX12_goesAct_90 : decode cX12_goesAct 90 = .ok (.ireturn, 1) := by decide +kernel
set_option maxRecDepth 20000 in
theorem rX12_goesAct (D : GD) (d : Nat) (a1 : Int32) (a2 : Int32) (M : Mm) (post : Option Value → Mm → Prop) (hL : Lay 62 98 M) 
    (h : vp_in a1 11 ∧ (((gI M 74 a1.toNatClampNeg) = (1 : Int32) → AMi D d mX12_ownGoes [.ref 62, .int a1, .int a2] M (fun x4 M3 => post (some (.int x4)) M3)) ∧ (((gI M 74 a1.toNatClampNeg) = (4 : Int32) → AMv D d mX12_body [.ref 62, .int (51 : Int32)] M (fun M10 => AMi D d mX12_ownGoes [.ref 62, .int a1, .int (a2 + (1 : Int32))] M10 (fun x17 M16 => post (some (.int x17)) M16))) ∧ (((gI M 74 a1.toNatClampNeg) = (6 : Int32) → AMv D d mX12_body [.ref 62, .int (70 : Int32)] M (fun M23 => AMi D d mX12_plainGoes [.ref 62, .int a1, .int a2] M23 (fun x30 M29 => AMi D d mX12_mixedLooks [.ref 62, .int a1, .int (2 : Int32)] M29 (fun x36 M35 => post (some (.int (x30 + x36))) M35)))) ∧ ((¬ (gI M 74 a1.toNatClampNeg) = (1 : Int32) → ¬ (gI M 74 a1.toNatClampNeg) = (4 : Int32) → ¬ (gI M 74 a1.toNatClampNeg) = (6 : Int32) → AMi D d mX12_plainGoes [.ref 62, .int a1, .int a2] M (fun x42 M41 => post (some (.int x42)) M41))))))) :
    AM D (d + 1) 0 0 mX12_goesAct [.ref 62, .int a1, .int a2] M post := by
  refine AM.of (by decide) (Nat.le_of_ble_eq_true rfl) ?_
  show AW D (d + 1) 0 0 mX12_goesAct 0 0 0 [(0, .ref 62), (1, .int a1), (2, .int a2)] [] M post
  refine ab_aload_n 0 dX12_goesAct_0 rfl ?_
  refine ab_getP (r := 74) dX12_goesAct_1 fs_12_69_12 rfl (hL.sh 62 rfl (by decide) (by decide)).1 (hL.sh 62 rfl (by decide) (by decide)).2 (hL.pt 72 rfl (by decide) (by decide)) ?_
  refine ab_iload_n 1 dX12_goesAct_4 rfl ?_
  have hb1 := h.1
  have h := h.2
  refine ab_ialdj (j := a1.toNatClampNeg) dX12_goesAct_5 (hL.sh 74 rfl (by decide) (by decide)) hb1 rfl ?_
  by_cases c2 : (gI M 74 a1.toNatClampNeg) = (1 : Int32)
  · have h := h.1 c2
    refine ab_lookup (off := (34)) (tgt := 40) dX12_goesAct_6 (by decide) (by rw [c2]; decide) (by decide) ?_
    refine ab_aload_n 0 dX12_goesAct_40 rfl ?_
    refine ab_iload_n 1 dX12_goesAct_41 rfl ?_
    refine ab_iload_n 2 dX12_goesAct_42 rfl ?_
    refine ab_callV (a := 62) (c0 := 12) (d' := d) (mc' := 0) (ms' := 0) (vs := [.int a1, .int a2]) (st := []) dX12_goesAct_43 ⟨cw_X12_ownGoes, w_1479⟩ w_1481 w_74 (by decide) (hL.sh 62 rfl (by decide) (by decide)).1 (hL.sh 62 rfl (by decide) (by decide)).2 rfl rfl (Nat.le_of_ble_eq_true rfl) (Nat.le_refl _) (Nat.zero_le _) (Nat.zero_le _) (AM.mono h (fun r M3 ⟨x4, hr5, hc6, h⟩ => ?_))
    subst hr5
    refine ab_rs ?_
    have hm7 : Sm M M3 := (Sm.refl M).trans hc6
    have hl8 := hL.of hm7
    exact ab_iret dX12_goesAct_46 rfl h
  · have h := h.2
    by_cases c9 : (gI M 74 a1.toNatClampNeg) = (4 : Int32)
    · have h := h.1 c9
      refine ab_lookup (off := (41)) (tgt := 47) dX12_goesAct_6 (by decide) (by rw [c9]; decide) (by decide) ?_
      refine ab_aload_n 0 dX12_goesAct_47 rfl ?_
      refine ab_bipush (v := 51) dX12_goesAct_48 (by decide) ?_
      refine ab_callV (a := 62) (c0 := 12) (d' := d) (mc' := 0) (ms' := 0) (vs := [.int (51 : Int32)]) (st := []) dX12_goesAct_50 ⟨cw_X12_body, w_1467⟩ w_1469 w_71 (by decide) (hL.sh 62 rfl (by decide) (by decide)).1 (hL.sh 62 rfl (by decide) (by decide)).2 rfl rfl (Nat.le_of_ble_eq_true rfl) (Nat.le_refl _) (Nat.zero_le _) (Nat.zero_le _) (AM.mono h (fun r M10 ⟨hr12, hc13, h⟩ => ?_))
      subst hr12
      refine ab_rv ?_
      have hm14 : Sm M M10 := (Sm.refl M).trans hc13
      have hl15 := hL.of hm14
      refine ab_aload_n 0 dX12_goesAct_53 rfl ?_
      refine ab_iload_n 1 dX12_goesAct_54 rfl ?_
      refine ab_iload_n 2 dX12_goesAct_55 rfl ?_
      refine ab_iconst (v := 1) dX12_goesAct_56 (by decide) ?_
      refine ab_iadd dX12_goesAct_57 ?_
      refine ab_callV (a := 62) (c0 := 12) (d' := d) (mc' := 0) (ms' := 0) (vs := [.int a1, .int (a2 + (1 : Int32))]) (st := []) dX12_goesAct_58 ⟨cw_X12_ownGoes, w_1479⟩ w_1481 w_74 (by decide) (hl15.sh 62 rfl (by decide) (by decide)).1 (hl15.sh 62 rfl (by decide) (by decide)).2 rfl rfl (Nat.le_of_ble_eq_true rfl) (Nat.le_refl _) (Nat.zero_le _) (Nat.zero_le _) (AM.mono h (fun r M16 ⟨x17, hr18, hc19, h⟩ => ?_))
      subst hr18
      refine ab_rs ?_
      have hm20 : Sm M M16 := hm14.trans hc19
      have hl21 := hL.of hm20
      exact ab_iret dX12_goesAct_61 rfl h
    · have h := h.2
      by_cases c22 : (gI M 74 a1.toNatClampNeg) = (6 : Int32)
      · have h := h.1 c22
        refine ab_lookup (off := (56)) (tgt := 62) dX12_goesAct_6 (by decide) (by rw [c22]; decide) (by decide) ?_
        refine ab_aload_n 0 dX12_goesAct_62 rfl ?_
        refine ab_bipush (v := 70) dX12_goesAct_63 (by decide) ?_
        refine ab_callV (a := 62) (c0 := 12) (d' := d) (mc' := 0) (ms' := 0) (vs := [.int (70 : Int32)]) (st := []) dX12_goesAct_65 ⟨cw_X12_body, w_1467⟩ w_1469 w_71 (by decide) (hL.sh 62 rfl (by decide) (by decide)).1 (hL.sh 62 rfl (by decide) (by decide)).2 rfl rfl (Nat.le_of_ble_eq_true rfl) (Nat.le_refl _) (Nat.zero_le _) (Nat.zero_le _) (AM.mono h (fun r M23 ⟨hr25, hc26, h⟩ => ?_))
        subst hr25
        refine ab_rv ?_
        have hm27 : Sm M M23 := (Sm.refl M).trans hc26
        have hl28 := hL.of hm27
        refine ab_aload_n 0 dX12_goesAct_68 rfl ?_
        refine ab_iload_n 1 dX12_goesAct_69 rfl ?_
        refine ab_iload_n 2 dX12_goesAct_70 rfl ?_
        refine ab_callV (a := 62) (c0 := 12) (d' := d) (mc' := 0) (ms' := 0) (vs := [.int a1, .int a2]) (st := []) dX12_goesAct_71 ⟨cw_X12_plainGoes, w_1483⟩ w_1485 w_75 (by decide) (hl28.sh 62 rfl (by decide) (by decide)).1 (hl28.sh 62 rfl (by decide) (by decide)).2 rfl rfl (Nat.le_of_ble_eq_true rfl) (Nat.le_refl _) (Nat.zero_le _) (Nat.zero_le _) (AM.mono h (fun r M29 ⟨x30, hr31, hc32, h⟩ => ?_))
        subst hr31
        refine ab_rs ?_
        have hm33 : Sm M M29 := hm27.trans hc32
        have hl34 := hL.of hm33
        refine ab_istore_n (lv1 := [(3, .int x30), (0, .ref 62), (1, .int a1), (2, .int a2)]) dX12_goesAct_74 (by decide) rfl ?_
        refine ab_iload_n 0 dX12_goesAct_75 rfl ?_
        refine ab_aload_n 1 dX12_goesAct_76 rfl ?_
        refine ab_iload_n 2 dX12_goesAct_77 rfl ?_
        refine ab_iconst (v := 2) dX12_goesAct_78 (by decide) ?_
        refine ab_callV (a := 62) (c0 := 12) (d' := d) (mc' := 0) (ms' := 0) (vs := [.int a1, .int (2 : Int32)]) (st := [.int x30]) dX12_goesAct_79 ⟨cw_X12_mixedLooks, w_1463⟩ w_1465 w_70 (by decide) (hl34.sh 62 rfl (by decide) (by decide)).1 (hl34.sh 62 rfl (by decide) (by decide)).2 rfl rfl (Nat.le_of_ble_eq_true rfl) (Nat.le_refl _) (Nat.zero_le _) (Nat.zero_le _) (AM.mono h (fun r M35 ⟨x36, hr37, hc38, h⟩ => ?_))
        subst hr37
        refine ab_rs ?_
        have hm39 : Sm M M35 := hm33.trans hc38
        have hl40 := hL.of hm39
        refine ab_iadd dX12_goesAct_82 ?_
        exact ab_iret dX12_goesAct_83 rfl h
      · have h := h.2
        have h := h c2 c9 c22
        refine ab_lookup (off := (78)) (tgt := 84) dX12_goesAct_6 (by decide) (by show Op.lookupswitch.offset [(1, 34), (4, 41), (6, 56)] _ _ = _; rw [lv_osw c2 (by decide), lv_osw c9 (by decide), lv_osw c22 (by decide)]; rfl) (by decide) ?_
        refine ab_aload_n 0 dX12_goesAct_84 rfl ?_
        refine ab_iload_n 1 dX12_goesAct_85 rfl ?_
        refine ab_iload_n 2 dX12_goesAct_86 rfl ?_
        refine ab_callV (a := 62) (c0 := 12) (d' := d) (mc' := 0) (ms' := 0) (vs := [.int a1, .int a2]) (st := []) dX12_goesAct_87 ⟨cw_X12_plainGoes, w_1483⟩ w_1485 w_75 (by decide) (hL.sh 62 rfl (by decide) (by decide)).1 (hL.sh 62 rfl (by decide) (by decide)).2 rfl rfl (Nat.le_of_ble_eq_true rfl) (Nat.le_refl _) (Nat.zero_le _) (Nat.zero_le _) (AM.mono h (fun r M41 ⟨x42, hr43, hc44, h⟩ => ?_))
        subst hr43
        refine ab_rs ?_
        have hm45 : Sm M M41 := (Sm.refl M).trans hc44
        have hl46 := hL.of hm45
        exact ab_iret dX12_goesAct_90 rfl h
theorem dX12_plainTells_0 : decode cX12_plainTells 0 = .ok (.aload_n 0, 1) := by decide +kernel
theorem dX12_plainTells_1 : decode cX12_plainTells 1 = .ok (.bipush 12, 2) := by decide +kernel
theorem dX12_plainTells_3 : decode cX12_plainTells 3 = .ok (.invokevirtual 352, 3) := by decide +kernel
theorem dX12_plainTells_6 : decode cX12_plainTells 6 = .ok (.aload_n 0, 1) := by decide +kernel
theorem dX12_plainTells_7 : decode cX12_plainTells 7 = .ok (.iload_n 1, 1) := by decide +kernel
theorem dX12_plainTells_8 : decode cX12_plainTells 8 = .ok (.iload_n 2, 1) := by decide +kernel
theorem dX12_plainTells_9 : decode cX12_plainTells 9 = .ok (.invokevirtual 370, 3) := by decide +kernel
theorem dX12_plainTells_12 : decode cX12_plainTells 12 = .ok (.iconst 2, 1) := by decide +kernel
theorem dX12_plainTells_13 : decode cX12_plainTells 13 = .ok (.imul, 1) := by decide +kernel
theorem dX12_plainTells_14 : decode cX12_plainTells 14 = .ok (.ireturn, 1) := by decide +kernel
set_option maxRecDepth 20000 in
theorem rX12_plainTells (D : GD) (d : Nat) (a1 : Int32) (a2 : Int32) (M : Mm) (post : Option Value → Mm → Prop) (hL : Lay 62 98 M) 
    (h : AMv D d mX12_body [.ref 62, .int (12 : Int32)] M (fun M1 => AMi D d mX12_goesAct [.ref 62, .int a1, .int a2] M1 (fun x8 M7 => post (some (.int (x8 * (2 : Int32)))) M7))) :
    AM D (d + 1) 0 0 mX12_plainTells [.ref 62, .int a1, .int a2] M post := by
  refine AM.of (by decide) (Nat.le_of_ble_eq_true rfl) ?_
  show AW D (d + 1) 0 0 mX12_plainTells 0 0 0 [(0, .ref 62), (1, .int a1), (2, .int a2)] [] M post
  refine ab_aload_n 0 dX12_plainTells_0 rfl ?_
  refine ab_bipush (v := 12) dX12_plainTells_1 (by decide) ?_
  refine ab_callV (a := 62) (c0 := 12) (d' := d) (mc' := 0) (ms' := 0) (vs := [.int (12 : Int32)]) (st := []) dX12_plainTells_3 ⟨cw_X12_body, w_1467⟩ w_1469 w_71 (by decide) (hL.sh 62 rfl (by decide) (by decide)).1 (hL.sh 62 rfl (by decide) (by decide)).2 rfl rfl (Nat.le_of_ble_eq_true rfl) (Nat.le_refl _) (Nat.zero_le _) (Nat.zero_le _) (AM.mono h (fun r M1 ⟨hr3, hc4, h⟩ => ?_))
  subst hr3
  refine ab_rv ?_
  have hm5 : Sm M M1 := (Sm.refl M).trans hc4
  have hl6 := hL.of hm5
  refine ab_aload_n 0 dX12_plainTells_6 rfl ?_
  refine ab_iload_n 1 dX12_plainTells_7 rfl ?_
  refine ab_iload_n 2 dX12_plainTells_8 rfl ?_
  refine ab_callV (a := 62) (c0 := 12) (d' := d) (mc' := 0) (ms' := 0) (vs := [.int a1, .int a2]) (st := []) dX12_plainTells_9 ⟨cw_X12_goesAct, w_1475⟩ w_1477 w_73 (by decide) (hl6.sh 62 rfl (by decide) (by decide)).1 (hl6.sh 62 rfl (by decide) (by decide)).2 rfl rfl (Nat.le_of_ble_eq_true rfl) (Nat.le_refl _) (Nat.zero_le _) (Nat.zero_le _) (AM.mono h (fun r M7 ⟨x8, hr9, hc10, h⟩ => ?_))
  subst hr9
  refine ab_rs ?_
  have hm11 : Sm M M7 := hm5.trans hc10
  have hl12 := hL.of hm11
  refine ab_iconst (v := 2) dX12_plainTells_12 (by decide) ?_
  refine ab_imul dX12_plainTells_13 ?_
  exact ab_iret dX12_plainTells_14 rfl h
theorem dX12_tellsAct_0 : decode cX12_tellsAct 0 = .ok (.aload_n 0, 1) := by decide +kernel
theorem dX12_tellsAct_1 : decode cX12_tellsAct 1 = .ok (.getfield 69, 3) := by decide +kernel
theorem dX12_tellsAct_4 : decode cX12_tellsAct 4 = .ok (.iload_n 1, 1) := by decide +kernel
theorem dX12_tellsAct_5 : decode cX12_tellsAct 5 = .ok (.iaload, 1) := by decide +kernel
theorem dX12_tellsAct_6 : decode cX12_tellsAct 6 = .ok (.lookupswitch 63 #[(3, 26), (5, 48)], 26) := by decide +kernel
theorem dX12_tellsAct_32 : decode cX12_tellsAct 32 = .ok (.aload_n 0, 1) := by decide +kernel
theorem dX12_tellsAct_33 : decode cX12_tellsAct 33 = .ok (.bipush 40, 2) := by decide +kernel
theorem dX12_tellsAct_35 : decode cX12_tellsAct 35 = .ok (.invokevirtual 352, 3) := by decide +kernel
theorem dX12_tellsAct_38 : decode cX12_tellsAct 38 = .ok (.aload_n 0, 1) := by decide +kernel
theorem dX12_tellsAct_39 : decode cX12_tellsAct 39 = .ok (.iload_n 1, 1) := by decide +kernel
theorem dX12_tellsAct_40 : decode cX12_tellsAct 40 = .ok (.iload_n 2, 1) := by decide +kernel
theorem dX12_tellsAct_41 : decode cX12_tellsAct 41 = .ok (.invokevirtual 373, 3) := by decide +kernel
theorem dX12_tellsAct_44 : decode cX12_tellsAct 44 = .ok (.istore_n 3, 1) := by decide +kernel
theorem dX12_tellsAct_45 : decode cX12_tellsAct 45 = .ok (.iload_n 3, 1) := by decide +kernel
theorem dX12_tellsAct_46 : decode cX12_tellsAct 46 = .ok (.aload_n 0, 1) := by decide +kernel
theorem dX12_tellsAct_47 : decode cX12_tellsAct 47 = .ok (.iload_n 1, 1) := by decide +kernel
theorem dX12_tellsAct_48 : decode cX12_tellsAct 48 = .ok (.iconst 1, 1) := by decide +kernel
theorem dX12_tellsAct_49 : decode cX12_tellsAct 49 = .ok (.invokevirtual 370, 3) := by decide +kernel
theorem dX12_tellsAct_52 : decode cX12_tellsAct 52 = .ok (.iadd, 1) := by decide +kernel
theorem dX12_tellsAct_53 : decode cX12_tellsAct 53 = .ok (.ireturn, 1) := by decide +kernel
theorem dX12_tellsAct_54 : decode cX12_tellsAct 54 = .ok (.aload_n 0, 1) := by decide +kernel
theorem dX12_tellsAct_55 : decode cX12_tellsAct 55 = .ok (.bipush 60, 2) := by decide +kernel
theorem dX12_tellsAct_57 : decode cX12_tellsAct 57 = .ok (.invokevirtual 352, 3) := by decide +kernel
theorem dX12_tellsAct_60 : decode cX12_tellsAct 60 = .ok (.aload_n 0, 1) := by decide +kernel
theorem dX12_tellsAct_61 : decode cX12_tellsAct 61 = .ok (.iload_n 1, 1) := by decide +kernel
theorem dX12_tellsAct_62 : decode cX12_tellsAct 62 = .ok (.iload_n 2, 1) := by decide +kernel
theorem dX12_tellsAct_63 : decode cX12_tellsAct 63 = .ok (.iload_n 1, 1) := by decide +kernel
theorem dX12_tellsAct_64 : decode cX12_tellsAct 64 = .ok (.isub, 1) := by decide +kernel
theorem dX12_tellsAct_65 : decode cX12_tellsAct 65 = .ok (.invokevirtual 373, 3) := by decide +kernel
theorem dX12_tellsAct_68 : decode cX12_tellsAct 68 = .ok (.ireturn, 1) := by decide +kernel
theorem dX12_tellsAct_69 : decode cX12_tellsAct 69 = .ok (.aload_n 0, 1) := by decide +kernel
theorem dX12_tellsAct_70 : decode cX12_tellsAct 70 = .ok (.iload_n 1, 1) := by decide +kernel
theorem dX12_tellsAct_71 : decode cX12_tellsAct 71 = .ok (.iload_n 2, 1) := by decide +kernel
theorem dX12_tellsAct_72 : decode cX12_tellsAct 72 = .ok (.invokevirtual 373, 3) := by decide +kernel
theorem dX12_tellsAct_75 : decode cX12_tellsAct 75 = .ok (.ireturn, 1) := by decide +kernel
set_option maxRecDepth 20000 in
theorem rX12_tellsAct (D : GD) (d : Nat) (a1 : Int32) (a2 : Int32) (M : Mm) (post : Option Value → Mm → Prop) (hL : Lay 62 98 M) 
    (h : vp_in a1 11 ∧ (((gI M 74 a1.toNatClampNeg) = (3 : Int32) → AMv D d mX12_body [.ref 62, .int (40 : Int32)] M (fun M3 => AMi D d mX12_plainTells [.ref 62, .int a1, .int a2] M3 (fun x10 M9 => AMi D d mX12_goesAct [.ref 62, .int a1, .int (1 : Int32)] M9 (fun x16 M15 => post (some (.int (x10 + x16))) M15)))) ∧ (((gI M 74 a1.toNatClampNeg) = (5 : Int32) → AMv D d mX12_body [.ref 62, .int (60 : Int32)] M (fun M22 => AMi D d mX12_plainTells [.ref 62, .int a1, .int (a2 - a1)] M22 (fun x29 M28 => post (some (.int x29)) M28))) ∧ ((¬ (gI M 74 a1.toNatClampNeg) = (3 : Int32) → ¬ (gI M 74 a1.toNatClampNeg) = (5 : Int32) → AMi D d mX12_plainTells [.ref 62, .int a1, .int a2] M (fun x35 M34 => post (some (.int x35)) M34)))))) :
    AM D (d + 1) 0 0 mX12_tellsAct [.ref 62, .int a1, .int a2] M post := by
  refine AM.of (by decide) (Nat.le_of_ble_eq_true rfl) ?_
  show AW D (d + 1) 0 0 mX12_tellsAct 0 0 0 [(0, .ref 62), (1, .int a1), (2, .int a2)] [] M post
  refine ab_aload_n 0 dX12_tellsAct_0 rfl ?_
  refine ab_getP (r := 74) dX12_tellsAct_1 fs_12_69_12 rfl (hL.sh 62 rfl (by decide) (by decide)).1 (hL.sh 62 rfl (by decide) (by decide)).2 (hL.pt 72 rfl (by decide) (by decide)) ?_
  refine ab_iload_n 1 dX12_tellsAct_4 rfl ?_
  have hb1 := h.1
  have h := h.2
  refine ab_ialdj (j := a1.toNatClampNeg) dX12_tellsAct_5 (hL.sh 74 rfl (by decide) (by decide)) hb1 rfl ?_
  by_cases c2 : (gI M 74 a1.toNatClampNeg) = (3 : Int32)
  · have h := h.1 c2
    refine ab_lookup (off := (26)) (tgt := 32) dX12_tellsAct_6 (by decide) (by rw [c2]; decide) (by decide) ?_
    refine ab_aload_n 0 dX12_tellsAct_32 rfl ?_
    refine ab_bipush (v := 40) dX12_tellsAct_33 (by decide) ?_
    refine ab_callV (a := 62) (c0 := 12) (d' := d) (mc' := 0) (ms' := 0) (vs := [.int (40 : Int32)]) (st := []) dX12_tellsAct_35 ⟨cw_X12_body, w_1467⟩ w_1469 w_71 (by decide) (hL.sh 62 rfl (by decide) (by decide)).1 (hL.sh 62 rfl (by decide) (by decide)).2 rfl rfl (Nat.le_of_ble_eq_true rfl) (Nat.le_refl _) (Nat.zero_le _) (Nat.zero_le _) (AM.mono h (fun r M3 ⟨hr5, hc6, h⟩ => ?_))
    subst hr5
    refine ab_rv ?_
    have hm7 : Sm M M3 := (Sm.refl M).trans hc6
    have hl8 := hL.of hm7
    refine ab_aload_n 0 dX12_tellsAct_38 rfl ?_
    refine ab_iload_n 1 dX12_tellsAct_39 rfl ?_
    refine ab_iload_n 2 dX12_tellsAct_40 rfl ?_
    refine ab_callV (a := 62) (c0 := 12) (d' := d) (mc' := 0) (ms' := 0) (vs := [.int a1, .int a2]) (st := []) dX12_tellsAct_41 ⟨cw_X12_plainTells, w_1491⟩ w_1493 w_77 (by decide) (hl8.sh 62 rfl (by decide) (by decide)).1 (hl8.sh 62 rfl (by decide) (by decide)).2 rfl rfl (Nat.le_of_ble_eq_true rfl) (Nat.le_refl _) (Nat.zero_le _) (Nat.zero_le _) (AM.mono h (fun r M9 ⟨x10, hr11, hc12, h⟩ => ?_))
    subst hr11
    refine ab_rs ?_
    have hm13 : Sm M M9 := hm7.trans hc12
    have hl14 := hL.of hm13
    refine ab_istore_n (lv1 := [(3, .int x10), (0, .ref 62), (1, .int a1), (2, .int a2)]) dX12_tellsAct_44 (by decide) rfl ?_
    refine ab_iload_n 0 dX12_tellsAct_45 rfl ?_
    refine ab_aload_n 1 dX12_tellsAct_46 rfl ?_
    refine ab_iload_n 2 dX12_tellsAct_47 rfl ?_
    refine ab_iconst (v := 1) dX12_tellsAct_48 (by decide) ?_
    refine ab_callV (a := 62) (c0 := 12) (d' := d) (mc' := 0) (ms' := 0) (vs := [.int a1, .int (1 : Int32)]) (st := [.int x10]) dX12_tellsAct_49 ⟨cw_X12_goesAct, w_1475⟩ w_1477 w_73 (by decide) (hl14.sh 62 rfl (by decide) (by decide)).1 (hl14.sh 62 rfl (by decide) (by decide)).2 rfl rfl (Nat.le_of_ble_eq_true rfl) (Nat.le_refl _) (Nat.zero_le _) (Nat.zero_le _) (AM.mono h (fun r M15 ⟨x16, hr17, hc18, h⟩ => ?_))
    subst hr17
    refine ab_rs ?_
    have hm19 : Sm M M15 := hm13.trans hc18
    have hl20 := hL.of hm19
    refine ab_iadd dX12_tellsAct_52 ?_
    exact ab_iret dX12_tellsAct_53 rfl h
  · have h := h.2
    by_cases c21 : (gI M 74 a1.toNatClampNeg) = (5 : Int32)
    · have h := h.1 c21
      refine ab_lookup (off := (48)) (tgt := 54) dX12_tellsAct_6 (by decide) (by rw [c21]; decide) (by decide) ?_
      refine ab_aload_n 0 dX12_tellsAct_54 rfl ?_
      refine ab_bipush (v := 60) dX12_tellsAct_55 (by decide) ?_
      refine ab_callV (a := 62) (c0 := 12) (d' := d) (mc' := 0) (ms' := 0) (vs := [.int (60 : Int32)]) (st := []) dX12_tellsAct_57 ⟨cw_X12_body, w_1467⟩ w_1469 w_71 (by decide) (hL.sh 62 rfl (by decide) (by decide)).1 (hL.sh 62 rfl (by decide) (by decide)).2 rfl rfl (Nat.le_of_ble_eq_true rfl) (Nat.le_refl _) (Nat.zero_le _) (Nat.zero_le _) (AM.mono h (fun r M22 ⟨hr24, hc25, h⟩ => ?_))
      subst hr24
      refine ab_rv ?_
      have hm26 : Sm M M22 := (Sm.refl M).trans hc25
      have hl27 := hL.of hm26
      refine ab_aload_n 0 dX12_tellsAct_60 rfl ?_
      refine ab_iload_n 1 dX12_tellsAct_61 rfl ?_
      refine ab_iload_n 2 dX12_tellsAct_62 rfl ?_
      refine ab_iload_n 1 dX12_tellsAct_63 rfl ?_
      refine ab_isub dX12_tellsAct_64 ?_
      refine ab_callV (a := 62) (c0 := 12) (d' := d) (mc' := 0) (ms' := 0) (vs := [.int a1, .int (a2 - a1)]) (st := []) dX12_tellsAct_65 ⟨cw_X12_plainTells, w_1491⟩ w_1493 w_77 (by decide) (hl27.sh 62 rfl (by decide) (by decide)).1 (hl27.sh 62 rfl (by decide) (by decide)).2 rfl rfl (Nat.le_of_ble_eq_true rfl) (Nat.le_refl _) (Nat.zero_le _) (Nat.zero_le _) (AM.mono h (fun r M28 ⟨x29, hr30, hc31, h⟩ => ?_))
      subst hr30
      refine ab_rs ?_
      have hm32 : Sm M M28 := hm26.trans hc31
      have hl33 := hL.of hm32
      exact ab_iret dX12_tellsAct_68 rfl h
    · have h := h.2
      have h := h c2 c21
      refine ab_lookup (off := (63)) (tgt := 69) dX12_tellsAct_6 (by decide) (by show Op.lookupswitch.offset [(3, 26), (5, 48)] _ _ = _; rw [lv_osw c2 (by decide), lv_osw c21 (by decide)]; rfl) (by decide) ?_
      refine ab_aload_n 0 dX12_tellsAct_69 rfl ?_
      refine ab_iload_n 1 dX12_tellsAct_70 rfl ?_
      refine ab_iload_n 2 dX12_tellsAct_71 rfl ?_
      refine ab_callV (a := 62) (c0 := 12) (d' := d) (mc' := 0) (ms' := 0) (vs := [.int a1, .int a2]) (st := []) dX12_tellsAct_72 ⟨cw_X12_plainTells, w_1491⟩ w_1493 w_77 (by decide) (hL.sh 62 rfl (by decide) (by decide)).1 (hL.sh 62 rfl (by decide) (by decide)).2 rfl rfl (Nat.le_of_ble_eq_true rfl) (Nat.le_refl _) (Nat.zero_le _) (Nat.zero_le _) (AM.mono h (fun r M34 ⟨x35, hr36, hc37, h⟩ => ?_))
      subst hr36
      refine ab_rs ?_
      have hm38 : Sm M M34 := (Sm.refl M).trans hc37
      have hl39 := hL.of hm38
      exact ab_iret dX12_tellsAct_75 rfl h
theorem dX12_act_0 : decode cX12_act 0 = .ok (.aload_n 0, 1) := by decide +kernel
theorem dX12_act_1 : decode cX12_act 1 = .ok (.iconst 0, 1) := by decide +kernel
theorem dX12_act_2 : decode cX12_act 2 = .ok (.putfield 161, 3) := by decide +kernel
theorem dX12_act_5 : decode cX12_act 5 = .ok (.aload_n 0, 1) := by decide +kernel
theorem dX12_act_6 : decode cX12_act 6 = .ok (.iload_n 1, 1) := by decide +kernel
theorem dX12_act_7 : decode cX12_act 7 = .ok (.invokevirtual 233, 3) := by decide +kernel
theorem dX12_act_10 : decode cX12_act 10 = .ok (.ifCond .eq 13, 3) := by decide +kernel
theorem dX12_act_13 : decode cX12_act 13 = .ok (.aload_n 0, 1) := by decide +kernel
theorem dX12_act_14 : decode cX12_act 14 = .ok (.iload_n 2, 1) := by decide +kernel
theorem dX12_act_15 : decode cX12_act 15 = .ok (.iconst 0, 1) := by decide +kernel
theorem dX12_act_16 : decode cX12_act 16 = .ok (.iconst 2, 1) := by decide +kernel
theorem dX12_act_17 : decode cX12_act 17 = .ok (.invokevirtual 180, 3) := by decide +kernel
theorem dX12_act_20 : decode cX12_act 20 = .ok (.ifCond .ne 5, 3) := by decide +kernel
theorem dX12_act_23 : decode cX12_act 23 = .ok (.iconst 0, 1) := by decide +kernel
theorem dX12_act_24 : decode cX12_act 24 = .ok (.ireturn, 1) := by decide +kernel
theorem dX12_act_25 : decode cX12_act 25 = .ok (.iload_n 2, 1) := by decide +kernel
theorem dX12_act_26 : decode cX12_act 26 = .ok (.ifCond .ne 12, 3) := by decide +kernel
theorem dX12_act_29 : decode cX12_act 29 = .ok (.aload_n 0, 1) := by decide +kernel
theorem dX12_act_30 : decode cX12_act 30 = .ok (.iload_n 1, 1) := by decide +kernel
theorem dX12_act_31 : decode cX12_act 31 = .ok (.iload_n 3, 1) := by decide +kernel
theorem dX12_act_32 : decode cX12_act 32 = .ok (.invokevirtual 361, 3) := by decide +kernel
theorem dX12_act_35 : decode cX12_act 35 = .ok (.goto 23, 3) := by decide +kernel
theorem dX12_act_38 : decode cX12_act 38 = .ok (.iload_n 2, 1) := by decide +kernel
theorem dX12_act_39 : decode cX12_act 39 = .ok (.iconst 1, 1) := by decide +kernel
theorem dX12_act_40 : decode cX12_act 40 = .ok (.if_icmp .ne 12, 3) := by decide +kernel
theorem dX12_act_43 : decode cX12_act 43 = .ok (.aload_n 0, 1) := by decide +kernel
theorem dX12_act_44 : decode cX12_act 44 = .ok (.iload_n 1, 1) := by decide +kernel
theorem dX12_act_45 : decode cX12_act 45 = .ok (.iload_n 3, 1) := by decide +kernel
theorem dX12_act_46 : decode cX12_act 46 = .ok (.invokevirtual 370, 3) := by decide +kernel
theorem dX12_act_49 : decode cX12_act 49 = .ok (.goto 9, 3) := by decide +kernel
theorem dX12_act_52 : decode cX12_act 52 = .ok (.aload_n 0, 1) := by decide +kernel
theorem dX12_act_53 : decode cX12_act 53 = .ok (.iload_n 1, 1) := by decide +kernel
theorem dX12_act_54 : decode cX12_act 54 = .ok (.iload_n 3, 1) := by decide +kernel
theorem dX12_act_55 : decode cX12_act 55 = .ok (.invokevirtual 376, 3) := by decide +kernel
theorem dX12_act_58 : decode cX12_act 58 = .ok (.ireturn, 1) := by decide +kernel
set_option maxRecDepth 20000 in
theorem rX12_act (D : GD) (d : Nat) (a1 : Int32) (a2 : Int32) (a3 : Int32) (M : Mm) (post : Option Value → Mm → Prop) (hL : Lay 62 98 M) 
    (h : ∀ M1 : Mm, M1 = sI M 62 49 (0 : Int32) → AMi D d mX12_isPlayer [.ref 62, .int a1] M1 (fun x6 M5 => ((x6 = 0 → post (some (.int (0 : Int32))) M5) ∧ (¬ x6 = 0 → AMi D d mX12_in [.ref 62, .int a2, .int (0 : Int32), .int (2 : Int32)] M5 (fun x13 M12 => ((¬ x13 = 0 → ((¬ a2 = 0 → ((¬ a2 = (1 : Int32) → AMi D d mX12_tellsAct [.ref 62, .int a1, .int a3] M12 (fun x22 M21 => post (some (.int x22)) M21)) ∧ (a2 = (1 : Int32) → AMi D d mX12_goesAct [.ref 62, .int a1, .int a3] M12 (fun x28 M27 => post (some (.int x28)) M27)))) ∧ (a2 = 0 → AMi D d mX12_looksAct [.ref 62, .int a1, .int a3] M12 (fun x34 M33 => post (some (.int x34)) M33)))) ∧ (x13 = 0 → post (some (.int (0 : Int32))) M12))))))) :
    AM D (d + 1) 0 0 mX12_act [.ref 62, .int a1, .int a2, .int a3] M post := by
  refine AM.of (by decide) (Nat.le_of_ble_eq_true rfl) ?_
  show AW D (d + 1) 0 0 mX12_act 0 0 0 [(0, .ref 62), (1, .int a1), (2, .int a2), (3, .int a3)] [] M post
  refine ab_aload_n 0 dX12_act_0 rfl ?_
  refine ab_iconst (v := 0) dX12_act_1 (by decide) ?_
  refine ab_putI dX12_act_2 fs_12_161_12 rfl rfl (hL.sh 62 rfl (by decide) (by decide)).1 (hL.sh 62 rfl (by decide) (by decide)).2 ?_
  refine ab_nameM (fun M1 hM1 => ?_)
  have h := h M1 hM1
  have hs4 : Sm M M1 := hM1 ▸ (Sm.refl _).i
  have hm2 : Sm M M1 := (Sm.refl M).trans hs4
  have hl3 := hL.of hm2
  refine ab_aload_n 0 dX12_act_5 rfl ?_
  refine ab_iload_n 1 dX12_act_6 rfl ?_
  refine ab_callV (a := 62) (c0 := 12) (d' := d) (mc' := 0) (ms' := 0) (vs := [.int a1]) (st := []) dX12_act_7 ⟨cw_X12_isPlayer, w_1247⟩ w_1249 w_37 (by decide) (hl3.sh 62 rfl (by decide) (by decide)).1 (hl3.sh 62 rfl (by decide) (by decide)).2 rfl rfl (Nat.le_of_ble_eq_true rfl) (Nat.le_refl _) (Nat.zero_le _) (Nat.zero_le _) (AM.mono h (fun r M5 ⟨x6, hr7, hc8, h⟩ => ?_))
  subst hr7
  refine ab_rs ?_
  have hm9 : Sm M M5 := hm2.trans hc8
  have hl10 := hL.of hm9
  refine ab_if_eq (tgt := 23) dX12_act_10 (by decide) (fun c11 => ?_) (fun c11 => ?_)
  · have h := h.1 c11
    refine ab_iconst (v := 0) dX12_act_23 (by decide) ?_
    exact ab_iret dX12_act_24 rfl h
  · have h := h.2 c11
    refine ab_aload_n 0 dX12_act_13 rfl ?_
    refine ab_iload_n 2 dX12_act_14 rfl ?_
    refine ab_iconst (v := 0) dX12_act_15 (by decide) ?_
    refine ab_iconst (v := 2) dX12_act_16 (by decide) ?_
    refine ab_callV (a := 62) (c0 := 12) (d' := d) (mc' := 0) (ms' := 0) (vs := [.int a2, .int (0 : Int32), .int (2 : Int32)]) (st := []) dX12_act_17 ⟨cw_X12_in, w_1170⟩ w_1172 w_23 (by decide) (hl10.sh 62 rfl (by decide) (by decide)).1 (hl10.sh 62 rfl (by decide) (by decide)).2 rfl rfl (Nat.le_of_ble_eq_true rfl) (Nat.le_refl _) (Nat.zero_le _) (Nat.zero_le _) (AM.mono h (fun r M12 ⟨x13, hr14, hc15, h⟩ => ?_))
    subst hr14
    refine ab_rs ?_
    have hm16 : Sm M M12 := hm9.trans hc15
    have hl17 := hL.of hm16
    refine ab_if_ne (tgt := 25) dX12_act_20 (by decide) (fun c18 => ?_) (fun c18 => ?_)
    · have h := h.1 c18
      refine ab_iload_n 2 dX12_act_25 rfl ?_
      refine ab_if_ne (tgt := 38) dX12_act_26 (by decide) (fun c19 => ?_) (fun c19 => ?_)
      · have h := h.1 c19
        refine ab_iload_n 2 dX12_act_38 rfl ?_
        refine ab_iconst (v := 1) dX12_act_39 (by decide) ?_
        refine ab_icmp_ne (tgt := 52) dX12_act_40 (by decide) (fun c20 => ?_) (fun c20 => ?_)
        · have h := h.1 c20
          refine ab_aload_n 0 dX12_act_52 rfl ?_
          refine ab_iload_n 1 dX12_act_53 rfl ?_
          refine ab_iload_n 3 dX12_act_54 rfl ?_
          refine ab_callV (a := 62) (c0 := 12) (d' := d) (mc' := 0) (ms' := 0) (vs := [.int a1, .int a3]) (st := []) dX12_act_55 ⟨cw_X12_tellsAct, w_1487⟩ w_1489 w_76 (by decide) (hl17.sh 62 rfl (by decide) (by decide)).1 (hl17.sh 62 rfl (by decide) (by decide)).2 rfl rfl (Nat.le_of_ble_eq_true rfl) (Nat.le_refl _) (Nat.zero_le _) (Nat.zero_le _) (AM.mono h (fun r M21 ⟨x22, hr23, hc24, h⟩ => ?_))
          subst hr23
          refine ab_rs ?_
          have hm25 : Sm M M21 := hm16.trans hc24
          have hl26 := hL.of hm25
          exact ab_iret dX12_act_58 rfl h
        · have h := h.2 c20
          refine ab_aload_n 0 dX12_act_43 rfl ?_
          refine ab_iload_n 1 dX12_act_44 rfl ?_
          refine ab_iload_n 3 dX12_act_45 rfl ?_
          refine ab_callV (a := 62) (c0 := 12) (d' := d) (mc' := 0) (ms' := 0) (vs := [.int a1, .int a3]) (st := []) dX12_act_46 ⟨cw_X12_goesAct, w_1475⟩ w_1477 w_73 (by decide) (hl17.sh 62 rfl (by decide) (by decide)).1 (hl17.sh 62 rfl (by decide) (by decide)).2 rfl rfl (Nat.le_of_ble_eq_true rfl) (Nat.le_refl _) (Nat.zero_le _) (Nat.zero_le _) (AM.mono h (fun r M27 ⟨x28, hr29, hc30, h⟩ => ?_))
          subst hr29
          refine ab_rs ?_
          have hm31 : Sm M M27 := hm16.trans hc30
          have hl32 := hL.of hm31
          refine ab_goto (tgt := 58) dX12_act_49 (by decide) ?_
          exact ab_iret dX12_act_58 rfl h
      · have h := h.2 c19
        refine ab_aload_n 0 dX12_act_29 rfl ?_
        refine ab_iload_n 1 dX12_act_30 rfl ?_
        refine ab_iload_n 3 dX12_act_31 rfl ?_
        refine ab_callV (a := 62) (c0 := 12) (d' := d) (mc' := 0) (ms' := 0) (vs := [.int a1, .int a3]) (st := []) dX12_act_32 ⟨cw_X12_looksAct, w_1459⟩ w_1461 w_69 (by decide) (hl17.sh 62 rfl (by decide) (by decide)).1 (hl17.sh 62 rfl (by decide) (by decide)).2 rfl rfl (Nat.le_of_ble_eq_true rfl) (Nat.le_refl _) (Nat.zero_le _) (Nat.zero_le _) (AM.mono h (fun r M33 ⟨x34, hr35, hc36, h⟩ => ?_))
        subst hr35
        refine ab_rs ?_
        have hm37 : Sm M M33 := hm16.trans hc36
        have hl38 := hL.of hm37
        refine ab_goto (tgt := 58) dX12_act_35 (by decide) ?_
        exact ab_iret dX12_act_58 rfl h
    · have h := h.2 c18
      refine ab_iconst (v := 0) dX12_act_23 (by decide) ?_
      exact ab_iret dX12_act_24 rfl h
theorem dX12_trace_0 : decode cX12_trace 0 = .ok (.aload_n 0, 1) := by decide +kernel
theorem dX12_trace_1 : decode cX12_trace 1 = .ok (.iload_n 1, 1) := by decide +kernel
theorem dX12_trace_2 : decode cX12_trace 2 = .ok (.iconst 0, 1) := by decide +kernel
theorem dX12_trace_3 : decode cX12_trace 3 = .ok (.bipush 19, 2) := by decide +kernel
theorem dX12_trace_5 : decode cX12_trace 5 = .ok (.invokevirtual 180, 3) := by decide +kernel
theorem dX12_trace_8 : decode cX12_trace 8 = .ok (.ifCond .eq 20, 3) := by decide +kernel
theorem dX12_trace_11 : decode cX12_trace 11 = .ok (.iload_n 1, 1) := by decide +kernel
theorem dX12_trace_12 : decode cX12_trace 12 = .ok (.aload_n 0, 1) := by decide +kernel
theorem dX12_trace_13 : decode cX12_trace 13 = .ok (.getfield 161, 3) := by decide +kernel
theorem dX12_trace_16 : decode cX12_trace 16 = .ok (.if_icmp .ge 12, 3) := by decide +kernel
theorem dX12_trace_19 : decode cX12_trace 19 = .ok (.aload_n 0, 1) := by decide +kernel
theorem dX12_trace_20 : decode cX12_trace 20 = .ok (.getfield 164, 3) := by decide +kernel
theorem dX12_trace_23 : decode cX12_trace 23 = .ok (.iload_n 1, 1) := by decide +kernel
theorem dX12_trace_24 : decode cX12_trace 24 = .ok (.iaload, 1) := by decide +kernel
theorem dX12_trace_25 : decode cX12_trace 25 = .ok (.goto 4, 3) := by decide +kernel
theorem dX12_trace_28 : decode cX12_trace 28 = .ok (.iconst (-1), 1) := by decide +kernel
theorem dX12_trace_29 : decode cX12_trace 29 = .ok (.ireturn, 1) := by decide +kernel
set_option maxRecDepth 20000 in
theorem rX12_trace (D : GD) (d : Nat) (a1 : Int32) (M : Mm) (post : Option Value → Mm → Prop) (hL : Lay 62 98 M) 
    (h : AMi D d mX12_in [.ref 62, .int a1, .int (0 : Int32), .int (19 : Int32)] M (fun x2 M1 => ((x2 = 0 → post (some (.int (-1 : Int32))) M1) ∧ (¬ x2 = 0 → (((gI M1 62 49) ≤ a1 → post (some (.int (-1 : Int32))) M1) ∧ (¬ (gI M1 62 49) ≤ a1 → vp_in a1 20 ∧ post (some (.int (gI M1 93 a1.toNatClampNeg))) M1)))))) :
    AM D (d + 1) 0 0 mX12_trace [.ref 62, .int a1] M post := by
  refine AM.of (by decide) (Nat.le_of_ble_eq_true rfl) ?_
  show AW D (d + 1) 0 0 mX12_trace 0 0 0 [(0, .ref 62), (1, .int a1)] [] M post
  refine ab_aload_n 0 dX12_trace_0 rfl ?_
  refine ab_iload_n 1 dX12_trace_1 rfl ?_
  refine ab_iconst (v := 0) dX12_trace_2 (by decide) ?_
  refine ab_bipush (v := 19) dX12_trace_3 (by decide) ?_
  refine ab_callV (a := 62) (c0 := 12) (d' := d) (mc' := 0) (ms' := 0) (vs := [.int a1, .int (0 : Int32), .int (19 : Int32)]) (st := []) dX12_trace_5 ⟨cw_X12_in, w_1170⟩ w_1172 w_23 (by decide) (hL.sh 62 rfl (by decide) (by decide)).1 (hL.sh 62 rfl (by decide) (by decide)).2 rfl rfl (Nat.le_of_ble_eq_true rfl) (Nat.le_refl _) (Nat.zero_le _) (Nat.zero_le _) (AM.mono h (fun r M1 ⟨x2, hr3, hc4, h⟩ => ?_))
  subst hr3
  refine ab_rs ?_
  have hm5 : Sm M M1 := (Sm.refl M).trans hc4
  have hl6 := hL.of hm5
  refine ab_if_eq (tgt := 28) dX12_trace_8 (by decide) (fun c7 => ?_) (fun c7 => ?_)
  · have h := h.1 c7
    refine ab_iconst (v := (-1)) dX12_trace_28 (by decide) ?_
    exact ab_iret dX12_trace_29 rfl h
  · have h := h.2 c7
    refine ab_iload_n 1 dX12_trace_11 rfl ?_
    refine ab_aload_n 0 dX12_trace_12 rfl ?_
    refine ab_getI dX12_trace_13 fs_12_161_12 rfl (hl6.sh 62 rfl (by decide) (by decide)).1 (hl6.sh 62 rfl (by decide) (by decide)).2 ?_
    refine ab_icmp_ge (tgt := 28) dX12_trace_16 (by decide) (fun c8 => ?_) (fun c8 => ?_)
    · have h := h.1 c8
      refine ab_iconst (v := (-1)) dX12_trace_28 (by decide) ?_
      exact ab_iret dX12_trace_29 rfl h
    · have h := h.2 c8
      refine ab_aload_n 0 dX12_trace_19 rfl ?_
      refine ab_getP (r := 93) dX12_trace_20 fs_12_164_12 rfl (hl6.sh 62 rfl (by decide) (by decide)).1 (hl6.sh 62 rfl (by decide) (by decide)).2 (hl6.pt 91 rfl (by decide) (by decide)) ?_
      refine ab_iload_n 1 dX12_trace_23 rfl ?_
      have hb9 := h.1
      have h := h.2
      refine ab_ialdj (j := a1.toNatClampNeg) dX12_trace_24 (hl6.sh 93 rfl (by decide) (by decide)) hb9 rfl ?_
      refine ab_goto (tgt := 29) dX12_trace_25 (by decide) ?_
      exact ab_iret dX12_trace_29 rfl h
theorem dX12_taken_0 : decode cX12_taken 0 = .ok (.aload_n 0, 1) := by decide +kernel
theorem dX12_taken_1 : decode cX12_taken 1 = .ok (.iload_n 2, 1) := by decide +kernel
theorem dX12_taken_2 : decode cX12_taken 2 = .ok (.iconst 0, 1) := by decide +kernel
theorem dX12_taken_3 : decode cX12_taken 3 = .ok (.bipush 6, 2) := by decide +kernel
theorem dX12_taken_5 : decode cX12_taken 5 = .ok (.invokevirtual 180, 3) := by decide +kernel
theorem dX12_taken_8 : decode cX12_taken 8 = .ok (.ifCond .ne 6, 3) := by decide +kernel
theorem dX12_taken_11 : decode cX12_taken 11 = .ok (.bipush (-2), 2) := by decide +kernel
theorem dX12_taken_13 : decode cX12_taken 13 = .ok (.ireturn, 1) := by decide +kernel
theorem dX12_taken_14 : decode cX12_taken 14 = .ok (.aload_n 0, 1) := by decide +kernel
theorem dX12_taken_15 : decode cX12_taken 15 = .ok (.iload_n 1, 1) := by decide +kernel
theorem dX12_taken_16 : decode cX12_taken 16 = .ok (.invokevirtual 233, 3) := by decide +kernel
theorem dX12_taken_19 : decode cX12_taken 19 = .ok (.ifCond .ne 6, 3) := by decide +kernel
theorem dX12_taken_22 : decode cX12_taken 22 = .ok (.bipush (-11), 2) := by decide +kernel
theorem dX12_taken_24 : decode cX12_taken 24 = .ok (.ireturn, 1) := by decide +kernel
theorem dX12_taken_25 : decode cX12_taken 25 = .ok (.aload_n 0, 1) := by decide +kernel
theorem dX12_taken_26 : decode cX12_taken 26 = .ok (.getfield 69, 3) := by decide +kernel
theorem dX12_taken_29 : decode cX12_taken 29 = .ok (.iload_n 1, 1) := by decide +kernel
theorem dX12_taken_30 : decode cX12_taken 30 = .ok (.iaload, 1) := by decide +kernel
theorem dX12_taken_31 : decode cX12_taken 31 = .ok (.istore_n 3, 1) := by decide +kernel
theorem dX12_taken_32 : decode cX12_taken 32 = .ok (.iload_n 2, 1) := by decide +kernel
theorem dX12_taken_33 : decode cX12_taken 33 = .ok (.ifCond .eq 28, 3) := by decide +kernel
theorem dX12_taken_36 : decode cX12_taken 36 = .ok (.iload_n 3, 1) := by decide +kernel
theorem dX12_taken_37 : decode cX12_taken 37 = .ok (.iload_n 2, 1) := by decide +kernel
theorem dX12_taken_38 : decode cX12_taken 38 = .ok (.if_icmp .eq 23, 3) := by decide +kernel
theorem dX12_taken_41 : decode cX12_taken 41 = .ok (.iload_n 2, 1) := by decide +kernel
theorem dX12_taken_42 : decode cX12_taken 42 = .ok (.iconst 1, 1) := by decide +kernel
theorem dX12_taken_43 : decode cX12_taken 43 = .ok (.if_icmp .ne 8, 3) := by decide +kernel
theorem dX12_taken_46 : decode cX12_taken 46 = .ok (.iload_n 3, 1) := by decide +kernel
theorem dX12_taken_47 : decode cX12_taken 47 = .ok (.iconst 4, 1) := by decide +kernel
theorem dX12_taken_48 : decode cX12_taken 48 = .ok (.if_icmp .eq 13, 3) := by decide +kernel
theorem dX12_taken_51 : decode cX12_taken 51 = .ok (.iload_n 2, 1) := by decide +kernel
theorem dX12_taken_52 : decode cX12_taken 52 = .ok (.iconst 2, 1) := by decide +kernel
theorem dX12_taken_53 : decode cX12_taken 53 = .ok (.if_icmp .ne 12, 3) := by decide +kernel
theorem dX12_taken_56 : decode cX12_taken 56 = .ok (.iload_n 3, 1) := by decide +kernel
theorem dX12_taken_57 : decode cX12_taken 57 = .ok (.iconst 5, 1) := by decide +kernel
theorem dX12_taken_58 : decode cX12_taken 58 = .ok (.if_icmp .lt 7, 3) := by decide +kernel
theorem dX12_taken_61 : decode cX12_taken 61 = .ok (.iload_n 3, 1) := by decide +kernel
theorem dX12_taken_62 : decode cX12_taken 62 = .ok (.goto 5, 3) := by decide +kernel
theorem dX12_taken_65 : decode cX12_taken 65 = .ok (.bipush (-12), 2) := by decide +kernel
theorem dX12_taken_67 : decode cX12_taken 67 = .ok (.ireturn, 1) := by decide +kernel
set_option maxRecDepth 20000 in
theorem rX12_taken (D : GD) (d : Nat) (a1 : Int32) (a2 : Int32) (M : Mm) (post : Option Value → Mm → Prop) (hL : Lay 62 98 M) 
    (h : AMi D d mX12_in [.ref 62, .int a2, .int (0 : Int32), .int (6 : Int32)] M (fun x2 M1 => ((¬ x2 = 0 → AMi D d mX12_isPlayer [.ref 62, .int a1] M1 (fun x9 M8 => ((¬ x9 = 0 → vp_in a1 11 ∧ ∀ x16 : Int32, x16 = (gI M8 74 a1.toNatClampNeg) → ((a2 = 0 → post (some (.int x16)) M8) ∧ (¬ a2 = 0 → ((x16 = a2 → post (some (.int x16)) M8) ∧ (¬ x16 = a2 → ((¬ a2 = (1 : Int32) → ((¬ a2 = (2 : Int32) → post (some (.int (-12 : Int32))) M8) ∧ (a2 = (2 : Int32) → ((x16 < (5 : Int32) → post (some (.int (-12 : Int32))) M8) ∧ (¬ x16 < (5 : Int32) → post (some (.int x16)) M8))))) ∧ (a2 = (1 : Int32) → ((x16 = (4 : Int32) → post (some (.int x16)) M8) ∧ (¬ x16 = (4 : Int32) → ((¬ a2 = (2 : Int32) → post (some (.int (-12 : Int32))) M8) ∧ (a2 = (2 : Int32) → ((x16 < (5 : Int32) → post (some (.int (-12 : Int32))) M8) ∧ (¬ x16 < (5 : Int32) → post (some (.int x16)) M8))))))))))))) ∧ (x9 = 0 → post (some (.int (-11 : Int32))) M8)))) ∧ (x2 = 0 → post (some (.int (-2 : Int32))) M1)))) :
    AM D (d + 1) 0 0 mX12_taken [.ref 62, .int a1, .int a2] M post := by
  refine AM.of (by decide) (Nat.le_of_ble_eq_true rfl) ?_
  show AW D (d + 1) 0 0 mX12_taken 0 0 0 [(0, .ref 62), (1, .int a1), (2, .int a2)] [] M post
  refine ab_aload_n 0 dX12_taken_0 rfl ?_
  refine ab_iload_n 2 dX12_taken_1 rfl ?_
  refine ab_iconst (v := 0) dX12_taken_2 (by decide) ?_
  refine ab_bipush (v := 6) dX12_taken_3 (by decide) ?_
  refine ab_callV (a := 62) (c0 := 12) (d' := d) (mc' := 0) (ms' := 0) (vs := [.int a2, .int (0 : Int32), .int (6 : Int32)]) (st := []) dX12_taken_5 ⟨cw_X12_in, w_1170⟩ w_1172 w_23 (by decide) (hL.sh 62 rfl (by decide) (by decide)).1 (hL.sh 62 rfl (by decide) (by decide)).2 rfl rfl (Nat.le_of_ble_eq_true rfl) (Nat.le_refl _) (Nat.zero_le _) (Nat.zero_le _) (AM.mono h (fun r M1 ⟨x2, hr3, hc4, h⟩ => ?_))
  subst hr3
  refine ab_rs ?_
  have hm5 : Sm M M1 := (Sm.refl M).trans hc4
  have hl6 := hL.of hm5
  refine ab_if_ne (tgt := 14) dX12_taken_8 (by decide) (fun c7 => ?_) (fun c7 => ?_)
  · have h := h.1 c7
    refine ab_aload_n 0 dX12_taken_14 rfl ?_
    refine ab_iload_n 1 dX12_taken_15 rfl ?_
    refine ab_callV (a := 62) (c0 := 12) (d' := d) (mc' := 0) (ms' := 0) (vs := [.int a1]) (st := []) dX12_taken_16 ⟨cw_X12_isPlayer, w_1247⟩ w_1249 w_37 (by decide) (hl6.sh 62 rfl (by decide) (by decide)).1 (hl6.sh 62 rfl (by decide) (by decide)).2 rfl rfl (Nat.le_of_ble_eq_true rfl) (Nat.le_refl _) (Nat.zero_le _) (Nat.zero_le _) (AM.mono h (fun r M8 ⟨x9, hr10, hc11, h⟩ => ?_))
    subst hr10
    refine ab_rs ?_
    have hm12 : Sm M M8 := hm5.trans hc11
    have hl13 := hL.of hm12
    refine ab_if_ne (tgt := 25) dX12_taken_19 (by decide) (fun c14 => ?_) (fun c14 => ?_)
    · have h := h.1 c14
      refine ab_aload_n 0 dX12_taken_25 rfl ?_
      refine ab_getP (r := 74) dX12_taken_26 fs_12_69_12 rfl (hl13.sh 62 rfl (by decide) (by decide)).1 (hl13.sh 62 rfl (by decide) (by decide)).2 (hl13.pt 72 rfl (by decide) (by decide)) ?_
      refine ab_iload_n 1 dX12_taken_29 rfl ?_
      have hb15 := h.1
      have h := h.2
      refine ab_ialdj (j := a1.toNatClampNeg) dX12_taken_30 (hl13.sh 74 rfl (by decide) (by decide)) hb15 rfl ?_
      refine ab_topi (fun x16 hx16 => ?_)
      have h := h x16 hx16
      refine ab_istore_n (lv1 := [(3, .int x16), (0, .ref 62), (1, .int a1), (2, .int a2)]) dX12_taken_31 (by decide) rfl ?_
      refine ab_iload_n 3 dX12_taken_32 rfl ?_
      refine ab_if_eq (tgt := 61) dX12_taken_33 (by decide) (fun c17 => ?_) (fun c17 => ?_)
      · have h := h.1 c17
        refine ab_iload_n 0 dX12_taken_61 rfl ?_
        refine ab_goto (tgt := 67) dX12_taken_62 (by decide) ?_
        exact ab_iret dX12_taken_67 rfl h
      · have h := h.2 c17
        refine ab_iload_n 0 dX12_taken_36 rfl ?_
        refine ab_iload_n 3 dX12_taken_37 rfl ?_
        refine ab_icmp_eq (tgt := 61) dX12_taken_38 (by decide) (fun c18 => ?_) (fun c18 => ?_)
        · have h := h.1 c18
          refine ab_iload_n 0 dX12_taken_61 rfl ?_
          refine ab_goto (tgt := 67) dX12_taken_62 (by decide) ?_
          exact ab_iret dX12_taken_67 rfl h
        · have h := h.2 c18
          refine ab_iload_n 3 dX12_taken_41 rfl ?_
          refine ab_iconst (v := 1) dX12_taken_42 (by decide) ?_
          refine ab_icmp_ne (tgt := 51) dX12_taken_43 (by decide) (fun c19 => ?_) (fun c19 => ?_)
          · have h := h.1 c19
            refine ab_iload_n 3 dX12_taken_51 rfl ?_
            refine ab_iconst (v := 2) dX12_taken_52 (by decide) ?_
            refine ab_icmp_ne (tgt := 65) dX12_taken_53 (by decide) (fun c20 => ?_) (fun c20 => ?_)
            · have h := h.1 c20
              refine ab_bipush (v := (-12)) dX12_taken_65 (by decide) ?_
              exact ab_iret dX12_taken_67 rfl h
            · have h := h.2 c20
              refine ab_iload_n 0 dX12_taken_56 rfl ?_
              refine ab_iconst (v := 5) dX12_taken_57 (by decide) ?_
              refine ab_icmp_lt (tgt := 65) dX12_taken_58 (by decide) (fun c21 => ?_) (fun c21 => ?_)
              · have h := h.1 c21
                refine ab_bipush (v := (-12)) dX12_taken_65 (by decide) ?_
                exact ab_iret dX12_taken_67 rfl h
              · have h := h.2 c21
                refine ab_iload_n 0 dX12_taken_61 rfl ?_
                refine ab_goto (tgt := 67) dX12_taken_62 (by decide) ?_
                exact ab_iret dX12_taken_67 rfl h
          · have h := h.2 c19
            refine ab_iload_n 0 dX12_taken_46 rfl ?_
            refine ab_iconst (v := 4) dX12_taken_47 (by decide) ?_
            refine ab_icmp_eq (tgt := 61) dX12_taken_48 (by decide) (fun c22 => ?_) (fun c22 => ?_)
            · have h := h.1 c22
              refine ab_iload_n 0 dX12_taken_61 rfl ?_
              refine ab_goto (tgt := 67) dX12_taken_62 (by decide) ?_
              exact ab_iret dX12_taken_67 rfl h
            · have h := h.2 c22
              refine ab_iload_n 3 dX12_taken_51 rfl ?_
              refine ab_iconst (v := 2) dX12_taken_52 (by decide) ?_
              refine ab_icmp_ne (tgt := 65) dX12_taken_53 (by decide) (fun c23 => ?_) (fun c23 => ?_)
              · have h := h.1 c23
                refine ab_bipush (v := (-12)) dX12_taken_65 (by decide) ?_
                exact ab_iret dX12_taken_67 rfl h
              · have h := h.2 c23
                refine ab_iload_n 0 dX12_taken_56 rfl ?_
                refine ab_iconst (v := 5) dX12_taken_57 (by decide) ?_
                refine ab_icmp_lt (tgt := 65) dX12_taken_58 (by decide) (fun c24 => ?_) (fun c24 => ?_)
                · have h := h.1 c24
                  refine ab_bipush (v := (-12)) dX12_taken_65 (by decide) ?_
                  exact ab_iret dX12_taken_67 rfl h
                · have h := h.2 c24
                  refine ab_iload_n 0 dX12_taken_61 rfl ?_
                  refine ab_goto (tgt := 67) dX12_taken_62 (by decide) ?_
                  exact ab_iret dX12_taken_67 rfl h
    · have h := h.2 c14
      refine ab_bipush (v := (-11)) dX12_taken_22 (by decide) ?_
      exact ab_iret dX12_taken_24 rfl h
  · have h := h.2 c7
    refine ab_bipush (v := (-2)) dX12_taken_11 (by decide) ?_
    exact ab_iret dX12_taken_13 rfl h
theorem dX12_count_0 : decode cX12_count 0 = .ok (.iload_n 1, 1) := by decide +kernel
theorem dX12_count_1 : decode cX12_count 1 = .ok (.tableswitch 60 0 4 #[35, 40, 45, 50, 55], 35) := by decide +kernel
theorem dX12_count_36 : decode cX12_count 36 = .ok (.aload_n 0, 1) := by decide +kernel
theorem dX12_count_37 : decode cX12_count 37 = .ok (.getfield 66, 3) := by decide +kernel
theorem dX12_count_40 : decode cX12_count 40 = .ok (.ireturn, 1) := by decide +kernel
theorem dX12_count_41 : decode cX12_count 41 = .ok (.aload_n 0, 1) := by decide +kernel
theorem dX12_count_42 : decode cX12_count 42 = .ok (.getfield 13, 3) := by decide +kernel
theorem dX12_count_45 : decode cX12_count 45 = .ok (.ireturn, 1) := by decide +kernel
theorem dX12_count_46 : decode cX12_count 46 = .ok (.aload_n 0, 1) := by decide +kernel
theorem dX12_count_47 : decode cX12_count 47 = .ok (.getfield 109, 3) := by decide +kernel
theorem dX12_count_50 : decode cX12_count 50 = .ok (.ireturn, 1) := by decide +kernel
theorem dX12_count_51 : decode cX12_count 51 = .ok (.aload_n 0, 1) := by decide +kernel
theorem dX12_count_52 : decode cX12_count 52 = .ok (.getfield 17, 3) := by decide +kernel
theorem dX12_count_55 : decode cX12_count 55 = .ok (.ireturn, 1) := by decide +kernel
theorem dX12_count_56 : decode cX12_count 56 = .ok (.aload_n 0, 1) := by decide +kernel
theorem dX12_count_57 : decode cX12_count 57 = .ok (.getfield 161, 3) := by decide +kernel
theorem dX12_count_60 : decode cX12_count 60 = .ok (.ireturn, 1) := by decide +kernel
theorem dX12_count_61 : decode cX12_count 61 = .ok (.bipush (-2), 2) := by decide +kernel
theorem dX12_count_63 : decode cX12_count 63 = .ok (.ireturn, 1) := by decide +kernel
set_option maxRecDepth 20000 in
theorem rX12_count (D : GD) (d : Nat) (a1 : Int32) (M : Mm) (post : Option Value → Mm → Prop) (hL : Lay 62 98 M) 
    (h : ((a1 = (0 : Int32) → post (some (.int (gI M 62 18))) M) ∧ ((a1 = (1 : Int32) → post (some (.int (gI M 62 1))) M) ∧ ((a1 = (2 : Int32) → post (some (.int (gI M 62 32))) M) ∧ ((a1 = (3 : Int32) → post (some (.int (gI M 62 2))) M) ∧ ((a1 = (4 : Int32) → post (some (.int (gI M 62 49))) M) ∧ ((¬ a1 = (0 : Int32) → ¬ a1 = (1 : Int32) → ¬ a1 = (2 : Int32) → ¬ a1 = (3 : Int32) → ¬ a1 = (4 : Int32) → post (some (.int (-2 : Int32))) M)))))))) :
    AM D d 0 0 mX12_count [.ref 62, .int a1] M post := by
  refine AM.of (by decide) (Nat.le_of_ble_eq_true rfl) ?_
  show AW D d 0 0 mX12_count 0 0 0 [(0, .ref 62), (1, .int a1)] [] M post
  refine ab_iload_n 1 dX12_count_0 rfl ?_
  by_cases c1 : a1 = (0 : Int32)
  · have h := h.1 c1
    refine ab_tableIn (off := (35)) (tgt := 36) dX12_count_1 (by rw [c1]; decide) (by rw [c1]; decide) (by rw [c1]; decide) (by decide) ?_
    refine ab_aload_n 0 dX12_count_36 rfl ?_
    refine ab_getI dX12_count_37 fs_12_66_12 rfl (hL.sh 62 rfl (by decide) (by decide)).1 (hL.sh 62 rfl (by decide) (by decide)).2 ?_
    exact ab_iret dX12_count_40 rfl h
  · have h := h.2
    by_cases c2 : a1 = (1 : Int32)
    · have h := h.1 c2
      refine ab_tableIn (off := (40)) (tgt := 41) dX12_count_1 (by rw [c2]; decide) (by rw [c2]; decide) (by rw [c2]; decide) (by decide) ?_
      refine ab_aload_n 0 dX12_count_41 rfl ?_
      refine ab_getI dX12_count_42 fs_12_13_12 rfl (hL.sh 62 rfl (by decide) (by decide)).1 (hL.sh 62 rfl (by decide) (by decide)).2 ?_
      exact ab_iret dX12_count_45 rfl h
    · have h := h.2
      by_cases c3 : a1 = (2 : Int32)
      · have h := h.1 c3
        refine ab_tableIn (off := (45)) (tgt := 46) dX12_count_1 (by rw [c3]; decide) (by rw [c3]; decide) (by rw [c3]; decide) (by decide) ?_
        refine ab_aload_n 0 dX12_count_46 rfl ?_
        refine ab_getI dX12_count_47 fs_12_109_12 rfl (hL.sh 62 rfl (by decide) (by decide)).1 (hL.sh 62 rfl (by decide) (by decide)).2 ?_
        exact ab_iret dX12_count_50 rfl h
      · have h := h.2
        by_cases c4 : a1 = (3 : Int32)
        · have h := h.1 c4
          refine ab_tableIn (off := (50)) (tgt := 51) dX12_count_1 (by rw [c4]; decide) (by rw [c4]; decide) (by rw [c4]; decide) (by decide) ?_
          refine ab_aload_n 0 dX12_count_51 rfl ?_
          refine ab_getI dX12_count_52 fs_12_17_12 rfl (hL.sh 62 rfl (by decide) (by decide)).1 (hL.sh 62 rfl (by decide) (by decide)).2 ?_
          exact ab_iret dX12_count_55 rfl h
        · have h := h.2
          by_cases c5 : a1 = (4 : Int32)
          · have h := h.1 c5
            refine ab_tableIn (off := (55)) (tgt := 56) dX12_count_1 (by rw [c5]; decide) (by rw [c5]; decide) (by rw [c5]; decide) (by decide) ?_
            refine ab_aload_n 0 dX12_count_56 rfl ?_
            refine ab_getI dX12_count_57 fs_12_161_12 rfl (hL.sh 62 rfl (by decide) (by decide)).1 (hL.sh 62 rfl (by decide) (by decide)).2 ?_
            exact ab_iret dX12_count_60 rfl h
          · have h := h.2
            have h := h c1 c2 c3 c4 c5
            refine ab_tableOut (tgt := 61) dX12_count_1 (by have e0 := lv_neT (a := 0) c1 (by decide); have e1 := lv_neT (a := 1) c2 (by decide); have e2 := lv_neT (a := 2) c3 (by decide); have e3 := lv_neT (a := 3) c4 (by decide); have e4 := lv_neT (a := 4) c5 (by decide); omega) (by decide) ?_
            refine ab_bipush (v := (-2)) dX12_count_61 (by decide) ?_
            exact ab_iret dX12_count_63 rfl h
theorem dX12_isTape_0 : decode cX12_isTape 0 = .ok (.aload_n 0, 1) := by decide +kernel
theorem dX12_isTape_1 : decode cX12_isTape 1 = .ok (.iload_n 1, 1) := by decide +kernel
theorem dX12_isTape_2 : decode cX12_isTape 2 = .ok (.iconst 0, 1) := by decide +kernel
theorem dX12_isTape_3 : decode cX12_isTape 3 = .ok (.iconst 5, 1) := by decide +kernel
theorem dX12_isTape_4 : decode cX12_isTape 4 = .ok (.invokevirtual 180, 3) := by decide +kernel
theorem dX12_isTape_7 : decode cX12_isTape 7 = .ok (.ireturn, 1) := by decide +kernel
set_option maxRecDepth 20000 in
theorem rX12_isTape (D : GD) (d : Nat) (a1 : Int32) (M : Mm) (post : Option Value → Mm → Prop) (hL : Lay 62 98 M) 
    (h : AMi D d mX12_in [.ref 62, .int a1, .int (0 : Int32), .int (5 : Int32)] M (fun x2 M1 => (x2 = 0 ∨ x2 = 1) ∧ post (some (.int x2)) M1)) :
    AM D (d + 1) 0 0 mX12_isTape [.ref 62, .int a1] M post := by
  refine AM.of (by decide) (Nat.le_of_ble_eq_true rfl) ?_
  show AW D (d + 1) 0 0 mX12_isTape 0 0 0 [(0, .ref 62), (1, .int a1)] [] M post
  refine ab_aload_n 0 dX12_isTape_0 rfl ?_
  refine ab_iload_n 1 dX12_isTape_1 rfl ?_
  refine ab_iconst (v := 0) dX12_isTape_2 (by decide) ?_
  refine ab_iconst (v := 5) dX12_isTape_3 (by decide) ?_
  refine ab_callV (a := 62) (c0 := 12) (d' := d) (mc' := 0) (ms' := 0) (vs := [.int a1, .int (0 : Int32), .int (5 : Int32)]) (st := []) dX12_isTape_4 ⟨cw_X12_in, w_1170⟩ w_1172 w_23 (by decide) (hL.sh 62 rfl (by decide) (by decide)).1 (hL.sh 62 rfl (by decide) (by decide)).2 rfl rfl (Nat.le_of_ble_eq_true rfl) (Nat.le_refl _) (Nat.zero_le _) (Nat.zero_le _) (AM.mono h (fun r M1 ⟨x2, hr3, hc4, h⟩ => ?_))
  subst hr3
  refine ab_rs ?_
  have hm5 : Sm M M1 := (Sm.refl M).trans hc4
  have hl6 := hL.of hm5
  exact ab_zret dX12_isTape_7 rfl (nar_z h.1) h.2
theorem dX12_tape_0 : decode cX12_tape 0 = .ok (.aload_n 0, 1) := by decide +kernel
theorem dX12_tape_1 : decode cX12_tape 1 = .ok (.iload_n 1, 1) := by decide +kernel
theorem dX12_tape_2 : decode cX12_tape 2 = .ok (.invokevirtual 345, 3) := by decide +kernel
theorem dX12_tape_5 : decode cX12_tape 5 = .ok (.ifCond .ne 5, 3) := by decide +kernel
theorem dX12_tape_8 : decode cX12_tape 8 = .ok (.iconst (-1), 1) := by decide +kernel
theorem dX12_tape_9 : decode cX12_tape 9 = .ok (.ireturn, 1) := by decide +kernel
theorem dX12_tape_10 : decode cX12_tape 10 = .ok (.aload_n 0, 1) := by decide +kernel
theorem dX12_tape_11 : decode cX12_tape 11 = .ok (.iload_n 2, 1) := by decide +kernel
theorem dX12_tape_12 : decode cX12_tape 12 = .ok (.iconst (-1), 1) := by decide +kernel
theorem dX12_tape_13 : decode cX12_tape 13 = .ok (.iconst 4, 1) := by decide +kernel
theorem dX12_tape_14 : decode cX12_tape 14 = .ok (.invokevirtual 180, 3) := by decide +kernel
theorem dX12_tape_17 : decode cX12_tape 17 = .ok (.ifCond .eq 13, 3) := by decide +kernel
theorem dX12_tape_20 : decode cX12_tape 20 = .ok (.iload_n 2, 1) := by decide +kernel
theorem dX12_tape_21 : decode cX12_tape 21 = .ok (.ifCond .lt 12, 3) := by decide +kernel
theorem dX12_tape_24 : decode cX12_tape 24 = .ok (.iload_n 3, 1) := by decide +kernel
theorem dX12_tape_25 : decode cX12_tape 25 = .ok (.bipush 60, 2) := by decide +kernel
theorem dX12_tape_27 : decode cX12_tape 27 = .ok (.if_icmp .le 6, 3) := by decide +kernel
theorem dX12_tape_30 : decode cX12_tape 30 = .ok (.bipush (-2), 2) := by decide +kernel
theorem dX12_tape_32 : decode cX12_tape 32 = .ok (.ireturn, 1) := by decide +kernel
theorem dX12_tape_33 : decode cX12_tape 33 = .ok (.iload_n 2, 1) := by decide +kernel
theorem dX12_tape_34 : decode cX12_tape 34 = .ok (.ifCond .lt 10, 3) := by decide +kernel
theorem dX12_tape_37 : decode cX12_tape 37 = .ok (.iload_n 3, 1) := by decide +kernel
theorem dX12_tape_38 : decode cX12_tape 38 = .ok (.ifCond .ge 6, 3) := by decide +kernel
theorem dX12_tape_41 : decode cX12_tape 41 = .ok (.bipush (-14), 2) := by decide +kernel
theorem dX12_tape_43 : decode cX12_tape 43 = .ok (.ireturn, 1) := by decide +kernel
theorem dX12_tape_44 : decode cX12_tape 44 = .ok (.aload_n 0, 1) := by decide +kernel
theorem dX12_tape_45 : decode cX12_tape 45 = .ok (.getfield 167, 3) := by decide +kernel
theorem dX12_tape_48 : decode cX12_tape 48 = .ok (.iload_n 1, 1) := by decide +kernel
theorem dX12_tape_49 : decode cX12_tape 49 = .ok (.iload_n 2, 1) := by decide +kernel
theorem dX12_tape_50 : decode cX12_tape 50 = .ok (.iastore, 1) := by decide +kernel
theorem dX12_tape_51 : decode cX12_tape 51 = .ok (.aload_n 0, 1) := by decide +kernel
theorem dX12_tape_52 : decode cX12_tape 52 = .ok (.getfield 170, 3) := by decide +kernel
theorem dX12_tape_55 : decode cX12_tape 55 = .ok (.iload_n 1, 1) := by decide +kernel
theorem dX12_tape_56 : decode cX12_tape 56 = .ok (.iload_n 2, 1) := by decide +kernel
theorem dX12_tape_57 : decode cX12_tape 57 = .ok (.ifCond .ge 7, 3) := by decide +kernel
theorem dX12_tape_60 : decode cX12_tape 60 = .ok (.iconst 0, 1) := by decide +kernel
theorem dX12_tape_61 : decode cX12_tape 61 = .ok (.goto 4, 3) := by decide +kernel
theorem dX12_tape_64 : decode cX12_tape 64 = .ok (.iload_n 3, 1) := by decide +kernel
theorem dX12_tape_65 : decode cX12_tape 65 = .ok (.iastore, 1) := by decide +kernel
theorem dX12_tape_66 : decode cX12_tape 66 = .ok (.iconst 0, 1) := by decide +kernel
theorem dX12_tape_67 : decode cX12_tape 67 = .ok (.istore 4, 2) := by decide +kernel
theorem dX12_tape_69 : decode cX12_tape 69 = .ok (.iload 4, 2) := by decide +kernel
theorem dX12_tape_71 : decode cX12_tape 71 = .ok (.bipush 60, 2) := by decide +kernel
theorem dX12_tape_73 : decode cX12_tape 73 = .ok (.if_icmp .ge 22, 3) := by decide +kernel
theorem dX12_tape_76 : decode cX12_tape 76 = .ok (.aload_n 0, 1) := by decide +kernel
theorem dX12_tape_77 : decode cX12_tape 77 = .ok (.getfield 173, 3) := by decide +kernel
theorem dX12_tape_80 : decode cX12_tape 80 = .ok (.bipush 60, 2) := by decide +kernel
theorem dX12_tape_82 : decode cX12_tape 82 = .ok (.iload_n 1, 1) := by decide +kernel
theorem dX12_tape_83 : decode cX12_tape 83 = .ok (.imul, 1) := by decide +kernel
theorem dX12_tape_84 : decode cX12_tape 84 = .ok (.iload 4, 2) := by decide +kernel
theorem dX12_tape_86 : decode cX12_tape 86 = .ok (.iadd, 1) := by decide +kernel
theorem dX12_tape_87 : decode cX12_tape 87 = .ok (.lconst 0, 1) := by decide +kernel
theorem dX12_tape_88 : decode cX12_tape 88 = .ok (.lastore, 1) := by decide +kernel
theorem dX12_tape_89 : decode cX12_tape 89 = .ok (.iinc 4 1, 3) := by decide +kernel
theorem dX12_tape_92 : decode cX12_tape 92 = .ok (.goto (-23), 3) := by decide +kernel
theorem dX12_tape_95 : decode cX12_tape 95 = .ok (.iconst 1, 1) := by decide +kernel
theorem dX12_tape_96 : decode cX12_tape 96 = .ok (.ireturn, 1) := by decide +kernel
def LX12_tape_69 (D : GD) (d : Nat) (v1 : Int32) (v4 : Int32) (M : Mm) (post : Option Value → Mm → Prop) : Prop := AW D (d + 1) 0 0 mX12_tape 0 0 69 [(0, .ref 62), (1, .int v1), (4, .int v4)] [] M post
set_option maxRecDepth 20000 in
theorem rX12_tape (D : GD) (d : Nat) (a1 : Int32) (a2 : Int32) (a3 : Int32) (M : Mm) (post : Option Value → Mm → Prop) (hL : Lay 62 98 M) 
    (h : AMi D d mX12_isTape [.ref 62, .int a1] M (fun x2 M1 => ((¬ x2 = 0 → AMi D d mX12_in [.ref 62, .int a2, .int (-1 : Int32), .int (4 : Int32)] M1 (fun x9 M8 => ((x9 = 0 → post (some (.int (-2 : Int32))) M8) ∧ (¬ x9 = 0 → ((a2 < 0 → ((a2 < 0 → vp_in a1 6 ∧ ∀ M18 : Mm, M18 = sI M8 94 a1.toNatClampNeg a2 → ((0 ≤ a2 → ∀ M23 : Mm, M23 = sI M18 95 a1.toNatClampNeg a3 → LX12_tape_69 D d a1 (0 : Int32) M23 post) ∧ (¬ 0 ≤ a2 → ∀ M27 : Mm, M27 = sI M18 95 a1.toNatClampNeg (0 : Int32) → LX12_tape_69 D d a1 (0 : Int32) M27 post))) ∧ (¬ a2 < 0 → ((0 ≤ a3 → vp_in a1 6 ∧ ∀ M33 : Mm, M33 = sI M8 94 a1.toNatClampNeg a2 → ((0 ≤ a2 → ∀ M38 : Mm, M38 = sI M33 95 a1.toNatClampNeg a3 → LX12_tape_69 D d a1 (0 : Int32) M38 post) ∧ (¬ 0 ≤ a2 → ∀ M42 : Mm, M42 = sI M33 95 a1.toNatClampNeg (0 : Int32) → LX12_tape_69 D d a1 (0 : Int32) M42 post))) ∧ (¬ 0 ≤ a3 → post (some (.int (-14 : Int32))) M8))))) ∧ (¬ a2 < 0 → ((a3 ≤ (60 : Int32) → ((a2 < 0 → vp_in a1 6 ∧ ∀ M49 : Mm, M49 = sI M8 94 a1.toNatClampNeg a2 → ((0 ≤ a2 → ∀ M54 : Mm, M54 = sI M49 95 a1.toNatClampNeg a3 → LX12_tape_69 D d a1 (0 : Int32) M54 post) ∧ (¬ 0 ≤ a2 → ∀ M58 : Mm, M58 = sI M49 95 a1.toNatClampNeg (0 : Int32) → LX12_tape_69 D d a1 (0 : Int32) M58 post))) ∧ (¬ a2 < 0 → ((0 ≤ a3 → vp_in a1 6 ∧ ∀ M64 : Mm, M64 = sI M8 94 a1.toNatClampNeg a2 → ((0 ≤ a2 → ∀ M69 : Mm, M69 = sI M64 95 a1.toNatClampNeg a3 → LX12_tape_69 D d a1 (0 : Int32) M69 post) ∧ (¬ 0 ≤ a2 → ∀ M73 : Mm, M73 = sI M64 95 a1.toNatClampNeg (0 : Int32) → LX12_tape_69 D d a1 (0 : Int32) M73 post))) ∧ (¬ 0 ≤ a3 → post (some (.int (-14 : Int32))) M8))))) ∧ (¬ a3 ≤ (60 : Int32) → post (some (.int (-2 : Int32))) M8)))))))) ∧ (x2 = 0 → post (some (.int (-1 : Int32))) M1)))) :
    AM D (d + 1) 0 0 mX12_tape [.ref 62, .int a1, .int a2, .int a3] M post := by
  refine AM.of (by decide) (Nat.le_of_ble_eq_true rfl) ?_
  show AW D (d + 1) 0 0 mX12_tape 0 0 0 [(0, .ref 62), (1, .int a1), (2, .int a2), (3, .int a3)] [] M post
  refine ab_aload_n 0 dX12_tape_0 rfl ?_
  refine ab_iload_n 1 dX12_tape_1 rfl ?_
  refine ab_callV (a := 62) (c0 := 12) (d' := d) (mc' := 0) (ms' := 0) (vs := [.int a1]) (st := []) dX12_tape_2 ⟨cw_X12_isTape, w_1439⟩ w_1441 w_67 (by decide) (hL.sh 62 rfl (by decide) (by decide)).1 (hL.sh 62 rfl (by decide) (by decide)).2 rfl rfl (Nat.le_of_ble_eq_true rfl) (Nat.le_refl _) (Nat.zero_le _) (Nat.zero_le _) (AM.mono h (fun r M1 ⟨x2, hr3, hc4, h⟩ => ?_))
  subst hr3
  refine ab_rs ?_
  have hm5 : Sm M M1 := (Sm.refl M).trans hc4
  have hl6 := hL.of hm5
  refine ab_if_ne (tgt := 10) dX12_tape_5 (by decide) (fun c7 => ?_) (fun c7 => ?_)
  · have h := h.1 c7
    refine ab_aload_n 0 dX12_tape_10 rfl ?_
    refine ab_iload_n 2 dX12_tape_11 rfl ?_
    refine ab_iconst (v := (-1)) dX12_tape_12 (by decide) ?_
    refine ab_iconst (v := 4) dX12_tape_13 (by decide) ?_
    refine ab_callV (a := 62) (c0 := 12) (d' := d) (mc' := 0) (ms' := 0) (vs := [.int a2, .int (-1 : Int32), .int (4 : Int32)]) (st := []) dX12_tape_14 ⟨cw_X12_in, w_1170⟩ w_1172 w_23 (by decide) (hl6.sh 62 rfl (by decide) (by decide)).1 (hl6.sh 62 rfl (by decide) (by decide)).2 rfl rfl (Nat.le_of_ble_eq_true rfl) (Nat.le_refl _) (Nat.zero_le _) (Nat.zero_le _) (AM.mono h (fun r M8 ⟨x9, hr10, hc11, h⟩ => ?_))
    subst hr10
    refine ab_rs ?_
    have hm12 : Sm M M8 := hm5.trans hc11
    have hl13 := hL.of hm12
    refine ab_if_eq (tgt := 30) dX12_tape_17 (by decide) (fun c14 => ?_) (fun c14 => ?_)
    · have h := h.1 c14
      refine ab_bipush (v := (-2)) dX12_tape_30 (by decide) ?_
      exact ab_iret dX12_tape_32 rfl h
    · have h := h.2 c14
      refine ab_iload_n 2 dX12_tape_20 rfl ?_
      refine ab_if_lt (tgt := 33) dX12_tape_21 (by decide) (fun c15 => ?_) (fun c15 => ?_)
      · have h := h.1 c15
        refine ab_iload_n 2 dX12_tape_33 rfl ?_
        refine ab_if_lt (tgt := 44) dX12_tape_34 (by decide) (fun c16 => ?_) (fun c16 => ?_)
        · have h := h.1 c16
          refine ab_aload_n 0 dX12_tape_44 rfl ?_
          refine ab_getP (r := 94) dX12_tape_45 fs_12_167_12 rfl (hl13.sh 62 rfl (by decide) (by decide)).1 (hl13.sh 62 rfl (by decide) (by decide)).2 (hl13.pt 92 rfl (by decide) (by decide)) ?_
          refine ab_iload_n 1 dX12_tape_48 rfl ?_
          refine ab_iload_n 2 dX12_tape_49 rfl ?_
          have hb17 := h.1
          have h := h.2
          refine ab_iastj (j := a1.toNatClampNeg) dX12_tape_50 (hl13.sh 94 rfl (by decide) (by decide)) hb17 rfl ?_
          refine ab_nameM (fun M18 hM18 => ?_)
          have h := h M18 hM18
          have hs21 : Sm M8 M18 := hM18 ▸ (Sm.refl _).i
          have hm19 : Sm M M18 := hm12.trans hs21
          have hl20 := hL.of hm19
          refine ab_aload_n 0 dX12_tape_51 rfl ?_
          refine ab_getP (r := 95) dX12_tape_52 fs_12_170_12 rfl (hl20.sh 62 rfl (by decide) (by decide)).1 (hl20.sh 62 rfl (by decide) (by decide)).2 (hl20.pt 93 rfl (by decide) (by decide)) ?_
          refine ab_iload_n 1 dX12_tape_55 rfl ?_
          refine ab_iload_n 2 dX12_tape_56 rfl ?_
          refine ab_if_ge (tgt := 64) dX12_tape_57 (by decide) (fun c22 => ?_) (fun c22 => ?_)
          · have h := h.1 c22
            refine ab_iload_n 3 dX12_tape_64 rfl ?_
            refine ab_iastj (j := a1.toNatClampNeg) dX12_tape_65 (hl20.sh 95 rfl (by decide) (by decide)) hb17 rfl ?_
            refine ab_nameM (fun M23 hM23 => ?_)
            have h := h M23 hM23
            have hs26 : Sm M18 M23 := hM23 ▸ (Sm.refl _).i
            have hm24 : Sm M M23 := hm19.trans hs26
            have hl25 := hL.of hm24
            refine ab_iconst (v := 0) dX12_tape_66 (by decide) ?_
            refine ab_istore (lv1 := [(4, .int (0 : Int32)), (0, .ref 62), (1, .int a1), (2, .int a2), (3, .int a3)]) dX12_tape_67 (by decide) rfl ?_
            exact ab_sub [1, 2, 0] rfl h
          · have h := h.2 c22
            refine ab_iconst (v := 0) dX12_tape_60 (by decide) ?_
            refine ab_goto (tgt := 65) dX12_tape_61 (by decide) ?_
            refine ab_iastj (j := a1.toNatClampNeg) dX12_tape_65 (hl20.sh 95 rfl (by decide) (by decide)) hb17 rfl ?_
            refine ab_nameM (fun M27 hM27 => ?_)
            have h := h M27 hM27
            have hs30 : Sm M18 M27 := hM27 ▸ (Sm.refl _).i
            have hm28 : Sm M M27 := hm19.trans hs30
            have hl29 := hL.of hm28
            refine ab_iconst (v := 0) dX12_tape_66 (by decide) ?_
            refine ab_istore (lv1 := [(4, .int (0 : Int32)), (0, .ref 62), (1, .int a1), (2, .int a2), (3, .int a3)]) dX12_tape_67 (by decide) rfl ?_
            exact ab_sub [1, 2, 0] rfl h
        · have h := h.2 c16
          refine ab_iload_n 3 dX12_tape_37 rfl ?_
          refine ab_if_ge (tgt := 44) dX12_tape_38 (by decide) (fun c31 => ?_) (fun c31 => ?_)
          · have h := h.1 c31
            refine ab_aload_n 0 dX12_tape_44 rfl ?_
            refine ab_getP (r := 94) dX12_tape_45 fs_12_167_12 rfl (hl13.sh 62 rfl (by decide) (by decide)).1 (hl13.sh 62 rfl (by decide) (by decide)).2 (hl13.pt 92 rfl (by decide) (by decide)) ?_
            refine ab_iload_n 1 dX12_tape_48 rfl ?_
            refine ab_iload_n 2 dX12_tape_49 rfl ?_
            have hb32 := h.1
            have h := h.2
            refine ab_iastj (j := a1.toNatClampNeg) dX12_tape_50 (hl13.sh 94 rfl (by decide) (by decide)) hb32 rfl ?_
            refine ab_nameM (fun M33 hM33 => ?_)
            have h := h M33 hM33
            have hs36 : Sm M8 M33 := hM33 ▸ (Sm.refl _).i
            have hm34 : Sm M M33 := hm12.trans hs36
            have hl35 := hL.of hm34
            refine ab_aload_n 0 dX12_tape_51 rfl ?_
            refine ab_getP (r := 95) dX12_tape_52 fs_12_170_12 rfl (hl35.sh 62 rfl (by decide) (by decide)).1 (hl35.sh 62 rfl (by decide) (by decide)).2 (hl35.pt 93 rfl (by decide) (by decide)) ?_
            refine ab_iload_n 1 dX12_tape_55 rfl ?_
            refine ab_iload_n 2 dX12_tape_56 rfl ?_
            refine ab_if_ge (tgt := 64) dX12_tape_57 (by decide) (fun c37 => ?_) (fun c37 => ?_)
            · have h := h.1 c37
              refine ab_iload_n 3 dX12_tape_64 rfl ?_
              refine ab_iastj (j := a1.toNatClampNeg) dX12_tape_65 (hl35.sh 95 rfl (by decide) (by decide)) hb32 rfl ?_
              refine ab_nameM (fun M38 hM38 => ?_)
              have h := h M38 hM38
              have hs41 : Sm M33 M38 := hM38 ▸ (Sm.refl _).i
              have hm39 : Sm M M38 := hm34.trans hs41
              have hl40 := hL.of hm39
              refine ab_iconst (v := 0) dX12_tape_66 (by decide) ?_
              refine ab_istore (lv1 := [(4, .int (0 : Int32)), (0, .ref 62), (1, .int a1), (2, .int a2), (3, .int a3)]) dX12_tape_67 (by decide) rfl ?_
              exact ab_sub [1, 2, 0] rfl h
            · have h := h.2 c37
              refine ab_iconst (v := 0) dX12_tape_60 (by decide) ?_
              refine ab_goto (tgt := 65) dX12_tape_61 (by decide) ?_
              refine ab_iastj (j := a1.toNatClampNeg) dX12_tape_65 (hl35.sh 95 rfl (by decide) (by decide)) hb32 rfl ?_
              refine ab_nameM (fun M42 hM42 => ?_)
              have h := h M42 hM42
              have hs45 : Sm M33 M42 := hM42 ▸ (Sm.refl _).i
              have hm43 : Sm M M42 := hm34.trans hs45
              have hl44 := hL.of hm43
              refine ab_iconst (v := 0) dX12_tape_66 (by decide) ?_
              refine ab_istore (lv1 := [(4, .int (0 : Int32)), (0, .ref 62), (1, .int a1), (2, .int a2), (3, .int a3)]) dX12_tape_67 (by decide) rfl ?_
              exact ab_sub [1, 2, 0] rfl h
          · have h := h.2 c31
            refine ab_bipush (v := (-14)) dX12_tape_41 (by decide) ?_
            exact ab_iret dX12_tape_43 rfl h
      · have h := h.2 c15
        refine ab_iload_n 3 dX12_tape_24 rfl ?_
        refine ab_bipush (v := 60) dX12_tape_25 (by decide) ?_
        refine ab_icmp_le (tgt := 33) dX12_tape_27 (by decide) (fun c46 => ?_) (fun c46 => ?_)
        · have h := h.1 c46
          refine ab_iload_n 2 dX12_tape_33 rfl ?_
          refine ab_if_lt (tgt := 44) dX12_tape_34 (by decide) (fun c47 => ?_) (fun c47 => ?_)
          · have h := h.1 c47
            refine ab_aload_n 0 dX12_tape_44 rfl ?_
            refine ab_getP (r := 94) dX12_tape_45 fs_12_167_12 rfl (hl13.sh 62 rfl (by decide) (by decide)).1 (hl13.sh 62 rfl (by decide) (by decide)).2 (hl13.pt 92 rfl (by decide) (by decide)) ?_
            refine ab_iload_n 1 dX12_tape_48 rfl ?_
            refine ab_iload_n 2 dX12_tape_49 rfl ?_
            have hb48 := h.1
            have h := h.2
            refine ab_iastj (j := a1.toNatClampNeg) dX12_tape_50 (hl13.sh 94 rfl (by decide) (by decide)) hb48 rfl ?_
            refine ab_nameM (fun M49 hM49 => ?_)
            have h := h M49 hM49
            have hs52 : Sm M8 M49 := hM49 ▸ (Sm.refl _).i
            have hm50 : Sm M M49 := hm12.trans hs52
            have hl51 := hL.of hm50
            refine ab_aload_n 0 dX12_tape_51 rfl ?_
            refine ab_getP (r := 95) dX12_tape_52 fs_12_170_12 rfl (hl51.sh 62 rfl (by decide) (by decide)).1 (hl51.sh 62 rfl (by decide) (by decide)).2 (hl51.pt 93 rfl (by decide) (by decide)) ?_
            refine ab_iload_n 1 dX12_tape_55 rfl ?_
            refine ab_iload_n 2 dX12_tape_56 rfl ?_
            refine ab_if_ge (tgt := 64) dX12_tape_57 (by decide) (fun c53 => ?_) (fun c53 => ?_)
            · have h := h.1 c53
              refine ab_iload_n 3 dX12_tape_64 rfl ?_
              refine ab_iastj (j := a1.toNatClampNeg) dX12_tape_65 (hl51.sh 95 rfl (by decide) (by decide)) hb48 rfl ?_
              refine ab_nameM (fun M54 hM54 => ?_)
              have h := h M54 hM54
              have hs57 : Sm M49 M54 := hM54 ▸ (Sm.refl _).i
              have hm55 : Sm M M54 := hm50.trans hs57
              have hl56 := hL.of hm55
              refine ab_iconst (v := 0) dX12_tape_66 (by decide) ?_
              refine ab_istore (lv1 := [(4, .int (0 : Int32)), (0, .ref 62), (1, .int a1), (2, .int a2), (3, .int a3)]) dX12_tape_67 (by decide) rfl ?_
              exact ab_sub [1, 2, 0] rfl h
            · have h := h.2 c53
              refine ab_iconst (v := 0) dX12_tape_60 (by decide) ?_
              refine ab_goto (tgt := 65) dX12_tape_61 (by decide) ?_
              refine ab_iastj (j := a1.toNatClampNeg) dX12_tape_65 (hl51.sh 95 rfl (by decide) (by decide)) hb48 rfl ?_
              refine ab_nameM (fun M58 hM58 => ?_)
              have h := h M58 hM58
              have hs61 : Sm M49 M58 := hM58 ▸ (Sm.refl _).i
              have hm59 : Sm M M58 := hm50.trans hs61
              have hl60 := hL.of hm59
              refine ab_iconst (v := 0) dX12_tape_66 (by decide) ?_
              refine ab_istore (lv1 := [(4, .int (0 : Int32)), (0, .ref 62), (1, .int a1), (2, .int a2), (3, .int a3)]) dX12_tape_67 (by decide) rfl ?_
              exact ab_sub [1, 2, 0] rfl h
          · have h := h.2 c47
            refine ab_iload_n 3 dX12_tape_37 rfl ?_
            refine ab_if_ge (tgt := 44) dX12_tape_38 (by decide) (fun c62 => ?_) (fun c62 => ?_)
            · have h := h.1 c62
              refine ab_aload_n 0 dX12_tape_44 rfl ?_
              refine ab_getP (r := 94) dX12_tape_45 fs_12_167_12 rfl (hl13.sh 62 rfl (by decide) (by decide)).1 (hl13.sh 62 rfl (by decide) (by decide)).2 (hl13.pt 92 rfl (by decide) (by decide)) ?_
              refine ab_iload_n 1 dX12_tape_48 rfl ?_
              refine ab_iload_n 2 dX12_tape_49 rfl ?_
              have hb63 := h.1
              have h := h.2
              refine ab_iastj (j := a1.toNatClampNeg) dX12_tape_50 (hl13.sh 94 rfl (by decide) (by decide)) hb63 rfl ?_
              refine ab_nameM (fun M64 hM64 => ?_)
              have h := h M64 hM64
              have hs67 : Sm M8 M64 := hM64 ▸ (Sm.refl _).i
              have hm65 : Sm M M64 := hm12.trans hs67
              have hl66 := hL.of hm65
              refine ab_aload_n 0 dX12_tape_51 rfl ?_
              refine ab_getP (r := 95) dX12_tape_52 fs_12_170_12 rfl (hl66.sh 62 rfl (by decide) (by decide)).1 (hl66.sh 62 rfl (by decide) (by decide)).2 (hl66.pt 93 rfl (by decide) (by decide)) ?_
              refine ab_iload_n 1 dX12_tape_55 rfl ?_
              refine ab_iload_n 2 dX12_tape_56 rfl ?_
              refine ab_if_ge (tgt := 64) dX12_tape_57 (by decide) (fun c68 => ?_) (fun c68 => ?_)
              · have h := h.1 c68
                refine ab_iload_n 3 dX12_tape_64 rfl ?_
                refine ab_iastj (j := a1.toNatClampNeg) dX12_tape_65 (hl66.sh 95 rfl (by decide) (by decide)) hb63 rfl ?_
                refine ab_nameM (fun M69 hM69 => ?_)
                have h := h M69 hM69
                have hs72 : Sm M64 M69 := hM69 ▸ (Sm.refl _).i
                have hm70 : Sm M M69 := hm65.trans hs72
                have hl71 := hL.of hm70
                refine ab_iconst (v := 0) dX12_tape_66 (by decide) ?_
                refine ab_istore (lv1 := [(4, .int (0 : Int32)), (0, .ref 62), (1, .int a1), (2, .int a2), (3, .int a3)]) dX12_tape_67 (by decide) rfl ?_
                exact ab_sub [1, 2, 0] rfl h
              · have h := h.2 c68
                refine ab_iconst (v := 0) dX12_tape_60 (by decide) ?_
                refine ab_goto (tgt := 65) dX12_tape_61 (by decide) ?_
                refine ab_iastj (j := a1.toNatClampNeg) dX12_tape_65 (hl66.sh 95 rfl (by decide) (by decide)) hb63 rfl ?_
                refine ab_nameM (fun M73 hM73 => ?_)
                have h := h M73 hM73
                have hs76 : Sm M64 M73 := hM73 ▸ (Sm.refl _).i
                have hm74 : Sm M M73 := hm65.trans hs76
                have hl75 := hL.of hm74
                refine ab_iconst (v := 0) dX12_tape_66 (by decide) ?_
                refine ab_istore (lv1 := [(4, .int (0 : Int32)), (0, .ref 62), (1, .int a1), (2, .int a2), (3, .int a3)]) dX12_tape_67 (by decide) rfl ?_
                exact ab_sub [1, 2, 0] rfl h
            · have h := h.2 c62
              refine ab_bipush (v := (-14)) dX12_tape_41 (by decide) ?_
              exact ab_iret dX12_tape_43 rfl h
        · have h := h.2 c46
          refine ab_bipush (v := (-2)) dX12_tape_30 (by decide) ?_
          exact ab_iret dX12_tape_32 rfl h
  · have h := h.2 c7
    refine ab_iconst (v := (-1)) dX12_tape_8 (by decide) ?_
    exact ab_iret dX12_tape_9 rfl h
set_option maxRecDepth 20000 in
theorem rX12_tape_69 (D : GD) (d : Nat)  (v1 : Int32) (v4 : Int32) (M : Mm) (post : Option Value → Mm → Prop) (hL : Lay 62 98 M) 
    (h : (((60 : Int32) ≤ v4 → post (some (.int (1 : Int32))) M) ∧ (¬ (60 : Int32) ≤ v4 → vp_in (((60 : Int32) * v1) + v4) 360 ∧ ∀ M3 : Mm, M3 = sL M 96 ((((60 : Int32) * v1) + v4).toNatClampNeg) (0 : Int64) → ∀ x7 : Int32, x7 = v4 + (1 : Int32) → LX12_tape_69 D d v1 x7 M3 post))) :
    LX12_tape_69 D d v1 v4 M post := by
  show AW D (d + 1) 0 0 mX12_tape 0 0 69 [(0, .ref 62), (1, .int v1), (4, .int v4)] [] M post
  refine ab_iload 2 dX12_tape_69 rfl ?_
  refine ab_bipush (v := 60) dX12_tape_71 (by decide) ?_
  refine ab_icmp_ge (tgt := 95) dX12_tape_73 (by decide) (fun c1 => ?_) (fun c1 => ?_)
  · have h := h.1 c1
    refine ab_iconst (v := 1) dX12_tape_95 (by decide) ?_
    exact ab_iret dX12_tape_96 rfl h
  · have h := h.2 c1
    refine ab_aload_n 0 dX12_tape_76 rfl ?_
    refine ab_getP (r := 96) dX12_tape_77 fs_12_173_12 rfl (hL.sh 62 rfl (by decide) (by decide)).1 (hL.sh 62 rfl (by decide) (by decide)).2 (hL.pt 94 rfl (by decide) (by decide)) ?_
    refine ab_bipush (v := 60) dX12_tape_80 (by decide) ?_
    refine ab_iload_n 1 dX12_tape_82 rfl ?_
    refine ab_imul dX12_tape_83 ?_
    refine ab_iload 2 dX12_tape_84 rfl ?_
    refine ab_iadd dX12_tape_86 ?_
    refine ab_lconst (v := 0) dX12_tape_87 (by decide) ?_
    have hb2 := h.1
    have h := h.2
    refine ab_lastj (j := (((60 : Int32) * v1) + v4).toNatClampNeg) dX12_tape_88 (hL.sh 96 rfl (by decide) (by decide)) hb2 rfl ?_
    refine ab_nameM (fun M3 hM3 => ?_)
    have h := h M3 hM3
    have hs6 : Sm M M3 := hM3 ▸ (Sm.refl _).l
    have hm4 : Sm M M3 := (Sm.refl M).trans hs6
    have hl5 := hL.of hm4
    obtain ⟨x7, hx7⟩ : ∃ y : Int32, y = v4 + (1 : Int32) := ⟨_, rfl⟩
    have h := h x7 hx7
    refine ab_iinc (v := x7) 2 (lv1 := [(4, .int x7), (0, .ref 62), (1, .int v1)]) dX12_tape_89 rfl (by rw [hx7]; rfl) (by decide) rfl ?_
    refine ab_goto (tgt := 69) dX12_tape_92 (by decide) ?_
    exact ab_sub [1, 2, 0] rfl h
theorem dX12_narrow_0 : decode cX12_narrow 0 = .ok (.iload_n 1, 1) := by decide +kernel
theorem dX12_narrow_1 : decode cX12_narrow 1 = .ok (.ifCond .ne 10, 3) := by decide +kernel
theorem dX12_narrow_4 : decode cX12_narrow 4 = .ok (.lload_n 2, 1) := by decide +kernel
theorem dX12_narrow_5 : decode cX12_narrow 5 = .ok (.l2i, 1) := by decide +kernel
theorem dX12_narrow_6 : decode cX12_narrow 6 = .ok (.i2b, 1) := by decide +kernel
theorem dX12_narrow_7 : decode cX12_narrow 7 = .ok (.i2l, 1) := by decide +kernel
theorem dX12_narrow_8 : decode cX12_narrow 8 = .ok (.goto 46, 3) := by decide +kernel
theorem dX12_narrow_11 : decode cX12_narrow 11 = .ok (.iload_n 1, 1) := by decide +kernel
theorem dX12_narrow_12 : decode cX12_narrow 12 = .ok (.iconst 1, 1) := by decide +kernel
theorem dX12_narrow_13 : decode cX12_narrow 13 = .ok (.if_icmp .ne 10, 3) := by decide +kernel
theorem dX12_narrow_16 : decode cX12_narrow 16 = .ok (.lload_n 2, 1) := by decide +kernel
theorem dX12_narrow_17 : decode cX12_narrow 17 = .ok (.l2i, 1) := by decide +kernel
theorem dX12_narrow_18 : decode cX12_narrow 18 = .ok (.i2s, 1) := by decide +kernel
theorem dX12_narrow_19 : decode cX12_narrow 19 = .ok (.i2l, 1) := by decide +kernel
theorem dX12_narrow_20 : decode cX12_narrow 20 = .ok (.goto 34, 3) := by decide +kernel
theorem dX12_narrow_23 : decode cX12_narrow 23 = .ok (.iload_n 1, 1) := by decide +kernel
theorem dX12_narrow_24 : decode cX12_narrow 24 = .ok (.iconst 2, 1) := by decide +kernel
theorem dX12_narrow_25 : decode cX12_narrow 25 = .ok (.if_icmp .ne 9, 3) := by decide +kernel
theorem dX12_narrow_28 : decode cX12_narrow 28 = .ok (.lload_n 2, 1) := by decide +kernel
theorem dX12_narrow_29 : decode cX12_narrow 29 = .ok (.l2i, 1) := by decide +kernel
theorem dX12_narrow_30 : decode cX12_narrow 30 = .ok (.i2l, 1) := by decide +kernel
theorem dX12_narrow_31 : decode cX12_narrow 31 = .ok (.goto 23, 3) := by decide +kernel
theorem dX12_narrow_34 : decode cX12_narrow 34 = .ok (.iload_n 1, 1) := by decide +kernel
theorem dX12_narrow_35 : decode cX12_narrow 35 = .ok (.iconst 4, 1) := by decide +kernel
theorem dX12_narrow_36 : decode cX12_narrow 36 = .ok (.if_icmp .ne 17, 3) := by decide +kernel
theorem dX12_narrow_39 : decode cX12_narrow 39 = .ok (.lload_n 2, 1) := by decide +kernel
theorem dX12_narrow_40 : decode cX12_narrow 40 = .ok (.lconst 0, 1) := by decide +kernel
theorem dX12_narrow_41 : decode cX12_narrow 41 = .ok (.lcmp, 1) := by decide +kernel
theorem dX12_narrow_42 : decode cX12_narrow 42 = .ok (.ifCond .eq 7, 3) := by decide +kernel
theorem dX12_narrow_45 : decode cX12_narrow 45 = .ok (.lconst 1, 1) := by decide +kernel
theorem dX12_narrow_46 : decode cX12_narrow 46 = .ok (.goto 8, 3) := by decide +kernel
theorem dX12_narrow_49 : decode cX12_narrow 49 = .ok (.lconst 0, 1) := by decide +kernel
theorem dX12_narrow_50 : decode cX12_narrow 50 = .ok (.goto 4, 3) := by decide +kernel
theorem dX12_narrow_53 : decode cX12_narrow 53 = .ok (.lload_n 2, 1) := by decide +kernel
theorem dX12_narrow_54 : decode cX12_narrow 54 = .ok (.lreturn, 1) := by decide +kernel
set_option maxRecDepth 20000 in
theorem rX12_narrow (D : GD) (d : Nat) (a1 : Int32) (a2 : Int64) (M : Mm) (post : Option Value → Mm → Prop) (hL : Lay 62 98 M) 
    (h : ((¬ a1 = 0 → ((¬ a1 = (1 : Int32) → ((¬ a1 = (2 : Int32) → ((¬ a1 = (4 : Int32) → post (some (.long a2)) M) ∧ (a1 = (4 : Int32) → (((lg_cmp a2 (0 : Int64)) = 0 → post (some (.long (0 : Int64))) M) ∧ (¬ (lg_cmp a2 (0 : Int64)) = 0 → post (some (.long (1 : Int64))) M))))) ∧ (a1 = (2 : Int32) → post (some (.long (((a2).toInt32).toInt64))) M))) ∧ (a1 = (1 : Int32) → post (some (.long ((((a2).toInt32).toInt16.toInt32).toInt64))) M))) ∧ (a1 = 0 → post (some (.long ((((a2).toInt32).toInt8.toInt32).toInt64))) M))) :
    AM D d 0 0 mX12_narrow [.ref 62, .int a1, .long a2] M post := by
  refine AM.of (by decide) (Nat.le_of_ble_eq_true rfl) ?_
  show AW D d 0 0 mX12_narrow 0 0 0 [(0, .ref 62), (1, .int a1), (2, .long a2)] [] M post
  refine ab_iload_n 1 dX12_narrow_0 rfl ?_
  refine ab_if_ne (tgt := 11) dX12_narrow_1 (by decide) (fun c1 => ?_) (fun c1 => ?_)
  · have h := h.1 c1
    refine ab_iload_n 1 dX12_narrow_11 rfl ?_
    refine ab_iconst (v := 1) dX12_narrow_12 (by decide) ?_
    refine ab_icmp_ne (tgt := 23) dX12_narrow_13 (by decide) (fun c2 => ?_) (fun c2 => ?_)
    · have h := h.1 c2
      refine ab_iload_n 1 dX12_narrow_23 rfl ?_
      refine ab_iconst (v := 2) dX12_narrow_24 (by decide) ?_
      refine ab_icmp_ne (tgt := 34) dX12_narrow_25 (by decide) (fun c3 => ?_) (fun c3 => ?_)
      · have h := h.1 c3
        refine ab_iload_n 1 dX12_narrow_34 rfl ?_
        refine ab_iconst (v := 4) dX12_narrow_35 (by decide) ?_
        refine ab_icmp_ne (tgt := 53) dX12_narrow_36 (by decide) (fun c4 => ?_) (fun c4 => ?_)
        · have h := h.1 c4
          refine ab_lload_n 2 dX12_narrow_53 rfl ?_
          exact ab_lret dX12_narrow_54 rfl h
        · have h := h.2 c4
          refine ab_lload_n 2 dX12_narrow_39 rfl ?_
          refine ab_lconst (v := 0) dX12_narrow_40 (by decide) ?_
          refine ab_lcmp dX12_narrow_41 ?_
          refine ab_if_eq (tgt := 49) dX12_narrow_42 (by decide) (fun c5 => ?_) (fun c5 => ?_)
          · have h := h.1 c5
            refine ab_lconst (v := 0) dX12_narrow_49 (by decide) ?_
            refine ab_goto (tgt := 54) dX12_narrow_50 (by decide) ?_
            exact ab_lret dX12_narrow_54 rfl h
          · have h := h.2 c5
            refine ab_lconst (v := 1) dX12_narrow_45 (by decide) ?_
            refine ab_goto (tgt := 54) dX12_narrow_46 (by decide) ?_
            exact ab_lret dX12_narrow_54 rfl h
      · have h := h.2 c3
        refine ab_lload_n 2 dX12_narrow_28 rfl ?_
        refine ab_l2i dX12_narrow_29 ?_
        refine ab_i2l dX12_narrow_30 ?_
        refine ab_goto (tgt := 54) dX12_narrow_31 (by decide) ?_
        exact ab_lret dX12_narrow_54 rfl h
    · have h := h.2 c2
      refine ab_lload_n 2 dX12_narrow_16 rfl ?_
      refine ab_l2i dX12_narrow_17 ?_
      refine ab_i2s dX12_narrow_18 ?_
      refine ab_i2l dX12_narrow_19 ?_
      refine ab_goto (tgt := 54) dX12_narrow_20 (by decide) ?_
      exact ab_lret dX12_narrow_54 rfl h
  · have h := h.2 c1
    refine ab_lload_n 2 dX12_narrow_4 rfl ?_
    refine ab_l2i dX12_narrow_5 ?_
    refine ab_i2b dX12_narrow_6 ?_
    refine ab_i2l dX12_narrow_7 ?_
    refine ab_goto (tgt := 54) dX12_narrow_8 (by decide) ?_
    exact ab_lret dX12_narrow_54 rfl h
theorem dX12_item_0 : decode cX12_item 0 = .ok (.aload_n 0, 1) := by decide +kernel
theorem dX12_item_1 : decode cX12_item 1 = .ok (.iload_n 1, 1) := by decide +kernel
theorem dX12_item_2 : decode cX12_item 2 = .ok (.invokevirtual 345, 3) := by decide +kernel
theorem dX12_item_5 : decode cX12_item 5 = .ok (.ifCond .ne 5, 3) := by decide +kernel
theorem dX12_item_8 : decode cX12_item 8 = .ok (.iconst (-1), 1) := by decide +kernel
theorem dX12_item_9 : decode cX12_item 9 = .ok (.ireturn, 1) := by decide +kernel
theorem dX12_item_10 : decode cX12_item 10 = .ok (.aload_n 0, 1) := by decide +kernel
theorem dX12_item_11 : decode cX12_item 11 = .ok (.getfield 167, 3) := by decide +kernel
theorem dX12_item_14 : decode cX12_item 14 = .ok (.iload_n 1, 1) := by decide +kernel
theorem dX12_item_15 : decode cX12_item 15 = .ok (.iaload, 1) := by decide +kernel
theorem dX12_item_16 : decode cX12_item 16 = .ok (.ifCond .ge 6, 3) := by decide +kernel
theorem dX12_item_19 : decode cX12_item 19 = .ok (.bipush (-11), 2) := by decide +kernel
theorem dX12_item_21 : decode cX12_item 21 = .ok (.ireturn, 1) := by decide +kernel
theorem dX12_item_22 : decode cX12_item 22 = .ok (.aload_n 0, 1) := by decide +kernel
theorem dX12_item_23 : decode cX12_item 23 = .ok (.iload_n 2, 1) := by decide +kernel
theorem dX12_item_24 : decode cX12_item 24 = .ok (.iconst 0, 1) := by decide +kernel
theorem dX12_item_25 : decode cX12_item 25 = .ok (.aload_n 0, 1) := by decide +kernel
theorem dX12_item_26 : decode cX12_item 26 = .ok (.getfield 170, 3) := by decide +kernel
theorem dX12_item_29 : decode cX12_item 29 = .ok (.iload_n 1, 1) := by decide +kernel
theorem dX12_item_30 : decode cX12_item 30 = .ok (.iaload, 1) := by decide +kernel
theorem dX12_item_31 : decode cX12_item 31 = .ok (.iconst 1, 1) := by decide +kernel
theorem dX12_item_32 : decode cX12_item 32 = .ok (.isub, 1) := by decide +kernel
theorem dX12_item_33 : decode cX12_item 33 = .ok (.invokevirtual 180, 3) := by decide +kernel
theorem dX12_item_36 : decode cX12_item 36 = .ok (.ifCond .ne 6, 3) := by decide +kernel
theorem dX12_item_39 : decode cX12_item 39 = .ok (.bipush (-13), 2) := by decide +kernel
theorem dX12_item_41 : decode cX12_item 41 = .ok (.ireturn, 1) := by decide +kernel
theorem dX12_item_42 : decode cX12_item 42 = .ok (.aload_n 0, 1) := by decide +kernel
theorem dX12_item_43 : decode cX12_item 43 = .ok (.getfield 173, 3) := by decide +kernel
theorem dX12_item_46 : decode cX12_item 46 = .ok (.bipush 60, 2) := by decide +kernel
theorem dX12_item_48 : decode cX12_item 48 = .ok (.iload_n 1, 1) := by decide +kernel
theorem dX12_item_49 : decode cX12_item 49 = .ok (.imul, 1) := by decide +kernel
theorem dX12_item_50 : decode cX12_item 50 = .ok (.iload_n 2, 1) := by decide +kernel
theorem dX12_item_51 : decode cX12_item 51 = .ok (.iadd, 1) := by decide +kernel
theorem dX12_item_52 : decode cX12_item 52 = .ok (.aload_n 0, 1) := by decide +kernel
theorem dX12_item_53 : decode cX12_item 53 = .ok (.aload_n 0, 1) := by decide +kernel
theorem dX12_item_54 : decode cX12_item 54 = .ok (.getfield 167, 3) := by decide +kernel
theorem dX12_item_57 : decode cX12_item 57 = .ok (.iload_n 1, 1) := by decide +kernel
theorem dX12_item_58 : decode cX12_item 58 = .ok (.iaload, 1) := by decide +kernel
theorem dX12_item_59 : decode cX12_item 59 = .ok (.lload_n 3, 1) := by decide +kernel
theorem dX12_item_60 : decode cX12_item 60 = .ok (.invokevirtual 379, 3) := by decide +kernel
theorem dX12_item_63 : decode cX12_item 63 = .ok (.lastore, 1) := by decide +kernel
theorem dX12_item_64 : decode cX12_item 64 = .ok (.iconst 1, 1) := by decide +kernel
theorem dX12_item_65 : decode cX12_item 65 = .ok (.ireturn, 1) := by decide +kernel
set_option maxRecDepth 20000 in
theorem rX12_item (D : GD) (d : Nat) (a1 : Int32) (a2 : Int32) (a3 : Int64) (M : Mm) (post : Option Value → Mm → Prop) (hL : Lay 62 98 M) 
    (h : AMi D d mX12_isTape [.ref 62, .int a1] M (fun x2 M1 => ((¬ x2 = 0 → vp_in a1 6 ∧ ((0 ≤ (gI M1 94 a1.toNatClampNeg) → AMi D d mX12_in [.ref 62, .int a2, .int (0 : Int32), .int ((gI M1 95 a1.toNatClampNeg) - (1 : Int32))] M1 (fun x11 M10 => ((¬ x11 = 0 → AMl D d mX12_narrow [.ref 62, .int (gI M10 94 a1.toNatClampNeg), .long a3] M10 (fun x18 M17 => vp_in (((60 : Int32) * a1) + a2) 360 ∧ ∀ M24 : Mm, M24 = sL M17 96 ((((60 : Int32) * a1) + a2).toNatClampNeg) x18 → post (some (.int (1 : Int32))) M24)) ∧ (x11 = 0 → post (some (.int (-13 : Int32))) M10)))) ∧ (¬ 0 ≤ (gI M1 94 a1.toNatClampNeg) → post (some (.int (-11 : Int32))) M1))) ∧ (x2 = 0 → post (some (.int (-1 : Int32))) M1)))) :
    AM D (d + 1) 0 0 mX12_item [.ref 62, .int a1, .int a2, .long a3] M post := by
  refine AM.of (by decide) (Nat.le_of_ble_eq_true rfl) ?_
  show AW D (d + 1) 0 0 mX12_item 0 0 0 [(0, .ref 62), (1, .int a1), (2, .int a2), (3, .long a3)] [] M post
  refine ab_aload_n 0 dX12_item_0 rfl ?_
  refine ab_iload_n 1 dX12_item_1 rfl ?_
  refine ab_callV (a := 62) (c0 := 12) (d' := d) (mc' := 0) (ms' := 0) (vs := [.int a1]) (st := []) dX12_item_2 ⟨cw_X12_isTape, w_1439⟩ w_1441 w_67 (by decide) (hL.sh 62 rfl (by decide) (by decide)).1 (hL.sh 62 rfl (by decide) (by decide)).2 rfl rfl (Nat.le_of_ble_eq_true rfl) (Nat.le_refl _) (Nat.zero_le _) (Nat.zero_le _) (AM.mono h (fun r M1 ⟨x2, hr3, hc4, h⟩ => ?_))
  subst hr3
  refine ab_rs ?_
  have hm5 : Sm M M1 := (Sm.refl M).trans hc4
  have hl6 := hL.of hm5
  refine ab_if_ne (tgt := 10) dX12_item_5 (by decide) (fun c7 => ?_) (fun c7 => ?_)
  · have h := h.1 c7
    refine ab_aload_n 0 dX12_item_10 rfl ?_
    refine ab_getP (r := 94) dX12_item_11 fs_12_167_12 rfl (hl6.sh 62 rfl (by decide) (by decide)).1 (hl6.sh 62 rfl (by decide) (by decide)).2 (hl6.pt 92 rfl (by decide) (by decide)) ?_
    refine ab_iload_n 1 dX12_item_14 rfl ?_
    have hb8 := h.1
    have h := h.2
    refine ab_ialdj (j := a1.toNatClampNeg) dX12_item_15 (hl6.sh 94 rfl (by decide) (by decide)) hb8 rfl ?_
    refine ab_if_ge (tgt := 22) dX12_item_16 (by decide) (fun c9 => ?_) (fun c9 => ?_)
    · have h := h.1 c9
      refine ab_aload_n 0 dX12_item_22 rfl ?_
      refine ab_iload_n 2 dX12_item_23 rfl ?_
      refine ab_iconst (v := 0) dX12_item_24 (by decide) ?_
      refine ab_aload_n 0 dX12_item_25 rfl ?_
      refine ab_getP (r := 95) dX12_item_26 fs_12_170_12 rfl (hl6.sh 62 rfl (by decide) (by decide)).1 (hl6.sh 62 rfl (by decide) (by decide)).2 (hl6.pt 93 rfl (by decide) (by decide)) ?_
      refine ab_iload_n 1 dX12_item_29 rfl ?_
      refine ab_ialdj (j := a1.toNatClampNeg) dX12_item_30 (hl6.sh 95 rfl (by decide) (by decide)) hb8 rfl ?_
      refine ab_iconst (v := 1) dX12_item_31 (by decide) ?_
      refine ab_isub dX12_item_32 ?_
      refine ab_callV (a := 62) (c0 := 12) (d' := d) (mc' := 0) (ms' := 0) (vs := [.int a2, .int (0 : Int32), .int ((gI M1 95 a1.toNatClampNeg) - (1 : Int32))]) (st := []) dX12_item_33 ⟨cw_X12_in, w_1170⟩ w_1172 w_23 (by decide) (hl6.sh 62 rfl (by decide) (by decide)).1 (hl6.sh 62 rfl (by decide) (by decide)).2 rfl rfl (Nat.le_of_ble_eq_true rfl) (Nat.le_refl _) (Nat.zero_le _) (Nat.zero_le _) (AM.mono h (fun r M10 ⟨x11, hr12, hc13, h⟩ => ?_))
      subst hr12
      refine ab_rs ?_
      have hm14 : Sm M M10 := hm5.trans hc13
      have hl15 := hL.of hm14
      refine ab_if_ne (tgt := 42) dX12_item_36 (by decide) (fun c16 => ?_) (fun c16 => ?_)
      · have h := h.1 c16
        refine ab_aload_n 0 dX12_item_42 rfl ?_
        refine ab_getP (r := 96) dX12_item_43 fs_12_173_12 rfl (hl15.sh 62 rfl (by decide) (by decide)).1 (hl15.sh 62 rfl (by decide) (by decide)).2 (hl15.pt 94 rfl (by decide) (by decide)) ?_
        refine ab_bipush (v := 60) dX12_item_46 (by decide) ?_
        refine ab_iload_n 1 dX12_item_48 rfl ?_
        refine ab_imul dX12_item_49 ?_
        refine ab_iload_n 2 dX12_item_50 rfl ?_
        refine ab_iadd dX12_item_51 ?_
        refine ab_aload_n 0 dX12_item_52 rfl ?_
        refine ab_aload_n 0 dX12_item_53 rfl ?_
        refine ab_getP (r := 94) dX12_item_54 fs_12_167_12 rfl (hl15.sh 62 rfl (by decide) (by decide)).1 (hl15.sh 62 rfl (by decide) (by decide)).2 (hl15.pt 92 rfl (by decide) (by decide)) ?_
        refine ab_iload_n 1 dX12_item_57 rfl ?_
        refine ab_ialdj (j := a1.toNatClampNeg) dX12_item_58 (hl15.sh 94 rfl (by decide) (by decide)) hb8 rfl ?_
        refine ab_lload_n 3 dX12_item_59 rfl ?_
        refine ab_callV (a := 62) (c0 := 12) (d' := d) (mc' := 0) (ms' := 0) (vs := [.int (gI M10 94 a1.toNatClampNeg), .long a3]) (st := [.int (((60 : Int32) * a1) + a2), .ref 96]) dX12_item_60 ⟨cw_X12_narrow, w_1515⟩ w_1517 w_78 (by decide) (hl15.sh 62 rfl (by decide) (by decide)).1 (hl15.sh 62 rfl (by decide) (by decide)).2 rfl rfl (Nat.le_of_ble_eq_true rfl) (Nat.le_refl _) (Nat.zero_le _) (Nat.zero_le _) (AM.mono h (fun r M17 ⟨x18, hr19, hc20, h⟩ => ?_))
        subst hr19
        refine ab_rs ?_
        have hm21 : Sm M M17 := hm14.trans hc20
        have hl22 := hL.of hm21
        have hb23 := h.1
        have h := h.2
        refine ab_lastj (j := (((60 : Int32) * a1) + a2).toNatClampNeg) dX12_item_63 (hl22.sh 96 rfl (by decide) (by decide)) hb23 rfl ?_
        refine ab_nameM (fun M24 hM24 => ?_)
        have h := h M24 hM24
        have hs27 : Sm M17 M24 := hM24 ▸ (Sm.refl _).l
        have hm25 : Sm M M24 := hm21.trans hs27
        have hl26 := hL.of hm25
        refine ab_iconst (v := 1) dX12_item_64 (by decide) ?_
        exact ab_iret dX12_item_65 rfl h
      · have h := h.2 c16
        refine ab_bipush (v := (-13)) dX12_item_39 (by decide) ?_
        exact ab_iret dX12_item_41 rfl h
    · have h := h.2 c9
      refine ab_bipush (v := (-11)) dX12_item_19 (by decide) ?_
      exact ab_iret dX12_item_21 rfl h
  · have h := h.2 c7
    refine ab_iconst (v := (-1)) dX12_item_8 (by decide) ?_
    exact ab_iret dX12_item_9 rfl h
theorem dX12_read_0 : decode cX12_read 0 = .ok (.aload_n 0, 1) := by decide +kernel
theorem dX12_read_1 : decode cX12_read 1 = .ok (.iload_n 1, 1) := by decide +kernel
theorem dX12_read_2 : decode cX12_read 2 = .ok (.invokevirtual 345, 3) := by decide +kernel
theorem dX12_read_5 : decode cX12_read 5 = .ok (.ifCond .eq 29, 3) := by decide +kernel
theorem dX12_read_8 : decode cX12_read 8 = .ok (.aload_n 0, 1) := by decide +kernel
theorem dX12_read_9 : decode cX12_read 9 = .ok (.getfield 167, 3) := by decide +kernel
theorem dX12_read_12 : decode cX12_read 12 = .ok (.iload_n 1, 1) := by decide +kernel
theorem dX12_read_13 : decode cX12_read 13 = .ok (.iaload, 1) := by decide +kernel
theorem dX12_read_14 : decode cX12_read 14 = .ok (.ifCond .lt 20, 3) := by decide +kernel
theorem dX12_read_17 : decode cX12_read 17 = .ok (.aload_n 0, 1) := by decide +kernel
theorem dX12_read_18 : decode cX12_read 18 = .ok (.iload_n 2, 1) := by decide +kernel
theorem dX12_read_19 : decode cX12_read 19 = .ok (.iconst 0, 1) := by decide +kernel
theorem dX12_read_20 : decode cX12_read 20 = .ok (.aload_n 0, 1) := by decide +kernel
theorem dX12_read_21 : decode cX12_read 21 = .ok (.getfield 170, 3) := by decide +kernel
theorem dX12_read_24 : decode cX12_read 24 = .ok (.iload_n 1, 1) := by decide +kernel
theorem dX12_read_25 : decode cX12_read 25 = .ok (.iaload, 1) := by decide +kernel
theorem dX12_read_26 : decode cX12_read 26 = .ok (.iconst 1, 1) := by decide +kernel
theorem dX12_read_27 : decode cX12_read 27 = .ok (.isub, 1) := by decide +kernel
theorem dX12_read_28 : decode cX12_read 28 = .ok (.invokevirtual 180, 3) := by decide +kernel
theorem dX12_read_31 : decode cX12_read 31 = .ok (.ifCond .ne 9, 3) := by decide +kernel
theorem dX12_read_34 : decode cX12_read 34 = .ok (.ldc2_w 301, 3) := by decide +kernel
theorem dX12_read_37 : decode cX12_read 37 = .ok (.goto 14, 3) := by decide +kernel
theorem dX12_read_40 : decode cX12_read 40 = .ok (.aload_n 0, 1) := by decide +kernel
theorem dX12_read_41 : decode cX12_read 41 = .ok (.getfield 173, 3) := by decide +kernel
theorem dX12_read_44 : decode cX12_read 44 = .ok (.bipush 60, 2) := by decide +kernel
theorem dX12_read_46 : decode cX12_read 46 = .ok (.iload_n 1, 1) := by decide +kernel
theorem dX12_read_47 : decode cX12_read 47 = .ok (.imul, 1) := by decide +kernel
theorem dX12_read_48 : decode cX12_read 48 = .ok (.iload_n 2, 1) := by decide +kernel
theorem dX12_read_49 : decode cX12_read 49 = .ok (.iadd, 1) := by decide +kernel
theorem dX12_read_50 : decode cX12_read 50 = .ok (.laload, 1) := by decide +kernel
theorem dX12_read_51 : decode cX12_read 51 = .ok (.lreturn, 1) := by decide +kernel
set_option maxRecDepth 20000 in
theorem rX12_read (D : GD) (d : Nat) (a1 : Int32) (a2 : Int32) (M : Mm) (post : Option Value → Mm → Prop) (hL : Lay 62 98 M) 
    (h : AMi D d mX12_isTape [.ref 62, .int a1] M (fun x2 M1 => ((x2 = 0 → post (some (.long (-9223372036854775808 : Int64))) M1) ∧ (¬ x2 = 0 → vp_in a1 6 ∧ (((gI M1 94 a1.toNatClampNeg) < 0 → post (some (.long (-9223372036854775808 : Int64))) M1) ∧ (¬ (gI M1 94 a1.toNatClampNeg) < 0 → AMi D d mX12_in [.ref 62, .int a2, .int (0 : Int32), .int ((gI M1 95 a1.toNatClampNeg) - (1 : Int32))] M1 (fun x11 M10 => ((¬ x11 = 0 → vp_in (((60 : Int32) * a1) + a2) 360 ∧ post (some (.long (gL M10 96 ((((60 : Int32) * a1) + a2).toNatClampNeg)))) M10) ∧ (x11 = 0 → post (some (.long (-9223372036854775808 : Int64))) M10))))))))) :
    AM D (d + 1) 0 0 mX12_read [.ref 62, .int a1, .int a2] M post := by
  refine AM.of (by decide) (Nat.le_of_ble_eq_true rfl) ?_
  show AW D (d + 1) 0 0 mX12_read 0 0 0 [(0, .ref 62), (1, .int a1), (2, .int a2)] [] M post
  refine ab_aload_n 0 dX12_read_0 rfl ?_
  refine ab_iload_n 1 dX12_read_1 rfl ?_
  refine ab_callV (a := 62) (c0 := 12) (d' := d) (mc' := 0) (ms' := 0) (vs := [.int a1]) (st := []) dX12_read_2 ⟨cw_X12_isTape, w_1439⟩ w_1441 w_67 (by decide) (hL.sh 62 rfl (by decide) (by decide)).1 (hL.sh 62 rfl (by decide) (by decide)).2 rfl rfl (Nat.le_of_ble_eq_true rfl) (Nat.le_refl _) (Nat.zero_le _) (Nat.zero_le _) (AM.mono h (fun r M1 ⟨x2, hr3, hc4, h⟩ => ?_))
  subst hr3
  refine ab_rs ?_
  have hm5 : Sm M M1 := (Sm.refl M).trans hc4
  have hl6 := hL.of hm5
  refine ab_if_eq (tgt := 34) dX12_read_5 (by decide) (fun c7 => ?_) (fun c7 => ?_)
  · have h := h.1 c7
    refine ab_ldc2 dX12_read_34 w_1331 ?_
    refine ab_goto (tgt := 51) dX12_read_37 (by decide) ?_
    exact ab_lret dX12_read_51 rfl h
  · have h := h.2 c7
    refine ab_aload_n 0 dX12_read_8 rfl ?_
    refine ab_getP (r := 94) dX12_read_9 fs_12_167_12 rfl (hl6.sh 62 rfl (by decide) (by decide)).1 (hl6.sh 62 rfl (by decide) (by decide)).2 (hl6.pt 92 rfl (by decide) (by decide)) ?_
    refine ab_iload_n 1 dX12_read_12 rfl ?_
    have hb8 := h.1
    have h := h.2
    refine ab_ialdj (j := a1.toNatClampNeg) dX12_read_13 (hl6.sh 94 rfl (by decide) (by decide)) hb8 rfl ?_
    refine ab_if_lt (tgt := 34) dX12_read_14 (by decide) (fun c9 => ?_) (fun c9 => ?_)
    · have h := h.1 c9
      refine ab_ldc2 dX12_read_34 w_1331 ?_
      refine ab_goto (tgt := 51) dX12_read_37 (by decide) ?_
      exact ab_lret dX12_read_51 rfl h
    · have h := h.2 c9
      refine ab_aload_n 0 dX12_read_17 rfl ?_
      refine ab_iload_n 2 dX12_read_18 rfl ?_
      refine ab_iconst (v := 0) dX12_read_19 (by decide) ?_
      refine ab_aload_n 0 dX12_read_20 rfl ?_
      refine ab_getP (r := 95) dX12_read_21 fs_12_170_12 rfl (hl6.sh 62 rfl (by decide) (by decide)).1 (hl6.sh 62 rfl (by decide) (by decide)).2 (hl6.pt 93 rfl (by decide) (by decide)) ?_
      refine ab_iload_n 1 dX12_read_24 rfl ?_
      refine ab_ialdj (j := a1.toNatClampNeg) dX12_read_25 (hl6.sh 95 rfl (by decide) (by decide)) hb8 rfl ?_
      refine ab_iconst (v := 1) dX12_read_26 (by decide) ?_
      refine ab_isub dX12_read_27 ?_
      refine ab_callV (a := 62) (c0 := 12) (d' := d) (mc' := 0) (ms' := 0) (vs := [.int a2, .int (0 : Int32), .int ((gI M1 95 a1.toNatClampNeg) - (1 : Int32))]) (st := []) dX12_read_28 ⟨cw_X12_in, w_1170⟩ w_1172 w_23 (by decide) (hl6.sh 62 rfl (by decide) (by decide)).1 (hl6.sh 62 rfl (by decide) (by decide)).2 rfl rfl (Nat.le_of_ble_eq_true rfl) (Nat.le_refl _) (Nat.zero_le _) (Nat.zero_le _) (AM.mono h (fun r M10 ⟨x11, hr12, hc13, h⟩ => ?_))
      subst hr12
      refine ab_rs ?_
      have hm14 : Sm M M10 := hm5.trans hc13
      have hl15 := hL.of hm14
      refine ab_if_ne (tgt := 40) dX12_read_31 (by decide) (fun c16 => ?_) (fun c16 => ?_)
      · have h := h.1 c16
        refine ab_aload_n 0 dX12_read_40 rfl ?_
        refine ab_getP (r := 96) dX12_read_41 fs_12_173_12 rfl (hl15.sh 62 rfl (by decide) (by decide)).1 (hl15.sh 62 rfl (by decide) (by decide)).2 (hl15.pt 94 rfl (by decide) (by decide)) ?_
        refine ab_bipush (v := 60) dX12_read_44 (by decide) ?_
        refine ab_iload_n 1 dX12_read_46 rfl ?_
        refine ab_imul dX12_read_47 ?_
        refine ab_iload_n 2 dX12_read_48 rfl ?_
        refine ab_iadd dX12_read_49 ?_
        have hb17 := h.1
        have h := h.2
        refine ab_laldj (j := (((60 : Int32) * a1) + a2).toNatClampNeg) dX12_read_50 (hl15.sh 96 rfl (by decide) (by decide)) hb17 rfl ?_
        exact ab_lret dX12_read_51 rfl h
      · have h := h.2 c16
        refine ab_ldc2 dX12_read_34 w_1331 ?_
        refine ab_goto (tgt := 51) dX12_read_37 (by decide) ?_
        exact ab_lret dX12_read_51 rfl h
theorem dX12_shift_0 : decode cX12_shift 0 = .ok (.aload_n 0, 1) := by decide +kernel
theorem dX12_shift_1 : decode cX12_shift 1 = .ok (.iload_n 1, 1) := by decide +kernel
theorem dX12_shift_2 : decode cX12_shift 2 = .ok (.invokevirtual 345, 3) := by decide +kernel
theorem dX12_shift_5 : decode cX12_shift 5 = .ok (.ifCond .eq 11, 3) := by decide +kernel
theorem dX12_shift_8 : decode cX12_shift 8 = .ok (.aload_n 0, 1) := by decide +kernel
theorem dX12_shift_9 : decode cX12_shift 9 = .ok (.iload_n 3, 1) := by decide +kernel
theorem dX12_shift_10 : decode cX12_shift 10 = .ok (.invokevirtual 345, 3) := by decide +kernel
theorem dX12_shift_13 : decode cX12_shift 13 = .ok (.ifCond .ne 5, 3) := by decide +kernel
theorem dX12_shift_16 : decode cX12_shift 16 = .ok (.iconst (-1), 1) := by decide +kernel
theorem dX12_shift_17 : decode cX12_shift 17 = .ok (.ireturn, 1) := by decide +kernel
theorem dX12_shift_18 : decode cX12_shift 18 = .ok (.aload_n 0, 1) := by decide +kernel
theorem dX12_shift_19 : decode cX12_shift 19 = .ok (.getfield 167, 3) := by decide +kernel
theorem dX12_shift_22 : decode cX12_shift 22 = .ok (.iload_n 1, 1) := by decide +kernel
theorem dX12_shift_23 : decode cX12_shift 23 = .ok (.iaload, 1) := by decide +kernel
theorem dX12_shift_24 : decode cX12_shift 24 = .ok (.ifCond .lt 12, 3) := by decide +kernel
theorem dX12_shift_27 : decode cX12_shift 27 = .ok (.aload_n 0, 1) := by decide +kernel
theorem dX12_shift_28 : decode cX12_shift 28 = .ok (.getfield 167, 3) := by decide +kernel
theorem dX12_shift_31 : decode cX12_shift 31 = .ok (.iload_n 3, 1) := by decide +kernel
theorem dX12_shift_32 : decode cX12_shift 32 = .ok (.iaload, 1) := by decide +kernel
theorem dX12_shift_33 : decode cX12_shift 33 = .ok (.ifCond .ge 6, 3) := by decide +kernel
theorem dX12_shift_36 : decode cX12_shift 36 = .ok (.bipush (-11), 2) := by decide +kernel
theorem dX12_shift_38 : decode cX12_shift 38 = .ok (.ireturn, 1) := by decide +kernel
theorem dX12_shift_39 : decode cX12_shift 39 = .ok (.aload_n 0, 1) := by decide +kernel
theorem dX12_shift_40 : decode cX12_shift 40 = .ok (.getfield 167, 3) := by decide +kernel
theorem dX12_shift_43 : decode cX12_shift 43 = .ok (.iload_n 1, 1) := by decide +kernel
theorem dX12_shift_44 : decode cX12_shift 44 = .ok (.iaload, 1) := by decide +kernel
theorem dX12_shift_45 : decode cX12_shift 45 = .ok (.aload_n 0, 1) := by decide +kernel
theorem dX12_shift_46 : decode cX12_shift 46 = .ok (.getfield 167, 3) := by decide +kernel
theorem dX12_shift_49 : decode cX12_shift 49 = .ok (.iload_n 3, 1) := by decide +kernel
theorem dX12_shift_50 : decode cX12_shift 50 = .ok (.iaload, 1) := by decide +kernel
theorem dX12_shift_51 : decode cX12_shift 51 = .ok (.if_icmp .eq 6, 3) := by decide +kernel
theorem dX12_shift_54 : decode cX12_shift 54 = .ok (.bipush (-12), 2) := by decide +kernel
theorem dX12_shift_56 : decode cX12_shift 56 = .ok (.ireturn, 1) := by decide +kernel
theorem dX12_shift_57 : decode cX12_shift 57 = .ok (.iload 5, 2) := by decide +kernel
theorem dX12_shift_59 : decode cX12_shift 59 = .ok (.ifCond .lt 39, 3) := by decide +kernel
theorem dX12_shift_62 : decode cX12_shift 62 = .ok (.iload_n 2, 1) := by decide +kernel
theorem dX12_shift_63 : decode cX12_shift 63 = .ok (.ifCond .lt 35, 3) := by decide +kernel
theorem dX12_shift_66 : decode cX12_shift 66 = .ok (.iload 4, 2) := by decide +kernel
theorem dX12_shift_68 : decode cX12_shift 68 = .ok (.ifCond .lt 30, 3) := by decide +kernel
theorem dX12_shift_71 : decode cX12_shift 71 = .ok (.iload_n 2, 1) := by decide +kernel
theorem dX12_shift_72 : decode cX12_shift 72 = .ok (.aload_n 0, 1) := by decide +kernel
theorem dX12_shift_73 : decode cX12_shift 73 = .ok (.getfield 170, 3) := by decide +kernel
theorem dX12_shift_76 : decode cX12_shift 76 = .ok (.iload_n 1, 1) := by decide +kernel
theorem dX12_shift_77 : decode cX12_shift 77 = .ok (.iaload, 1) := by decide +kernel
theorem dX12_shift_78 : decode cX12_shift 78 = .ok (.iload 5, 2) := by decide +kernel
theorem dX12_shift_80 : decode cX12_shift 80 = .ok (.isub, 1) := by decide +kernel
theorem dX12_shift_81 : decode cX12_shift 81 = .ok (.if_icmp .gt 17, 3) := by decide +kernel
theorem dX12_shift_84 : decode cX12_shift 84 = .ok (.iload 4, 2) := by decide +kernel
theorem dX12_shift_86 : decode cX12_shift 86 = .ok (.aload_n 0, 1) := by decide +kernel
theorem dX12_shift_87 : decode cX12_shift 87 = .ok (.getfield 170, 3) := by decide +kernel
theorem dX12_shift_90 : decode cX12_shift 90 = .ok (.iload_n 3, 1) := by decide +kernel
theorem dX12_shift_91 : decode cX12_shift 91 = .ok (.iaload, 1) := by decide +kernel
theorem dX12_shift_92 : decode cX12_shift 92 = .ok (.iload 5, 2) := by decide +kernel
theorem dX12_shift_94 : decode cX12_shift 94 = .ok (.isub, 1) := by decide +kernel
theorem dX12_shift_95 : decode cX12_shift 95 = .ok (.if_icmp .le 6, 3) := by decide +kernel
theorem dX12_shift_98 : decode cX12_shift 98 = .ok (.bipush (-13), 2) := by decide +kernel
theorem dX12_shift_100 : decode cX12_shift 100 = .ok (.ireturn, 1) := by decide +kernel
theorem dX12_shift_101 : decode cX12_shift 101 = .ok (.iconst 0, 1) := by decide +kernel
theorem dX12_shift_102 : decode cX12_shift 102 = .ok (.istore 6, 2) := by decide +kernel
theorem dX12_shift_104 : decode cX12_shift 104 = .ok (.iload 6, 2) := by decide +kernel
theorem dX12_shift_106 : decode cX12_shift 106 = .ok (.iload 5, 2) := by decide +kernel
theorem dX12_shift_108 : decode cX12_shift 108 = .ok (.if_icmp .ge 30, 3) := by decide +kernel
theorem dX12_shift_111 : decode cX12_shift 111 = .ok (.aload_n 0, 1) := by decide +kernel
theorem dX12_shift_112 : decode cX12_shift 112 = .ok (.getfield 177, 3) := by decide +kernel
theorem dX12_shift_115 : decode cX12_shift 115 = .ok (.iload 6, 2) := by decide +kernel
theorem dX12_shift_117 : decode cX12_shift 117 = .ok (.aload_n 0, 1) := by decide +kernel
theorem dX12_shift_118 : decode cX12_shift 118 = .ok (.getfield 173, 3) := by decide +kernel
theorem dX12_shift_121 : decode cX12_shift 121 = .ok (.bipush 60, 2) := by decide +kernel
theorem dX12_shift_123 : decode cX12_shift 123 = .ok (.iload_n 1, 1) := by decide +kernel
theorem dX12_shift_124 : decode cX12_shift 124 = .ok (.imul, 1) := by decide +kernel
theorem dX12_shift_125 : decode cX12_shift 125 = .ok (.iload_n 2, 1) := by decide +kernel
theorem dX12_shift_126 : decode cX12_shift 126 = .ok (.iadd, 1) := by decide +kernel
theorem dX12_shift_127 : decode cX12_shift 127 = .ok (.iload 6, 2) := by decide +kernel
theorem dX12_shift_129 : decode cX12_shift 129 = .ok (.iadd, 1) := by decide +kernel
theorem dX12_shift_130 : decode cX12_shift 130 = .ok (.laload, 1) := by decide +kernel
theorem dX12_shift_131 : decode cX12_shift 131 = .ok (.lastore, 1) := by decide +kernel
theorem dX12_shift_132 : decode cX12_shift 132 = .ok (.iinc 6 1, 3) := by decide +kernel
theorem dX12_shift_135 : decode cX12_shift 135 = .ok (.goto (-31), 3) := by decide +kernel
theorem dX12_shift_138 : decode cX12_shift 138 = .ok (.iconst 0, 1) := by decide +kernel
theorem dX12_shift_139 : decode cX12_shift 139 = .ok (.istore 6, 2) := by decide +kernel
theorem dX12_shift_141 : decode cX12_shift 141 = .ok (.iload 6, 2) := by decide +kernel
theorem dX12_shift_143 : decode cX12_shift 143 = .ok (.iload 5, 2) := by decide +kernel
theorem dX12_shift_145 : decode cX12_shift 145 = .ok (.if_icmp .ge 31, 3) := by decide +kernel
theorem dX12_shift_148 : decode cX12_shift 148 = .ok (.aload_n 0, 1) := by decide +kernel
theorem dX12_shift_149 : decode cX12_shift 149 = .ok (.getfield 173, 3) := by decide +kernel
theorem dX12_shift_152 : decode cX12_shift 152 = .ok (.bipush 60, 2) := by decide +kernel
theorem dX12_shift_154 : decode cX12_shift 154 = .ok (.iload_n 3, 1) := by decide +kernel
theorem dX12_shift_155 : decode cX12_shift 155 = .ok (.imul, 1) := by decide +kernel
theorem dX12_shift_156 : decode cX12_shift 156 = .ok (.iload 4, 2) := by decide +kernel
theorem dX12_shift_158 : decode cX12_shift 158 = .ok (.iadd, 1) := by decide +kernel
theorem dX12_shift_159 : decode cX12_shift 159 = .ok (.iload 6, 2) := by decide +kernel
theorem dX12_shift_161 : decode cX12_shift 161 = .ok (.iadd, 1) := by decide +kernel
theorem dX12_shift_162 : decode cX12_shift 162 = .ok (.aload_n 0, 1) := by decide +kernel
theorem dX12_shift_163 : decode cX12_shift 163 = .ok (.getfield 177, 3) := by decide +kernel
theorem dX12_shift_166 : decode cX12_shift 166 = .ok (.iload 6, 2) := by decide +kernel
theorem dX12_shift_168 : decode cX12_shift 168 = .ok (.laload, 1) := by decide +kernel
theorem dX12_shift_169 : decode cX12_shift 169 = .ok (.lastore, 1) := by decide +kernel
theorem dX12_shift_170 : decode cX12_shift 170 = .ok (.iinc 6 1, 3) := by decide +kernel
theorem dX12_shift_173 : decode cX12_shift 173 = .ok (.goto (-32), 3) := by decide +kernel
theorem dX12_shift_176 : decode cX12_shift 176 = .ok (.iload 5, 2) := by decide +kernel
theorem dX12_shift_178 : decode cX12_shift 178 = .ok (.ireturn, 1) := by decide +kernel
def LX12_shift_104 (D : GD) (d : Nat) (v1 : Int32) (v2 : Int32) (v3 : Int32) (v4 : Int32) (v5 : Int32) (v6 : Int32) (M : Mm) (post : Option Value → Mm → Prop) : Prop := AW D (d + 1) 0 0 mX12_shift 0 0 104 [(0, .ref 62), (1, .int v1), (2, .int v2), (3, .int v3), (4, .int v4), (5, .int v5), (6, .int v6)] [] M post
def LX12_shift_141 (D : GD) (d : Nat) (v3 : Int32) (v4 : Int32) (v5 : Int32) (v6 : Int32) (M : Mm) (post : Option Value → Mm → Prop) : Prop := AW D (d + 1) 0 0 mX12_shift 0 0 141 [(0, .ref 62), (3, .int v3), (4, .int v4), (5, .int v5), (6, .int v6)] [] M post
set_option maxRecDepth 20000 in
theorem rX12_shift (D : GD) (d : Nat) (a1 : Int32) (a2 : Int32) (a3 : Int32) (a4 : Int32) (a5 : Int32) (M : Mm) (post : Option Value → Mm → Prop) (hL : Lay 62 98 M) 
    (h : AMi D d mX12_isTape [.ref 62, .int a1] M (fun x2 M1 => ((x2 = 0 → post (some (.int (-1 : Int32))) M1) ∧ (¬ x2 = 0 → AMi D d mX12_isTape [.ref 62, .int a3] M1 (fun x9 M8 => ((¬ x9 = 0 → vp_in a1 6 ∧ (((gI M8 94 a1.toNatClampNeg) < 0 → post (some (.int (-11 : Int32))) M8) ∧ (¬ (gI M8 94 a1.toNatClampNeg) < 0 → vp_in a3 6 ∧ ((0 ≤ (gI M8 94 a3.toNatClampNeg) → (((gI M8 94 a1.toNatClampNeg) = (gI M8 94 a3.toNatClampNeg) → ((a5 < 0 → post (some (.int (-13 : Int32))) M8) ∧ (¬ a5 < 0 → ((a2 < 0 → post (some (.int (-13 : Int32))) M8) ∧ (¬ a2 < 0 → ((a4 < 0 → post (some (.int (-13 : Int32))) M8) ∧ (¬ a4 < 0 → ((((gI M8 95 a1.toNatClampNeg) - a5) < a2 → post (some (.int (-13 : Int32))) M8) ∧ (¬ ((gI M8 95 a1.toNatClampNeg) - a5) < a2 → ((a4 ≤ ((gI M8 95 a3.toNatClampNeg) - a5) → LX12_shift_104 D d a1 a2 a3 a4 a5 (0 : Int32) M8 post) ∧ (¬ a4 ≤ ((gI M8 95 a3.toNatClampNeg) - a5) → post (some (.int (-13 : Int32))) M8))))))))))) ∧ (¬ (gI M8 94 a1.toNatClampNeg) = (gI M8 94 a3.toNatClampNeg) → post (some (.int (-12 : Int32))) M8))) ∧ (¬ 0 ≤ (gI M8 94 a3.toNatClampNeg) → post (some (.int (-11 : Int32))) M8))))) ∧ (x9 = 0 → post (some (.int (-1 : Int32))) M8))))))) :
    AM D (d + 1) 0 0 mX12_shift [.ref 62, .int a1, .int a2, .int a3, .int a4, .int a5] M post := by
  refine AM.of (by decide) (Nat.le_of_ble_eq_true rfl) ?_
  show AW D (d + 1) 0 0 mX12_shift 0 0 0 [(0, .ref 62), (1, .int a1), (2, .int a2), (3, .int a3), (4, .int a4), (5, .int a5)] [] M post
  refine ab_aload_n 0 dX12_shift_0 rfl ?_
  refine ab_iload_n 1 dX12_shift_1 rfl ?_
  refine ab_callV (a := 62) (c0 := 12) (d' := d) (mc' := 0) (ms' := 0) (vs := [.int a1]) (st := []) dX12_shift_2 ⟨cw_X12_isTape, w_1439⟩ w_1441 w_67 (by decide) (hL.sh 62 rfl (by decide) (by decide)).1 (hL.sh 62 rfl (by decide) (by decide)).2 rfl rfl (Nat.le_of_ble_eq_true rfl) (Nat.le_refl _) (Nat.zero_le _) (Nat.zero_le _) (AM.mono h (fun r M1 ⟨x2, hr3, hc4, h⟩ => ?_))
  subst hr3
  refine ab_rs ?_
  have hm5 : Sm M M1 := (Sm.refl M).trans hc4
  have hl6 := hL.of hm5
  refine ab_if_eq (tgt := 16) dX12_shift_5 (by decide) (fun c7 => ?_) (fun c7 => ?_)
  · have h := h.1 c7
    refine ab_iconst (v := (-1)) dX12_shift_16 (by decide) ?_
    exact ab_iret dX12_shift_17 rfl h
  · have h := h.2 c7
    refine ab_aload_n 0 dX12_shift_8 rfl ?_
    refine ab_iload_n 3 dX12_shift_9 rfl ?_
    refine ab_callV (a := 62) (c0 := 12) (d' := d) (mc' := 0) (ms' := 0) (vs := [.int a3]) (st := []) dX12_shift_10 ⟨cw_X12_isTape, w_1439⟩ w_1441 w_67 (by decide) (hl6.sh 62 rfl (by decide) (by decide)).1 (hl6.sh 62 rfl (by decide) (by decide)).2 rfl rfl (Nat.le_of_ble_eq_true rfl) (Nat.le_refl _) (Nat.zero_le _) (Nat.zero_le _) (AM.mono h (fun r M8 ⟨x9, hr10, hc11, h⟩ => ?_))
    subst hr10
    refine ab_rs ?_
    have hm12 : Sm M M8 := hm5.trans hc11
    have hl13 := hL.of hm12
    refine ab_if_ne (tgt := 18) dX12_shift_13 (by decide) (fun c14 => ?_) (fun c14 => ?_)
    · have h := h.1 c14
      refine ab_aload_n 0 dX12_shift_18 rfl ?_
      refine ab_getP (r := 94) dX12_shift_19 fs_12_167_12 rfl (hl13.sh 62 rfl (by decide) (by decide)).1 (hl13.sh 62 rfl (by decide) (by decide)).2 (hl13.pt 92 rfl (by decide) (by decide)) ?_
      refine ab_iload_n 1 dX12_shift_22 rfl ?_
      have hb15 := h.1
      have h := h.2
      refine ab_ialdj (j := a1.toNatClampNeg) dX12_shift_23 (hl13.sh 94 rfl (by decide) (by decide)) hb15 rfl ?_
      refine ab_if_lt (tgt := 36) dX12_shift_24 (by decide) (fun c16 => ?_) (fun c16 => ?_)
      · have h := h.1 c16
        refine ab_bipush (v := (-11)) dX12_shift_36 (by decide) ?_
        exact ab_iret dX12_shift_38 rfl h
      · have h := h.2 c16
        refine ab_aload_n 0 dX12_shift_27 rfl ?_
        refine ab_getP (r := 94) dX12_shift_28 fs_12_167_12 rfl (hl13.sh 62 rfl (by decide) (by decide)).1 (hl13.sh 62 rfl (by decide) (by decide)).2 (hl13.pt 92 rfl (by decide) (by decide)) ?_
        refine ab_iload_n 3 dX12_shift_31 rfl ?_
        have hb17 := h.1
        have h := h.2
        refine ab_ialdj (j := a3.toNatClampNeg) dX12_shift_32 (hl13.sh 94 rfl (by decide) (by decide)) hb17 rfl ?_
        refine ab_if_ge (tgt := 39) dX12_shift_33 (by decide) (fun c18 => ?_) (fun c18 => ?_)
        · have h := h.1 c18
          refine ab_aload_n 0 dX12_shift_39 rfl ?_
          refine ab_getP (r := 94) dX12_shift_40 fs_12_167_12 rfl (hl13.sh 62 rfl (by decide) (by decide)).1 (hl13.sh 62 rfl (by decide) (by decide)).2 (hl13.pt 92 rfl (by decide) (by decide)) ?_
          refine ab_iload_n 1 dX12_shift_43 rfl ?_
          refine ab_ialdj (j := a1.toNatClampNeg) dX12_shift_44 (hl13.sh 94 rfl (by decide) (by decide)) hb15 rfl ?_
          refine ab_aload_n 0 dX12_shift_45 rfl ?_
          refine ab_getP (r := 94) dX12_shift_46 fs_12_167_12 rfl (hl13.sh 62 rfl (by decide) (by decide)).1 (hl13.sh 62 rfl (by decide) (by decide)).2 (hl13.pt 92 rfl (by decide) (by decide)) ?_
          refine ab_iload_n 3 dX12_shift_49 rfl ?_
          refine ab_ialdj (j := a3.toNatClampNeg) dX12_shift_50 (hl13.sh 94 rfl (by decide) (by decide)) hb17 rfl ?_
          refine ab_icmp_eq (tgt := 57) dX12_shift_51 (by decide) (fun c19 => ?_) (fun c19 => ?_)
          · have h := h.1 c19
            refine ab_iload 5 dX12_shift_57 rfl ?_
            refine ab_if_lt (tgt := 98) dX12_shift_59 (by decide) (fun c20 => ?_) (fun c20 => ?_)
            · have h := h.1 c20
              refine ab_bipush (v := (-13)) dX12_shift_98 (by decide) ?_
              exact ab_iret dX12_shift_100 rfl h
            · have h := h.2 c20
              refine ab_iload_n 2 dX12_shift_62 rfl ?_
              refine ab_if_lt (tgt := 98) dX12_shift_63 (by decide) (fun c21 => ?_) (fun c21 => ?_)
              · have h := h.1 c21
                refine ab_bipush (v := (-13)) dX12_shift_98 (by decide) ?_
                exact ab_iret dX12_shift_100 rfl h
              · have h := h.2 c21
                refine ab_iload 4 dX12_shift_66 rfl ?_
                refine ab_if_lt (tgt := 98) dX12_shift_68 (by decide) (fun c22 => ?_) (fun c22 => ?_)
                · have h := h.1 c22
                  refine ab_bipush (v := (-13)) dX12_shift_98 (by decide) ?_
                  exact ab_iret dX12_shift_100 rfl h
                · have h := h.2 c22
                  refine ab_iload_n 2 dX12_shift_71 rfl ?_
                  refine ab_aload_n 0 dX12_shift_72 rfl ?_
                  refine ab_getP (r := 95) dX12_shift_73 fs_12_170_12 rfl (hl13.sh 62 rfl (by decide) (by decide)).1 (hl13.sh 62 rfl (by decide) (by decide)).2 (hl13.pt 93 rfl (by decide) (by decide)) ?_
                  refine ab_iload_n 1 dX12_shift_76 rfl ?_
                  refine ab_ialdj (j := a1.toNatClampNeg) dX12_shift_77 (hl13.sh 95 rfl (by decide) (by decide)) hb15 rfl ?_
                  refine ab_iload 5 dX12_shift_78 rfl ?_
                  refine ab_isub dX12_shift_80 ?_
                  refine ab_icmp_gt (tgt := 98) dX12_shift_81 (by decide) (fun c23 => ?_) (fun c23 => ?_)
                  · have h := h.1 c23
                    refine ab_bipush (v := (-13)) dX12_shift_98 (by decide) ?_
                    exact ab_iret dX12_shift_100 rfl h
                  · have h := h.2 c23
                    refine ab_iload 4 dX12_shift_84 rfl ?_
                    refine ab_aload_n 0 dX12_shift_86 rfl ?_
                    refine ab_getP (r := 95) dX12_shift_87 fs_12_170_12 rfl (hl13.sh 62 rfl (by decide) (by decide)).1 (hl13.sh 62 rfl (by decide) (by decide)).2 (hl13.pt 93 rfl (by decide) (by decide)) ?_
                    refine ab_iload_n 3 dX12_shift_90 rfl ?_
                    refine ab_ialdj (j := a3.toNatClampNeg) dX12_shift_91 (hl13.sh 95 rfl (by decide) (by decide)) hb17 rfl ?_
                    refine ab_iload 5 dX12_shift_92 rfl ?_
                    refine ab_isub dX12_shift_94 ?_
                    refine ab_icmp_le (tgt := 101) dX12_shift_95 (by decide) (fun c24 => ?_) (fun c24 => ?_)
                    · have h := h.1 c24
                      refine ab_iconst (v := 0) dX12_shift_101 (by decide) ?_
                      refine ab_istore (lv1 := [(6, .int (0 : Int32)), (0, .ref 62), (1, .int a1), (2, .int a2), (3, .int a3), (4, .int a4), (5, .int a5)]) dX12_shift_102 (by decide) rfl ?_
                      exact ab_sub [1, 2, 3, 4, 5, 6, 0] rfl h
                    · have h := h.2 c24
                      refine ab_bipush (v := (-13)) dX12_shift_98 (by decide) ?_
                      exact ab_iret dX12_shift_100 rfl h
          · have h := h.2 c19
            refine ab_bipush (v := (-12)) dX12_shift_54 (by decide) ?_
            exact ab_iret dX12_shift_56 rfl h
        · have h := h.2 c18
          refine ab_bipush (v := (-11)) dX12_shift_36 (by decide) ?_
          exact ab_iret dX12_shift_38 rfl h
    · have h := h.2 c14
      refine ab_iconst (v := (-1)) dX12_shift_16 (by decide) ?_
      exact ab_iret dX12_shift_17 rfl h
set_option maxRecDepth 20000 in
theorem rX12_shift_104 (D : GD) (d : Nat)  (v1 : Int32) (v2 : Int32) (v3 : Int32) (v4 : Int32) (v5 : Int32) (v6 : Int32) (M : Mm) (post : Option Value → Mm → Prop) (hL : Lay 62 98 M) 
    (h : ((v5 ≤ v6 → LX12_shift_141 D d v3 v4 v5 (0 : Int32) M post) ∧ (¬ v5 ≤ v6 → vp_in ((((60 : Int32) * v1) + v2) + v6) 360 ∧ vp_in v6 60 ∧ ∀ M4 : Mm, M4 = sL M 97 v6.toNatClampNeg (gL M 96 (((((60 : Int32) * v1) + v2) + v6).toNatClampNeg)) → ∀ x8 : Int32, x8 = v6 + (1 : Int32) → LX12_shift_104 D d v1 v2 v3 v4 v5 x8 M4 post))) :
    LX12_shift_104 D d v1 v2 v3 v4 v5 v6 M post := by
  show AW D (d + 1) 0 0 mX12_shift 0 0 104 [(0, .ref 62), (1, .int v1), (2, .int v2), (3, .int v3), (4, .int v4), (5, .int v5), (6, .int v6)] [] M post
  refine ab_iload 6 dX12_shift_104 rfl ?_
  refine ab_iload 5 dX12_shift_106 rfl ?_
  refine ab_icmp_ge (tgt := 138) dX12_shift_108 (by decide) (fun c1 => ?_) (fun c1 => ?_)
  · have h := h.1 c1
    refine ab_iconst (v := 0) dX12_shift_138 (by decide) ?_
    refine ab_istore (lv1 := [(6, .int (0 : Int32)), (0, .ref 62), (1, .int v1), (2, .int v2), (3, .int v3), (4, .int v4), (5, .int v5)]) dX12_shift_139 (by decide) rfl ?_
    exact ab_sub [1, 4, 5, 6, 0] rfl h
  · have h := h.2 c1
    refine ab_aload_n 0 dX12_shift_111 rfl ?_
    refine ab_getP (r := 97) dX12_shift_112 fs_12_177_12 rfl (hL.sh 62 rfl (by decide) (by decide)).1 (hL.sh 62 rfl (by decide) (by decide)).2 (hL.pt 95 rfl (by decide) (by decide)) ?_
    refine ab_iload 6 dX12_shift_115 rfl ?_
    refine ab_aload_n 0 dX12_shift_117 rfl ?_
    refine ab_getP (r := 96) dX12_shift_118 fs_12_173_12 rfl (hL.sh 62 rfl (by decide) (by decide)).1 (hL.sh 62 rfl (by decide) (by decide)).2 (hL.pt 94 rfl (by decide) (by decide)) ?_
    refine ab_bipush (v := 60) dX12_shift_121 (by decide) ?_
    refine ab_iload_n 1 dX12_shift_123 rfl ?_
    refine ab_imul dX12_shift_124 ?_
    refine ab_iload_n 2 dX12_shift_125 rfl ?_
    refine ab_iadd dX12_shift_126 ?_
    refine ab_iload 6 dX12_shift_127 rfl ?_
    refine ab_iadd dX12_shift_129 ?_
    have hb2 := h.1
    have h := h.2
    refine ab_laldj (j := ((((60 : Int32) * v1) + v2) + v6).toNatClampNeg) dX12_shift_130 (hL.sh 96 rfl (by decide) (by decide)) hb2 rfl ?_
    have hb3 := h.1
    have h := h.2
    refine ab_lastj (j := v6.toNatClampNeg) dX12_shift_131 (hL.sh 97 rfl (by decide) (by decide)) hb3 rfl ?_
    refine ab_nameM (fun M4 hM4 => ?_)
    have h := h M4 hM4
    have hs7 : Sm M M4 := hM4 ▸ (Sm.refl _).l
    have hm5 : Sm M M4 := (Sm.refl M).trans hs7
    have hl6 := hL.of hm5
    obtain ⟨x8, hx8⟩ : ∃ y : Int32, y = v6 + (1 : Int32) := ⟨_, rfl⟩
    have h := h x8 hx8
    refine ab_iinc (v := x8) 6 (lv1 := [(6, .int x8), (0, .ref 62), (1, .int v1), (2, .int v2), (3, .int v3), (4, .int v4), (5, .int v5)]) dX12_shift_132 rfl (by rw [hx8]; rfl) (by decide) rfl ?_
    refine ab_goto (tgt := 104) dX12_shift_135 (by decide) ?_
    exact ab_sub [1, 2, 3, 4, 5, 6, 0] rfl h
set_option maxRecDepth 20000 in
theorem rX12_shift_141 (D : GD) (d : Nat)  (v3 : Int32) (v4 : Int32) (v5 : Int32) (v6 : Int32) (M : Mm) (post : Option Value → Mm → Prop) (hL : Lay 62 98 M) 
    (h : ((v5 ≤ v6 → post (some (.int v5)) M) ∧ (¬ v5 ≤ v6 → vp_in v6 60 ∧ vp_in ((((60 : Int32) * v3) + v4) + v6) 360 ∧ ∀ M4 : Mm, M4 = sL M 96 (((((60 : Int32) * v3) + v4) + v6).toNatClampNeg) (gL M 97 v6.toNatClampNeg) → ∀ x8 : Int32, x8 = v6 + (1 : Int32) → LX12_shift_141 D d v3 v4 v5 x8 M4 post))) :
    LX12_shift_141 D d v3 v4 v5 v6 M post := by
  show AW D (d + 1) 0 0 mX12_shift 0 0 141 [(0, .ref 62), (3, .int v3), (4, .int v4), (5, .int v5), (6, .int v6)] [] M post
  refine ab_iload 4 dX12_shift_141 rfl ?_
  refine ab_iload 3 dX12_shift_143 rfl ?_
  refine ab_icmp_ge (tgt := 176) dX12_shift_145 (by decide) (fun c1 => ?_) (fun c1 => ?_)
  · have h := h.1 c1
    refine ab_iload 3 dX12_shift_176 rfl ?_
    exact ab_iret dX12_shift_178 rfl h
  · have h := h.2 c1
    refine ab_aload_n 0 dX12_shift_148 rfl ?_
    refine ab_getP (r := 96) dX12_shift_149 fs_12_173_12 rfl (hL.sh 62 rfl (by decide) (by decide)).1 (hL.sh 62 rfl (by decide) (by decide)).2 (hL.pt 94 rfl (by decide) (by decide)) ?_
    refine ab_bipush (v := 60) dX12_shift_152 (by decide) ?_
    refine ab_iload_n 1 dX12_shift_154 rfl ?_
    refine ab_imul dX12_shift_155 ?_
    refine ab_iload 2 dX12_shift_156 rfl ?_
    refine ab_iadd dX12_shift_158 ?_
    refine ab_iload 4 dX12_shift_159 rfl ?_
    refine ab_iadd dX12_shift_161 ?_
    refine ab_aload_n 0 dX12_shift_162 rfl ?_
    refine ab_getP (r := 97) dX12_shift_163 fs_12_177_12 rfl (hL.sh 62 rfl (by decide) (by decide)).1 (hL.sh 62 rfl (by decide) (by decide)).2 (hL.pt 95 rfl (by decide) (by decide)) ?_
    refine ab_iload 4 dX12_shift_166 rfl ?_
    have hb2 := h.1
    have h := h.2
    refine ab_laldj (j := v6.toNatClampNeg) dX12_shift_168 (hL.sh 97 rfl (by decide) (by decide)) hb2 rfl ?_
    have hb3 := h.1
    have h := h.2
    refine ab_lastj (j := ((((60 : Int32) * v3) + v4) + v6).toNatClampNeg) dX12_shift_169 (hL.sh 96 rfl (by decide) (by decide)) hb3 rfl ?_
    refine ab_nameM (fun M4 hM4 => ?_)
    have h := h M4 hM4
    have hs7 : Sm M M4 := hM4 ▸ (Sm.refl _).l
    have hm5 : Sm M M4 := (Sm.refl M).trans hs7
    have hl6 := hL.of hm5
    obtain ⟨x8, hx8⟩ : ∃ y : Int32, y = v6 + (1 : Int32) := ⟨_, rfl⟩
    have h := h x8 hx8
    refine ab_iinc (v := x8) 4 (lv1 := [(6, .int x8), (0, .ref 62), (3, .int v3), (4, .int v4), (5, .int v5)]) dX12_shift_170 rfl (by rw [hx8]; rfl) (by decide) rfl ?_
    refine ab_goto (tgt := 141) dX12_shift_173 (by decide) ?_
    exact ab_sub [1, 2, 3, 4, 0] rfl h
