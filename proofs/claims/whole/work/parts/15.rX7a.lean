theorem dX7_scoreIndex_0 : decode cX7_scoreIndex 0 = .ok (.iload_n 0, 1) := by decide +kernel
theorem dX7_scoreIndex_1 : decode cX7_scoreIndex 1 = .ok (.bipush 6, 2) := by decide +kernel
theorem dX7_scoreIndex_3 : decode cX7_scoreIndex 3 = .ok (.imul, 1) := by decide +kernel
theorem dX7_scoreIndex_4 : decode cX7_scoreIndex 4 = .ok (.iload_n 1, 1) := by decide +kernel
theorem dX7_scoreIndex_5 : decode cX7_scoreIndex 5 = .ok (.iadd, 1) := by decide +kernel
theorem dX7_scoreIndex_6 : decode cX7_scoreIndex 6 = .ok (.ireturn, 1) := by decide +kernel
set_option maxRecDepth 20000 in
theorem rX7_scoreIndex (D : GD) (d : Nat) (a1 : Int32) (a2 : Int32) (M : Mm) (post : Option Value → Mm → Prop) (hL : Lay 29 46 M) 
    (h : post (some (.int ((a1 * (6 : Int32)) + a2))) M) :
    AM D d 0 0 mX7_scoreIndex [.int a1, .int a2] M post := by
  refine AM.of (by decide) (Nat.le_of_ble_eq_true rfl) ?_
  show AW D d 0 0 mX7_scoreIndex 0 0 0 [(0, .int a1), (1, .int a2)] [] M post
  refine ab_iload_n 0 dX7_scoreIndex_0 rfl ?_
  refine ab_bipush (v := 6) dX7_scoreIndex_1 (by decide) ?_
  refine ab_imul dX7_scoreIndex_3 ?_
  refine ab_iload_n 1 dX7_scoreIndex_4 rfl ?_
  refine ab_iadd dX7_scoreIndex_5 ?_
  exact ab_iret dX7_scoreIndex_6 rfl h
theorem dX7_chanceIndex_0 : decode cX7_chanceIndex 0 = .ok (.iload_n 0, 1) := by decide +kernel
theorem dX7_chanceIndex_1 : decode cX7_chanceIndex 1 = .ok (.iconst 5, 1) := by decide +kernel
theorem dX7_chanceIndex_2 : decode cX7_chanceIndex 2 = .ok (.imul, 1) := by decide +kernel
theorem dX7_chanceIndex_3 : decode cX7_chanceIndex 3 = .ok (.iload_n 1, 1) := by decide +kernel
theorem dX7_chanceIndex_4 : decode cX7_chanceIndex 4 = .ok (.iadd, 1) := by decide +kernel
theorem dX7_chanceIndex_5 : decode cX7_chanceIndex 5 = .ok (.bipush 11, 2) := by decide +kernel
theorem dX7_chanceIndex_7 : decode cX7_chanceIndex 7 = .ok (.imul, 1) := by decide +kernel
theorem dX7_chanceIndex_8 : decode cX7_chanceIndex 8 = .ok (.iload_n 2, 1) := by decide +kernel
theorem dX7_chanceIndex_9 : decode cX7_chanceIndex 9 = .ok (.iadd, 1) := by decide +kernel
theorem dX7_chanceIndex_10 : decode cX7_chanceIndex 10 = .ok (.iconst 5, 1) := by decide +kernel
theorem dX7_chanceIndex_11 : decode cX7_chanceIndex 11 = .ok (.iadd, 1) := by decide +kernel
theorem dX7_chanceIndex_12 : decode cX7_chanceIndex 12 = .ok (.ireturn, 1) := by decide +kernel
set_option maxRecDepth 20000 in
theorem rX7_chanceIndex (D : GD) (d : Nat) (a1 : Int32) (a2 : Int32) (a3 : Int32) (M : Mm) (post : Option Value → Mm → Prop) (hL : Lay 29 46 M) 
    (h : post (some (.int (((((a1 * (5 : Int32)) + a2) * (11 : Int32)) + a3) + (5 : Int32)))) M) :
    AM D d 0 0 mX7_chanceIndex [.int a1, .int a2, .int a3] M post := by
  refine AM.of (by decide) (Nat.le_of_ble_eq_true rfl) ?_
  show AW D d 0 0 mX7_chanceIndex 0 0 0 [(0, .int a1), (1, .int a2), (2, .int a3)] [] M post
  refine ab_iload_n 0 dX7_chanceIndex_0 rfl ?_
  refine ab_iconst (v := 5) dX7_chanceIndex_1 (by decide) ?_
  refine ab_imul dX7_chanceIndex_2 ?_
  refine ab_iload_n 1 dX7_chanceIndex_3 rfl ?_
  refine ab_iadd dX7_chanceIndex_4 ?_
  refine ab_bipush (v := 11) dX7_chanceIndex_5 (by decide) ?_
  refine ab_imul dX7_chanceIndex_7 ?_
  refine ab_iload_n 2 dX7_chanceIndex_8 rfl ?_
  refine ab_iadd dX7_chanceIndex_9 ?_
  refine ab_iconst (v := 5) dX7_chanceIndex_10 (by decide) ?_
  refine ab_iadd dX7_chanceIndex_11 ?_
  exact ab_iret dX7_chanceIndex_12 rfl h
theorem dX7_isManned_0 : decode cX7_isManned 0 = .ok (.iconst 0, 1) := by decide +kernel
theorem dX7_isManned_1 : decode cX7_isManned 1 = .ok (.istore_n 1, 1) := by decide +kernel
theorem dX7_isManned_2 : decode cX7_isManned 2 = .ok (.iload_n 1, 1) := by decide +kernel
theorem dX7_isManned_3 : decode cX7_isManned 3 = .ok (.aload_n 0, 1) := by decide +kernel
theorem dX7_isManned_4 : decode cX7_isManned 4 = .ok (.getfield 11, 3) := by decide +kernel
theorem dX7_isManned_7 : decode cX7_isManned 7 = .ok (.arraylength, 1) := by decide +kernel
theorem dX7_isManned_8 : decode cX7_isManned 8 = .ok (.if_icmp .ge 20, 3) := by decide +kernel
theorem dX7_isManned_11 : decode cX7_isManned 11 = .ok (.aload_n 0, 1) := by decide +kernel
theorem dX7_isManned_12 : decode cX7_isManned 12 = .ok (.getfield 11, 3) := by decide +kernel
theorem dX7_isManned_15 : decode cX7_isManned 15 = .ok (.iload_n 1, 1) := by decide +kernel
theorem dX7_isManned_16 : decode cX7_isManned 16 = .ok (.aaload, 1) := by decide +kernel
theorem dX7_isManned_17 : decode cX7_isManned 17 = .ok (.ifnonnull 5, 3) := by decide +kernel
theorem dX7_isManned_20 : decode cX7_isManned 20 = .ok (.iconst 0, 1) := by decide +kernel
theorem dX7_isManned_21 : decode cX7_isManned 21 = .ok (.ireturn, 1) := by decide +kernel
theorem dX7_isManned_22 : decode cX7_isManned 22 = .ok (.iinc 1 1, 3) := by decide +kernel
theorem dX7_isManned_25 : decode cX7_isManned 25 = .ok (.goto (-23), 3) := by decide +kernel
theorem dX7_isManned_28 : decode cX7_isManned 28 = .ok (.iconst 1, 1) := by decide +kernel
theorem dX7_isManned_29 : decode cX7_isManned 29 = .ok (.ireturn, 1) := by decide +kernel
def LX7_isManned_2 (D : GD) (d : Nat) (v1 : Int32) (M : Mm) (post : Option Value → Mm → Prop) : Prop := AW D d 0 0 mX7_isManned 0 0 2 [(0, .ref 29), (1, .int v1)] [] M post
set_option maxRecDepth 20000 in
theorem rX7_isManned (D : GD) (d : Nat)  (M : Mm) (post : Option Value → Mm → Prop) (hL : Lay 29 46 M) 
    (h : LX7_isManned_2 D d (0 : Int32) M post) :
    AM D d 0 0 mX7_isManned [.ref 29] M post := by
  refine AM.of (by decide) (Nat.le_of_ble_eq_true rfl) ?_
  show AW D d 0 0 mX7_isManned 0 0 0 [(0, .ref 29)] [] M post
  refine ab_iconst (v := 0) dX7_isManned_0 (by decide) ?_
  refine ab_istore_n (lv1 := [(1, .int (0 : Int32)), (0, .ref 29)]) dX7_isManned_1 (by decide) rfl ?_
  exact ab_sub [1, 0] rfl h
set_option maxRecDepth 20000 in
theorem rX7_isManned_2 (D : GD) (d : Nat)  (v1 : Int32) (M : Mm) (post : Option Value → Mm → Prop) (hL : Lay 29 46 M) 
    (h : (((12 : Int32) ≤ v1 → post (some (.int (1 : Int32))) M) ∧ (¬ (12 : Int32) ≤ v1 → vp_in v1 12 ∧ ((∀ p4 : Nat, (gP M 30 v1.toNatClampNeg) = some p4 → ∀ x5 : Int32, x5 = v1 + (1 : Int32) → LX7_isManned_2 D d x5 M post) ∧ ((gP M 30 v1.toNatClampNeg) = none → post (some (.int (0 : Int32))) M))))) :
    LX7_isManned_2 D d v1 M post := by
  show AW D d 0 0 mX7_isManned 0 0 2 [(0, .ref 29), (1, .int v1)] [] M post
  refine ab_iload_n 1 dX7_isManned_2 rfl ?_
  refine ab_aload_n 0 dX7_isManned_3 rfl ?_
  refine ab_getP (r := 30) dX7_isManned_4 fs_7_11_7 rfl (hL.sh 29 rfl (by decide) (by decide)).1 (hL.sh 29 rfl (by decide) (by decide)).2 (hL.pt 36 rfl (by decide) (by decide)) ?_
  refine ab_alenv (t := 6) (n := 12) (v := 12) dX7_isManned_7 (hL.sh 30 rfl (by decide) (by decide)) (by decide) (by decide) rfl ?_
  refine ab_icmp_ge (tgt := 28) dX7_isManned_8 (by decide) (fun c1 => ?_) (fun c1 => ?_)
  · have h := h.1 c1
    refine ab_iconst (v := 1) dX7_isManned_28 (by decide) ?_
    exact ab_zret dX7_isManned_29 rfl rfl h
  · have h := h.2 c1
    refine ab_aload_n 0 dX7_isManned_11 rfl ?_
    refine ab_getP (r := 30) dX7_isManned_12 fs_7_11_7 rfl (hL.sh 29 rfl (by decide) (by decide)).1 (hL.sh 29 rfl (by decide) (by decide)).2 (hL.pt 36 rfl (by decide) (by decide)) ?_
    refine ab_iload_n 1 dX7_isManned_15 rfl ?_
    have hb2 := h.1
    have h := h.2
    refine ab_aald6j (j := v1.toNatClampNeg) dX7_isManned_16 (hL.sh 30 rfl (by decide) (by decide)) hb2 rfl ?_
    refine ab_ifnonnull (tgt := 22) dX7_isManned_17 (by decide) (fun p4 c3 => ?_) (fun c3 => ?_)
    · have h := h.1 p4 c3
      obtain ⟨x5, hx5⟩ : ∃ y : Int32, y = v1 + (1 : Int32) := ⟨_, rfl⟩
      have h := h x5 hx5
      refine ab_iinc (v := x5) 1 (lv1 := [(1, .int x5), (0, .ref 29)]) dX7_isManned_22 rfl (by rw [hx5]; rfl) (by decide) rfl ?_
      refine ab_goto (tgt := 2) dX7_isManned_25 (by decide) ?_
      exact ab_sub [1, 0] rfl h
    · have h := h.2 c3
      refine ab_iconst (v := 0) dX7_isManned_20 (by decide) ?_
      exact ab_zret dX7_isManned_21 rfl rfl h
theorem dX7_stepBack_0 : decode cX7_stepBack 0 = .ok (.iload_n 1, 1) := by decide +kernel
theorem dX7_stepBack_1 : decode cX7_stepBack 1 = .ok (.iconst 2, 1) := by decide +kernel
theorem dX7_stepBack_2 : decode cX7_stepBack 2 = .ok (.idiv, 1) := by decide +kernel
theorem dX7_stepBack_3 : decode cX7_stepBack 3 = .ok (.istore_n 3, 1) := by decide +kernel
theorem dX7_stepBack_4 : decode cX7_stepBack 4 = .ok (.iload_n 1, 1) := by decide +kernel
theorem dX7_stepBack_5 : decode cX7_stepBack 5 = .ok (.iconst 2, 1) := by decide +kernel
theorem dX7_stepBack_6 : decode cX7_stepBack 6 = .ok (.irem, 1) := by decide +kernel
theorem dX7_stepBack_7 : decode cX7_stepBack 7 = .ok (.istore 4, 2) := by decide +kernel
theorem dX7_stepBack_9 : decode cX7_stepBack 9 = .ok (.aload_n 0, 1) := by decide +kernel
theorem dX7_stepBack_10 : decode cX7_stepBack 10 = .ok (.getfield 22, 3) := by decide +kernel
theorem dX7_stepBack_13 : decode cX7_stepBack 13 = .ok (.iload_n 1, 1) := by decide +kernel
theorem dX7_stepBack_14 : decode cX7_stepBack 14 = .ok (.iconst 1, 1) := by decide +kernel
theorem dX7_stepBack_15 : decode cX7_stepBack 15 = .ok (.iadd, 1) := by decide +kernel
theorem dX7_stepBack_16 : decode cX7_stepBack 16 = .ok (.aaload, 1) := by decide +kernel
theorem dX7_stepBack_17 : decode cX7_stepBack 17 = .ok (.astore 5, 2) := by decide +kernel
theorem dX7_stepBack_19 : decode cX7_stepBack 19 = .ok (.iconst 0, 1) := by decide +kernel
theorem dX7_stepBack_20 : decode cX7_stepBack 20 = .ok (.istore 6, 2) := by decide +kernel
theorem dX7_stepBack_22 : decode cX7_stepBack 22 = .ok (.iload 6, 2) := by decide +kernel
theorem dX7_stepBack_24 : decode cX7_stepBack 24 = .ok (.iload_n 3, 1) := by decide +kernel
theorem dX7_stepBack_25 : decode cX7_stepBack 25 = .ok (.iload 4, 2) := by decide +kernel
theorem dX7_stepBack_27 : decode cX7_stepBack 27 = .ok (.iadd, 1) := by decide +kernel
theorem dX7_stepBack_28 : decode cX7_stepBack 28 = .ok (.if_icmp .gt 141, 3) := by decide +kernel
theorem dX7_stepBack_31 : decode cX7_stepBack 31 = .ok (.iconst 0, 1) := by decide +kernel
theorem dX7_stepBack_32 : decode cX7_stepBack 32 = .ok (.istore 7, 2) := by decide +kernel
theorem dX7_stepBack_34 : decode cX7_stepBack 34 = .ok (.iload 7, 2) := by decide +kernel
theorem dX7_stepBack_36 : decode cX7_stepBack 36 = .ok (.iload_n 3, 1) := by decide +kernel
theorem dX7_stepBack_37 : decode cX7_stepBack 37 = .ok (.if_icmp .gt 126, 3) := by decide +kernel
theorem dX7_stepBack_40 : decode cX7_stepBack 40 = .ok (.iload 4, 2) := by decide +kernel
theorem dX7_stepBack_42 : decode cX7_stepBack 42 = .ok (.ifCond .ne 11, 3) := by decide +kernel
theorem dX7_stepBack_45 : decode cX7_stepBack 45 = .ok (.iload 6, 2) := by decide +kernel
theorem dX7_stepBack_47 : decode cX7_stepBack 47 = .ok (.iload 7, 2) := by decide +kernel
theorem dX7_stepBack_49 : decode cX7_stepBack 49 = .ok (.isub, 1) := by decide +kernel
theorem dX7_stepBack_50 : decode cX7_stepBack 50 = .ok (.goto 8, 3) := by decide +kernel
theorem dX7_stepBack_53 : decode cX7_stepBack 53 = .ok (.iload 7, 2) := by decide +kernel
theorem dX7_stepBack_55 : decode cX7_stepBack 55 = .ok (.iload 6, 2) := by decide +kernel
theorem dX7_stepBack_57 : decode cX7_stepBack 57 = .ok (.isub, 1) := by decide +kernel
theorem dX7_stepBack_58 : decode cX7_stepBack 58 = .ok (.istore 8, 2) := by decide +kernel
theorem dX7_stepBack_60 : decode cX7_stepBack 60 = .ok (.aload_n 0, 1) := by decide +kernel
theorem dX7_stepBack_61 : decode cX7_stepBack 61 = .ok (.getfield 19, 3) := by decide +kernel
theorem dX7_stepBack_64 : decode cX7_stepBack 64 = .ok (.iload 4, 2) := by decide +kernel
theorem dX7_stepBack_66 : decode cX7_stepBack 66 = .ok (.aaload, 1) := by decide +kernel
theorem dX7_stepBack_67 : decode cX7_stepBack 67 = .ok (.iload_n 2, 1) := by decide +kernel
theorem dX7_stepBack_68 : decode cX7_stepBack 68 = .ok (.iload_n 3, 1) := by decide +kernel
theorem dX7_stepBack_69 : decode cX7_stepBack 69 = .ok (.iload 8, 2) := by decide +kernel
theorem dX7_stepBack_71 : decode cX7_stepBack 71 = .ok (.invokestatic 56, 3) := by decide +kernel
theorem dX7_stepBack_74 : decode cX7_stepBack 74 = .ok (.iaload, 1) := by decide +kernel
theorem dX7_stepBack_75 : decode cX7_stepBack 75 = .ok (.i2l, 1) := by decide +kernel
theorem dX7_stepBack_76 : decode cX7_stepBack 76 = .ok (.lstore 9, 2) := by decide +kernel
theorem dX7_stepBack_78 : decode cX7_stepBack 78 = .ok (.aload 5, 2) := by decide +kernel
theorem dX7_stepBack_80 : decode cX7_stepBack 80 = .ok (.iload 4, 2) := by decide +kernel
theorem dX7_stepBack_82 : decode cX7_stepBack 82 = .ok (.ifCond .ne 15, 3) := by decide +kernel
theorem dX7_stepBack_85 : decode cX7_stepBack 85 = .ok (.iload 6, 2) := by decide +kernel
theorem dX7_stepBack_87 : decode cX7_stepBack 87 = .ok (.iconst 1, 1) := by decide +kernel
theorem dX7_stepBack_88 : decode cX7_stepBack 88 = .ok (.iadd, 1) := by decide +kernel
theorem dX7_stepBack_89 : decode cX7_stepBack 89 = .ok (.iload 7, 2) := by decide +kernel
theorem dX7_stepBack_91 : decode cX7_stepBack 91 = .ok (.invokestatic 32, 3) := by decide +kernel
theorem dX7_stepBack_94 : decode cX7_stepBack 94 = .ok (.goto 12, 3) := by decide +kernel
theorem dX7_stepBack_97 : decode cX7_stepBack 97 = .ok (.iload 6, 2) := by decide +kernel
theorem dX7_stepBack_99 : decode cX7_stepBack 99 = .ok (.iload 7, 2) := by decide +kernel
theorem dX7_stepBack_101 : decode cX7_stepBack 101 = .ok (.iconst 1, 1) := by decide +kernel
theorem dX7_stepBack_102 : decode cX7_stepBack 102 = .ok (.iadd, 1) := by decide +kernel
theorem dX7_stepBack_103 : decode cX7_stepBack 103 = .ok (.invokestatic 32, 3) := by decide +kernel
theorem dX7_stepBack_106 : decode cX7_stepBack 106 = .ok (.iaload, 1) := by decide +kernel
theorem dX7_stepBack_107 : decode cX7_stepBack 107 = .ok (.i2l, 1) := by decide +kernel
theorem dX7_stepBack_108 : decode cX7_stepBack 108 = .ok (.lstore 11, 2) := by decide +kernel
theorem dX7_stepBack_110 : decode cX7_stepBack 110 = .ok (.aload 5, 2) := by decide +kernel
theorem dX7_stepBack_112 : decode cX7_stepBack 112 = .ok (.iload 6, 2) := by decide +kernel
theorem dX7_stepBack_114 : decode cX7_stepBack 114 = .ok (.iload 7, 2) := by decide +kernel
theorem dX7_stepBack_116 : decode cX7_stepBack 116 = .ok (.invokestatic 32, 3) := by decide +kernel
theorem dX7_stepBack_119 : decode cX7_stepBack 119 = .ok (.iaload, 1) := by decide +kernel
theorem dX7_stepBack_120 : decode cX7_stepBack 120 = .ok (.i2l, 1) := by decide +kernel
theorem dX7_stepBack_121 : decode cX7_stepBack 121 = .ok (.lstore 13, 2) := by decide +kernel
theorem dX7_stepBack_123 : decode cX7_stepBack 123 = .ok (.aload_n 0, 1) := by decide +kernel
theorem dX7_stepBack_124 : decode cX7_stepBack 124 = .ok (.getfield 22, 3) := by decide +kernel
theorem dX7_stepBack_127 : decode cX7_stepBack 127 = .ok (.iload_n 1, 1) := by decide +kernel
theorem dX7_stepBack_128 : decode cX7_stepBack 128 = .ok (.aaload, 1) := by decide +kernel
theorem dX7_stepBack_129 : decode cX7_stepBack 129 = .ok (.iload 6, 2) := by decide +kernel
theorem dX7_stepBack_131 : decode cX7_stepBack 131 = .ok (.iload 7, 2) := by decide +kernel
theorem dX7_stepBack_133 : decode cX7_stepBack 133 = .ok (.invokestatic 32, 3) := by decide +kernel
theorem dX7_stepBack_136 : decode cX7_stepBack 136 = .ok (.lload 9, 2) := by decide +kernel
theorem dX7_stepBack_138 : decode cX7_stepBack 138 = .ok (.lload 11, 2) := by decide +kernel
theorem dX7_stepBack_140 : decode cX7_stepBack 140 = .ok (.lmul, 1) := by decide +kernel
theorem dX7_stepBack_141 : decode cX7_stepBack 141 = .ok (.ldc2_w 64, 3) := by decide +kernel
theorem dX7_stepBack_144 : decode cX7_stepBack 144 = .ok (.lload 9, 2) := by decide +kernel
theorem dX7_stepBack_146 : decode cX7_stepBack 146 = .ok (.lsub, 1) := by decide +kernel
theorem dX7_stepBack_147 : decode cX7_stepBack 147 = .ok (.lload 13, 2) := by decide +kernel
theorem dX7_stepBack_149 : decode cX7_stepBack 149 = .ok (.lmul, 1) := by decide +kernel
theorem dX7_stepBack_150 : decode cX7_stepBack 150 = .ok (.ladd, 1) := by decide +kernel
theorem dX7_stepBack_151 : decode cX7_stepBack 151 = .ok (.ldc2_w 64, 3) := by decide +kernel
theorem dX7_stepBack_154 : decode cX7_stepBack 154 = .ok (.ldiv, 1) := by decide +kernel
theorem dX7_stepBack_155 : decode cX7_stepBack 155 = .ok (.l2i, 1) := by decide +kernel
theorem dX7_stepBack_156 : decode cX7_stepBack 156 = .ok (.iastore, 1) := by decide +kernel
theorem dX7_stepBack_157 : decode cX7_stepBack 157 = .ok (.iinc 7 1, 3) := by decide +kernel
theorem dX7_stepBack_160 : decode cX7_stepBack 160 = .ok (.goto (-126), 3) := by decide +kernel
theorem dX7_stepBack_163 : decode cX7_stepBack 163 = .ok (.iinc 6 1, 3) := by decide +kernel
theorem dX7_stepBack_166 : decode cX7_stepBack 166 = .ok (.goto (-144), 3) := by decide +kernel
theorem dX7_stepBack_169 : decode cX7_stepBack 169 = .ok (.return_, 1) := by decide +kernel
def LX7_stepBack_22 (D : GD) (d : Nat) (v1 : Int32) (v2 : Int32) (v3 : Int32) (v4 : Int32) (v5 : Nat) (v6 : Int32) (M : Mm) (post : Option Value → Mm → Prop) : Prop := AW D (d + 1) 0 0 mX7_stepBack 0 0 22 [(0, .ref 29), (1, .int v1), (2, .int v2), (3, .int v3), (4, .int v4), (5, .ref v5), (6, .int v6)] [] M post
def LX7_stepBack_34 (D : GD) (d : Nat) (v1 : Int32) (v2 : Int32) (v3 : Int32) (v4 : Int32) (v5 : Nat) (v6 : Int32) (v7 : Int32) (M : Mm) (post : Option Value → Mm → Prop) : Prop := AW D (d + 1) 0 0 mX7_stepBack 0 0 34 [(0, .ref 29), (1, .int v1), (2, .int v2), (3, .int v3), (4, .int v4), (5, .ref v5), (6, .int v6), (7, .int v7)] [] M post
set_option maxRecDepth 20000 in
theorem rX7_stepBack (D : GD) (d : Nat) (a1 : Int32) (a2 : Int32) (M : Mm) (post : Option Value → Mm → Prop) (hL : Lay 29 46 M) 
    (h : ∀ x1 : Int32, x1 = (a1 / (2 : Int32)) → ∀ x2 : Int32, x2 = (a1 - a1 / (2 : Int32) * (2 : Int32)) → vp_in (a1 + (1 : Int32)) 11 ∧ LX7_stepBack_22 D d a1 a2 x1 x2 (35 + (a1 + (1 : Int32)).toNatClampNeg) (0 : Int32) M post) :
    AM D (d + 1) 0 0 mX7_stepBack [.ref 29, .int a1, .int a2] M post := by
  refine AM.of (by decide) (Nat.le_of_ble_eq_true rfl) ?_
  show AW D (d + 1) 0 0 mX7_stepBack 0 0 0 [(0, .ref 29), (1, .int a1), (2, .int a2)] [] M post
  refine ab_iload_n 1 dX7_stepBack_0 rfl ?_
  refine ab_iconst (v := 2) dX7_stepBack_1 (by decide) ?_
  refine ab_idiv dX7_stepBack_2 (by decide) ?_
  refine ab_topi (fun x1 hx1 => ?_)
  have h := h x1 hx1
  refine ab_istore_n (lv1 := [(3, .int x1), (0, .ref 29), (1, .int a1), (2, .int a2)]) dX7_stepBack_3 (by decide) rfl ?_
  refine ab_iload_n 2 dX7_stepBack_4 rfl ?_
  refine ab_iconst (v := 2) dX7_stepBack_5 (by decide) ?_
  refine ab_irem dX7_stepBack_6 (by decide) ?_
  refine ab_topi (fun x2 hx2 => ?_)
  have h := h x2 hx2
  refine ab_istore (lv1 := [(4, .int x2), (3, .int x1), (0, .ref 29), (1, .int a1), (2, .int a2)]) dX7_stepBack_7 (by decide) rfl ?_
  refine ab_aload_n 2 dX7_stepBack_9 rfl ?_
  refine ab_getP (r := 34) dX7_stepBack_10 fs_7_22_7 rfl (hL.sh 29 rfl (by decide) (by decide)).1 (hL.sh 29 rfl (by decide) (by decide)).2 (hL.pt 38 rfl (by decide) (by decide)) ?_
  refine ab_iload_n 3 dX7_stepBack_13 rfl ?_
  refine ab_iconst (v := 1) dX7_stepBack_14 (by decide) ?_
  refine ab_iadd dX7_stepBack_15 ?_
  have hb3 := h.1
  have h := h.2
  refine ab_aald4j (j := (a1 + (1 : Int32)).toNatClampNeg) (r := 35 + (a1 + (1 : Int32)).toNatClampNeg) dX7_stepBack_16 (hL.sh 34 rfl (by decide) (by decide)) hb3 rfl (row_34 hL (by decide) (by decide) (vin_lt hb3)).1 ?_
  refine ab_astore (lv1 := [(5, .ref (35 + (a1 + (1 : Int32)).toNatClampNeg)), (4, .int x2), (3, .int x1), (0, .ref 29), (1, .int a1), (2, .int a2)]) dX7_stepBack_17 (by decide) rfl ?_
  refine ab_iconst (v := 0) dX7_stepBack_19 (by decide) ?_
  refine ab_istore (lv1 := [(6, .int (0 : Int32)), (5, .ref (35 + (a1 + (1 : Int32)).toNatClampNeg)), (4, .int x2), (3, .int x1), (0, .ref 29), (1, .int a1), (2, .int a2)]) dX7_stepBack_20 (by decide) rfl ?_
  exact ab_sub [4, 5, 6, 3, 2, 1, 0] rfl h
set_option maxRecDepth 20000 in
theorem rX7_stepBack_22 (D : GD) (d : Nat)  (v1 : Int32) (v2 : Int32) (v3 : Int32) (v4 : Int32) (v5 : Nat) (v6 : Int32) (M : Mm) (post : Option Value → Mm → Prop) (hL : Lay 29 46 M) (sv5 : Sh M v5 (1, 36))
    (h : (((v3 + v4) < v6 → post none M) ∧ (¬ (v3 + v4) < v6 → LX7_stepBack_34 D d v1 v2 v3 v4 v5 v6 (0 : Int32) M post))) :
    LX7_stepBack_22 D d v1 v2 v3 v4 v5 v6 M post := by
  show AW D (d + 1) 0 0 mX7_stepBack 0 0 22 [(0, .ref 29), (1, .int v1), (2, .int v2), (3, .int v3), (4, .int v4), (5, .ref v5), (6, .int v6)] [] M post
  refine ab_iload 6 dX7_stepBack_22 rfl ?_
  refine ab_iload_n 3 dX7_stepBack_24 rfl ?_
  refine ab_iload 4 dX7_stepBack_25 rfl ?_
  refine ab_iadd dX7_stepBack_27 ?_
  refine ab_icmp_gt (tgt := 169) dX7_stepBack_28 (by decide) (fun c1 => ?_) (fun c1 => ?_)
  · have h := h.1 c1
    exact ab_vret dX7_stepBack_169 rfl h
  · have h := h.2 c1
    refine ab_iconst (v := 0) dX7_stepBack_31 (by decide) ?_
    refine ab_istore (lv1 := [(7, .int (0 : Int32)), (0, .ref 29), (1, .int v1), (2, .int v2), (3, .int v3), (4, .int v4), (5, .ref v5), (6, .int v6)]) dX7_stepBack_32 (by decide) rfl ?_
    exact ab_sub [1, 2, 3, 4, 5, 6, 7, 0] rfl h
set_option maxRecDepth 20000 in
theorem rX7_stepBack_34 (D : GD) (d : Nat)  (v1 : Int32) (v2 : Int32) (v3 : Int32) (v4 : Int32) (v5 : Nat) (v6 : Int32) (v7 : Int32) (M : Mm) (post : Option Value → Mm → Prop) (hL : Lay 29 46 M) (sv5 : Sh M v5 (1, 36))
    (h : ((v3 < v7 → ∀ x2 : Int32, x2 = v6 + (1 : Int32) → LX7_stepBack_22 D d v1 v2 v3 v4 v5 x2 M post) ∧ (¬ v3 < v7 → ((¬ v4 = 0 → ∀ x4 : Int32, x4 = (v7 - v6) → vp_in v4 2 ∧ AMi D d mX7_chanceIndex [.int v2, .int v3, .int x4] M (fun x7 M6 => vp_in x7 275 ∧ ∀ x13 : Int64, x13 = ((gI M6 (32 + v4.toNatClampNeg) x7.toNatClampNeg)).toInt64 → ((¬ v4 = 0 → AMi D d mX7_scoreIndex [.int v6, .int (v7 + (1 : Int32))] M6 (fun x16 M15 => vp_in x16 36 ∧ ∀ x22 : Int64, x22 = ((gI M15 v5 x16.toNatClampNeg)).toInt64 → AMi D d mX7_scoreIndex [.int v6, .int v7] M15 (fun x24 M23 => vp_in x24 36 ∧ ∀ x30 : Int64, x30 = ((gI M23 v5 x24.toNatClampNeg)).toInt64 → vp_in v1 11 ∧ AMi D d mX7_scoreIndex [.int v6, .int v7] M23 (fun x33 M32 => vp_in x33 36 ∧ ∀ M39 : Mm, M39 = sI M32 (35 + v1.toNatClampNeg) x33.toNatClampNeg (((((x13 * x22) + (((1000000 : Int64) - x13) * x30)) / (1000000 : Int64))).toInt32) → ∀ x43 : Int32, x43 = v7 + (1 : Int32) → LX7_stepBack_34 D d v1 v2 v3 v4 v5 v6 x43 M39 post)))) ∧ (v4 = 0 → AMi D d mX7_scoreIndex [.int (v6 + (1 : Int32)), .int v7] M6 (fun x45 M44 => vp_in x45 36 ∧ ∀ x51 : Int64, x51 = ((gI M44 v5 x45.toNatClampNeg)).toInt64 → AMi D d mX7_scoreIndex [.int v6, .int v7] M44 (fun x53 M52 => vp_in x53 36 ∧ ∀ x59 : Int64, x59 = ((gI M52 v5 x53.toNatClampNeg)).toInt64 → vp_in v1 11 ∧ AMi D d mX7_scoreIndex [.int v6, .int v7] M52 (fun x62 M61 => vp_in x62 36 ∧ ∀ M68 : Mm, M68 = sI M61 (35 + v1.toNatClampNeg) x62.toNatClampNeg (((((x13 * x51) + (((1000000 : Int64) - x13) * x59)) / (1000000 : Int64))).toInt32) → ∀ x72 : Int32, x72 = v7 + (1 : Int32) → LX7_stepBack_34 D d v1 v2 v3 v4 v5 v6 x72 M68 post))))))) ∧ (v4 = 0 → ∀ x73 : Int32, x73 = (v6 - v7) → vp_in v4 2 ∧ AMi D d mX7_chanceIndex [.int v2, .int v3, .int x73] M (fun x76 M75 => vp_in x76 275 ∧ ∀ x82 : Int64, x82 = ((gI M75 (32 + v4.toNatClampNeg) x76.toNatClampNeg)).toInt64 → ((¬ v4 = 0 → AMi D d mX7_scoreIndex [.int v6, .int (v7 + (1 : Int32))] M75 (fun x85 M84 => vp_in x85 36 ∧ ∀ x91 : Int64, x91 = ((gI M84 v5 x85.toNatClampNeg)).toInt64 → AMi D d mX7_scoreIndex [.int v6, .int v7] M84 (fun x93 M92 => vp_in x93 36 ∧ ∀ x99 : Int64, x99 = ((gI M92 v5 x93.toNatClampNeg)).toInt64 → vp_in v1 11 ∧ AMi D d mX7_scoreIndex [.int v6, .int v7] M92 (fun x102 M101 => vp_in x102 36 ∧ ∀ M108 : Mm, M108 = sI M101 (35 + v1.toNatClampNeg) x102.toNatClampNeg (((((x82 * x91) + (((1000000 : Int64) - x82) * x99)) / (1000000 : Int64))).toInt32) → ∀ x112 : Int32, x112 = v7 + (1 : Int32) → LX7_stepBack_34 D d v1 v2 v3 v4 v5 v6 x112 M108 post)))) ∧ (v4 = 0 → AMi D d mX7_scoreIndex [.int (v6 + (1 : Int32)), .int v7] M75 (fun x114 M113 => vp_in x114 36 ∧ ∀ x120 : Int64, x120 = ((gI M113 v5 x114.toNatClampNeg)).toInt64 → AMi D d mX7_scoreIndex [.int v6, .int v7] M113 (fun x122 M121 => vp_in x122 36 ∧ ∀ x128 : Int64, x128 = ((gI M121 v5 x122.toNatClampNeg)).toInt64 → vp_in v1 11 ∧ AMi D d mX7_scoreIndex [.int v6, .int v7] M121 (fun x131 M130 => vp_in x131 36 ∧ ∀ M137 : Mm, M137 = sI M130 (35 + v1.toNatClampNeg) x131.toNatClampNeg (((((x82 * x120) + (((1000000 : Int64) - x82) * x128)) / (1000000 : Int64))).toInt32) → ∀ x141 : Int32, x141 = v7 + (1 : Int32) → LX7_stepBack_34 D d v1 v2 v3 v4 v5 v6 x141 M137 post))))))))))) :
    LX7_stepBack_34 D d v1 v2 v3 v4 v5 v6 v7 M post := by
  show AW D (d + 1) 0 0 mX7_stepBack 0 0 34 [(0, .ref 29), (1, .int v1), (2, .int v2), (3, .int v3), (4, .int v4), (5, .ref v5), (6, .int v6), (7, .int v7)] [] M post
  refine ab_iload 7 dX7_stepBack_34 rfl ?_
  refine ab_iload_n 3 dX7_stepBack_36 rfl ?_
  refine ab_icmp_gt (tgt := 163) dX7_stepBack_37 (by decide) (fun c1 => ?_) (fun c1 => ?_)
  · have h := h.1 c1
    obtain ⟨x2, hx2⟩ : ∃ y : Int32, y = v6 + (1 : Int32) := ⟨_, rfl⟩
    have h := h x2 hx2
    refine ab_iinc (v := x2) 6 (lv1 := [(6, .int x2), (0, .ref 29), (1, .int v1), (2, .int v2), (3, .int v3), (4, .int v4), (5, .ref v5), (7, .int v7)]) dX7_stepBack_163 rfl (by rw [hx2]; rfl) (by decide) rfl ?_
    refine ab_goto (tgt := 22) dX7_stepBack_166 (by decide) ?_
    exact ab_sub [1, 2, 3, 4, 5, 6, 0] rfl h
  · have h := h.2 c1
    refine ab_iload 4 dX7_stepBack_40 rfl ?_
    refine ab_if_ne (tgt := 53) dX7_stepBack_42 (by decide) (fun c3 => ?_) (fun c3 => ?_)
    · have h := h.1 c3
      refine ab_iload 7 dX7_stepBack_53 rfl ?_
      refine ab_iload 6 dX7_stepBack_55 rfl ?_
      refine ab_isub dX7_stepBack_57 ?_
      refine ab_topi (fun x4 hx4 => ?_)
      have h := h x4 hx4
      refine ab_istore (lv1 := [(8, .int x4), (0, .ref 29), (1, .int v1), (2, .int v2), (3, .int v3), (4, .int v4), (5, .ref v5), (6, .int v6), (7, .int v7)]) dX7_stepBack_58 (by decide) rfl ?_
      refine ab_aload_n 1 dX7_stepBack_60 rfl ?_
      refine ab_getP (r := 31) dX7_stepBack_61 fs_7_19_7 rfl (hL.sh 29 rfl (by decide) (by decide)).1 (hL.sh 29 rfl (by decide) (by decide)).2 (hL.pt 37 rfl (by decide) (by decide)) ?_
      refine ab_iload 5 dX7_stepBack_64 rfl ?_
      have hb5 := h.1
      have h := h.2
      refine ab_aald4j (j := v4.toNatClampNeg) (r := 32 + v4.toNatClampNeg) dX7_stepBack_66 (hL.sh 31 rfl (by decide) (by decide)) hb5 rfl (row_31 hL (by decide) (by decide) (vin_lt hb5)).1 ?_
      refine ab_iload_n 3 dX7_stepBack_67 rfl ?_
      refine ab_iload_n 4 dX7_stepBack_68 rfl ?_
      refine ab_iload 0 dX7_stepBack_69 rfl ?_
      refine ab_callS (d' := d) (mc' := 0) (ms' := 0) (vs := [.int v2, .int v3, .int x4]) (st := [.ref (32 + v4.toNatClampNeg)]) dX7_stepBack_71 ⟨cw_X7_chanceIndex, w_792⟩ w_793 rfl rfl (Nat.le_of_ble_eq_true rfl) (Nat.le_refl _) (Nat.zero_le _) (Nat.zero_le _) (AM.mono h (fun r M6 ⟨x7, hr8, hc9, h⟩ => ?_))
      subst hr8
      refine ab_rs ?_
      have hm10 : Sm M M6 := (Sm.refl M).trans hc9
      have hl11 := hL.of hm10
      have hb12 := h.1
      have h := h.2
      refine ab_ialdj (j := x7.toNatClampNeg) dX7_stepBack_74 (row_31 hl11 (by decide) (by decide) (vin_lt hb5)).2 hb12 rfl ?_
      refine ab_i2l dX7_stepBack_75 ?_
      refine ab_topl (fun x13 hx13 => ?_)
      have h := h x13 hx13
      refine ab_lstore (lv1 := [(9, .long x13), (8, .int x4), (0, .ref 29), (1, .int v1), (2, .int v2), (3, .int v3), (4, .int v4), (5, .ref v5), (6, .int v6), (7, .int v7)]) dX7_stepBack_76 (by decide) rfl ?_
      refine ab_aload 7 dX7_stepBack_78 rfl ?_
      refine ab_iload 6 dX7_stepBack_80 rfl ?_
      refine ab_if_ne (tgt := 97) dX7_stepBack_82 (by decide) (fun c14 => ?_) (fun c14 => ?_)
      · have h := h.1 c14
        refine ab_iload 8 dX7_stepBack_97 rfl ?_
        refine ab_iload 9 dX7_stepBack_99 rfl ?_
        refine ab_iconst (v := 1) dX7_stepBack_101 (by decide) ?_
        refine ab_iadd dX7_stepBack_102 ?_
        refine ab_callS (d' := d) (mc' := 0) (ms' := 0) (vs := [.int v6, .int (v7 + (1 : Int32))]) (st := [.ref v5]) dX7_stepBack_103 ⟨cw_X7_scoreIndex, w_236⟩ w_237 rfl rfl (Nat.le_of_ble_eq_true rfl) (Nat.le_refl _) (Nat.zero_le _) (Nat.zero_le _) (AM.mono h (fun r M15 ⟨x16, hr17, hc18, h⟩ => ?_))
        subst hr17
        refine ab_rs ?_
        have hm19 : Sm M M15 := hm10.trans hc18
        have hl20 := hL.of hm19
        have hb21 := h.1
        have h := h.2
        refine ab_ialdj (j := x16.toNatClampNeg) dX7_stepBack_106 (sv5.of hm19) hb21 rfl ?_
        refine ab_i2l dX7_stepBack_107 ?_
        refine ab_topl (fun x22 hx22 => ?_)
        have h := h x22 hx22
        refine ab_lstore (lv1 := [(11, .long x22), (9, .long x13), (8, .int x4), (0, .ref 29), (1, .int v1), (2, .int v2), (3, .int v3), (4, .int v4), (5, .ref v5), (6, .int v6), (7, .int v7)]) dX7_stepBack_108 (by decide) rfl ?_
        refine ab_aload 8 dX7_stepBack_110 rfl ?_
        refine ab_iload 9 dX7_stepBack_112 rfl ?_
        refine ab_iload 10 dX7_stepBack_114 rfl ?_
        refine ab_callS (d' := d) (mc' := 0) (ms' := 0) (vs := [.int v6, .int v7]) (st := [.ref v5]) dX7_stepBack_116 ⟨cw_X7_scoreIndex, w_236⟩ w_237 rfl rfl (Nat.le_of_ble_eq_true rfl) (Nat.le_refl _) (Nat.zero_le _) (Nat.zero_le _) (AM.mono h (fun r M23 ⟨x24, hr25, hc26, h⟩ => ?_))
        subst hr25
        refine ab_rs ?_
        have hm27 : Sm M M23 := hm19.trans hc26
        have hl28 := hL.of hm27
        have hb29 := h.1
        have h := h.2
        refine ab_ialdj (j := x24.toNatClampNeg) dX7_stepBack_119 (sv5.of hm27) hb29 rfl ?_
        refine ab_i2l dX7_stepBack_120 ?_
        refine ab_topl (fun x30 hx30 => ?_)
        have h := h x30 hx30
        refine ab_lstore (lv1 := [(13, .long x30), (11, .long x22), (9, .long x13), (8, .int x4), (0, .ref 29), (1, .int v1), (2, .int v2), (3, .int v3), (4, .int v4), (5, .ref v5), (6, .int v6), (7, .int v7)]) dX7_stepBack_121 (by decide) rfl ?_
        refine ab_aload_n 4 dX7_stepBack_123 rfl ?_
        refine ab_getP (r := 34) dX7_stepBack_124 fs_7_22_7 rfl (hl28.sh 29 rfl (by decide) (by decide)).1 (hl28.sh 29 rfl (by decide) (by decide)).2 (hl28.pt 38 rfl (by decide) (by decide)) ?_
        refine ab_iload_n 5 dX7_stepBack_127 rfl ?_
        have hb31 := h.1
        have h := h.2
        refine ab_aald4j (j := v1.toNatClampNeg) (r := 35 + v1.toNatClampNeg) dX7_stepBack_128 (hl28.sh 34 rfl (by decide) (by decide)) hb31 rfl (row_34 hl28 (by decide) (by decide) (vin_lt hb31)).1 ?_
        refine ab_iload 10 dX7_stepBack_129 rfl ?_
        refine ab_iload 11 dX7_stepBack_131 rfl ?_
        refine ab_callS (d' := d) (mc' := 0) (ms' := 0) (vs := [.int v6, .int v7]) (st := [.ref (35 + v1.toNatClampNeg)]) dX7_stepBack_133 ⟨cw_X7_scoreIndex, w_236⟩ w_237 rfl rfl (Nat.le_of_ble_eq_true rfl) (Nat.le_refl _) (Nat.zero_le _) (Nat.zero_le _) (AM.mono h (fun r M32 ⟨x33, hr34, hc35, h⟩ => ?_))
        subst hr34
        refine ab_rs ?_
        have hm36 : Sm M M32 := hm27.trans hc35
        have hl37 := hL.of hm36
        refine ab_lload 2 dX7_stepBack_136 rfl ?_
        refine ab_lload 1 dX7_stepBack_138 rfl ?_
        refine ab_lmul dX7_stepBack_140 ?_
        refine ab_ldc2 dX7_stepBack_141 w_803 ?_
        refine ab_lload 2 dX7_stepBack_144 rfl ?_
        refine ab_lsub dX7_stepBack_146 ?_
        refine ab_lload 0 dX7_stepBack_147 rfl ?_
        refine ab_lmul dX7_stepBack_149 ?_
        refine ab_ladd dX7_stepBack_150 ?_
        refine ab_ldc2 dX7_stepBack_151 w_803 ?_
        refine ab_ldiv dX7_stepBack_154 (by decide) ?_
        refine ab_l2i dX7_stepBack_155 ?_
        have hb38 := h.1
        have h := h.2
        refine ab_iastj (j := x33.toNatClampNeg) dX7_stepBack_156 (row_34 hl37 (by decide) (by decide) (vin_lt hb31)).2 hb38 rfl ?_
        refine ab_nameM (fun M39 hM39 => ?_)
        have h := h M39 hM39
        have hs42 : Sm M32 M39 := hM39 ▸ (Sm.refl _).i
        have hm40 : Sm M M39 := hm36.trans hs42
        have hl41 := hL.of hm40
        obtain ⟨x43, hx43⟩ : ∃ y : Int32, y = v7 + (1 : Int32) := ⟨_, rfl⟩
        have h := h x43 hx43
        refine ab_iinc (v := x43) 11 (lv1 := [(7, .int x43), (13, .long x30), (11, .long x22), (9, .long x13), (8, .int x4), (0, .ref 29), (1, .int v1), (2, .int v2), (3, .int v3), (4, .int v4), (5, .ref v5), (6, .int v6)]) dX7_stepBack_157 rfl (by rw [hx43]; rfl) (by decide) rfl ?_
        refine ab_goto (tgt := 34) dX7_stepBack_160 (by decide) ?_
        exact ab_sub [5, 6, 7, 8, 9, 10, 11, 0] rfl h
      · have h := h.2 c14
        refine ab_iload 8 dX7_stepBack_85 rfl ?_
        refine ab_iconst (v := 1) dX7_stepBack_87 (by decide) ?_
        refine ab_iadd dX7_stepBack_88 ?_
        refine ab_iload 9 dX7_stepBack_89 rfl ?_
        refine ab_callS (d' := d) (mc' := 0) (ms' := 0) (vs := [.int (v6 + (1 : Int32)), .int v7]) (st := [.ref v5]) dX7_stepBack_91 ⟨cw_X7_scoreIndex, w_236⟩ w_237 rfl rfl (Nat.le_of_ble_eq_true rfl) (Nat.le_refl _) (Nat.zero_le _) (Nat.zero_le _) (AM.mono h (fun r M44 ⟨x45, hr46, hc47, h⟩ => ?_))
        subst hr46
        refine ab_rs ?_
        have hm48 : Sm M M44 := hm10.trans hc47
        have hl49 := hL.of hm48
        refine ab_goto (tgt := 106) dX7_stepBack_94 (by decide) ?_
        have hb50 := h.1
        have h := h.2
        refine ab_ialdj (j := x45.toNatClampNeg) dX7_stepBack_106 (sv5.of hm48) hb50 rfl ?_
        refine ab_i2l dX7_stepBack_107 ?_
        refine ab_topl (fun x51 hx51 => ?_)
        have h := h x51 hx51
        refine ab_lstore (lv1 := [(11, .long x51), (9, .long x13), (8, .int x4), (0, .ref 29), (1, .int v1), (2, .int v2), (3, .int v3), (4, .int v4), (5, .ref v5), (6, .int v6), (7, .int v7)]) dX7_stepBack_108 (by decide) rfl ?_
        refine ab_aload 8 dX7_stepBack_110 rfl ?_
        refine ab_iload 9 dX7_stepBack_112 rfl ?_
        refine ab_iload 10 dX7_stepBack_114 rfl ?_
        refine ab_callS (d' := d) (mc' := 0) (ms' := 0) (vs := [.int v6, .int v7]) (st := [.ref v5]) dX7_stepBack_116 ⟨cw_X7_scoreIndex, w_236⟩ w_237 rfl rfl (Nat.le_of_ble_eq_true rfl) (Nat.le_refl _) (Nat.zero_le _) (Nat.zero_le _) (AM.mono h (fun r M52 ⟨x53, hr54, hc55, h⟩ => ?_))
        subst hr54
        refine ab_rs ?_
        have hm56 : Sm M M52 := hm48.trans hc55
        have hl57 := hL.of hm56
        have hb58 := h.1
        have h := h.2
        refine ab_ialdj (j := x53.toNatClampNeg) dX7_stepBack_119 (sv5.of hm56) hb58 rfl ?_
        refine ab_i2l dX7_stepBack_120 ?_
        refine ab_topl (fun x59 hx59 => ?_)
        have h := h x59 hx59
        refine ab_lstore (lv1 := [(13, .long x59), (11, .long x51), (9, .long x13), (8, .int x4), (0, .ref 29), (1, .int v1), (2, .int v2), (3, .int v3), (4, .int v4), (5, .ref v5), (6, .int v6), (7, .int v7)]) dX7_stepBack_121 (by decide) rfl ?_
        refine ab_aload_n 4 dX7_stepBack_123 rfl ?_
        refine ab_getP (r := 34) dX7_stepBack_124 fs_7_22_7 rfl (hl57.sh 29 rfl (by decide) (by decide)).1 (hl57.sh 29 rfl (by decide) (by decide)).2 (hl57.pt 38 rfl (by decide) (by decide)) ?_
        refine ab_iload_n 5 dX7_stepBack_127 rfl ?_
        have hb60 := h.1
        have h := h.2
        refine ab_aald4j (j := v1.toNatClampNeg) (r := 35 + v1.toNatClampNeg) dX7_stepBack_128 (hl57.sh 34 rfl (by decide) (by decide)) hb60 rfl (row_34 hl57 (by decide) (by decide) (vin_lt hb60)).1 ?_
        refine ab_iload 10 dX7_stepBack_129 rfl ?_
        refine ab_iload 11 dX7_stepBack_131 rfl ?_
        refine ab_callS (d' := d) (mc' := 0) (ms' := 0) (vs := [.int v6, .int v7]) (st := [.ref (35 + v1.toNatClampNeg)]) dX7_stepBack_133 ⟨cw_X7_scoreIndex, w_236⟩ w_237 rfl rfl (Nat.le_of_ble_eq_true rfl) (Nat.le_refl _) (Nat.zero_le _) (Nat.zero_le _) (AM.mono h (fun r M61 ⟨x62, hr63, hc64, h⟩ => ?_))
        subst hr63
        refine ab_rs ?_
        have hm65 : Sm M M61 := hm56.trans hc64
        have hl66 := hL.of hm65
        refine ab_lload 2 dX7_stepBack_136 rfl ?_
        refine ab_lload 1 dX7_stepBack_138 rfl ?_
        refine ab_lmul dX7_stepBack_140 ?_
        refine ab_ldc2 dX7_stepBack_141 w_803 ?_
        refine ab_lload 2 dX7_stepBack_144 rfl ?_
        refine ab_lsub dX7_stepBack_146 ?_
        refine ab_lload 0 dX7_stepBack_147 rfl ?_
        refine ab_lmul dX7_stepBack_149 ?_
        refine ab_ladd dX7_stepBack_150 ?_
        refine ab_ldc2 dX7_stepBack_151 w_803 ?_
        refine ab_ldiv dX7_stepBack_154 (by decide) ?_
        refine ab_l2i dX7_stepBack_155 ?_
        have hb67 := h.1
        have h := h.2
        refine ab_iastj (j := x62.toNatClampNeg) dX7_stepBack_156 (row_34 hl66 (by decide) (by decide) (vin_lt hb60)).2 hb67 rfl ?_
        refine ab_nameM (fun M68 hM68 => ?_)
        have h := h M68 hM68
        have hs71 : Sm M61 M68 := hM68 ▸ (Sm.refl _).i
        have hm69 : Sm M M68 := hm65.trans hs71
        have hl70 := hL.of hm69
        obtain ⟨x72, hx72⟩ : ∃ y : Int32, y = v7 + (1 : Int32) := ⟨_, rfl⟩
        have h := h x72 hx72
        refine ab_iinc (v := x72) 11 (lv1 := [(7, .int x72), (13, .long x59), (11, .long x51), (9, .long x13), (8, .int x4), (0, .ref 29), (1, .int v1), (2, .int v2), (3, .int v3), (4, .int v4), (5, .ref v5), (6, .int v6)]) dX7_stepBack_157 rfl (by rw [hx72]; rfl) (by decide) rfl ?_
        refine ab_goto (tgt := 34) dX7_stepBack_160 (by decide) ?_
        exact ab_sub [5, 6, 7, 8, 9, 10, 11, 0] rfl h
    · have h := h.2 c3
      refine ab_iload 6 dX7_stepBack_45 rfl ?_
      refine ab_iload 7 dX7_stepBack_47 rfl ?_
      refine ab_isub dX7_stepBack_49 ?_
      refine ab_goto (tgt := 58) dX7_stepBack_50 (by decide) ?_
      refine ab_topi (fun x73 hx73 => ?_)
      have h := h x73 hx73
      refine ab_istore (lv1 := [(8, .int x73), (0, .ref 29), (1, .int v1), (2, .int v2), (3, .int v3), (4, .int v4), (5, .ref v5), (6, .int v6), (7, .int v7)]) dX7_stepBack_58 (by decide) rfl ?_
      refine ab_aload_n 1 dX7_stepBack_60 rfl ?_
      refine ab_getP (r := 31) dX7_stepBack_61 fs_7_19_7 rfl (hL.sh 29 rfl (by decide) (by decide)).1 (hL.sh 29 rfl (by decide) (by decide)).2 (hL.pt 37 rfl (by decide) (by decide)) ?_
      refine ab_iload 5 dX7_stepBack_64 rfl ?_
      have hb74 := h.1
      have h := h.2
      refine ab_aald4j (j := v4.toNatClampNeg) (r := 32 + v4.toNatClampNeg) dX7_stepBack_66 (hL.sh 31 rfl (by decide) (by decide)) hb74 rfl (row_31 hL (by decide) (by decide) (vin_lt hb74)).1 ?_
      refine ab_iload_n 3 dX7_stepBack_67 rfl ?_
      refine ab_iload_n 4 dX7_stepBack_68 rfl ?_
      refine ab_iload 0 dX7_stepBack_69 rfl ?_
      refine ab_callS (d' := d) (mc' := 0) (ms' := 0) (vs := [.int v2, .int v3, .int x73]) (st := [.ref (32 + v4.toNatClampNeg)]) dX7_stepBack_71 ⟨cw_X7_chanceIndex, w_792⟩ w_793 rfl rfl (Nat.le_of_ble_eq_true rfl) (Nat.le_refl _) (Nat.zero_le _) (Nat.zero_le _) (AM.mono h (fun r M75 ⟨x76, hr77, hc78, h⟩ => ?_))
      subst hr77
      refine ab_rs ?_
      have hm79 : Sm M M75 := (Sm.refl M).trans hc78
      have hl80 := hL.of hm79
      have hb81 := h.1
      have h := h.2
      refine ab_ialdj (j := x76.toNatClampNeg) dX7_stepBack_74 (row_31 hl80 (by decide) (by decide) (vin_lt hb74)).2 hb81 rfl ?_
      refine ab_i2l dX7_stepBack_75 ?_
      refine ab_topl (fun x82 hx82 => ?_)
      have h := h x82 hx82
      refine ab_lstore (lv1 := [(9, .long x82), (8, .int x73), (0, .ref 29), (1, .int v1), (2, .int v2), (3, .int v3), (4, .int v4), (5, .ref v5), (6, .int v6), (7, .int v7)]) dX7_stepBack_76 (by decide) rfl ?_
      refine ab_aload 7 dX7_stepBack_78 rfl ?_
      refine ab_iload 6 dX7_stepBack_80 rfl ?_
      refine ab_if_ne (tgt := 97) dX7_stepBack_82 (by decide) (fun c83 => ?_) (fun c83 => ?_)
      · have h := h.1 c83
        refine ab_iload 8 dX7_stepBack_97 rfl ?_
        refine ab_iload 9 dX7_stepBack_99 rfl ?_
        refine ab_iconst (v := 1) dX7_stepBack_101 (by decide) ?_
        refine ab_iadd dX7_stepBack_102 ?_
        refine ab_callS (d' := d) (mc' := 0) (ms' := 0) (vs := [.int v6, .int (v7 + (1 : Int32))]) (st := [.ref v5]) dX7_stepBack_103 ⟨cw_X7_scoreIndex, w_236⟩ w_237 rfl rfl (Nat.le_of_ble_eq_true rfl) (Nat.le_refl _) (Nat.zero_le _) (Nat.zero_le _) (AM.mono h (fun r M84 ⟨x85, hr86, hc87, h⟩ => ?_))
        subst hr86
        refine ab_rs ?_
        have hm88 : Sm M M84 := hm79.trans hc87
        have hl89 := hL.of hm88
        have hb90 := h.1
        have h := h.2
        refine ab_ialdj (j := x85.toNatClampNeg) dX7_stepBack_106 (sv5.of hm88) hb90 rfl ?_
        refine ab_i2l dX7_stepBack_107 ?_
        refine ab_topl (fun x91 hx91 => ?_)
        have h := h x91 hx91
        refine ab_lstore (lv1 := [(11, .long x91), (9, .long x82), (8, .int x73), (0, .ref 29), (1, .int v1), (2, .int v2), (3, .int v3), (4, .int v4), (5, .ref v5), (6, .int v6), (7, .int v7)]) dX7_stepBack_108 (by decide) rfl ?_
        refine ab_aload 8 dX7_stepBack_110 rfl ?_
        refine ab_iload 9 dX7_stepBack_112 rfl ?_
        refine ab_iload 10 dX7_stepBack_114 rfl ?_
        refine ab_callS (d' := d) (mc' := 0) (ms' := 0) (vs := [.int v6, .int v7]) (st := [.ref v5]) dX7_stepBack_116 ⟨cw_X7_scoreIndex, w_236⟩ w_237 rfl rfl (Nat.le_of_ble_eq_true rfl) (Nat.le_refl _) (Nat.zero_le _) (Nat.zero_le _) (AM.mono h (fun r M92 ⟨x93, hr94, hc95, h⟩ => ?_))
        subst hr94
        refine ab_rs ?_
        have hm96 : Sm M M92 := hm88.trans hc95
        have hl97 := hL.of hm96
        have hb98 := h.1
        have h := h.2
        refine ab_ialdj (j := x93.toNatClampNeg) dX7_stepBack_119 (sv5.of hm96) hb98 rfl ?_
        refine ab_i2l dX7_stepBack_120 ?_
        refine ab_topl (fun x99 hx99 => ?_)
        have h := h x99 hx99
        refine ab_lstore (lv1 := [(13, .long x99), (11, .long x91), (9, .long x82), (8, .int x73), (0, .ref 29), (1, .int v1), (2, .int v2), (3, .int v3), (4, .int v4), (5, .ref v5), (6, .int v6), (7, .int v7)]) dX7_stepBack_121 (by decide) rfl ?_
        refine ab_aload_n 4 dX7_stepBack_123 rfl ?_
        refine ab_getP (r := 34) dX7_stepBack_124 fs_7_22_7 rfl (hl97.sh 29 rfl (by decide) (by decide)).1 (hl97.sh 29 rfl (by decide) (by decide)).2 (hl97.pt 38 rfl (by decide) (by decide)) ?_
        refine ab_iload_n 5 dX7_stepBack_127 rfl ?_
        have hb100 := h.1
        have h := h.2
        refine ab_aald4j (j := v1.toNatClampNeg) (r := 35 + v1.toNatClampNeg) dX7_stepBack_128 (hl97.sh 34 rfl (by decide) (by decide)) hb100 rfl (row_34 hl97 (by decide) (by decide) (vin_lt hb100)).1 ?_
        refine ab_iload 10 dX7_stepBack_129 rfl ?_
        refine ab_iload 11 dX7_stepBack_131 rfl ?_
        refine ab_callS (d' := d) (mc' := 0) (ms' := 0) (vs := [.int v6, .int v7]) (st := [.ref (35 + v1.toNatClampNeg)]) dX7_stepBack_133 ⟨cw_X7_scoreIndex, w_236⟩ w_237 rfl rfl (Nat.le_of_ble_eq_true rfl) (Nat.le_refl _) (Nat.zero_le _) (Nat.zero_le _) (AM.mono h (fun r M101 ⟨x102, hr103, hc104, h⟩ => ?_))
        subst hr103
        refine ab_rs ?_
        have hm105 : Sm M M101 := hm96.trans hc104
        have hl106 := hL.of hm105
        refine ab_lload 2 dX7_stepBack_136 rfl ?_
        refine ab_lload 1 dX7_stepBack_138 rfl ?_
        refine ab_lmul dX7_stepBack_140 ?_
        refine ab_ldc2 dX7_stepBack_141 w_803 ?_
        refine ab_lload 2 dX7_stepBack_144 rfl ?_
        refine ab_lsub dX7_stepBack_146 ?_
        refine ab_lload 0 dX7_stepBack_147 rfl ?_
        refine ab_lmul dX7_stepBack_149 ?_
        refine ab_ladd dX7_stepBack_150 ?_
        refine ab_ldc2 dX7_stepBack_151 w_803 ?_
        refine ab_ldiv dX7_stepBack_154 (by decide) ?_
        refine ab_l2i dX7_stepBack_155 ?_
        have hb107 := h.1
        have h := h.2
        refine ab_iastj (j := x102.toNatClampNeg) dX7_stepBack_156 (row_34 hl106 (by decide) (by decide) (vin_lt hb100)).2 hb107 rfl ?_
        refine ab_nameM (fun M108 hM108 => ?_)
        have h := h M108 hM108
        have hs111 : Sm M101 M108 := hM108 ▸ (Sm.refl _).i
        have hm109 : Sm M M108 := hm105.trans hs111
        have hl110 := hL.of hm109
        obtain ⟨x112, hx112⟩ : ∃ y : Int32, y = v7 + (1 : Int32) := ⟨_, rfl⟩
        have h := h x112 hx112
        refine ab_iinc (v := x112) 11 (lv1 := [(7, .int x112), (13, .long x99), (11, .long x91), (9, .long x82), (8, .int x73), (0, .ref 29), (1, .int v1), (2, .int v2), (3, .int v3), (4, .int v4), (5, .ref v5), (6, .int v6)]) dX7_stepBack_157 rfl (by rw [hx112]; rfl) (by decide) rfl ?_
        refine ab_goto (tgt := 34) dX7_stepBack_160 (by decide) ?_
        exact ab_sub [5, 6, 7, 8, 9, 10, 11, 0] rfl h
      · have h := h.2 c83
        refine ab_iload 8 dX7_stepBack_85 rfl ?_
        refine ab_iconst (v := 1) dX7_stepBack_87 (by decide) ?_
        refine ab_iadd dX7_stepBack_88 ?_
        refine ab_iload 9 dX7_stepBack_89 rfl ?_
        refine ab_callS (d' := d) (mc' := 0) (ms' := 0) (vs := [.int (v6 + (1 : Int32)), .int v7]) (st := [.ref v5]) dX7_stepBack_91 ⟨cw_X7_scoreIndex, w_236⟩ w_237 rfl rfl (Nat.le_of_ble_eq_true rfl) (Nat.le_refl _) (Nat.zero_le _) (Nat.zero_le _) (AM.mono h (fun r M113 ⟨x114, hr115, hc116, h⟩ => ?_))
        subst hr115
        refine ab_rs ?_
        have hm117 : Sm M M113 := hm79.trans hc116
        have hl118 := hL.of hm117
        refine ab_goto (tgt := 106) dX7_stepBack_94 (by decide) ?_
        have hb119 := h.1
        have h := h.2
        refine ab_ialdj (j := x114.toNatClampNeg) dX7_stepBack_106 (sv5.of hm117) hb119 rfl ?_
        refine ab_i2l dX7_stepBack_107 ?_
        refine ab_topl (fun x120 hx120 => ?_)
        have h := h x120 hx120
        refine ab_lstore (lv1 := [(11, .long x120), (9, .long x82), (8, .int x73), (0, .ref 29), (1, .int v1), (2, .int v2), (3, .int v3), (4, .int v4), (5, .ref v5), (6, .int v6), (7, .int v7)]) dX7_stepBack_108 (by decide) rfl ?_
        refine ab_aload 8 dX7_stepBack_110 rfl ?_
        refine ab_iload 9 dX7_stepBack_112 rfl ?_
        refine ab_iload 10 dX7_stepBack_114 rfl ?_
        refine ab_callS (d' := d) (mc' := 0) (ms' := 0) (vs := [.int v6, .int v7]) (st := [.ref v5]) dX7_stepBack_116 ⟨cw_X7_scoreIndex, w_236⟩ w_237 rfl rfl (Nat.le_of_ble_eq_true rfl) (Nat.le_refl _) (Nat.zero_le _) (Nat.zero_le _) (AM.mono h (fun r M121 ⟨x122, hr123, hc124, h⟩ => ?_))
        subst hr123
        refine ab_rs ?_
        have hm125 : Sm M M121 := hm117.trans hc124
        have hl126 := hL.of hm125
        have hb127 := h.1
        have h := h.2
        refine ab_ialdj (j := x122.toNatClampNeg) dX7_stepBack_119 (sv5.of hm125) hb127 rfl ?_
        refine ab_i2l dX7_stepBack_120 ?_
        refine ab_topl (fun x128 hx128 => ?_)
        have h := h x128 hx128
        refine ab_lstore (lv1 := [(13, .long x128), (11, .long x120), (9, .long x82), (8, .int x73), (0, .ref 29), (1, .int v1), (2, .int v2), (3, .int v3), (4, .int v4), (5, .ref v5), (6, .int v6), (7, .int v7)]) dX7_stepBack_121 (by decide) rfl ?_
        refine ab_aload_n 4 dX7_stepBack_123 rfl ?_
        refine ab_getP (r := 34) dX7_stepBack_124 fs_7_22_7 rfl (hl126.sh 29 rfl (by decide) (by decide)).1 (hl126.sh 29 rfl (by decide) (by decide)).2 (hl126.pt 38 rfl (by decide) (by decide)) ?_
        refine ab_iload_n 5 dX7_stepBack_127 rfl ?_
        have hb129 := h.1
        have h := h.2
        refine ab_aald4j (j := v1.toNatClampNeg) (r := 35 + v1.toNatClampNeg) dX7_stepBack_128 (hl126.sh 34 rfl (by decide) (by decide)) hb129 rfl (row_34 hl126 (by decide) (by decide) (vin_lt hb129)).1 ?_
        refine ab_iload 10 dX7_stepBack_129 rfl ?_
        refine ab_iload 11 dX7_stepBack_131 rfl ?_
        refine ab_callS (d' := d) (mc' := 0) (ms' := 0) (vs := [.int v6, .int v7]) (st := [.ref (35 + v1.toNatClampNeg)]) dX7_stepBack_133 ⟨cw_X7_scoreIndex, w_236⟩ w_237 rfl rfl (Nat.le_of_ble_eq_true rfl) (Nat.le_refl _) (Nat.zero_le _) (Nat.zero_le _) (AM.mono h (fun r M130 ⟨x131, hr132, hc133, h⟩ => ?_))
        subst hr132
        refine ab_rs ?_
        have hm134 : Sm M M130 := hm125.trans hc133
        have hl135 := hL.of hm134
        refine ab_lload 2 dX7_stepBack_136 rfl ?_
        refine ab_lload 1 dX7_stepBack_138 rfl ?_
        refine ab_lmul dX7_stepBack_140 ?_
        refine ab_ldc2 dX7_stepBack_141 w_803 ?_
        refine ab_lload 2 dX7_stepBack_144 rfl ?_
        refine ab_lsub dX7_stepBack_146 ?_
        refine ab_lload 0 dX7_stepBack_147 rfl ?_
        refine ab_lmul dX7_stepBack_149 ?_
        refine ab_ladd dX7_stepBack_150 ?_
        refine ab_ldc2 dX7_stepBack_151 w_803 ?_
        refine ab_ldiv dX7_stepBack_154 (by decide) ?_
        refine ab_l2i dX7_stepBack_155 ?_
        have hb136 := h.1
        have h := h.2
        refine ab_iastj (j := x131.toNatClampNeg) dX7_stepBack_156 (row_34 hl135 (by decide) (by decide) (vin_lt hb129)).2 hb136 rfl ?_
        refine ab_nameM (fun M137 hM137 => ?_)
        have h := h M137 hM137
        have hs140 : Sm M130 M137 := hM137 ▸ (Sm.refl _).i
        have hm138 : Sm M M137 := hm134.trans hs140
        have hl139 := hL.of hm138
        obtain ⟨x141, hx141⟩ : ∃ y : Int32, y = v7 + (1 : Int32) := ⟨_, rfl⟩
        have h := h x141 hx141
        refine ab_iinc (v := x141) 11 (lv1 := [(7, .int x141), (13, .long x128), (11, .long x120), (9, .long x82), (8, .int x73), (0, .ref 29), (1, .int v1), (2, .int v2), (3, .int v3), (4, .int v4), (5, .ref v5), (6, .int v6)]) dX7_stepBack_157 rfl (by rw [hx141]; rfl) (by decide) rfl ?_
        refine ab_goto (tgt := 34) dX7_stepBack_160 (by decide) ?_
        exact ab_sub [5, 6, 7, 8, 9, 10, 11, 0] rfl h
