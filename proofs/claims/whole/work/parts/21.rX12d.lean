theorem dX12_likely_0 : decode cX12_likely 0 = .ok (.aload_n 0, 1) := by decide +kernel
theorem dX12_likely_1 : decode cX12_likely 1 = .ok (.iload_n 1, 1) := by decide +kernel
theorem dX12_likely_2 : decode cX12_likely 2 = .ok (.iconst 0, 1) := by decide +kernel
theorem dX12_likely_3 : decode cX12_likely 3 = .ok (.iconst 1, 1) := by decide +kernel
theorem dX12_likely_4 : decode cX12_likely 4 = .ok (.invokevirtual 180, 3) := by decide +kernel
theorem dX12_likely_7 : decode cX12_likely 7 = .ok (.ifCond .ne 5, 3) := by decide +kernel
theorem dX12_likely_10 : decode cX12_likely 10 = .ok (.iconst (-1), 1) := by decide +kernel
theorem dX12_likely_11 : decode cX12_likely 11 = .ok (.ireturn, 1) := by decide +kernel
theorem dX12_likely_12 : decode cX12_likely 12 = .ok (.aload_n 0, 1) := by decide +kernel
theorem dX12_likely_13 : decode cX12_likely 13 = .ok (.getfield 109, 3) := by decide +kernel
theorem dX12_likely_16 : decode cX12_likely 16 = .ok (.bipush 9, 2) := by decide +kernel
theorem dX12_likely_18 : decode cX12_likely 18 = .ok (.if_icmp .le 6, 3) := by decide +kernel
theorem dX12_likely_21 : decode cX12_likely 21 = .ok (.bipush (-9), 2) := by decide +kernel
theorem dX12_likely_23 : decode cX12_likely 23 = .ok (.ireturn, 1) := by decide +kernel
theorem dX12_likely_24 : decode cX12_likely 24 = .ok (.aload_n 0, 1) := by decide +kernel
theorem dX12_likely_25 : decode cX12_likely 25 = .ok (.iconst 1, 1) := by decide +kernel
theorem dX12_likely_26 : decode cX12_likely 26 = .ok (.invokevirtual 310, 3) := by decide +kernel
theorem dX12_likely_29 : decode cX12_likely 29 = .ok (.istore_n 2, 1) := by decide +kernel
theorem dX12_likely_30 : decode cX12_likely 30 = .ok (.aload_n 0, 1) := by decide +kernel
theorem dX12_likely_31 : decode cX12_likely 31 = .ok (.iconst 0, 1) := by decide +kernel
theorem dX12_likely_32 : decode cX12_likely 32 = .ok (.invokevirtual 313, 3) := by decide +kernel
theorem dX12_likely_35 : decode cX12_likely 35 = .ok (.istore_n 3, 1) := by decide +kernel
theorem dX12_likely_36 : decode cX12_likely 36 = .ok (.aload_n 0, 1) := by decide +kernel
theorem dX12_likely_37 : decode cX12_likely 37 = .ok (.iconst 1, 1) := by decide +kernel
theorem dX12_likely_38 : decode cX12_likely 38 = .ok (.invokevirtual 313, 3) := by decide +kernel
theorem dX12_likely_41 : decode cX12_likely 41 = .ok (.istore 4, 2) := by decide +kernel
theorem dX12_likely_43 : decode cX12_likely 43 = .ok (.iconst 1, 1) := by decide +kernel
theorem dX12_likely_44 : decode cX12_likely 44 = .ok (.istore 5, 2) := by decide +kernel
theorem dX12_likely_46 : decode cX12_likely 46 = .ok (.iconst 0, 1) := by decide +kernel
theorem dX12_likely_47 : decode cX12_likely 47 = .ok (.istore 6, 2) := by decide +kernel
theorem dX12_likely_49 : decode cX12_likely 49 = .ok (.iload 6, 2) := by decide +kernel
theorem dX12_likely_51 : decode cX12_likely 51 = .ok (.aload_n 0, 1) := by decide +kernel
theorem dX12_likely_52 : decode cX12_likely 52 = .ok (.getfield 109, 3) := by decide +kernel
theorem dX12_likely_55 : decode cX12_likely 55 = .ok (.if_icmp .ge 15, 3) := by decide +kernel
theorem dX12_likely_58 : decode cX12_likely 58 = .ok (.iload 5, 2) := by decide +kernel
theorem dX12_likely_60 : decode cX12_likely 60 = .ok (.iconst 3, 1) := by decide +kernel
theorem dX12_likely_61 : decode cX12_likely 61 = .ok (.imul, 1) := by decide +kernel
theorem dX12_likely_62 : decode cX12_likely 62 = .ok (.istore 5, 2) := by decide +kernel
theorem dX12_likely_64 : decode cX12_likely 64 = .ok (.iinc 6 1, 3) := by decide +kernel
theorem dX12_likely_67 : decode cX12_likely 67 = .ok (.goto (-18), 3) := by decide +kernel
theorem dX12_likely_70 : decode cX12_likely 70 = .ok (.lconst 0, 1) := by decide +kernel
theorem dX12_likely_71 : decode cX12_likely 71 = .ok (.lstore 6, 2) := by decide +kernel
theorem dX12_likely_73 : decode cX12_likely 73 = .ok (.lconst 0, 1) := by decide +kernel
theorem dX12_likely_74 : decode cX12_likely 74 = .ok (.lstore 8, 2) := by decide +kernel
theorem dX12_likely_76 : decode cX12_likely 76 = .ok (.iconst 0, 1) := by decide +kernel
theorem dX12_likely_77 : decode cX12_likely 77 = .ok (.istore 10, 2) := by decide +kernel
theorem dX12_likely_79 : decode cX12_likely 79 = .ok (.iload 10, 2) := by decide +kernel
theorem dX12_likely_81 : decode cX12_likely 81 = .ok (.iload 5, 2) := by decide +kernel
theorem dX12_likely_83 : decode cX12_likely 83 = .ok (.if_icmp .ge 145, 3) := by decide +kernel
theorem dX12_likely_86 : decode cX12_likely 86 = .ok (.iconst 0, 1) := by decide +kernel
theorem dX12_likely_87 : decode cX12_likely 87 = .ok (.istore 11, 2) := by decide +kernel
theorem dX12_likely_89 : decode cX12_likely 89 = .ok (.iconst 0, 1) := by decide +kernel
theorem dX12_likely_90 : decode cX12_likely 90 = .ok (.istore 12, 2) := by decide +kernel
theorem dX12_likely_92 : decode cX12_likely 92 = .ok (.iconst 0, 1) := by decide +kernel
theorem dX12_likely_93 : decode cX12_likely 93 = .ok (.istore 13, 2) := by decide +kernel
theorem dX12_likely_95 : decode cX12_likely 95 = .ok (.iconst (-1), 1) := by decide +kernel
theorem dX12_likely_96 : decode cX12_likely 96 = .ok (.istore 14, 2) := by decide +kernel
theorem dX12_likely_98 : decode cX12_likely 98 = .ok (.iload 10, 2) := by decide +kernel
theorem dX12_likely_100 : decode cX12_likely 100 = .ok (.istore 15, 2) := by decide +kernel
theorem dX12_likely_102 : decode cX12_likely 102 = .ok (.iconst 0, 1) := by decide +kernel
theorem dX12_likely_103 : decode cX12_likely 103 = .ok (.istore 16, 2) := by decide +kernel
theorem dX12_likely_105 : decode cX12_likely 105 = .ok (.iload 16, 2) := by decide +kernel
theorem dX12_likely_107 : decode cX12_likely 107 = .ok (.aload_n 0, 1) := by decide +kernel
theorem dX12_likely_108 : decode cX12_likely 108 = .ok (.getfield 109, 3) := by decide +kernel
theorem dX12_likely_111 : decode cX12_likely 111 = .ok (.if_icmp .ge 73, 3) := by decide +kernel
theorem dX12_likely_114 : decode cX12_likely 114 = .ok (.iload 15, 2) := by decide +kernel
theorem dX12_likely_116 : decode cX12_likely 116 = .ok (.iconst 3, 1) := by decide +kernel
theorem dX12_likely_117 : decode cX12_likely 117 = .ok (.irem, 1) := by decide +kernel
theorem dX12_likely_118 : decode cX12_likely 118 = .ok (.istore 17, 2) := by decide +kernel
theorem dX12_likely_120 : decode cX12_likely 120 = .ok (.iload 15, 2) := by decide +kernel
theorem dX12_likely_122 : decode cX12_likely 122 = .ok (.iconst 3, 1) := by decide +kernel
theorem dX12_likely_123 : decode cX12_likely 123 = .ok (.idiv, 1) := by decide +kernel
theorem dX12_likely_124 : decode cX12_likely 124 = .ok (.istore 15, 2) := by decide +kernel
theorem dX12_likely_126 : decode cX12_likely 126 = .ok (.iload 11, 2) := by decide +kernel
theorem dX12_likely_128 : decode cX12_likely 128 = .ok (.iload 17, 2) := by decide +kernel
theorem dX12_likely_130 : decode cX12_likely 130 = .ok (.ifCond .ne 7, 3) := by decide +kernel
theorem dX12_likely_133 : decode cX12_likely 133 = .ok (.iconst 1, 1) := by decide +kernel
theorem dX12_likely_134 : decode cX12_likely 134 = .ok (.goto 4, 3) := by decide +kernel
theorem dX12_likely_137 : decode cX12_likely 137 = .ok (.iconst 0, 1) := by decide +kernel
theorem dX12_likely_138 : decode cX12_likely 138 = .ok (.iadd, 1) := by decide +kernel
theorem dX12_likely_139 : decode cX12_likely 139 = .ok (.istore 11, 2) := by decide +kernel
theorem dX12_likely_141 : decode cX12_likely 141 = .ok (.iload 12, 2) := by decide +kernel
theorem dX12_likely_143 : decode cX12_likely 143 = .ok (.iload 17, 2) := by decide +kernel
theorem dX12_likely_145 : decode cX12_likely 145 = .ok (.iconst 1, 1) := by decide +kernel
theorem dX12_likely_146 : decode cX12_likely 146 = .ok (.if_icmp .ne 7, 3) := by decide +kernel
theorem dX12_likely_149 : decode cX12_likely 149 = .ok (.iconst 1, 1) := by decide +kernel
theorem dX12_likely_150 : decode cX12_likely 150 = .ok (.goto 4, 3) := by decide +kernel
theorem dX12_likely_153 : decode cX12_likely 153 = .ok (.iconst 0, 1) := by decide +kernel
theorem dX12_likely_154 : decode cX12_likely 154 = .ok (.iadd, 1) := by decide +kernel
theorem dX12_likely_155 : decode cX12_likely 155 = .ok (.istore 12, 2) := by decide +kernel
theorem dX12_likely_157 : decode cX12_likely 157 = .ok (.iload 13, 2) := by decide +kernel
theorem dX12_likely_159 : decode cX12_likely 159 = .ok (.iload 17, 2) := by decide +kernel
theorem dX12_likely_161 : decode cX12_likely 161 = .ok (.iload 14, 2) := by decide +kernel
theorem dX12_likely_163 : decode cX12_likely 163 = .ok (.if_icmp .ne 7, 3) := by decide +kernel
theorem dX12_likely_166 : decode cX12_likely 166 = .ok (.iconst 0, 1) := by decide +kernel
theorem dX12_likely_167 : decode cX12_likely 167 = .ok (.goto 4, 3) := by decide +kernel
theorem dX12_likely_170 : decode cX12_likely 170 = .ok (.iconst 1, 1) := by decide +kernel
theorem dX12_likely_171 : decode cX12_likely 171 = .ok (.iadd, 1) := by decide +kernel
theorem dX12_likely_172 : decode cX12_likely 172 = .ok (.istore 13, 2) := by decide +kernel
theorem dX12_likely_174 : decode cX12_likely 174 = .ok (.iload 17, 2) := by decide +kernel
theorem dX12_likely_176 : decode cX12_likely 176 = .ok (.istore 14, 2) := by decide +kernel
theorem dX12_likely_178 : decode cX12_likely 178 = .ok (.iinc 16 1, 3) := by decide +kernel
theorem dX12_likely_181 : decode cX12_likely 181 = .ok (.goto (-76), 3) := by decide +kernel
theorem dX12_likely_184 : decode cX12_likely 184 = .ok (.iload 11, 2) := by decide +kernel
theorem dX12_likely_186 : decode cX12_likely 186 = .ok (.iload_n 3, 1) := by decide +kernel
theorem dX12_likely_187 : decode cX12_likely 187 = .ok (.if_icmp .ne 35, 3) := by decide +kernel
theorem dX12_likely_190 : decode cX12_likely 190 = .ok (.iload 12, 2) := by decide +kernel
theorem dX12_likely_192 : decode cX12_likely 192 = .ok (.iload 4, 2) := by decide +kernel
theorem dX12_likely_194 : decode cX12_likely 194 = .ok (.if_icmp .eq 6, 3) := by decide +kernel
theorem dX12_likely_197 : decode cX12_likely 197 = .ok (.goto 25, 3) := by decide +kernel
theorem dX12_likely_200 : decode cX12_likely 200 = .ok (.lload 6, 2) := by decide +kernel
theorem dX12_likely_202 : decode cX12_likely 202 = .ok (.lconst 1, 1) := by decide +kernel
theorem dX12_likely_203 : decode cX12_likely 203 = .ok (.ladd, 1) := by decide +kernel
theorem dX12_likely_204 : decode cX12_likely 204 = .ok (.lstore 6, 2) := by decide +kernel
theorem dX12_likely_206 : decode cX12_likely 206 = .ok (.lload 8, 2) := by decide +kernel
theorem dX12_likely_208 : decode cX12_likely 208 = .ok (.iload 13, 2) := by decide +kernel
theorem dX12_likely_210 : decode cX12_likely 210 = .ok (.iload_n 2, 1) := by decide +kernel
theorem dX12_likely_211 : decode cX12_likely 211 = .ok (.if_icmp .lt 7, 3) := by decide +kernel
theorem dX12_likely_214 : decode cX12_likely 214 = .ok (.lconst 1, 1) := by decide +kernel
theorem dX12_likely_215 : decode cX12_likely 215 = .ok (.goto 4, 3) := by decide +kernel
theorem dX12_likely_218 : decode cX12_likely 218 = .ok (.lconst 0, 1) := by decide +kernel
theorem dX12_likely_219 : decode cX12_likely 219 = .ok (.ladd, 1) := by decide +kernel
theorem dX12_likely_220 : decode cX12_likely 220 = .ok (.lstore 8, 2) := by decide +kernel
theorem dX12_likely_222 : decode cX12_likely 222 = .ok (.iinc 10 1, 3) := by decide +kernel
theorem dX12_likely_225 : decode cX12_likely 225 = .ok (.goto (-146), 3) := by decide +kernel
theorem dX12_likely_228 : decode cX12_likely 228 = .ok (.aload_n 0, 1) := by decide +kernel
theorem dX12_likely_229 : decode cX12_likely 229 = .ok (.lload 8, 2) := by decide +kernel
theorem dX12_likely_231 : decode cX12_likely 231 = .ok (.lload 6, 2) := by decide +kernel
theorem dX12_likely_233 : decode cX12_likely 233 = .ok (.invokevirtual 286, 3) := by decide +kernel
theorem dX12_likely_236 : decode cX12_likely 236 = .ok (.lstore 10, 2) := by decide +kernel
theorem dX12_likely_238 : decode cX12_likely 238 = .ok (.iload_n 1, 1) := by decide +kernel
theorem dX12_likely_239 : decode cX12_likely 239 = .ok (.ifCond .ne 11, 3) := by decide +kernel
theorem dX12_likely_242 : decode cX12_likely 242 = .ok (.lload 8, 2) := by decide +kernel
theorem dX12_likely_244 : decode cX12_likely 244 = .ok (.lload 10, 2) := by decide +kernel
theorem dX12_likely_246 : decode cX12_likely 246 = .ok (.ldiv, 1) := by decide +kernel
theorem dX12_likely_247 : decode cX12_likely 247 = .ok (.goto 8, 3) := by decide +kernel
theorem dX12_likely_250 : decode cX12_likely 250 = .ok (.lload 6, 2) := by decide +kernel
theorem dX12_likely_252 : decode cX12_likely 252 = .ok (.lload 10, 2) := by decide +kernel
theorem dX12_likely_254 : decode cX12_likely 254 = .ok (.ldiv, 1) := by decide +kernel
theorem dX12_likely_255 : decode cX12_likely 255 = .ok (.l2i, 1) := by decide +kernel
theorem dX12_likely_256 : decode cX12_likely 256 = .ok (.ireturn, 1) := by decide +kernel
def LX12_likely_49 (D : GD) (d : Nat) (v1 : Int32) (v2 : Int32) (v3 : Int32) (v4 : Int32) (v5 : Int32) (v6 : Int32) (M : Mm) (post : Option Value → Mm → Prop) : Prop := AW D (d + 1) 0 0 mX12_likely 0 0 49 [(0, .ref 62), (1, .int v1), (2, .int v2), (3, .int v3), (4, .int v4), (5, .int v5), (6, .int v6)] [] M post
def LX12_likely_79 (D : GD) (d : Nat) (v1 : Int32) (v2 : Int32) (v3 : Int32) (v4 : Int32) (v5 : Int32) (v6 : Int64) (v8 : Int64) (v10 : Int32) (M : Mm) (post : Option Value → Mm → Prop) : Prop := AW D (d + 1) 0 0 mX12_likely 0 0 79 [(0, .ref 62), (1, .int v1), (2, .int v2), (3, .int v3), (4, .int v4), (5, .int v5), (6, .long v6), (8, .long v8), (10, .int v10)] [] M post
def LX12_likely_105 (D : GD) (d : Nat) (v1 : Int32) (v2 : Int32) (v3 : Int32) (v4 : Int32) (v5 : Int32) (v6 : Int64) (v8 : Int64) (v10 : Int32) (v11 : Int32) (v12 : Int32) (v13 : Int32) (v14 : Int32) (v15 : Int32) (v16 : Int32) (M : Mm) (post : Option Value → Mm → Prop) : Prop := AW D (d + 1) 0 0 mX12_likely 0 0 105 [(0, .ref 62), (1, .int v1), (2, .int v2), (3, .int v3), (4, .int v4), (5, .int v5), (6, .long v6), (8, .long v8), (10, .int v10), (11, .int v11), (12, .int v12), (13, .int v13), (14, .int v14), (15, .int v15), (16, .int v16)] [] M post
set_option maxRecDepth 20000 in
theorem rX12_likely (D : GD) (d : Nat) (a1 : Int32) (M : Mm) (post : Option Value → Mm → Prop) (hL : Lay 62 98 M) 
    (h : AMi D d mX12_in [.ref 62, .int a1, .int (0 : Int32), .int (1 : Int32)] M (fun x2 M1 => ((¬ x2 = 0 → (((gI M1 62 32) ≤ (9 : Int32) → AMi D d mX12_shows [.ref 62, .int (1 : Int32)] M1 (fun x10 M9 => AMi D d mX12_manyTo [.ref 62, .int (0 : Int32)] M9 (fun x16 M15 => AMi D d mX12_manyTo [.ref 62, .int (1 : Int32)] M15 (fun x22 M21 => LX12_likely_49 D d a1 x10 x16 x22 (1 : Int32) (0 : Int32) M21 post)))) ∧ (¬ (gI M1 62 32) ≤ (9 : Int32) → post (some (.int (-9 : Int32))) M1))) ∧ (x2 = 0 → post (some (.int (-1 : Int32))) M1)))) :
    AM D (d + 1) 0 0 mX12_likely [.ref 62, .int a1] M post := by
  refine AM.of (by decide) (Nat.le_of_ble_eq_true rfl) ?_
  show AW D (d + 1) 0 0 mX12_likely 0 0 0 [(0, .ref 62), (1, .int a1)] [] M post
  refine ab_aload_n 0 dX12_likely_0 rfl ?_
  refine ab_iload_n 1 dX12_likely_1 rfl ?_
  refine ab_iconst (v := 0) dX12_likely_2 (by decide) ?_
  refine ab_iconst (v := 1) dX12_likely_3 (by decide) ?_
  refine ab_callV (a := 62) (c0 := 12) (d' := d) (mc' := 0) (ms' := 0) (vs := [.int a1, .int (0 : Int32), .int (1 : Int32)]) (st := []) dX12_likely_4 ⟨cw_X12_in, w_1170⟩ w_1172 w_23 (by decide) (hL.sh 62 rfl (by decide) (by decide)).1 (hL.sh 62 rfl (by decide) (by decide)).2 rfl rfl (Nat.le_of_ble_eq_true rfl) (Nat.le_refl _) (Nat.zero_le _) (Nat.zero_le _) (AM.mono h (fun r M1 ⟨x2, hr3, hc4, h⟩ => ?_))
  subst hr3
  refine ab_rs ?_
  have hm5 : Sm M M1 := (Sm.refl M).trans hc4
  have hl6 := hL.of hm5
  refine ab_if_ne (tgt := 12) dX12_likely_7 (by decide) (fun c7 => ?_) (fun c7 => ?_)
  · have h := h.1 c7
    refine ab_aload_n 0 dX12_likely_12 rfl ?_
    refine ab_getI dX12_likely_13 fs_12_109_12 rfl (hl6.sh 62 rfl (by decide) (by decide)).1 (hl6.sh 62 rfl (by decide) (by decide)).2 ?_
    refine ab_bipush (v := 9) dX12_likely_16 (by decide) ?_
    refine ab_icmp_le (tgt := 24) dX12_likely_18 (by decide) (fun c8 => ?_) (fun c8 => ?_)
    · have h := h.1 c8
      refine ab_aload_n 0 dX12_likely_24 rfl ?_
      refine ab_iconst (v := 1) dX12_likely_25 (by decide) ?_
      refine ab_callV (a := 62) (c0 := 12) (d' := d) (mc' := 0) (ms' := 0) (vs := [.int (1 : Int32)]) (st := []) dX12_likely_26 ⟨cw_X12_shows, w_1381⟩ w_1374 w_1375 (by decide) (hl6.sh 62 rfl (by decide) (by decide)).1 (hl6.sh 62 rfl (by decide) (by decide)).2 rfl rfl (Nat.le_of_ble_eq_true rfl) (Nat.le_refl _) (Nat.zero_le _) (Nat.zero_le _) (AM.mono h (fun r M9 ⟨x10, hr11, hc12, h⟩ => ?_))
      subst hr11
      refine ab_rs ?_
      have hm13 : Sm M M9 := hm5.trans hc12
      have hl14 := hL.of hm13
      refine ab_istore_n (lv1 := [(2, .int x10), (0, .ref 62), (1, .int a1)]) dX12_likely_29 (by decide) rfl ?_
      refine ab_aload_n 1 dX12_likely_30 rfl ?_
      refine ab_iconst (v := 0) dX12_likely_31 (by decide) ?_
      refine ab_callV (a := 62) (c0 := 12) (d' := d) (mc' := 0) (ms' := 0) (vs := [.int (0 : Int32)]) (st := []) dX12_likely_32 ⟨cw_X12_manyTo, w_1382⟩ w_1384 w_59 (by decide) (hl14.sh 62 rfl (by decide) (by decide)).1 (hl14.sh 62 rfl (by decide) (by decide)).2 rfl rfl (Nat.le_of_ble_eq_true rfl) (Nat.le_refl _) (Nat.zero_le _) (Nat.zero_le _) (AM.mono h (fun r M15 ⟨x16, hr17, hc18, h⟩ => ?_))
      subst hr17
      refine ab_rs ?_
      have hm19 : Sm M M15 := hm13.trans hc18
      have hl20 := hL.of hm19
      refine ab_istore_n (lv1 := [(3, .int x16), (2, .int x10), (0, .ref 62), (1, .int a1)]) dX12_likely_35 (by decide) rfl ?_
      refine ab_aload_n 2 dX12_likely_36 rfl ?_
      refine ab_iconst (v := 1) dX12_likely_37 (by decide) ?_
      refine ab_callV (a := 62) (c0 := 12) (d' := d) (mc' := 0) (ms' := 0) (vs := [.int (1 : Int32)]) (st := []) dX12_likely_38 ⟨cw_X12_manyTo, w_1382⟩ w_1384 w_59 (by decide) (hl20.sh 62 rfl (by decide) (by decide)).1 (hl20.sh 62 rfl (by decide) (by decide)).2 rfl rfl (Nat.le_of_ble_eq_true rfl) (Nat.le_refl _) (Nat.zero_le _) (Nat.zero_le _) (AM.mono h (fun r M21 ⟨x22, hr23, hc24, h⟩ => ?_))
      subst hr23
      refine ab_rs ?_
      have hm25 : Sm M M21 := hm19.trans hc24
      have hl26 := hL.of hm25
      refine ab_istore (lv1 := [(4, .int x22), (3, .int x16), (2, .int x10), (0, .ref 62), (1, .int a1)]) dX12_likely_41 (by decide) rfl ?_
      refine ab_iconst (v := 1) dX12_likely_43 (by decide) ?_
      refine ab_istore (lv1 := [(5, .int (1 : Int32)), (4, .int x22), (3, .int x16), (2, .int x10), (0, .ref 62), (1, .int a1)]) dX12_likely_44 (by decide) rfl ?_
      refine ab_iconst (v := 0) dX12_likely_46 (by decide) ?_
      refine ab_istore (lv1 := [(6, .int (0 : Int32)), (5, .int (1 : Int32)), (4, .int x22), (3, .int x16), (2, .int x10), (0, .ref 62), (1, .int a1)]) dX12_likely_47 (by decide) rfl ?_
      exact ab_sub [5, 6, 4, 3, 2, 1, 0] rfl h
    · have h := h.2 c8
      refine ab_bipush (v := (-9)) dX12_likely_21 (by decide) ?_
      exact ab_iret dX12_likely_23 rfl h
  · have h := h.2 c7
    refine ab_iconst (v := (-1)) dX12_likely_10 (by decide) ?_
    exact ab_iret dX12_likely_11 rfl h
set_option maxRecDepth 20000 in
theorem rX12_likely_49 (D : GD) (d : Nat)  (v1 : Int32) (v2 : Int32) (v3 : Int32) (v4 : Int32) (v5 : Int32) (v6 : Int32) (M : Mm) (post : Option Value → Mm → Prop) (hL : Lay 62 98 M) 
    (h : (((gI M 62 32) ≤ v6 → LX12_likely_79 D d v1 v2 v3 v4 v5 (0 : Int64) (0 : Int64) (0 : Int32) M post) ∧ (¬ (gI M 62 32) ≤ v6 → ∀ x2 : Int32, x2 = (v5 * (3 : Int32)) → ∀ x3 : Int32, x3 = v6 + (1 : Int32) → LX12_likely_49 D d v1 v2 v3 v4 x2 x3 M post))) :
    LX12_likely_49 D d v1 v2 v3 v4 v5 v6 M post := by
  show AW D (d + 1) 0 0 mX12_likely 0 0 49 [(0, .ref 62), (1, .int v1), (2, .int v2), (3, .int v3), (4, .int v4), (5, .int v5), (6, .int v6)] [] M post
  refine ab_iload 6 dX12_likely_49 rfl ?_
  refine ab_aload_n 0 dX12_likely_51 rfl ?_
  refine ab_getI dX12_likely_52 fs_12_109_12 rfl (hL.sh 62 rfl (by decide) (by decide)).1 (hL.sh 62 rfl (by decide) (by decide)).2 ?_
  refine ab_icmp_ge (tgt := 70) dX12_likely_55 (by decide) (fun c1 => ?_) (fun c1 => ?_)
  · have h := h.1 c1
    refine ab_lconst (v := 0) dX12_likely_70 (by decide) ?_
    refine ab_lstore (lv1 := [(6, .long (0 : Int64)), (0, .ref 62), (1, .int v1), (2, .int v2), (3, .int v3), (4, .int v4), (5, .int v5)]) dX12_likely_71 (by decide) rfl ?_
    refine ab_lconst (v := 0) dX12_likely_73 (by decide) ?_
    refine ab_lstore (lv1 := [(8, .long (0 : Int64)), (6, .long (0 : Int64)), (0, .ref 62), (1, .int v1), (2, .int v2), (3, .int v3), (4, .int v4), (5, .int v5)]) dX12_likely_74 (by decide) rfl ?_
    refine ab_iconst (v := 0) dX12_likely_76 (by decide) ?_
    refine ab_istore (lv1 := [(10, .int (0 : Int32)), (8, .long (0 : Int64)), (6, .long (0 : Int64)), (0, .ref 62), (1, .int v1), (2, .int v2), (3, .int v3), (4, .int v4), (5, .int v5)]) dX12_likely_77 (by decide) rfl ?_
    exact ab_sub [3, 4, 5, 6, 7, 8, 2, 1, 0] rfl h
  · have h := h.2 c1
    refine ab_iload 5 dX12_likely_58 rfl ?_
    refine ab_iconst (v := 3) dX12_likely_60 (by decide) ?_
    refine ab_imul dX12_likely_61 ?_
    refine ab_topi (fun x2 hx2 => ?_)
    have h := h x2 hx2
    refine ab_istore (lv1 := [(5, .int x2), (0, .ref 62), (1, .int v1), (2, .int v2), (3, .int v3), (4, .int v4), (6, .int v6)]) dX12_likely_62 (by decide) rfl ?_
    obtain ⟨x3, hx3⟩ : ∃ y : Int32, y = v6 + (1 : Int32) := ⟨_, rfl⟩
    have h := h x3 hx3
    refine ab_iinc (v := x3) 6 (lv1 := [(6, .int x3), (5, .int x2), (0, .ref 62), (1, .int v1), (2, .int v2), (3, .int v3), (4, .int v4)]) dX12_likely_64 rfl (by rw [hx3]; rfl) (by decide) rfl ?_
    refine ab_goto (tgt := 49) dX12_likely_67 (by decide) ?_
    exact ab_sub [2, 3, 4, 5, 6, 1, 0] rfl h
set_option maxRecDepth 20000 in
theorem rX12_likely_79 (D : GD) (d : Nat)  (v1 : Int32) (v2 : Int32) (v3 : Int32) (v4 : Int32) (v5 : Int32) (v6 : Int64) (v8 : Int64) (v10 : Int32) (M : Mm) (post : Option Value → Mm → Prop) (hL : Lay 62 98 M) 
    (h : ((v5 ≤ v10 → AMl D d mX12_divisor [.ref 62, .long v8, .long v6] M (fun x3 M2 => ((¬ v1 = 0 → (¬ x3 = 0) ∧ post (some (.int (((v6 / x3)).toInt32))) M2) ∧ (v1 = 0 → (¬ x3 = 0) ∧ post (some (.int (((v8 / x3)).toInt32))) M2)))) ∧ (¬ v5 ≤ v10 → LX12_likely_105 D d v1 v2 v3 v4 v5 v6 v8 v10 (0 : Int32) (0 : Int32) (0 : Int32) (-1 : Int32) v10 (0 : Int32) M post))) :
    LX12_likely_79 D d v1 v2 v3 v4 v5 v6 v8 v10 M post := by
  show AW D (d + 1) 0 0 mX12_likely 0 0 79 [(0, .ref 62), (1, .int v1), (2, .int v2), (3, .int v3), (4, .int v4), (5, .int v5), (6, .long v6), (8, .long v8), (10, .int v10)] [] M post
  refine ab_iload 8 dX12_likely_79 rfl ?_
  refine ab_iload 5 dX12_likely_81 rfl ?_
  refine ab_icmp_ge (tgt := 228) dX12_likely_83 (by decide) (fun c1 => ?_) (fun c1 => ?_)
  · have h := h.1 c1
    refine ab_aload_n 0 dX12_likely_228 rfl ?_
    refine ab_lload 7 dX12_likely_229 rfl ?_
    refine ab_lload 6 dX12_likely_231 rfl ?_
    refine ab_callV (a := 62) (c0 := 12) (d' := d) (mc' := 0) (ms' := 0) (vs := [.long v8, .long v6]) (st := []) dX12_likely_233 ⟨cw_X12_divisor, w_1349⟩ w_1351 w_57 (by decide) (hL.sh 62 rfl (by decide) (by decide)).1 (hL.sh 62 rfl (by decide) (by decide)).2 rfl rfl (Nat.le_of_ble_eq_true rfl) (Nat.le_refl _) (Nat.zero_le _) (Nat.zero_le _) (AM.mono h (fun r M2 ⟨x3, hr4, hc5, h⟩ => ?_))
    subst hr4
    refine ab_rs ?_
    have hm6 : Sm M M2 := (Sm.refl M).trans hc5
    have hl7 := hL.of hm6
    refine ab_lstore (lv1 := [(10, .long x3), (0, .ref 62), (1, .int v1), (2, .int v2), (3, .int v3), (4, .int v4), (5, .int v5), (6, .long v6), (8, .long v8)]) dX12_likely_236 (by decide) rfl ?_
    refine ab_iload_n 2 dX12_likely_238 rfl ?_
    refine ab_if_ne (tgt := 250) dX12_likely_239 (by decide) (fun c8 => ?_) (fun c8 => ?_)
    · have h := h.1 c8
      refine ab_lload 7 dX12_likely_250 rfl ?_
      refine ab_lload 0 dX12_likely_252 rfl ?_
      have hn9 := h.1
      have h := h.2
      refine ab_ldiv dX12_likely_254 hn9 ?_
      refine ab_l2i dX12_likely_255 ?_
      exact ab_iret dX12_likely_256 rfl h
    · have h := h.2 c8
      refine ab_lload 8 dX12_likely_242 rfl ?_
      refine ab_lload 0 dX12_likely_244 rfl ?_
      have hn10 := h.1
      have h := h.2
      refine ab_ldiv dX12_likely_246 hn10 ?_
      refine ab_goto (tgt := 255) dX12_likely_247 (by decide) ?_
      refine ab_l2i dX12_likely_255 ?_
      exact ab_iret dX12_likely_256 rfl h
  · have h := h.2 c1
    refine ab_iconst (v := 0) dX12_likely_86 (by decide) ?_
    refine ab_istore (lv1 := [(11, .int (0 : Int32)), (0, .ref 62), (1, .int v1), (2, .int v2), (3, .int v3), (4, .int v4), (5, .int v5), (6, .long v6), (8, .long v8), (10, .int v10)]) dX12_likely_87 (by decide) rfl ?_
    refine ab_iconst (v := 0) dX12_likely_89 (by decide) ?_
    refine ab_istore (lv1 := [(12, .int (0 : Int32)), (11, .int (0 : Int32)), (0, .ref 62), (1, .int v1), (2, .int v2), (3, .int v3), (4, .int v4), (5, .int v5), (6, .long v6), (8, .long v8), (10, .int v10)]) dX12_likely_90 (by decide) rfl ?_
    refine ab_iconst (v := 0) dX12_likely_92 (by decide) ?_
    refine ab_istore (lv1 := [(13, .int (0 : Int32)), (12, .int (0 : Int32)), (11, .int (0 : Int32)), (0, .ref 62), (1, .int v1), (2, .int v2), (3, .int v3), (4, .int v4), (5, .int v5), (6, .long v6), (8, .long v8), (10, .int v10)]) dX12_likely_93 (by decide) rfl ?_
    refine ab_iconst (v := (-1)) dX12_likely_95 (by decide) ?_
    refine ab_istore (lv1 := [(14, .int (-1 : Int32)), (13, .int (0 : Int32)), (12, .int (0 : Int32)), (11, .int (0 : Int32)), (0, .ref 62), (1, .int v1), (2, .int v2), (3, .int v3), (4, .int v4), (5, .int v5), (6, .long v6), (8, .long v8), (10, .int v10)]) dX12_likely_96 (by decide) rfl ?_
    refine ab_iload 12 dX12_likely_98 rfl ?_
    refine ab_istore (lv1 := [(15, .int v10), (14, .int (-1 : Int32)), (13, .int (0 : Int32)), (12, .int (0 : Int32)), (11, .int (0 : Int32)), (0, .ref 62), (1, .int v1), (2, .int v2), (3, .int v3), (4, .int v4), (5, .int v5), (6, .long v6), (8, .long v8), (10, .int v10)]) dX12_likely_100 (by decide) rfl ?_
    refine ab_iconst (v := 0) dX12_likely_102 (by decide) ?_
    refine ab_istore (lv1 := [(16, .int (0 : Int32)), (15, .int v10), (14, .int (-1 : Int32)), (13, .int (0 : Int32)), (12, .int (0 : Int32)), (11, .int (0 : Int32)), (0, .ref 62), (1, .int v1), (2, .int v2), (3, .int v3), (4, .int v4), (5, .int v5), (6, .long v6), (8, .long v8), (10, .int v10)]) dX12_likely_103 (by decide) rfl ?_
    exact ab_sub [6, 7, 8, 9, 10, 11, 12, 13, 14, 5, 4, 3, 2, 1, 0] rfl h
set_option maxRecDepth 20000 in
theorem rX12_likely_105 (D : GD) (d : Nat)  (v1 : Int32) (v2 : Int32) (v3 : Int32) (v4 : Int32) (v5 : Int32) (v6 : Int64) (v8 : Int64) (v10 : Int32) (v11 : Int32) (v12 : Int32) (v13 : Int32) (v14 : Int32) (v15 : Int32) (v16 : Int32) (M : Mm) (post : Option Value → Mm → Prop) (hL : Lay 62 98 M) 
    (h : (((gI M 62 32) ≤ v16 → ((¬ v11 = v3 → ∀ x3 : Int32, x3 = v10 + (1 : Int32) → LX12_likely_79 D d v1 v2 v3 v4 v5 v6 v8 x3 M post) ∧ (v11 = v3 → ((v12 = v4 → ∀ x5 : Int64, x5 = (v6 + (1 : Int64)) → ((v13 < v2 → ∀ x7 : Int64, x7 = (v8 + (0 : Int64)) → ∀ x8 : Int32, x8 = v10 + (1 : Int32) → LX12_likely_79 D d v1 v2 v3 v4 v5 x5 x7 x8 M post) ∧ (¬ v13 < v2 → ∀ x9 : Int64, x9 = (v8 + (1 : Int64)) → ∀ x10 : Int32, x10 = v10 + (1 : Int32) → LX12_likely_79 D d v1 v2 v3 v4 v5 x5 x9 x10 M post))) ∧ (¬ v12 = v4 → ∀ x11 : Int32, x11 = v10 + (1 : Int32) → LX12_likely_79 D d v1 v2 v3 v4 v5 v6 v8 x11 M post))))) ∧ (¬ (gI M 62 32) ≤ v16 → ∀ x12 : Int32, x12 = (v15 - v15 / (3 : Int32) * (3 : Int32)) → ∀ x13 : Int32, x13 = (v15 / (3 : Int32)) → ((¬ x12 = 0 → ∀ x15 : Int32, x15 = (v11 + (0 : Int32)) → ((¬ x12 = (1 : Int32) → ∀ x17 : Int32, x17 = (v12 + (0 : Int32)) → ((¬ x12 = v14 → ∀ x19 : Int32, x19 = (v13 + (1 : Int32)) → ∀ x20 : Int32, x20 = v16 + (1 : Int32) → LX12_likely_105 D d v1 v2 v3 v4 v5 v6 v8 v10 x15 x17 x19 x12 x13 x20 M post) ∧ (x12 = v14 → ∀ x21 : Int32, x21 = (v13 + (0 : Int32)) → ∀ x22 : Int32, x22 = v16 + (1 : Int32) → LX12_likely_105 D d v1 v2 v3 v4 v5 v6 v8 v10 x15 x17 x21 x12 x13 x22 M post))) ∧ (x12 = (1 : Int32) → ∀ x23 : Int32, x23 = (v12 + (1 : Int32)) → ((¬ x12 = v14 → ∀ x25 : Int32, x25 = (v13 + (1 : Int32)) → ∀ x26 : Int32, x26 = v16 + (1 : Int32) → LX12_likely_105 D d v1 v2 v3 v4 v5 v6 v8 v10 x15 x23 x25 x12 x13 x26 M post) ∧ (x12 = v14 → ∀ x27 : Int32, x27 = (v13 + (0 : Int32)) → ∀ x28 : Int32, x28 = v16 + (1 : Int32) → LX12_likely_105 D d v1 v2 v3 v4 v5 v6 v8 v10 x15 x23 x27 x12 x13 x28 M post))))) ∧ (x12 = 0 → ∀ x29 : Int32, x29 = (v11 + (1 : Int32)) → ((¬ x12 = (1 : Int32) → ∀ x31 : Int32, x31 = (v12 + (0 : Int32)) → ((¬ x12 = v14 → ∀ x33 : Int32, x33 = (v13 + (1 : Int32)) → ∀ x34 : Int32, x34 = v16 + (1 : Int32) → LX12_likely_105 D d v1 v2 v3 v4 v5 v6 v8 v10 x29 x31 x33 x12 x13 x34 M post) ∧ (x12 = v14 → ∀ x35 : Int32, x35 = (v13 + (0 : Int32)) → ∀ x36 : Int32, x36 = v16 + (1 : Int32) → LX12_likely_105 D d v1 v2 v3 v4 v5 v6 v8 v10 x29 x31 x35 x12 x13 x36 M post))) ∧ (x12 = (1 : Int32) → ∀ x37 : Int32, x37 = (v12 + (1 : Int32)) → ((¬ x12 = v14 → ∀ x39 : Int32, x39 = (v13 + (1 : Int32)) → ∀ x40 : Int32, x40 = v16 + (1 : Int32) → LX12_likely_105 D d v1 v2 v3 v4 v5 v6 v8 v10 x29 x37 x39 x12 x13 x40 M post) ∧ (x12 = v14 → ∀ x41 : Int32, x41 = (v13 + (0 : Int32)) → ∀ x42 : Int32, x42 = v16 + (1 : Int32) → LX12_likely_105 D d v1 v2 v3 v4 v5 v6 v8 v10 x29 x37 x41 x12 x13 x42 M post))))))))) :
    LX12_likely_105 D d v1 v2 v3 v4 v5 v6 v8 v10 v11 v12 v13 v14 v15 v16 M post := by
  show AW D (d + 1) 0 0 mX12_likely 0 0 105 [(0, .ref 62), (1, .int v1), (2, .int v2), (3, .int v3), (4, .int v4), (5, .int v5), (6, .long v6), (8, .long v8), (10, .int v10), (11, .int v11), (12, .int v12), (13, .int v13), (14, .int v14), (15, .int v15), (16, .int v16)] [] M post
  refine ab_iload 14 dX12_likely_105 rfl ?_
  refine ab_aload_n 0 dX12_likely_107 rfl ?_
  refine ab_getI dX12_likely_108 fs_12_109_12 rfl (hL.sh 62 rfl (by decide) (by decide)).1 (hL.sh 62 rfl (by decide) (by decide)).2 ?_
  refine ab_icmp_ge (tgt := 184) dX12_likely_111 (by decide) (fun c1 => ?_) (fun c1 => ?_)
  · have h := h.1 c1
    refine ab_iload 9 dX12_likely_184 rfl ?_
    refine ab_iload_n 3 dX12_likely_186 rfl ?_
    refine ab_icmp_ne (tgt := 222) dX12_likely_187 (by decide) (fun c2 => ?_) (fun c2 => ?_)
    · have h := h.1 c2
      obtain ⟨x3, hx3⟩ : ∃ y : Int32, y = v10 + (1 : Int32) := ⟨_, rfl⟩
      have h := h x3 hx3
      refine ab_iinc (v := x3) 8 (lv1 := [(10, .int x3), (0, .ref 62), (1, .int v1), (2, .int v2), (3, .int v3), (4, .int v4), (5, .int v5), (6, .long v6), (8, .long v8), (11, .int v11), (12, .int v12), (13, .int v13), (14, .int v14), (15, .int v15), (16, .int v16)]) dX12_likely_222 rfl (by rw [hx3]; rfl) (by decide) rfl ?_
      refine ab_goto (tgt := 79) dX12_likely_225 (by decide) ?_
      exact ab_sub [1, 2, 3, 4, 5, 6, 7, 8, 0] rfl h
    · have h := h.2 c2
      refine ab_iload 10 dX12_likely_190 rfl ?_
      refine ab_iload 4 dX12_likely_192 rfl ?_
      refine ab_icmp_eq (tgt := 200) dX12_likely_194 (by decide) (fun c4 => ?_) (fun c4 => ?_)
      · have h := h.1 c4
        refine ab_lload 6 dX12_likely_200 rfl ?_
        refine ab_lconst (v := 1) dX12_likely_202 (by decide) ?_
        refine ab_ladd dX12_likely_203 ?_
        refine ab_topl (fun x5 hx5 => ?_)
        have h := h x5 hx5
        refine ab_lstore (lv1 := [(6, .long x5), (0, .ref 62), (1, .int v1), (2, .int v2), (3, .int v3), (4, .int v4), (5, .int v5), (8, .long v8), (10, .int v10), (11, .int v11), (12, .int v12), (13, .int v13), (14, .int v14), (15, .int v15), (16, .int v16)]) dX12_likely_204 (by decide) rfl ?_
        refine ab_lload 7 dX12_likely_206 rfl ?_
        refine ab_iload 11 dX12_likely_208 rfl ?_
        refine ab_iload_n 3 dX12_likely_210 rfl ?_
        refine ab_icmp_lt (tgt := 218) dX12_likely_211 (by decide) (fun c6 => ?_) (fun c6 => ?_)
        · have h := h.1 c6
          refine ab_lconst (v := 0) dX12_likely_218 (by decide) ?_
          refine ab_ladd dX12_likely_219 ?_
          refine ab_topl (fun x7 hx7 => ?_)
          have h := h x7 hx7
          refine ab_lstore (lv1 := [(8, .long x7), (6, .long x5), (0, .ref 62), (1, .int v1), (2, .int v2), (3, .int v3), (4, .int v4), (5, .int v5), (10, .int v10), (11, .int v11), (12, .int v12), (13, .int v13), (14, .int v14), (15, .int v15), (16, .int v16)]) dX12_likely_220 (by decide) rfl ?_
          obtain ⟨x8, hx8⟩ : ∃ y : Int32, y = v10 + (1 : Int32) := ⟨_, rfl⟩
          have h := h x8 hx8
          refine ab_iinc (v := x8) 8 (lv1 := [(10, .int x8), (8, .long x7), (6, .long x5), (0, .ref 62), (1, .int v1), (2, .int v2), (3, .int v3), (4, .int v4), (5, .int v5), (11, .int v11), (12, .int v12), (13, .int v13), (14, .int v14), (15, .int v15), (16, .int v16)]) dX12_likely_222 rfl (by rw [hx8]; rfl) (by decide) rfl ?_
          refine ab_goto (tgt := 79) dX12_likely_225 (by decide) ?_
          exact ab_sub [3, 4, 5, 6, 7, 8, 2, 1, 0] rfl h
        · have h := h.2 c6
          refine ab_lconst (v := 1) dX12_likely_214 (by decide) ?_
          refine ab_goto (tgt := 219) dX12_likely_215 (by decide) ?_
          refine ab_ladd dX12_likely_219 ?_
          refine ab_topl (fun x9 hx9 => ?_)
          have h := h x9 hx9
          refine ab_lstore (lv1 := [(8, .long x9), (6, .long x5), (0, .ref 62), (1, .int v1), (2, .int v2), (3, .int v3), (4, .int v4), (5, .int v5), (10, .int v10), (11, .int v11), (12, .int v12), (13, .int v13), (14, .int v14), (15, .int v15), (16, .int v16)]) dX12_likely_220 (by decide) rfl ?_
          obtain ⟨x10, hx10⟩ : ∃ y : Int32, y = v10 + (1 : Int32) := ⟨_, rfl⟩
          have h := h x10 hx10
          refine ab_iinc (v := x10) 8 (lv1 := [(10, .int x10), (8, .long x9), (6, .long x5), (0, .ref 62), (1, .int v1), (2, .int v2), (3, .int v3), (4, .int v4), (5, .int v5), (11, .int v11), (12, .int v12), (13, .int v13), (14, .int v14), (15, .int v15), (16, .int v16)]) dX12_likely_222 rfl (by rw [hx10]; rfl) (by decide) rfl ?_
          refine ab_goto (tgt := 79) dX12_likely_225 (by decide) ?_
          exact ab_sub [3, 4, 5, 6, 7, 8, 2, 1, 0] rfl h
      · have h := h.2 c4
        refine ab_goto (tgt := 222) dX12_likely_197 (by decide) ?_
        obtain ⟨x11, hx11⟩ : ∃ y : Int32, y = v10 + (1 : Int32) := ⟨_, rfl⟩
        have h := h x11 hx11
        refine ab_iinc (v := x11) 8 (lv1 := [(10, .int x11), (0, .ref 62), (1, .int v1), (2, .int v2), (3, .int v3), (4, .int v4), (5, .int v5), (6, .long v6), (8, .long v8), (11, .int v11), (12, .int v12), (13, .int v13), (14, .int v14), (15, .int v15), (16, .int v16)]) dX12_likely_222 rfl (by rw [hx11]; rfl) (by decide) rfl ?_
        refine ab_goto (tgt := 79) dX12_likely_225 (by decide) ?_
        exact ab_sub [1, 2, 3, 4, 5, 6, 7, 8, 0] rfl h
  · have h := h.2 c1
    refine ab_iload 13 dX12_likely_114 rfl ?_
    refine ab_iconst (v := 3) dX12_likely_116 (by decide) ?_
    refine ab_irem dX12_likely_117 (by decide) ?_
    refine ab_topi (fun x12 hx12 => ?_)
    have h := h x12 hx12
    refine ab_istore (lv1 := [(17, .int x12), (0, .ref 62), (1, .int v1), (2, .int v2), (3, .int v3), (4, .int v4), (5, .int v5), (6, .long v6), (8, .long v8), (10, .int v10), (11, .int v11), (12, .int v12), (13, .int v13), (14, .int v14), (15, .int v15), (16, .int v16)]) dX12_likely_118 (by decide) rfl ?_
    refine ab_iload 14 dX12_likely_120 rfl ?_
    refine ab_iconst (v := 3) dX12_likely_122 (by decide) ?_
    refine ab_idiv dX12_likely_123 (by decide) ?_
    refine ab_topi (fun x13 hx13 => ?_)
    have h := h x13 hx13
    refine ab_istore (lv1 := [(15, .int x13), (17, .int x12), (0, .ref 62), (1, .int v1), (2, .int v2), (3, .int v3), (4, .int v4), (5, .int v5), (6, .long v6), (8, .long v8), (10, .int v10), (11, .int v11), (12, .int v12), (13, .int v13), (14, .int v14), (16, .int v16)]) dX12_likely_124 (by decide) rfl ?_
    refine ab_iload 11 dX12_likely_126 rfl ?_
    refine ab_iload 1 dX12_likely_128 rfl ?_
    refine ab_if_ne (tgt := 137) dX12_likely_130 (by decide) (fun c14 => ?_) (fun c14 => ?_)
    · have h := h.1 c14
      refine ab_iconst (v := 0) dX12_likely_137 (by decide) ?_
      refine ab_iadd dX12_likely_138 ?_
      refine ab_topi (fun x15 hx15 => ?_)
      have h := h x15 hx15
      refine ab_istore (lv1 := [(11, .int x15), (15, .int x13), (17, .int x12), (0, .ref 62), (1, .int v1), (2, .int v2), (3, .int v3), (4, .int v4), (5, .int v5), (6, .long v6), (8, .long v8), (10, .int v10), (12, .int v12), (13, .int v13), (14, .int v14), (16, .int v16)]) dX12_likely_139 (by decide) rfl ?_
      refine ab_iload 12 dX12_likely_141 rfl ?_
      refine ab_iload 2 dX12_likely_143 rfl ?_
      refine ab_iconst (v := 1) dX12_likely_145 (by decide) ?_
      refine ab_icmp_ne (tgt := 153) dX12_likely_146 (by decide) (fun c16 => ?_) (fun c16 => ?_)
      · have h := h.1 c16
        refine ab_iconst (v := 0) dX12_likely_153 (by decide) ?_
        refine ab_iadd dX12_likely_154 ?_
        refine ab_topi (fun x17 hx17 => ?_)
        have h := h x17 hx17
        refine ab_istore (lv1 := [(12, .int x17), (11, .int x15), (15, .int x13), (17, .int x12), (0, .ref 62), (1, .int v1), (2, .int v2), (3, .int v3), (4, .int v4), (5, .int v5), (6, .long v6), (8, .long v8), (10, .int v10), (13, .int v13), (14, .int v14), (16, .int v16)]) dX12_likely_155 (by decide) rfl ?_
        refine ab_iload 13 dX12_likely_157 rfl ?_
        refine ab_iload 3 dX12_likely_159 rfl ?_
        refine ab_iload 14 dX12_likely_161 rfl ?_
        refine ab_icmp_ne (tgt := 170) dX12_likely_163 (by decide) (fun c18 => ?_) (fun c18 => ?_)
        · have h := h.1 c18
          refine ab_iconst (v := 1) dX12_likely_170 (by decide) ?_
          refine ab_iadd dX12_likely_171 ?_
          refine ab_topi (fun x19 hx19 => ?_)
          have h := h x19 hx19
          refine ab_istore (lv1 := [(13, .int x19), (12, .int x17), (11, .int x15), (15, .int x13), (17, .int x12), (0, .ref 62), (1, .int v1), (2, .int v2), (3, .int v3), (4, .int v4), (5, .int v5), (6, .long v6), (8, .long v8), (10, .int v10), (14, .int v14), (16, .int v16)]) dX12_likely_172 (by decide) rfl ?_
          refine ab_iload 4 dX12_likely_174 rfl ?_
          refine ab_istore (lv1 := [(14, .int x12), (13, .int x19), (12, .int x17), (11, .int x15), (15, .int x13), (17, .int x12), (0, .ref 62), (1, .int v1), (2, .int v2), (3, .int v3), (4, .int v4), (5, .int v5), (6, .long v6), (8, .long v8), (10, .int v10), (16, .int v16)]) dX12_likely_176 (by decide) rfl ?_
          obtain ⟨x20, hx20⟩ : ∃ y : Int32, y = v16 + (1 : Int32) := ⟨_, rfl⟩
          have h := h x20 hx20
          refine ab_iinc (v := x20) 15 (lv1 := [(16, .int x20), (14, .int x12), (13, .int x19), (12, .int x17), (11, .int x15), (15, .int x13), (17, .int x12), (0, .ref 62), (1, .int v1), (2, .int v2), (3, .int v3), (4, .int v4), (5, .int v5), (6, .long v6), (8, .long v8), (10, .int v10)]) dX12_likely_178 rfl (by rw [hx20]; rfl) (by decide) rfl ?_
          refine ab_goto (tgt := 105) dX12_likely_181 (by decide) ?_
          exact ab_sub [7, 8, 9, 10, 11, 12, 13, 14, 15, 4, 3, 2, 1, 5, 0] rfl h
        · have h := h.2 c18
          refine ab_iconst (v := 0) dX12_likely_166 (by decide) ?_
          refine ab_goto (tgt := 171) dX12_likely_167 (by decide) ?_
          refine ab_iadd dX12_likely_171 ?_
          refine ab_topi (fun x21 hx21 => ?_)
          have h := h x21 hx21
          refine ab_istore (lv1 := [(13, .int x21), (12, .int x17), (11, .int x15), (15, .int x13), (17, .int x12), (0, .ref 62), (1, .int v1), (2, .int v2), (3, .int v3), (4, .int v4), (5, .int v5), (6, .long v6), (8, .long v8), (10, .int v10), (14, .int v14), (16, .int v16)]) dX12_likely_172 (by decide) rfl ?_
          refine ab_iload 4 dX12_likely_174 rfl ?_
          refine ab_istore (lv1 := [(14, .int x12), (13, .int x21), (12, .int x17), (11, .int x15), (15, .int x13), (17, .int x12), (0, .ref 62), (1, .int v1), (2, .int v2), (3, .int v3), (4, .int v4), (5, .int v5), (6, .long v6), (8, .long v8), (10, .int v10), (16, .int v16)]) dX12_likely_176 (by decide) rfl ?_
          obtain ⟨x22, hx22⟩ : ∃ y : Int32, y = v16 + (1 : Int32) := ⟨_, rfl⟩
          have h := h x22 hx22
          refine ab_iinc (v := x22) 15 (lv1 := [(16, .int x22), (14, .int x12), (13, .int x21), (12, .int x17), (11, .int x15), (15, .int x13), (17, .int x12), (0, .ref 62), (1, .int v1), (2, .int v2), (3, .int v3), (4, .int v4), (5, .int v5), (6, .long v6), (8, .long v8), (10, .int v10)]) dX12_likely_178 rfl (by rw [hx22]; rfl) (by decide) rfl ?_
          refine ab_goto (tgt := 105) dX12_likely_181 (by decide) ?_
          exact ab_sub [7, 8, 9, 10, 11, 12, 13, 14, 15, 4, 3, 2, 1, 5, 0] rfl h
      · have h := h.2 c16
        refine ab_iconst (v := 1) dX12_likely_149 (by decide) ?_
        refine ab_goto (tgt := 154) dX12_likely_150 (by decide) ?_
        refine ab_iadd dX12_likely_154 ?_
        refine ab_topi (fun x23 hx23 => ?_)
        have h := h x23 hx23
        refine ab_istore (lv1 := [(12, .int x23), (11, .int x15), (15, .int x13), (17, .int x12), (0, .ref 62), (1, .int v1), (2, .int v2), (3, .int v3), (4, .int v4), (5, .int v5), (6, .long v6), (8, .long v8), (10, .int v10), (13, .int v13), (14, .int v14), (16, .int v16)]) dX12_likely_155 (by decide) rfl ?_
        refine ab_iload 13 dX12_likely_157 rfl ?_
        refine ab_iload 3 dX12_likely_159 rfl ?_
        refine ab_iload 14 dX12_likely_161 rfl ?_
        refine ab_icmp_ne (tgt := 170) dX12_likely_163 (by decide) (fun c24 => ?_) (fun c24 => ?_)
        · have h := h.1 c24
          refine ab_iconst (v := 1) dX12_likely_170 (by decide) ?_
          refine ab_iadd dX12_likely_171 ?_
          refine ab_topi (fun x25 hx25 => ?_)
          have h := h x25 hx25
          refine ab_istore (lv1 := [(13, .int x25), (12, .int x23), (11, .int x15), (15, .int x13), (17, .int x12), (0, .ref 62), (1, .int v1), (2, .int v2), (3, .int v3), (4, .int v4), (5, .int v5), (6, .long v6), (8, .long v8), (10, .int v10), (14, .int v14), (16, .int v16)]) dX12_likely_172 (by decide) rfl ?_
          refine ab_iload 4 dX12_likely_174 rfl ?_
          refine ab_istore (lv1 := [(14, .int x12), (13, .int x25), (12, .int x23), (11, .int x15), (15, .int x13), (17, .int x12), (0, .ref 62), (1, .int v1), (2, .int v2), (3, .int v3), (4, .int v4), (5, .int v5), (6, .long v6), (8, .long v8), (10, .int v10), (16, .int v16)]) dX12_likely_176 (by decide) rfl ?_
          obtain ⟨x26, hx26⟩ : ∃ y : Int32, y = v16 + (1 : Int32) := ⟨_, rfl⟩
          have h := h x26 hx26
          refine ab_iinc (v := x26) 15 (lv1 := [(16, .int x26), (14, .int x12), (13, .int x25), (12, .int x23), (11, .int x15), (15, .int x13), (17, .int x12), (0, .ref 62), (1, .int v1), (2, .int v2), (3, .int v3), (4, .int v4), (5, .int v5), (6, .long v6), (8, .long v8), (10, .int v10)]) dX12_likely_178 rfl (by rw [hx26]; rfl) (by decide) rfl ?_
          refine ab_goto (tgt := 105) dX12_likely_181 (by decide) ?_
          exact ab_sub [7, 8, 9, 10, 11, 12, 13, 14, 15, 4, 3, 2, 1, 5, 0] rfl h
        · have h := h.2 c24
          refine ab_iconst (v := 0) dX12_likely_166 (by decide) ?_
          refine ab_goto (tgt := 171) dX12_likely_167 (by decide) ?_
          refine ab_iadd dX12_likely_171 ?_
          refine ab_topi (fun x27 hx27 => ?_)
          have h := h x27 hx27
          refine ab_istore (lv1 := [(13, .int x27), (12, .int x23), (11, .int x15), (15, .int x13), (17, .int x12), (0, .ref 62), (1, .int v1), (2, .int v2), (3, .int v3), (4, .int v4), (5, .int v5), (6, .long v6), (8, .long v8), (10, .int v10), (14, .int v14), (16, .int v16)]) dX12_likely_172 (by decide) rfl ?_
          refine ab_iload 4 dX12_likely_174 rfl ?_
          refine ab_istore (lv1 := [(14, .int x12), (13, .int x27), (12, .int x23), (11, .int x15), (15, .int x13), (17, .int x12), (0, .ref 62), (1, .int v1), (2, .int v2), (3, .int v3), (4, .int v4), (5, .int v5), (6, .long v6), (8, .long v8), (10, .int v10), (16, .int v16)]) dX12_likely_176 (by decide) rfl ?_
          obtain ⟨x28, hx28⟩ : ∃ y : Int32, y = v16 + (1 : Int32) := ⟨_, rfl⟩
          have h := h x28 hx28
          refine ab_iinc (v := x28) 15 (lv1 := [(16, .int x28), (14, .int x12), (13, .int x27), (12, .int x23), (11, .int x15), (15, .int x13), (17, .int x12), (0, .ref 62), (1, .int v1), (2, .int v2), (3, .int v3), (4, .int v4), (5, .int v5), (6, .long v6), (8, .long v8), (10, .int v10)]) dX12_likely_178 rfl (by rw [hx28]; rfl) (by decide) rfl ?_
          refine ab_goto (tgt := 105) dX12_likely_181 (by decide) ?_
          exact ab_sub [7, 8, 9, 10, 11, 12, 13, 14, 15, 4, 3, 2, 1, 5, 0] rfl h
    · have h := h.2 c14
      refine ab_iconst (v := 1) dX12_likely_133 (by decide) ?_
      refine ab_goto (tgt := 138) dX12_likely_134 (by decide) ?_
      refine ab_iadd dX12_likely_138 ?_
      refine ab_topi (fun x29 hx29 => ?_)
      have h := h x29 hx29
      refine ab_istore (lv1 := [(11, .int x29), (15, .int x13), (17, .int x12), (0, .ref 62), (1, .int v1), (2, .int v2), (3, .int v3), (4, .int v4), (5, .int v5), (6, .long v6), (8, .long v8), (10, .int v10), (12, .int v12), (13, .int v13), (14, .int v14), (16, .int v16)]) dX12_likely_139 (by decide) rfl ?_
      refine ab_iload 12 dX12_likely_141 rfl ?_
      refine ab_iload 2 dX12_likely_143 rfl ?_
      refine ab_iconst (v := 1) dX12_likely_145 (by decide) ?_
      refine ab_icmp_ne (tgt := 153) dX12_likely_146 (by decide) (fun c30 => ?_) (fun c30 => ?_)
      · have h := h.1 c30
        refine ab_iconst (v := 0) dX12_likely_153 (by decide) ?_
        refine ab_iadd dX12_likely_154 ?_
        refine ab_topi (fun x31 hx31 => ?_)
        have h := h x31 hx31
        refine ab_istore (lv1 := [(12, .int x31), (11, .int x29), (15, .int x13), (17, .int x12), (0, .ref 62), (1, .int v1), (2, .int v2), (3, .int v3), (4, .int v4), (5, .int v5), (6, .long v6), (8, .long v8), (10, .int v10), (13, .int v13), (14, .int v14), (16, .int v16)]) dX12_likely_155 (by decide) rfl ?_
        refine ab_iload 13 dX12_likely_157 rfl ?_
        refine ab_iload 3 dX12_likely_159 rfl ?_
        refine ab_iload 14 dX12_likely_161 rfl ?_
        refine ab_icmp_ne (tgt := 170) dX12_likely_163 (by decide) (fun c32 => ?_) (fun c32 => ?_)
        · have h := h.1 c32
          refine ab_iconst (v := 1) dX12_likely_170 (by decide) ?_
          refine ab_iadd dX12_likely_171 ?_
          refine ab_topi (fun x33 hx33 => ?_)
          have h := h x33 hx33
          refine ab_istore (lv1 := [(13, .int x33), (12, .int x31), (11, .int x29), (15, .int x13), (17, .int x12), (0, .ref 62), (1, .int v1), (2, .int v2), (3, .int v3), (4, .int v4), (5, .int v5), (6, .long v6), (8, .long v8), (10, .int v10), (14, .int v14), (16, .int v16)]) dX12_likely_172 (by decide) rfl ?_
          refine ab_iload 4 dX12_likely_174 rfl ?_
          refine ab_istore (lv1 := [(14, .int x12), (13, .int x33), (12, .int x31), (11, .int x29), (15, .int x13), (17, .int x12), (0, .ref 62), (1, .int v1), (2, .int v2), (3, .int v3), (4, .int v4), (5, .int v5), (6, .long v6), (8, .long v8), (10, .int v10), (16, .int v16)]) dX12_likely_176 (by decide) rfl ?_
          obtain ⟨x34, hx34⟩ : ∃ y : Int32, y = v16 + (1 : Int32) := ⟨_, rfl⟩
          have h := h x34 hx34
          refine ab_iinc (v := x34) 15 (lv1 := [(16, .int x34), (14, .int x12), (13, .int x33), (12, .int x31), (11, .int x29), (15, .int x13), (17, .int x12), (0, .ref 62), (1, .int v1), (2, .int v2), (3, .int v3), (4, .int v4), (5, .int v5), (6, .long v6), (8, .long v8), (10, .int v10)]) dX12_likely_178 rfl (by rw [hx34]; rfl) (by decide) rfl ?_
          refine ab_goto (tgt := 105) dX12_likely_181 (by decide) ?_
          exact ab_sub [7, 8, 9, 10, 11, 12, 13, 14, 15, 4, 3, 2, 1, 5, 0] rfl h
        · have h := h.2 c32
          refine ab_iconst (v := 0) dX12_likely_166 (by decide) ?_
          refine ab_goto (tgt := 171) dX12_likely_167 (by decide) ?_
          refine ab_iadd dX12_likely_171 ?_
          refine ab_topi (fun x35 hx35 => ?_)
          have h := h x35 hx35
          refine ab_istore (lv1 := [(13, .int x35), (12, .int x31), (11, .int x29), (15, .int x13), (17, .int x12), (0, .ref 62), (1, .int v1), (2, .int v2), (3, .int v3), (4, .int v4), (5, .int v5), (6, .long v6), (8, .long v8), (10, .int v10), (14, .int v14), (16, .int v16)]) dX12_likely_172 (by decide) rfl ?_
          refine ab_iload 4 dX12_likely_174 rfl ?_
          refine ab_istore (lv1 := [(14, .int x12), (13, .int x35), (12, .int x31), (11, .int x29), (15, .int x13), (17, .int x12), (0, .ref 62), (1, .int v1), (2, .int v2), (3, .int v3), (4, .int v4), (5, .int v5), (6, .long v6), (8, .long v8), (10, .int v10), (16, .int v16)]) dX12_likely_176 (by decide) rfl ?_
          obtain ⟨x36, hx36⟩ : ∃ y : Int32, y = v16 + (1 : Int32) := ⟨_, rfl⟩
          have h := h x36 hx36
          refine ab_iinc (v := x36) 15 (lv1 := [(16, .int x36), (14, .int x12), (13, .int x35), (12, .int x31), (11, .int x29), (15, .int x13), (17, .int x12), (0, .ref 62), (1, .int v1), (2, .int v2), (3, .int v3), (4, .int v4), (5, .int v5), (6, .long v6), (8, .long v8), (10, .int v10)]) dX12_likely_178 rfl (by rw [hx36]; rfl) (by decide) rfl ?_
          refine ab_goto (tgt := 105) dX12_likely_181 (by decide) ?_
          exact ab_sub [7, 8, 9, 10, 11, 12, 13, 14, 15, 4, 3, 2, 1, 5, 0] rfl h
      · have h := h.2 c30
        refine ab_iconst (v := 1) dX12_likely_149 (by decide) ?_
        refine ab_goto (tgt := 154) dX12_likely_150 (by decide) ?_
        refine ab_iadd dX12_likely_154 ?_
        refine ab_topi (fun x37 hx37 => ?_)
        have h := h x37 hx37
        refine ab_istore (lv1 := [(12, .int x37), (11, .int x29), (15, .int x13), (17, .int x12), (0, .ref 62), (1, .int v1), (2, .int v2), (3, .int v3), (4, .int v4), (5, .int v5), (6, .long v6), (8, .long v8), (10, .int v10), (13, .int v13), (14, .int v14), (16, .int v16)]) dX12_likely_155 (by decide) rfl ?_
        refine ab_iload 13 dX12_likely_157 rfl ?_
        refine ab_iload 3 dX12_likely_159 rfl ?_
        refine ab_iload 14 dX12_likely_161 rfl ?_
        refine ab_icmp_ne (tgt := 170) dX12_likely_163 (by decide) (fun c38 => ?_) (fun c38 => ?_)
        · have h := h.1 c38
          refine ab_iconst (v := 1) dX12_likely_170 (by decide) ?_
          refine ab_iadd dX12_likely_171 ?_
          refine ab_topi (fun x39 hx39 => ?_)
          have h := h x39 hx39
          refine ab_istore (lv1 := [(13, .int x39), (12, .int x37), (11, .int x29), (15, .int x13), (17, .int x12), (0, .ref 62), (1, .int v1), (2, .int v2), (3, .int v3), (4, .int v4), (5, .int v5), (6, .long v6), (8, .long v8), (10, .int v10), (14, .int v14), (16, .int v16)]) dX12_likely_172 (by decide) rfl ?_
          refine ab_iload 4 dX12_likely_174 rfl ?_
          refine ab_istore (lv1 := [(14, .int x12), (13, .int x39), (12, .int x37), (11, .int x29), (15, .int x13), (17, .int x12), (0, .ref 62), (1, .int v1), (2, .int v2), (3, .int v3), (4, .int v4), (5, .int v5), (6, .long v6), (8, .long v8), (10, .int v10), (16, .int v16)]) dX12_likely_176 (by decide) rfl ?_
          obtain ⟨x40, hx40⟩ : ∃ y : Int32, y = v16 + (1 : Int32) := ⟨_, rfl⟩
          have h := h x40 hx40
          refine ab_iinc (v := x40) 15 (lv1 := [(16, .int x40), (14, .int x12), (13, .int x39), (12, .int x37), (11, .int x29), (15, .int x13), (17, .int x12), (0, .ref 62), (1, .int v1), (2, .int v2), (3, .int v3), (4, .int v4), (5, .int v5), (6, .long v6), (8, .long v8), (10, .int v10)]) dX12_likely_178 rfl (by rw [hx40]; rfl) (by decide) rfl ?_
          refine ab_goto (tgt := 105) dX12_likely_181 (by decide) ?_
          exact ab_sub [7, 8, 9, 10, 11, 12, 13, 14, 15, 4, 3, 2, 1, 5, 0] rfl h
        · have h := h.2 c38
          refine ab_iconst (v := 0) dX12_likely_166 (by decide) ?_
          refine ab_goto (tgt := 171) dX12_likely_167 (by decide) ?_
          refine ab_iadd dX12_likely_171 ?_
          refine ab_topi (fun x41 hx41 => ?_)
          have h := h x41 hx41
          refine ab_istore (lv1 := [(13, .int x41), (12, .int x37), (11, .int x29), (15, .int x13), (17, .int x12), (0, .ref 62), (1, .int v1), (2, .int v2), (3, .int v3), (4, .int v4), (5, .int v5), (6, .long v6), (8, .long v8), (10, .int v10), (14, .int v14), (16, .int v16)]) dX12_likely_172 (by decide) rfl ?_
          refine ab_iload 4 dX12_likely_174 rfl ?_
          refine ab_istore (lv1 := [(14, .int x12), (13, .int x41), (12, .int x37), (11, .int x29), (15, .int x13), (17, .int x12), (0, .ref 62), (1, .int v1), (2, .int v2), (3, .int v3), (4, .int v4), (5, .int v5), (6, .long v6), (8, .long v8), (10, .int v10), (16, .int v16)]) dX12_likely_176 (by decide) rfl ?_
          obtain ⟨x42, hx42⟩ : ∃ y : Int32, y = v16 + (1 : Int32) := ⟨_, rfl⟩
          have h := h x42 hx42
          refine ab_iinc (v := x42) 15 (lv1 := [(16, .int x42), (14, .int x12), (13, .int x41), (12, .int x37), (11, .int x29), (15, .int x13), (17, .int x12), (0, .ref 62), (1, .int v1), (2, .int v2), (3, .int v3), (4, .int v4), (5, .int v5), (6, .long v6), (8, .long v8), (10, .int v10)]) dX12_likely_178 rfl (by rw [hx42]; rfl) (by decide) rfl ?_
          refine ab_goto (tgt := 105) dX12_likely_181 (by decide) ?_
          exact ab_sub [7, 8, 9, 10, 11, 12, 13, 14, 15, 4, 3, 2, 1, 5, 0] rfl h
theorem dX12_team_0 : decode cX12_team 0 = .ok (.aload_n 0, 1) := by decide +kernel
theorem dX12_team_1 : decode cX12_team 1 = .ok (.iload_n 1, 1) := by decide +kernel
theorem dX12_team_2 : decode cX12_team 2 = .ok (.iconst 0, 1) := by decide +kernel
theorem dX12_team_3 : decode cX12_team 3 = .ok (.iconst 1, 1) := by decide +kernel
theorem dX12_team_4 : decode cX12_team 4 = .ok (.invokevirtual 180, 3) := by decide +kernel
theorem dX12_team_7 : decode cX12_team 7 = .ok (.ifCond .eq 21, 3) := by decide +kernel
theorem dX12_team_10 : decode cX12_team 10 = .ok (.aload_n 0, 1) := by decide +kernel
theorem dX12_team_11 : decode cX12_team 11 = .ok (.iload_n 2, 1) := by decide +kernel
theorem dX12_team_12 : decode cX12_team 12 = .ok (.iconst 0, 1) := by decide +kernel
theorem dX12_team_13 : decode cX12_team 13 = .ok (.iconst 5, 1) := by decide +kernel
theorem dX12_team_14 : decode cX12_team 14 = .ok (.invokevirtual 180, 3) := by decide +kernel
theorem dX12_team_17 : decode cX12_team 17 = .ok (.ifCond .eq 11, 3) := by decide +kernel
theorem dX12_team_20 : decode cX12_team 20 = .ok (.aload_n 0, 1) := by decide +kernel
theorem dX12_team_21 : decode cX12_team 21 = .ok (.iload_n 3, 1) := by decide +kernel
theorem dX12_team_22 : decode cX12_team 22 = .ok (.invokevirtual 233, 3) := by decide +kernel
theorem dX12_team_25 : decode cX12_team 25 = .ok (.ifCond .ne 5, 3) := by decide +kernel
theorem dX12_team_28 : decode cX12_team 28 = .ok (.iconst (-1), 1) := by decide +kernel
theorem dX12_team_29 : decode cX12_team 29 = .ok (.ireturn, 1) := by decide +kernel
theorem dX12_team_30 : decode cX12_team 30 = .ok (.aload_n 0, 1) := by decide +kernel
theorem dX12_team_31 : decode cX12_team 31 = .ok (.getfield 121, 3) := by decide +kernel
theorem dX12_team_34 : decode cX12_team 34 = .ok (.bipush 6, 2) := by decide +kernel
theorem dX12_team_36 : decode cX12_team 36 = .ok (.iload_n 1, 1) := by decide +kernel
theorem dX12_team_37 : decode cX12_team 37 = .ok (.imul, 1) := by decide +kernel
theorem dX12_team_38 : decode cX12_team 38 = .ok (.iload_n 2, 1) := by decide +kernel
theorem dX12_team_39 : decode cX12_team 39 = .ok (.iadd, 1) := by decide +kernel
theorem dX12_team_40 : decode cX12_team 40 = .ok (.iaload, 1) := by decide +kernel
theorem dX12_team_41 : decode cX12_team 41 = .ok (.istore 4, 2) := by decide +kernel
theorem dX12_team_43 : decode cX12_team 43 = .ok (.aload_n 0, 1) := by decide +kernel
theorem dX12_team_44 : decode cX12_team 44 = .ok (.getfield 121, 3) := by decide +kernel
theorem dX12_team_47 : decode cX12_team 47 = .ok (.bipush 6, 2) := by decide +kernel
theorem dX12_team_49 : decode cX12_team 49 = .ok (.iload_n 1, 1) := by decide +kernel
theorem dX12_team_50 : decode cX12_team 50 = .ok (.imul, 1) := by decide +kernel
theorem dX12_team_51 : decode cX12_team 51 = .ok (.iload_n 2, 1) := by decide +kernel
theorem dX12_team_52 : decode cX12_team 52 = .ok (.iadd, 1) := by decide +kernel
theorem dX12_team_53 : decode cX12_team 53 = .ok (.iload_n 3, 1) := by decide +kernel
theorem dX12_team_54 : decode cX12_team 54 = .ok (.iastore, 1) := by decide +kernel
theorem dX12_team_55 : decode cX12_team 55 = .ok (.iload 4, 2) := by decide +kernel
theorem dX12_team_57 : decode cX12_team 57 = .ok (.ifCond .ge 8, 3) := by decide +kernel
theorem dX12_team_60 : decode cX12_team 60 = .ok (.bipush (-5), 2) := by decide +kernel
theorem dX12_team_62 : decode cX12_team 62 = .ok (.goto 5, 3) := by decide +kernel
theorem dX12_team_65 : decode cX12_team 65 = .ok (.iload 4, 2) := by decide +kernel
theorem dX12_team_67 : decode cX12_team 67 = .ok (.ireturn, 1) := by decide +kernel
set_option maxRecDepth 20000 in
theorem rX12_team (D : GD) (d : Nat) (a1 : Int32) (a2 : Int32) (a3 : Int32) (M : Mm) (post : Option Value → Mm → Prop) (hL : Lay 62 98 M) 
    (h : AMi D d mX12_in [.ref 62, .int a1, .int (0 : Int32), .int (1 : Int32)] M (fun x2 M1 => ((x2 = 0 → post (some (.int (-1 : Int32))) M1) ∧ (¬ x2 = 0 → AMi D d mX12_in [.ref 62, .int a2, .int (0 : Int32), .int (5 : Int32)] M1 (fun x9 M8 => ((x9 = 0 → post (some (.int (-1 : Int32))) M8) ∧ (¬ x9 = 0 → AMi D d mX12_isPlayer [.ref 62, .int a3] M8 (fun x16 M15 => ((¬ x16 = 0 → vp_in (((6 : Int32) * a1) + a2) 12 ∧ ∀ x23 : Int32, x23 = (gI M15 82 ((((6 : Int32) * a1) + a2).toNatClampNeg)) → ∀ M24 : Mm, M24 = sI M15 82 ((((6 : Int32) * a1) + a2).toNatClampNeg) a3 → ((0 ≤ x23 → post (some (.int x23)) M24) ∧ (¬ 0 ≤ x23 → post (some (.int (-5 : Int32))) M24))) ∧ (x16 = 0 → post (some (.int (-1 : Int32))) M15)))))))))) :
    AM D (d + 1) 0 0 mX12_team [.ref 62, .int a1, .int a2, .int a3] M post := by
  refine AM.of (by decide) (Nat.le_of_ble_eq_true rfl) ?_
  show AW D (d + 1) 0 0 mX12_team 0 0 0 [(0, .ref 62), (1, .int a1), (2, .int a2), (3, .int a3)] [] M post
  refine ab_aload_n 0 dX12_team_0 rfl ?_
  refine ab_iload_n 1 dX12_team_1 rfl ?_
  refine ab_iconst (v := 0) dX12_team_2 (by decide) ?_
  refine ab_iconst (v := 1) dX12_team_3 (by decide) ?_
  refine ab_callV (a := 62) (c0 := 12) (d' := d) (mc' := 0) (ms' := 0) (vs := [.int a1, .int (0 : Int32), .int (1 : Int32)]) (st := []) dX12_team_4 ⟨cw_X12_in, w_1170⟩ w_1172 w_23 (by decide) (hL.sh 62 rfl (by decide) (by decide)).1 (hL.sh 62 rfl (by decide) (by decide)).2 rfl rfl (Nat.le_of_ble_eq_true rfl) (Nat.le_refl _) (Nat.zero_le _) (Nat.zero_le _) (AM.mono h (fun r M1 ⟨x2, hr3, hc4, h⟩ => ?_))
  subst hr3
  refine ab_rs ?_
  have hm5 : Sm M M1 := (Sm.refl M).trans hc4
  have hl6 := hL.of hm5
  refine ab_if_eq (tgt := 28) dX12_team_7 (by decide) (fun c7 => ?_) (fun c7 => ?_)
  · have h := h.1 c7
    refine ab_iconst (v := (-1)) dX12_team_28 (by decide) ?_
    exact ab_iret dX12_team_29 rfl h
  · have h := h.2 c7
    refine ab_aload_n 0 dX12_team_10 rfl ?_
    refine ab_iload_n 2 dX12_team_11 rfl ?_
    refine ab_iconst (v := 0) dX12_team_12 (by decide) ?_
    refine ab_iconst (v := 5) dX12_team_13 (by decide) ?_
    refine ab_callV (a := 62) (c0 := 12) (d' := d) (mc' := 0) (ms' := 0) (vs := [.int a2, .int (0 : Int32), .int (5 : Int32)]) (st := []) dX12_team_14 ⟨cw_X12_in, w_1170⟩ w_1172 w_23 (by decide) (hl6.sh 62 rfl (by decide) (by decide)).1 (hl6.sh 62 rfl (by decide) (by decide)).2 rfl rfl (Nat.le_of_ble_eq_true rfl) (Nat.le_refl _) (Nat.zero_le _) (Nat.zero_le _) (AM.mono h (fun r M8 ⟨x9, hr10, hc11, h⟩ => ?_))
    subst hr10
    refine ab_rs ?_
    have hm12 : Sm M M8 := hm5.trans hc11
    have hl13 := hL.of hm12
    refine ab_if_eq (tgt := 28) dX12_team_17 (by decide) (fun c14 => ?_) (fun c14 => ?_)
    · have h := h.1 c14
      refine ab_iconst (v := (-1)) dX12_team_28 (by decide) ?_
      exact ab_iret dX12_team_29 rfl h
    · have h := h.2 c14
      refine ab_aload_n 0 dX12_team_20 rfl ?_
      refine ab_iload_n 3 dX12_team_21 rfl ?_
      refine ab_callV (a := 62) (c0 := 12) (d' := d) (mc' := 0) (ms' := 0) (vs := [.int a3]) (st := []) dX12_team_22 ⟨cw_X12_isPlayer, w_1247⟩ w_1249 w_37 (by decide) (hl13.sh 62 rfl (by decide) (by decide)).1 (hl13.sh 62 rfl (by decide) (by decide)).2 rfl rfl (Nat.le_of_ble_eq_true rfl) (Nat.le_refl _) (Nat.zero_le _) (Nat.zero_le _) (AM.mono h (fun r M15 ⟨x16, hr17, hc18, h⟩ => ?_))
      subst hr17
      refine ab_rs ?_
      have hm19 : Sm M M15 := hm12.trans hc18
      have hl20 := hL.of hm19
      refine ab_if_ne (tgt := 30) dX12_team_25 (by decide) (fun c21 => ?_) (fun c21 => ?_)
      · have h := h.1 c21
        refine ab_aload_n 0 dX12_team_30 rfl ?_
        refine ab_getP (r := 82) dX12_team_31 fs_12_121_12 rfl (hl20.sh 62 rfl (by decide) (by decide)).1 (hl20.sh 62 rfl (by decide) (by decide)).2 (hl20.pt 80 rfl (by decide) (by decide)) ?_
        refine ab_bipush (v := 6) dX12_team_34 (by decide) ?_
        refine ab_iload_n 1 dX12_team_36 rfl ?_
        refine ab_imul dX12_team_37 ?_
        refine ab_iload_n 2 dX12_team_38 rfl ?_
        refine ab_iadd dX12_team_39 ?_
        have hb22 := h.1
        have h := h.2
        refine ab_ialdj (j := (((6 : Int32) * a1) + a2).toNatClampNeg) dX12_team_40 (hl20.sh 82 rfl (by decide) (by decide)) hb22 rfl ?_
        refine ab_topi (fun x23 hx23 => ?_)
        have h := h x23 hx23
        refine ab_istore (lv1 := [(4, .int x23), (0, .ref 62), (1, .int a1), (2, .int a2), (3, .int a3)]) dX12_team_41 (by decide) rfl ?_
        refine ab_aload_n 1 dX12_team_43 rfl ?_
        refine ab_getP (r := 82) dX12_team_44 fs_12_121_12 rfl (hl20.sh 62 rfl (by decide) (by decide)).1 (hl20.sh 62 rfl (by decide) (by decide)).2 (hl20.pt 80 rfl (by decide) (by decide)) ?_
        refine ab_bipush (v := 6) dX12_team_47 (by decide) ?_
        refine ab_iload_n 2 dX12_team_49 rfl ?_
        refine ab_imul dX12_team_50 ?_
        refine ab_iload_n 3 dX12_team_51 rfl ?_
        refine ab_iadd dX12_team_52 ?_
        refine ab_iload_n 4 dX12_team_53 rfl ?_
        refine ab_iastj (j := (((6 : Int32) * a1) + a2).toNatClampNeg) dX12_team_54 (hl20.sh 82 rfl (by decide) (by decide)) hb22 rfl ?_
        refine ab_nameM (fun M24 hM24 => ?_)
        have h := h M24 hM24
        have hs27 : Sm M15 M24 := hM24 ▸ (Sm.refl _).i
        have hm25 : Sm M M24 := hm19.trans hs27
        have hl26 := hL.of hm25
        refine ab_iload 0 dX12_team_55 rfl ?_
        refine ab_if_ge (tgt := 65) dX12_team_57 (by decide) (fun c28 => ?_) (fun c28 => ?_)
        · have h := h.1 c28
          refine ab_iload 0 dX12_team_65 rfl ?_
          exact ab_iret dX12_team_67 rfl h
        · have h := h.2 c28
          refine ab_bipush (v := (-5)) dX12_team_60 (by decide) ?_
          refine ab_goto (tgt := 67) dX12_team_62 (by decide) ?_
          exact ab_iret dX12_team_67 rfl h
      · have h := h.2 c21
        refine ab_iconst (v := (-1)) dX12_team_28 (by decide) ?_
        exact ab_iret dX12_team_29 rfl h
theorem dX12_areTeams_0 : decode cX12_areTeams 0 = .ok (.iconst 0, 1) := by decide +kernel
theorem dX12_areTeams_1 : decode cX12_areTeams 1 = .ok (.istore_n 1, 1) := by decide +kernel
theorem dX12_areTeams_2 : decode cX12_areTeams 2 = .ok (.iload_n 1, 1) := by decide +kernel
theorem dX12_areTeams_3 : decode cX12_areTeams 3 = .ok (.bipush 12, 2) := by decide +kernel
theorem dX12_areTeams_5 : decode cX12_areTeams 5 = .ok (.if_icmp .ge 20, 3) := by decide +kernel
theorem dX12_areTeams_8 : decode cX12_areTeams 8 = .ok (.aload_n 0, 1) := by decide +kernel
theorem dX12_areTeams_9 : decode cX12_areTeams 9 = .ok (.getfield 121, 3) := by decide +kernel
theorem dX12_areTeams_12 : decode cX12_areTeams 12 = .ok (.iload_n 1, 1) := by decide +kernel
theorem dX12_areTeams_13 : decode cX12_areTeams 13 = .ok (.iaload, 1) := by decide +kernel
theorem dX12_areTeams_14 : decode cX12_areTeams 14 = .ok (.ifCond .ge 5, 3) := by decide +kernel
theorem dX12_areTeams_17 : decode cX12_areTeams 17 = .ok (.iconst 0, 1) := by decide +kernel
theorem dX12_areTeams_18 : decode cX12_areTeams 18 = .ok (.ireturn, 1) := by decide +kernel
theorem dX12_areTeams_19 : decode cX12_areTeams 19 = .ok (.iinc 1 1, 3) := by decide +kernel
theorem dX12_areTeams_22 : decode cX12_areTeams 22 = .ok (.goto (-20), 3) := by decide +kernel
theorem dX12_areTeams_25 : decode cX12_areTeams 25 = .ok (.iconst 1, 1) := by decide +kernel
theorem dX12_areTeams_26 : decode cX12_areTeams 26 = .ok (.ireturn, 1) := by decide +kernel
def LX12_areTeams_2 (D : GD) (d : Nat) (v1 : Int32) (M : Mm) (post : Option Value → Mm → Prop) : Prop := AW D d 0 0 mX12_areTeams 0 0 2 [(0, .ref 62), (1, .int v1)] [] M post
set_option maxRecDepth 20000 in
theorem rX12_areTeams (D : GD) (d : Nat)  (M : Mm) (post : Option Value → Mm → Prop) (hL : Lay 62 98 M) 
    (h : LX12_areTeams_2 D d (0 : Int32) M post) :
    AM D d 0 0 mX12_areTeams [.ref 62] M post := by
  refine AM.of (by decide) (Nat.le_of_ble_eq_true rfl) ?_
  show AW D d 0 0 mX12_areTeams 0 0 0 [(0, .ref 62)] [] M post
  refine ab_iconst (v := 0) dX12_areTeams_0 (by decide) ?_
  refine ab_istore_n (lv1 := [(1, .int (0 : Int32)), (0, .ref 62)]) dX12_areTeams_1 (by decide) rfl ?_
  exact ab_sub [1, 0] rfl h
set_option maxRecDepth 20000 in
theorem rX12_areTeams_2 (D : GD) (d : Nat)  (v1 : Int32) (M : Mm) (post : Option Value → Mm → Prop) (hL : Lay 62 98 M) 
    (h : (((12 : Int32) ≤ v1 → post (some (.int (1 : Int32))) M) ∧ (¬ (12 : Int32) ≤ v1 → vp_in v1 12 ∧ ((0 ≤ (gI M 82 v1.toNatClampNeg) → ∀ x4 : Int32, x4 = v1 + (1 : Int32) → LX12_areTeams_2 D d x4 M post) ∧ (¬ 0 ≤ (gI M 82 v1.toNatClampNeg) → post (some (.int (0 : Int32))) M))))) :
    LX12_areTeams_2 D d v1 M post := by
  show AW D d 0 0 mX12_areTeams 0 0 2 [(0, .ref 62), (1, .int v1)] [] M post
  refine ab_iload_n 1 dX12_areTeams_2 rfl ?_
  refine ab_bipush (v := 12) dX12_areTeams_3 (by decide) ?_
  refine ab_icmp_ge (tgt := 25) dX12_areTeams_5 (by decide) (fun c1 => ?_) (fun c1 => ?_)
  · have h := h.1 c1
    refine ab_iconst (v := 1) dX12_areTeams_25 (by decide) ?_
    exact ab_zret dX12_areTeams_26 rfl rfl h
  · have h := h.2 c1
    refine ab_aload_n 0 dX12_areTeams_8 rfl ?_
    refine ab_getP (r := 82) dX12_areTeams_9 fs_12_121_12 rfl (hL.sh 62 rfl (by decide) (by decide)).1 (hL.sh 62 rfl (by decide) (by decide)).2 (hL.pt 80 rfl (by decide) (by decide)) ?_
    refine ab_iload_n 1 dX12_areTeams_12 rfl ?_
    have hb2 := h.1
    have h := h.2
    refine ab_ialdj (j := v1.toNatClampNeg) dX12_areTeams_13 (hL.sh 82 rfl (by decide) (by decide)) hb2 rfl ?_
    refine ab_if_ge (tgt := 19) dX12_areTeams_14 (by decide) (fun c3 => ?_) (fun c3 => ?_)
    · have h := h.1 c3
      obtain ⟨x4, hx4⟩ : ∃ y : Int32, y = v1 + (1 : Int32) := ⟨_, rfl⟩
      have h := h x4 hx4
      refine ab_iinc (v := x4) 1 (lv1 := [(1, .int x4), (0, .ref 62)]) dX12_areTeams_19 rfl (by rw [hx4]; rfl) (by decide) rfl ?_
      refine ab_goto (tgt := 2) dX12_areTeams_22 (by decide) ?_
      exact ab_sub [1, 0] rfl h
    · have h := h.2 c3
      refine ab_iconst (v := 0) dX12_areTeams_17 (by decide) ?_
      exact ab_zret dX12_areTeams_18 rfl rfl h
theorem dX12_chanceNow_0 : decode cX12_chanceNow 0 = .ok (.aload_n 0, 1) := by decide +kernel
theorem dX12_chanceNow_1 : decode cX12_chanceNow 1 = .ok (.iconst 3, 1) := by decide +kernel
theorem dX12_chanceNow_2 : decode cX12_chanceNow 2 = .ok (.iconst 3, 1) := by decide +kernel
theorem dX12_chanceNow_3 : decode cX12_chanceNow 3 = .ok (.iload_n 3, 1) := by decide +kernel
theorem dX12_chanceNow_4 : decode cX12_chanceNow 4 = .ok (.bipush 10, 2) := by decide +kernel
theorem dX12_chanceNow_6 : decode cX12_chanceNow 6 = .ok (.iload 4, 2) := by decide +kernel
theorem dX12_chanceNow_8 : decode cX12_chanceNow 8 = .ok (.iadd, 1) := by decide +kernel
theorem dX12_chanceNow_9 : decode cX12_chanceNow 9 = .ok (.invokevirtual 280, 3) := by decide +kernel
theorem dX12_chanceNow_12 : decode cX12_chanceNow 12 = .ok (.aload_n 0, 1) := by decide +kernel
theorem dX12_chanceNow_13 : decode cX12_chanceNow 13 = .ok (.iload_n 1, 1) := by decide +kernel
theorem dX12_chanceNow_14 : decode cX12_chanceNow 14 = .ok (.iload_n 2, 1) := by decide +kernel
theorem dX12_chanceNow_15 : decode cX12_chanceNow 15 = .ok (.iconst 0, 1) := by decide +kernel
theorem dX12_chanceNow_16 : decode cX12_chanceNow 16 = .ok (.invokevirtual 303, 3) := by decide +kernel
theorem dX12_chanceNow_19 : decode cX12_chanceNow 19 = .ok (.aload_n 0, 1) := by decide +kernel
theorem dX12_chanceNow_20 : decode cX12_chanceNow 20 = .ok (.getfield 102, 3) := by decide +kernel
theorem dX12_chanceNow_23 : decode cX12_chanceNow 23 = .ok (.ldc2_w 316, 3) := by decide +kernel
theorem dX12_chanceNow_26 : decode cX12_chanceNow 26 = .ok (.lmul, 1) := by decide +kernel
theorem dX12_chanceNow_27 : decode cX12_chanceNow 27 = .ok (.aload_n 0, 1) := by decide +kernel
theorem dX12_chanceNow_28 : decode cX12_chanceNow 28 = .ok (.getfield 106, 3) := by decide +kernel
theorem dX12_chanceNow_31 : decode cX12_chanceNow 31 = .ok (.ldiv, 1) := by decide +kernel
theorem dX12_chanceNow_32 : decode cX12_chanceNow 32 = .ok (.l2i, 1) := by decide +kernel
theorem dX12_chanceNow_33 : decode cX12_chanceNow 33 = .ok (.ireturn, 1) := by decide +kernel
set_option maxRecDepth 20000 in
theorem rX12_chanceNow (D : GD) (d : Nat) (a1 : Int32) (a2 : Int32) (a3 : Int32) (a4 : Int32) (M : Mm) (post : Option Value → Mm → Prop) (hL : Lay 62 98 M) 
    (h : AMv D d mX12_layState [.ref 62, .int (3 : Int32), .int (3 : Int32), .int a3, .int ((10 : Int32) + a4)] M (fun M1 => AMv D d mX12_findOdds [.ref 62, .int a1, .int a2, .int (0 : Int32)] M1 (fun M7 => (¬ (gL M7 62 31) = 0) ∧ post (some (.int (((((gL M7 62 30) * (1000000 : Int64)) / (gL M7 62 31))).toInt32))) M7))) :
    AM D (d + 1) 0 0 mX12_chanceNow [.ref 62, .int a1, .int a2, .int a3, .int a4] M post := by
  refine AM.of (by decide) (Nat.le_of_ble_eq_true rfl) ?_
  show AW D (d + 1) 0 0 mX12_chanceNow 0 0 0 [(0, .ref 62), (1, .int a1), (2, .int a2), (3, .int a3), (4, .int a4)] [] M post
  refine ab_aload_n 0 dX12_chanceNow_0 rfl ?_
  refine ab_iconst (v := 3) dX12_chanceNow_1 (by decide) ?_
  refine ab_iconst (v := 3) dX12_chanceNow_2 (by decide) ?_
  refine ab_iload_n 3 dX12_chanceNow_3 rfl ?_
  refine ab_bipush (v := 10) dX12_chanceNow_4 (by decide) ?_
  refine ab_iload 4 dX12_chanceNow_6 rfl ?_
  refine ab_iadd dX12_chanceNow_8 ?_
  refine ab_callV (a := 62) (c0 := 12) (d' := d) (mc' := 0) (ms' := 0) (vs := [.int (3 : Int32), .int (3 : Int32), .int a3, .int ((10 : Int32) + a4)]) (st := []) dX12_chanceNow_9 ⟨cw_X12_layState, w_1283⟩ w_1285 w_43 (by decide) (hL.sh 62 rfl (by decide) (by decide)).1 (hL.sh 62 rfl (by decide) (by decide)).2 rfl rfl (Nat.le_of_ble_eq_true rfl) (Nat.le_refl _) (Nat.zero_le _) (Nat.zero_le _) (AM.mono h (fun r M1 ⟨hr3, hc4, h⟩ => ?_))
  subst hr3
  refine ab_rv ?_
  have hm5 : Sm M M1 := (Sm.refl M).trans hc4
  have hl6 := hL.of hm5
  refine ab_aload_n 0 dX12_chanceNow_12 rfl ?_
  refine ab_iload_n 1 dX12_chanceNow_13 rfl ?_
  refine ab_iload_n 2 dX12_chanceNow_14 rfl ?_
  refine ab_iconst (v := 0) dX12_chanceNow_15 (by decide) ?_
  refine ab_callV (a := 62) (c0 := 12) (d' := d) (mc' := 0) (ms' := 0) (vs := [.int a1, .int a2, .int (0 : Int32)]) (st := []) dX12_chanceNow_16 ⟨cw_X12_findOdds, w_1332⟩ w_1334 w_53 (by decide) (hl6.sh 62 rfl (by decide) (by decide)).1 (hl6.sh 62 rfl (by decide) (by decide)).2 rfl rfl (Nat.le_of_ble_eq_true rfl) (Nat.le_refl _) (Nat.zero_le _) (Nat.zero_le _) (AM.mono h (fun r M7 ⟨hr9, hc10, h⟩ => ?_))
  subst hr9
  refine ab_rv ?_
  have hm11 : Sm M M7 := hm5.trans hc10
  have hl12 := hL.of hm11
  refine ab_aload_n 0 dX12_chanceNow_19 rfl ?_
  refine ab_getL dX12_chanceNow_20 fs_12_102_12 rfl (hl12.sh 62 rfl (by decide) (by decide)).1 (hl12.sh 62 rfl (by decide) (by decide)).2 ?_
  refine ab_ldc2 dX12_chanceNow_23 w_1412 ?_
  refine ab_lmul dX12_chanceNow_26 ?_
  refine ab_aload_n 0 dX12_chanceNow_27 rfl ?_
  refine ab_getL dX12_chanceNow_28 fs_12_106_12 rfl (hl12.sh 62 rfl (by decide) (by decide)).1 (hl12.sh 62 rfl (by decide) (by decide)).2 ?_
  have hn13 := h.1
  have h := h.2
  refine ab_ldiv dX12_chanceNow_31 hn13 ?_
  refine ab_l2i dX12_chanceNow_32 ?_
  exact ab_iret dX12_chanceNow_33 rfl h
theorem dX12_layChances_0 : decode cX12_layChances 0 = .ok (.aload_n 0, 1) := by decide +kernel
theorem dX12_layChances_1 : decode cX12_layChances 1 = .ok (.invokevirtual 244, 3) := by decide +kernel
theorem dX12_layChances_4 : decode cX12_layChances 4 = .ok (.bipush 6, 2) := by decide +kernel
theorem dX12_layChances_6 : decode cX12_layChances 6 = .ok (.iload_n 1, 1) := by decide +kernel
theorem dX12_layChances_7 : decode cX12_layChances 7 = .ok (.imul, 1) := by decide +kernel
theorem dX12_layChances_8 : decode cX12_layChances 8 = .ok (.istore_n 2, 1) := by decide +kernel
theorem dX12_layChances_9 : decode cX12_layChances 9 = .ok (.bipush 6, 2) := by decide +kernel
theorem dX12_layChances_11 : decode cX12_layChances 11 = .ok (.iload_n 2, 1) := by decide +kernel
theorem dX12_layChances_12 : decode cX12_layChances 12 = .ok (.isub, 1) := by decide +kernel
theorem dX12_layChances_13 : decode cX12_layChances 13 = .ok (.istore_n 3, 1) := by decide +kernel
theorem dX12_layChances_14 : decode cX12_layChances 14 = .ok (.iconst 0, 1) := by decide +kernel
theorem dX12_layChances_15 : decode cX12_layChances 15 = .ok (.istore 4, 2) := by decide +kernel
theorem dX12_layChances_17 : decode cX12_layChances 17 = .ok (.iload 4, 2) := by decide +kernel
theorem dX12_layChances_19 : decode cX12_layChances 19 = .ok (.iconst 5, 1) := by decide +kernel
theorem dX12_layChances_20 : decode cX12_layChances 20 = .ok (.if_icmp .ge 133, 3) := by decide +kernel
theorem dX12_layChances_23 : decode cX12_layChances 23 = .ok (.bipush (-5), 2) := by decide +kernel
theorem dX12_layChances_25 : decode cX12_layChances 25 = .ok (.istore 5, 2) := by decide +kernel
theorem dX12_layChances_27 : decode cX12_layChances 27 = .ok (.iload 5, 2) := by decide +kernel
theorem dX12_layChances_29 : decode cX12_layChances 29 = .ok (.bipush 6, 2) := by decide +kernel
theorem dX12_layChances_31 : decode cX12_layChances 31 = .ok (.if_icmp .ge 116, 3) := by decide +kernel
theorem dX12_layChances_34 : decode cX12_layChances 34 = .ok (.iconst 0, 1) := by decide +kernel
theorem dX12_layChances_35 : decode cX12_layChances 35 = .ok (.istore 6, 2) := by decide +kernel
theorem dX12_layChances_37 : decode cX12_layChances 37 = .ok (.iload 6, 2) := by decide +kernel
theorem dX12_layChances_39 : decode cX12_layChances 39 = .ok (.iconst 5, 1) := by decide +kernel
theorem dX12_layChances_40 : decode cX12_layChances 40 = .ok (.if_icmp .ge 57, 3) := by decide +kernel
theorem dX12_layChances_43 : decode cX12_layChances 43 = .ok (.aload_n 0, 1) := by decide +kernel
theorem dX12_layChances_44 : decode cX12_layChances 44 = .ok (.getfield 124, 3) := by decide +kernel
theorem dX12_layChances_47 : decode cX12_layChances 47 = .ok (.bipush 55, 2) := by decide +kernel
theorem dX12_layChances_49 : decode cX12_layChances 49 = .ok (.iload 6, 2) := by decide +kernel
theorem dX12_layChances_51 : decode cX12_layChances 51 = .ok (.imul, 1) := by decide +kernel
theorem dX12_layChances_52 : decode cX12_layChances 52 = .ok (.bipush 11, 2) := by decide +kernel
theorem dX12_layChances_54 : decode cX12_layChances 54 = .ok (.iload 4, 2) := by decide +kernel
theorem dX12_layChances_56 : decode cX12_layChances 56 = .ok (.imul, 1) := by decide +kernel
theorem dX12_layChances_57 : decode cX12_layChances 57 = .ok (.iadd, 1) := by decide +kernel
theorem dX12_layChances_58 : decode cX12_layChances 58 = .ok (.iload 5, 2) := by decide +kernel
theorem dX12_layChances_60 : decode cX12_layChances 60 = .ok (.iadd, 1) := by decide +kernel
theorem dX12_layChances_61 : decode cX12_layChances 61 = .ok (.iconst 5, 1) := by decide +kernel
theorem dX12_layChances_62 : decode cX12_layChances 62 = .ok (.iadd, 1) := by decide +kernel
theorem dX12_layChances_63 : decode cX12_layChances 63 = .ok (.aload_n 0, 1) := by decide +kernel
theorem dX12_layChances_64 : decode cX12_layChances 64 = .ok (.aload_n 0, 1) := by decide +kernel
theorem dX12_layChances_65 : decode cX12_layChances 65 = .ok (.getfield 121, 3) := by decide +kernel
theorem dX12_layChances_68 : decode cX12_layChances 68 = .ok (.iload_n 2, 1) := by decide +kernel
theorem dX12_layChances_69 : decode cX12_layChances 69 = .ok (.iload 6, 2) := by decide +kernel
theorem dX12_layChances_71 : decode cX12_layChances 71 = .ok (.iadd, 1) := by decide +kernel
theorem dX12_layChances_72 : decode cX12_layChances 72 = .ok (.iaload, 1) := by decide +kernel
theorem dX12_layChances_73 : decode cX12_layChances 73 = .ok (.aload_n 0, 1) := by decide +kernel
theorem dX12_layChances_74 : decode cX12_layChances 74 = .ok (.getfield 121, 3) := by decide +kernel
theorem dX12_layChances_77 : decode cX12_layChances 77 = .ok (.iload_n 3, 1) := by decide +kernel
theorem dX12_layChances_78 : decode cX12_layChances 78 = .ok (.iconst 5, 1) := by decide +kernel
theorem dX12_layChances_79 : decode cX12_layChances 79 = .ok (.iadd, 1) := by decide +kernel
theorem dX12_layChances_80 : decode cX12_layChances 80 = .ok (.iaload, 1) := by decide +kernel
theorem dX12_layChances_81 : decode cX12_layChances 81 = .ok (.iconst 2, 1) := by decide +kernel
theorem dX12_layChances_82 : decode cX12_layChances 82 = .ok (.iload 4, 2) := by decide +kernel
theorem dX12_layChances_84 : decode cX12_layChances 84 = .ok (.imul, 1) := by decide +kernel
theorem dX12_layChances_85 : decode cX12_layChances 85 = .ok (.iload 5, 2) := by decide +kernel
theorem dX12_layChances_87 : decode cX12_layChances 87 = .ok (.invokevirtual 318, 3) := by decide +kernel
theorem dX12_layChances_90 : decode cX12_layChances 90 = .ok (.iastore, 1) := by decide +kernel
theorem dX12_layChances_91 : decode cX12_layChances 91 = .ok (.iinc 6 1, 3) := by decide +kernel
theorem dX12_layChances_94 : decode cX12_layChances 94 = .ok (.goto (-57), 3) := by decide +kernel
theorem dX12_layChances_97 : decode cX12_layChances 97 = .ok (.aload_n 0, 1) := by decide +kernel
theorem dX12_layChances_98 : decode cX12_layChances 98 = .ok (.getfield 127, 3) := by decide +kernel
theorem dX12_layChances_101 : decode cX12_layChances 101 = .ok (.bipush 11, 2) := by decide +kernel
theorem dX12_layChances_103 : decode cX12_layChances 103 = .ok (.iload 4, 2) := by decide +kernel
theorem dX12_layChances_105 : decode cX12_layChances 105 = .ok (.imul, 1) := by decide +kernel
theorem dX12_layChances_106 : decode cX12_layChances 106 = .ok (.iload 5, 2) := by decide +kernel
theorem dX12_layChances_108 : decode cX12_layChances 108 = .ok (.iadd, 1) := by decide +kernel
theorem dX12_layChances_109 : decode cX12_layChances 109 = .ok (.iconst 5, 1) := by decide +kernel
theorem dX12_layChances_110 : decode cX12_layChances 110 = .ok (.iadd, 1) := by decide +kernel
theorem dX12_layChances_111 : decode cX12_layChances 111 = .ok (.aload_n 0, 1) := by decide +kernel
theorem dX12_layChances_112 : decode cX12_layChances 112 = .ok (.aload_n 0, 1) := by decide +kernel
theorem dX12_layChances_113 : decode cX12_layChances 113 = .ok (.getfield 121, 3) := by decide +kernel
theorem dX12_layChances_116 : decode cX12_layChances 116 = .ok (.iload_n 3, 1) := by decide +kernel
theorem dX12_layChances_117 : decode cX12_layChances 117 = .ok (.iload 4, 2) := by decide +kernel
theorem dX12_layChances_119 : decode cX12_layChances 119 = .ok (.iadd, 1) := by decide +kernel
theorem dX12_layChances_120 : decode cX12_layChances 120 = .ok (.iaload, 1) := by decide +kernel
theorem dX12_layChances_121 : decode cX12_layChances 121 = .ok (.aload_n 0, 1) := by decide +kernel
theorem dX12_layChances_122 : decode cX12_layChances 122 = .ok (.getfield 121, 3) := by decide +kernel
theorem dX12_layChances_125 : decode cX12_layChances 125 = .ok (.iload_n 2, 1) := by decide +kernel
theorem dX12_layChances_126 : decode cX12_layChances 126 = .ok (.iconst 5, 1) := by decide +kernel
theorem dX12_layChances_127 : decode cX12_layChances 127 = .ok (.iadd, 1) := by decide +kernel
theorem dX12_layChances_128 : decode cX12_layChances 128 = .ok (.iaload, 1) := by decide +kernel
theorem dX12_layChances_129 : decode cX12_layChances 129 = .ok (.iconst 2, 1) := by decide +kernel
theorem dX12_layChances_130 : decode cX12_layChances 130 = .ok (.iload 4, 2) := by decide +kernel
theorem dX12_layChances_132 : decode cX12_layChances 132 = .ok (.imul, 1) := by decide +kernel
theorem dX12_layChances_133 : decode cX12_layChances 133 = .ok (.iconst 1, 1) := by decide +kernel
theorem dX12_layChances_134 : decode cX12_layChances 134 = .ok (.iadd, 1) := by decide +kernel
theorem dX12_layChances_135 : decode cX12_layChances 135 = .ok (.iload 5, 2) := by decide +kernel
theorem dX12_layChances_137 : decode cX12_layChances 137 = .ok (.invokevirtual 318, 3) := by decide +kernel
theorem dX12_layChances_140 : decode cX12_layChances 140 = .ok (.iastore, 1) := by decide +kernel
theorem dX12_layChances_141 : decode cX12_layChances 141 = .ok (.iinc 5 1, 3) := by decide +kernel
theorem dX12_layChances_144 : decode cX12_layChances 144 = .ok (.goto (-117), 3) := by decide +kernel
theorem dX12_layChances_147 : decode cX12_layChances 147 = .ok (.iinc 4 1, 3) := by decide +kernel
theorem dX12_layChances_150 : decode cX12_layChances 150 = .ok (.goto (-133), 3) := by decide +kernel
theorem dX12_layChances_153 : decode cX12_layChances 153 = .ok (.return_, 1) := by decide +kernel
def LX12_layChances_17 (D : GD) (d : Nat) (v2 : Int32) (v3 : Int32) (v4 : Int32) (M : Mm) (post : Option Value → Mm → Prop) : Prop := AW D (d + 1) 0 0 mX12_layChances 0 0 17 [(0, .ref 62), (2, .int v2), (3, .int v3), (4, .int v4)] [] M post
def LX12_layChances_27 (D : GD) (d : Nat) (v2 : Int32) (v3 : Int32) (v4 : Int32) (v5 : Int32) (M : Mm) (post : Option Value → Mm → Prop) : Prop := AW D (d + 1) 0 0 mX12_layChances 0 0 27 [(0, .ref 62), (2, .int v2), (3, .int v3), (4, .int v4), (5, .int v5)] [] M post
def LX12_layChances_37 (D : GD) (d : Nat) (v2 : Int32) (v3 : Int32) (v4 : Int32) (v5 : Int32) (v6 : Int32) (M : Mm) (post : Option Value → Mm → Prop) : Prop := AW D (d + 1) 0 0 mX12_layChances 0 0 37 [(0, .ref 62), (2, .int v2), (3, .int v3), (4, .int v4), (5, .int v5), (6, .int v6)] [] M post
set_option maxRecDepth 20000 in
theorem rX12_layChances (D : GD) (d : Nat) (a1 : Int32) (M : Mm) (post : Option Value → Mm → Prop) (hL : Lay 62 98 M) 
    (h : AMv D d mX12_findRest [.ref 62] M (fun M1 => ∀ x7 : Int32, x7 = ((6 : Int32) * a1) → ∀ x8 : Int32, x8 = ((6 : Int32) - x7) → LX12_layChances_17 D d x7 x8 (0 : Int32) M1 post)) :
    AM D (d + 1) 0 0 mX12_layChances [.ref 62, .int a1] M post := by
  refine AM.of (by decide) (Nat.le_of_ble_eq_true rfl) ?_
  show AW D (d + 1) 0 0 mX12_layChances 0 0 0 [(0, .ref 62), (1, .int a1)] [] M post
  refine ab_aload_n 0 dX12_layChances_0 rfl ?_
  refine ab_callV (a := 62) (c0 := 12) (d' := d) (mc' := 0) (ms' := 0) (vs := []) (st := []) dX12_layChances_1 ⟨cw_X12_findRest, w_1255⟩ w_1257 w_38 (by decide) (hL.sh 62 rfl (by decide) (by decide)).1 (hL.sh 62 rfl (by decide) (by decide)).2 rfl rfl (Nat.le_of_ble_eq_true rfl) (Nat.le_refl _) (Nat.zero_le _) (Nat.zero_le _) (AM.mono h (fun r M1 ⟨hr3, hc4, h⟩ => ?_))
  subst hr3
  refine ab_rv ?_
  have hm5 : Sm M M1 := (Sm.refl M).trans hc4
  have hl6 := hL.of hm5
  refine ab_bipush (v := 6) dX12_layChances_4 (by decide) ?_
  refine ab_iload_n 1 dX12_layChances_6 rfl ?_
  refine ab_imul dX12_layChances_7 ?_
  refine ab_topi (fun x7 hx7 => ?_)
  have h := h x7 hx7
  refine ab_istore_n (lv1 := [(2, .int x7), (0, .ref 62), (1, .int a1)]) dX12_layChances_8 (by decide) rfl ?_
  refine ab_bipush (v := 6) dX12_layChances_9 (by decide) ?_
  refine ab_iload_n 0 dX12_layChances_11 rfl ?_
  refine ab_isub dX12_layChances_12 ?_
  refine ab_topi (fun x8 hx8 => ?_)
  have h := h x8 hx8
  refine ab_istore_n (lv1 := [(3, .int x8), (2, .int x7), (0, .ref 62), (1, .int a1)]) dX12_layChances_13 (by decide) rfl ?_
  refine ab_iconst (v := 0) dX12_layChances_14 (by decide) ?_
  refine ab_istore (lv1 := [(4, .int (0 : Int32)), (3, .int x8), (2, .int x7), (0, .ref 62), (1, .int a1)]) dX12_layChances_15 (by decide) rfl ?_
  exact ab_sub [3, 2, 1, 0] rfl h
set_option maxRecDepth 20000 in
theorem rX12_layChances_17 (D : GD) (d : Nat)  (v2 : Int32) (v3 : Int32) (v4 : Int32) (M : Mm) (post : Option Value → Mm → Prop) (hL : Lay 62 98 M) 
    (h : (((5 : Int32) ≤ v4 → post none M) ∧ (¬ (5 : Int32) ≤ v4 → LX12_layChances_27 D d v2 v3 v4 (-5 : Int32) M post))) :
    LX12_layChances_17 D d v2 v3 v4 M post := by
  show AW D (d + 1) 0 0 mX12_layChances 0 0 17 [(0, .ref 62), (2, .int v2), (3, .int v3), (4, .int v4)] [] M post
  refine ab_iload 3 dX12_layChances_17 rfl ?_
  refine ab_iconst (v := 5) dX12_layChances_19 (by decide) ?_
  refine ab_icmp_ge (tgt := 153) dX12_layChances_20 (by decide) (fun c1 => ?_) (fun c1 => ?_)
  · have h := h.1 c1
    exact ab_vret dX12_layChances_153 rfl h
  · have h := h.2 c1
    refine ab_bipush (v := (-5)) dX12_layChances_23 (by decide) ?_
    refine ab_istore (lv1 := [(5, .int (-5 : Int32)), (0, .ref 62), (2, .int v2), (3, .int v3), (4, .int v4)]) dX12_layChances_25 (by decide) rfl ?_
    exact ab_sub [1, 2, 3, 4, 0] rfl h
set_option maxRecDepth 20000 in
theorem rX12_layChances_27 (D : GD) (d : Nat)  (v2 : Int32) (v3 : Int32) (v4 : Int32) (v5 : Int32) (M : Mm) (post : Option Value → Mm → Prop) (hL : Lay 62 98 M) 
    (h : (((6 : Int32) ≤ v5 → ∀ x2 : Int32, x2 = v4 + (1 : Int32) → LX12_layChances_17 D d v2 v3 x2 M post) ∧ (¬ (6 : Int32) ≤ v5 → LX12_layChances_37 D d v2 v3 v4 v5 (0 : Int32) M post))) :
    LX12_layChances_27 D d v2 v3 v4 v5 M post := by
  show AW D (d + 1) 0 0 mX12_layChances 0 0 27 [(0, .ref 62), (2, .int v2), (3, .int v3), (4, .int v4), (5, .int v5)] [] M post
  refine ab_iload 4 dX12_layChances_27 rfl ?_
  refine ab_bipush (v := 6) dX12_layChances_29 (by decide) ?_
  refine ab_icmp_ge (tgt := 147) dX12_layChances_31 (by decide) (fun c1 => ?_) (fun c1 => ?_)
  · have h := h.1 c1
    obtain ⟨x2, hx2⟩ : ∃ y : Int32, y = v4 + (1 : Int32) := ⟨_, rfl⟩
    have h := h x2 hx2
    refine ab_iinc (v := x2) 3 (lv1 := [(4, .int x2), (0, .ref 62), (2, .int v2), (3, .int v3), (5, .int v5)]) dX12_layChances_147 rfl (by rw [hx2]; rfl) (by decide) rfl ?_
    refine ab_goto (tgt := 17) dX12_layChances_150 (by decide) ?_
    exact ab_sub [1, 2, 3, 0] rfl h
  · have h := h.2 c1
    refine ab_iconst (v := 0) dX12_layChances_34 (by decide) ?_
    refine ab_istore (lv1 := [(6, .int (0 : Int32)), (0, .ref 62), (2, .int v2), (3, .int v3), (4, .int v4), (5, .int v5)]) dX12_layChances_35 (by decide) rfl ?_
    exact ab_sub [1, 2, 3, 4, 5, 0] rfl h
set_option maxRecDepth 20000 in
theorem rX12_layChances_37 (D : GD) (d : Nat)  (v2 : Int32) (v3 : Int32) (v4 : Int32) (v5 : Int32) (v6 : Int32) (M : Mm) (post : Option Value → Mm → Prop) (hL : Lay 62 98 M) 
    (h : (((5 : Int32) ≤ v6 → vp_in (v3 + v4) 12 ∧ vp_in (v2 + (5 : Int32)) 12 ∧ AMi D d mX12_chanceNow [.ref 62, .int (gI M 82 ((v3 + v4).toNatClampNeg)), .int (gI M 82 ((v2 + (5 : Int32)).toNatClampNeg)), .int (((2 : Int32) * v4) + (1 : Int32)), .int v5] M (fun x5 M4 => vp_in ((((11 : Int32) * v4) + v5) + (5 : Int32)) 55 ∧ ∀ M11 : Mm, M11 = sI M4 84 (((((11 : Int32) * v4) + v5) + (5 : Int32)).toNatClampNeg) x5 → ∀ x15 : Int32, x15 = v5 + (1 : Int32) → LX12_layChances_27 D d v2 v3 v4 x15 M11 post)) ∧ (¬ (5 : Int32) ≤ v6 → vp_in (v2 + v6) 12 ∧ vp_in (v3 + (5 : Int32)) 12 ∧ AMi D d mX12_chanceNow [.ref 62, .int (gI M 82 ((v2 + v6).toNatClampNeg)), .int (gI M 82 ((v3 + (5 : Int32)).toNatClampNeg)), .int ((2 : Int32) * v4), .int v5] M (fun x19 M18 => vp_in (((((55 : Int32) * v6) + ((11 : Int32) * v4)) + v5) + (5 : Int32)) 275 ∧ ∀ M25 : Mm, M25 = sI M18 83 ((((((55 : Int32) * v6) + ((11 : Int32) * v4)) + v5) + (5 : Int32)).toNatClampNeg) x19 → ∀ x29 : Int32, x29 = v6 + (1 : Int32) → LX12_layChances_37 D d v2 v3 v4 v5 x29 M25 post)))) :
    LX12_layChances_37 D d v2 v3 v4 v5 v6 M post := by
  show AW D (d + 1) 0 0 mX12_layChances 0 0 37 [(0, .ref 62), (2, .int v2), (3, .int v3), (4, .int v4), (5, .int v5), (6, .int v6)] [] M post
  refine ab_iload 5 dX12_layChances_37 rfl ?_
  refine ab_iconst (v := 5) dX12_layChances_39 (by decide) ?_
  refine ab_icmp_ge (tgt := 97) dX12_layChances_40 (by decide) (fun c1 => ?_) (fun c1 => ?_)
  · have h := h.1 c1
    refine ab_aload_n 0 dX12_layChances_97 rfl ?_
    refine ab_getP (r := 84) dX12_layChances_98 fs_12_127_12 rfl (hL.sh 62 rfl (by decide) (by decide)).1 (hL.sh 62 rfl (by decide) (by decide)).2 (hL.pt 82 rfl (by decide) (by decide)) ?_
    refine ab_bipush (v := 11) dX12_layChances_101 (by decide) ?_
    refine ab_iload 3 dX12_layChances_103 rfl ?_
    refine ab_imul dX12_layChances_105 ?_
    refine ab_iload 4 dX12_layChances_106 rfl ?_
    refine ab_iadd dX12_layChances_108 ?_
    refine ab_iconst (v := 5) dX12_layChances_109 (by decide) ?_
    refine ab_iadd dX12_layChances_110 ?_
    refine ab_aload_n 0 dX12_layChances_111 rfl ?_
    refine ab_aload_n 0 dX12_layChances_112 rfl ?_
    refine ab_getP (r := 82) dX12_layChances_113 fs_12_121_12 rfl (hL.sh 62 rfl (by decide) (by decide)).1 (hL.sh 62 rfl (by decide) (by decide)).2 (hL.pt 80 rfl (by decide) (by decide)) ?_
    refine ab_iload_n 2 dX12_layChances_116 rfl ?_
    refine ab_iload 3 dX12_layChances_117 rfl ?_
    refine ab_iadd dX12_layChances_119 ?_
    have hb2 := h.1
    have h := h.2
    refine ab_ialdj (j := (v3 + v4).toNatClampNeg) dX12_layChances_120 (hL.sh 82 rfl (by decide) (by decide)) hb2 rfl ?_
    refine ab_aload_n 0 dX12_layChances_121 rfl ?_
    refine ab_getP (r := 82) dX12_layChances_122 fs_12_121_12 rfl (hL.sh 62 rfl (by decide) (by decide)).1 (hL.sh 62 rfl (by decide) (by decide)).2 (hL.pt 80 rfl (by decide) (by decide)) ?_
    refine ab_iload_n 1 dX12_layChances_125 rfl ?_
    refine ab_iconst (v := 5) dX12_layChances_126 (by decide) ?_
    refine ab_iadd dX12_layChances_127 ?_
    have hb3 := h.1
    have h := h.2
    refine ab_ialdj (j := (v2 + (5 : Int32)).toNatClampNeg) dX12_layChances_128 (hL.sh 82 rfl (by decide) (by decide)) hb3 rfl ?_
    refine ab_iconst (v := 2) dX12_layChances_129 (by decide) ?_
    refine ab_iload 3 dX12_layChances_130 rfl ?_
    refine ab_imul dX12_layChances_132 ?_
    refine ab_iconst (v := 1) dX12_layChances_133 (by decide) ?_
    refine ab_iadd dX12_layChances_134 ?_
    refine ab_iload 4 dX12_layChances_135 rfl ?_
    refine ab_callV (a := 62) (c0 := 12) (d' := d) (mc' := 0) (ms' := 0) (vs := [.int (gI M 82 ((v3 + v4).toNatClampNeg)), .int (gI M 82 ((v2 + (5 : Int32)).toNatClampNeg)), .int (((2 : Int32) * v4) + (1 : Int32)), .int v5]) (st := [.int ((((11 : Int32) * v4) + v5) + (5 : Int32)), .ref 84]) dX12_layChances_137 ⟨cw_X12_chanceNow, w_1408⟩ w_1410 w_63 (by decide) (hL.sh 62 rfl (by decide) (by decide)).1 (hL.sh 62 rfl (by decide) (by decide)).2 rfl rfl (Nat.le_of_ble_eq_true rfl) (Nat.le_refl _) (Nat.zero_le _) (Nat.zero_le _) (AM.mono h (fun r M4 ⟨x5, hr6, hc7, h⟩ => ?_))
    subst hr6
    refine ab_rs ?_
    have hm8 : Sm M M4 := (Sm.refl M).trans hc7
    have hl9 := hL.of hm8
    have hb10 := h.1
    have h := h.2
    refine ab_iastj (j := ((((11 : Int32) * v4) + v5) + (5 : Int32)).toNatClampNeg) dX12_layChances_140 (hl9.sh 84 rfl (by decide) (by decide)) hb10 rfl ?_
    refine ab_nameM (fun M11 hM11 => ?_)
    have h := h M11 hM11
    have hs14 : Sm M4 M11 := hM11 ▸ (Sm.refl _).i
    have hm12 : Sm M M11 := hm8.trans hs14
    have hl13 := hL.of hm12
    obtain ⟨x15, hx15⟩ : ∃ y : Int32, y = v5 + (1 : Int32) := ⟨_, rfl⟩
    have h := h x15 hx15
    refine ab_iinc (v := x15) 4 (lv1 := [(5, .int x15), (0, .ref 62), (2, .int v2), (3, .int v3), (4, .int v4), (6, .int v6)]) dX12_layChances_141 rfl (by rw [hx15]; rfl) (by decide) rfl ?_
    refine ab_goto (tgt := 27) dX12_layChances_144 (by decide) ?_
    exact ab_sub [1, 2, 3, 4, 0] rfl h
  · have h := h.2 c1
    refine ab_aload_n 0 dX12_layChances_43 rfl ?_
    refine ab_getP (r := 83) dX12_layChances_44 fs_12_124_12 rfl (hL.sh 62 rfl (by decide) (by decide)).1 (hL.sh 62 rfl (by decide) (by decide)).2 (hL.pt 81 rfl (by decide) (by decide)) ?_
    refine ab_bipush (v := 55) dX12_layChances_47 (by decide) ?_
    refine ab_iload 5 dX12_layChances_49 rfl ?_
    refine ab_imul dX12_layChances_51 ?_
    refine ab_bipush (v := 11) dX12_layChances_52 (by decide) ?_
    refine ab_iload 3 dX12_layChances_54 rfl ?_
    refine ab_imul dX12_layChances_56 ?_
    refine ab_iadd dX12_layChances_57 ?_
    refine ab_iload 4 dX12_layChances_58 rfl ?_
    refine ab_iadd dX12_layChances_60 ?_
    refine ab_iconst (v := 5) dX12_layChances_61 (by decide) ?_
    refine ab_iadd dX12_layChances_62 ?_
    refine ab_aload_n 0 dX12_layChances_63 rfl ?_
    refine ab_aload_n 0 dX12_layChances_64 rfl ?_
    refine ab_getP (r := 82) dX12_layChances_65 fs_12_121_12 rfl (hL.sh 62 rfl (by decide) (by decide)).1 (hL.sh 62 rfl (by decide) (by decide)).2 (hL.pt 80 rfl (by decide) (by decide)) ?_
    refine ab_iload_n 1 dX12_layChances_68 rfl ?_
    refine ab_iload 5 dX12_layChances_69 rfl ?_
    refine ab_iadd dX12_layChances_71 ?_
    have hb16 := h.1
    have h := h.2
    refine ab_ialdj (j := (v2 + v6).toNatClampNeg) dX12_layChances_72 (hL.sh 82 rfl (by decide) (by decide)) hb16 rfl ?_
    refine ab_aload_n 0 dX12_layChances_73 rfl ?_
    refine ab_getP (r := 82) dX12_layChances_74 fs_12_121_12 rfl (hL.sh 62 rfl (by decide) (by decide)).1 (hL.sh 62 rfl (by decide) (by decide)).2 (hL.pt 80 rfl (by decide) (by decide)) ?_
    refine ab_iload_n 2 dX12_layChances_77 rfl ?_
    refine ab_iconst (v := 5) dX12_layChances_78 (by decide) ?_
    refine ab_iadd dX12_layChances_79 ?_
    have hb17 := h.1
    have h := h.2
    refine ab_ialdj (j := (v3 + (5 : Int32)).toNatClampNeg) dX12_layChances_80 (hL.sh 82 rfl (by decide) (by decide)) hb17 rfl ?_
    refine ab_iconst (v := 2) dX12_layChances_81 (by decide) ?_
    refine ab_iload 3 dX12_layChances_82 rfl ?_
    refine ab_imul dX12_layChances_84 ?_
    refine ab_iload 4 dX12_layChances_85 rfl ?_
    refine ab_callV (a := 62) (c0 := 12) (d' := d) (mc' := 0) (ms' := 0) (vs := [.int (gI M 82 ((v2 + v6).toNatClampNeg)), .int (gI M 82 ((v3 + (5 : Int32)).toNatClampNeg)), .int ((2 : Int32) * v4), .int v5]) (st := [.int (((((55 : Int32) * v6) + ((11 : Int32) * v4)) + v5) + (5 : Int32)), .ref 83]) dX12_layChances_87 ⟨cw_X12_chanceNow, w_1408⟩ w_1410 w_63 (by decide) (hL.sh 62 rfl (by decide) (by decide)).1 (hL.sh 62 rfl (by decide) (by decide)).2 rfl rfl (Nat.le_of_ble_eq_true rfl) (Nat.le_refl _) (Nat.zero_le _) (Nat.zero_le _) (AM.mono h (fun r M18 ⟨x19, hr20, hc21, h⟩ => ?_))
    subst hr20
    refine ab_rs ?_
    have hm22 : Sm M M18 := (Sm.refl M).trans hc21
    have hl23 := hL.of hm22
    have hb24 := h.1
    have h := h.2
    refine ab_iastj (j := (((((55 : Int32) * v6) + ((11 : Int32) * v4)) + v5) + (5 : Int32)).toNatClampNeg) dX12_layChances_90 (hl23.sh 83 rfl (by decide) (by decide)) hb24 rfl ?_
    refine ab_nameM (fun M25 hM25 => ?_)
    have h := h M25 hM25
    have hs28 : Sm M18 M25 := hM25 ▸ (Sm.refl _).i
    have hm26 : Sm M M25 := hm22.trans hs28
    have hl27 := hL.of hm26
    obtain ⟨x29, hx29⟩ : ∃ y : Int32, y = v6 + (1 : Int32) := ⟨_, rfl⟩
    have h := h x29 hx29
    refine ab_iinc (v := x29) 5 (lv1 := [(6, .int x29), (0, .ref 62), (2, .int v2), (3, .int v3), (4, .int v4), (5, .int v5)]) dX12_layChances_91 rfl (by rw [hx29]; rfl) (by decide) rfl ?_
    refine ab_goto (tgt := 37) dX12_layChances_94 (by decide) ?_
    exact ab_sub [1, 2, 3, 4, 5, 0] rfl h
theorem dX12_ended_0 : decode cX12_ended 0 = .ok (.iconst 5, 1) := by decide +kernel
theorem dX12_ended_1 : decode cX12_ended 1 = .ok (.iload_n 1, 1) := by decide +kernel
theorem dX12_ended_2 : decode cX12_ended 2 = .ok (.iconst 1, 1) := by decide +kernel
theorem dX12_ended_3 : decode cX12_ended 3 = .ok (.iadd, 1) := by decide +kernel
theorem dX12_ended_4 : decode cX12_ended 4 = .ok (.iconst 2, 1) := by decide +kernel
theorem dX12_ended_5 : decode cX12_ended 5 = .ok (.idiv, 1) := by decide +kernel
theorem dX12_ended_6 : decode cX12_ended 6 = .ok (.isub, 1) := by decide +kernel
theorem dX12_ended_7 : decode cX12_ended 7 = .ok (.istore 4, 2) := by decide +kernel
theorem dX12_ended_9 : decode cX12_ended 9 = .ok (.iconst 5, 1) := by decide +kernel
theorem dX12_ended_10 : decode cX12_ended 10 = .ok (.iload_n 1, 1) := by decide +kernel
theorem dX12_ended_11 : decode cX12_ended 11 = .ok (.iconst 2, 1) := by decide +kernel
theorem dX12_ended_12 : decode cX12_ended 12 = .ok (.idiv, 1) := by decide +kernel
theorem dX12_ended_13 : decode cX12_ended 13 = .ok (.isub, 1) := by decide +kernel
theorem dX12_ended_14 : decode cX12_ended 14 = .ok (.istore 5, 2) := by decide +kernel
theorem dX12_ended_16 : decode cX12_ended 16 = .ok (.iload_n 2, 1) := by decide +kernel
theorem dX12_ended_17 : decode cX12_ended 17 = .ok (.iload_n 3, 1) := by decide +kernel
theorem dX12_ended_18 : decode cX12_ended 18 = .ok (.iload 5, 2) := by decide +kernel
theorem dX12_ended_20 : decode cX12_ended 20 = .ok (.iadd, 1) := by decide +kernel
theorem dX12_ended_21 : decode cX12_ended 21 = .ok (.if_icmp .le 5, 3) := by decide +kernel
theorem dX12_ended_24 : decode cX12_ended 24 = .ok (.iconst 1, 1) := by decide +kernel
theorem dX12_ended_25 : decode cX12_ended 25 = .ok (.ireturn, 1) := by decide +kernel
theorem dX12_ended_26 : decode cX12_ended 26 = .ok (.iload_n 3, 1) := by decide +kernel
theorem dX12_ended_27 : decode cX12_ended 27 = .ok (.iload_n 2, 1) := by decide +kernel
theorem dX12_ended_28 : decode cX12_ended 28 = .ok (.iload 4, 2) := by decide +kernel
theorem dX12_ended_30 : decode cX12_ended 30 = .ok (.iadd, 1) := by decide +kernel
theorem dX12_ended_31 : decode cX12_ended 31 = .ok (.if_icmp .le 5, 3) := by decide +kernel
theorem dX12_ended_34 : decode cX12_ended 34 = .ok (.iconst 2, 1) := by decide +kernel
theorem dX12_ended_35 : decode cX12_ended 35 = .ok (.ireturn, 1) := by decide +kernel
theorem dX12_ended_36 : decode cX12_ended 36 = .ok (.iload_n 1, 1) := by decide +kernel
theorem dX12_ended_37 : decode cX12_ended 37 = .ok (.bipush 10, 2) := by decide +kernel
theorem dX12_ended_39 : decode cX12_ended 39 = .ok (.if_icmp .ne 7, 3) := by decide +kernel
theorem dX12_ended_42 : decode cX12_ended 42 = .ok (.iconst 3, 1) := by decide +kernel
theorem dX12_ended_43 : decode cX12_ended 43 = .ok (.goto 4, 3) := by decide +kernel
theorem dX12_ended_46 : decode cX12_ended 46 = .ok (.iconst 0, 1) := by decide +kernel
theorem dX12_ended_47 : decode cX12_ended 47 = .ok (.ireturn, 1) := by decide +kernel
set_option maxRecDepth 20000 in
theorem rX12_ended (D : GD) (d : Nat) (a1 : Int32) (a2 : Int32) (a3 : Int32) (M : Mm) (post : Option Value → Mm → Prop) (hL : Lay 62 98 M) 
    (h : ∀ x1 : Int32, x1 = ((5 : Int32) - ((a1 + (1 : Int32)) / (2 : Int32))) → ∀ x2 : Int32, x2 = ((5 : Int32) - (a1 / (2 : Int32))) → ((a2 ≤ (a3 + x2) → ((a3 ≤ (a2 + x1) → ((¬ a1 = (10 : Int32) → post (some (.int (0 : Int32))) M) ∧ (a1 = (10 : Int32) → post (some (.int (3 : Int32))) M))) ∧ (¬ a3 ≤ (a2 + x1) → post (some (.int (2 : Int32))) M))) ∧ (¬ a2 ≤ (a3 + x2) → post (some (.int (1 : Int32))) M))) :
    AM D d 0 0 mX12_ended [.ref 62, .int a1, .int a2, .int a3] M post := by
  refine AM.of (by decide) (Nat.le_of_ble_eq_true rfl) ?_
  show AW D d 0 0 mX12_ended 0 0 0 [(0, .ref 62), (1, .int a1), (2, .int a2), (3, .int a3)] [] M post
  refine ab_iconst (v := 5) dX12_ended_0 (by decide) ?_
  refine ab_iload_n 1 dX12_ended_1 rfl ?_
  refine ab_iconst (v := 1) dX12_ended_2 (by decide) ?_
  refine ab_iadd dX12_ended_3 ?_
  refine ab_iconst (v := 2) dX12_ended_4 (by decide) ?_
  refine ab_idiv dX12_ended_5 (by decide) ?_
  refine ab_isub dX12_ended_6 ?_
  refine ab_topi (fun x1 hx1 => ?_)
  have h := h x1 hx1
  refine ab_istore (lv1 := [(4, .int x1), (0, .ref 62), (1, .int a1), (2, .int a2), (3, .int a3)]) dX12_ended_7 (by decide) rfl ?_
  refine ab_iconst (v := 5) dX12_ended_9 (by decide) ?_
  refine ab_iload_n 2 dX12_ended_10 rfl ?_
  refine ab_iconst (v := 2) dX12_ended_11 (by decide) ?_
  refine ab_idiv dX12_ended_12 (by decide) ?_
  refine ab_isub dX12_ended_13 ?_
  refine ab_topi (fun x2 hx2 => ?_)
  have h := h x2 hx2
  refine ab_istore (lv1 := [(5, .int x2), (4, .int x1), (0, .ref 62), (1, .int a1), (2, .int a2), (3, .int a3)]) dX12_ended_14 (by decide) rfl ?_
  refine ab_iload_n 4 dX12_ended_16 rfl ?_
  refine ab_iload_n 5 dX12_ended_17 rfl ?_
  refine ab_iload 0 dX12_ended_18 rfl ?_
  refine ab_iadd dX12_ended_20 ?_
  refine ab_icmp_le (tgt := 26) dX12_ended_21 (by decide) (fun c3 => ?_) (fun c3 => ?_)
  · have h := h.1 c3
    refine ab_iload_n 5 dX12_ended_26 rfl ?_
    refine ab_iload_n 4 dX12_ended_27 rfl ?_
    refine ab_iload 1 dX12_ended_28 rfl ?_
    refine ab_iadd dX12_ended_30 ?_
    refine ab_icmp_le (tgt := 36) dX12_ended_31 (by decide) (fun c4 => ?_) (fun c4 => ?_)
    · have h := h.1 c4
      refine ab_iload_n 3 dX12_ended_36 rfl ?_
      refine ab_bipush (v := 10) dX12_ended_37 (by decide) ?_
      refine ab_icmp_ne (tgt := 46) dX12_ended_39 (by decide) (fun c5 => ?_) (fun c5 => ?_)
      · have h := h.1 c5
        refine ab_iconst (v := 0) dX12_ended_46 (by decide) ?_
        exact ab_iret dX12_ended_47 rfl h
      · have h := h.2 c5
        refine ab_iconst (v := 3) dX12_ended_42 (by decide) ?_
        refine ab_goto (tgt := 47) dX12_ended_43 (by decide) ?_
        exact ab_iret dX12_ended_47 rfl h
    · have h := h.2 c4
      refine ab_iconst (v := 2) dX12_ended_34 (by decide) ?_
      exact ab_iret dX12_ended_35 rfl h
  · have h := h.2 c3
    refine ab_iconst (v := 1) dX12_ended_24 (by decide) ?_
    exact ab_iret dX12_ended_25 rfl h
theorem dX12_bound5_0 : decode cX12_bound5 0 = .ok (.iload_n 1, 1) := by decide +kernel
theorem dX12_bound5_1 : decode cX12_bound5 1 = .ok (.bipush (-5), 2) := by decide +kernel
theorem dX12_bound5_3 : decode cX12_bound5 3 = .ok (.if_icmp .ge 8, 3) := by decide +kernel
theorem dX12_bound5_6 : decode cX12_bound5 6 = .ok (.bipush (-5), 2) := by decide +kernel
theorem dX12_bound5_8 : decode cX12_bound5 8 = .ok (.goto 13, 3) := by decide +kernel
theorem dX12_bound5_11 : decode cX12_bound5 11 = .ok (.iload_n 1, 1) := by decide +kernel
theorem dX12_bound5_12 : decode cX12_bound5 12 = .ok (.iconst 5, 1) := by decide +kernel
theorem dX12_bound5_13 : decode cX12_bound5 13 = .ok (.if_icmp .le 7, 3) := by decide +kernel
theorem dX12_bound5_16 : decode cX12_bound5 16 = .ok (.iconst 5, 1) := by decide +kernel
theorem dX12_bound5_17 : decode cX12_bound5 17 = .ok (.goto 4, 3) := by decide +kernel
theorem dX12_bound5_20 : decode cX12_bound5 20 = .ok (.iload_n 1, 1) := by decide +kernel
theorem dX12_bound5_21 : decode cX12_bound5 21 = .ok (.ireturn, 1) := by decide +kernel
set_option maxRecDepth 20000 in
theorem rX12_bound5 (D : GD) (d : Nat) (a1 : Int32) (M : Mm) (post : Option Value → Mm → Prop) (hL : Lay 62 98 M) 
    (h : (((-5 : Int32) ≤ a1 → ((a1 ≤ (5 : Int32) → post (some (.int a1)) M) ∧ (¬ a1 ≤ (5 : Int32) → post (some (.int (5 : Int32))) M))) ∧ (¬ (-5 : Int32) ≤ a1 → post (some (.int (-5 : Int32))) M))) :
    AM D d 0 0 mX12_bound5 [.ref 62, .int a1] M post := by
  refine AM.of (by decide) (Nat.le_of_ble_eq_true rfl) ?_
  show AW D d 0 0 mX12_bound5 0 0 0 [(0, .ref 62), (1, .int a1)] [] M post
  refine ab_iload_n 1 dX12_bound5_0 rfl ?_
  refine ab_bipush (v := (-5)) dX12_bound5_1 (by decide) ?_
  refine ab_icmp_ge (tgt := 11) dX12_bound5_3 (by decide) (fun c1 => ?_) (fun c1 => ?_)
  · have h := h.1 c1
    refine ab_iload_n 1 dX12_bound5_11 rfl ?_
    refine ab_iconst (v := 5) dX12_bound5_12 (by decide) ?_
    refine ab_icmp_le (tgt := 20) dX12_bound5_13 (by decide) (fun c2 => ?_) (fun c2 => ?_)
    · have h := h.1 c2
      refine ab_iload_n 1 dX12_bound5_20 rfl ?_
      exact ab_iret dX12_bound5_21 rfl h
    · have h := h.2 c2
      refine ab_iconst (v := 5) dX12_bound5_16 (by decide) ?_
      refine ab_goto (tgt := 21) dX12_bound5_17 (by decide) ?_
      exact ab_iret dX12_bound5_21 rfl h
  · have h := h.2 c1
    refine ab_bipush (v := (-5)) dX12_bound5_6 (by decide) ?_
    refine ab_goto (tgt := 21) dX12_bound5_8 (by decide) ?_
    exact ab_iret dX12_bound5_21 rfl h
theorem dX12_findWin_0 : decode cX12_findWin 0 = .ok (.bipush 10, 2) := by decide +kernel
theorem dX12_findWin_2 : decode cX12_findWin 2 = .ok (.istore_n 1, 1) := by decide +kernel
theorem dX12_findWin_3 : decode cX12_findWin 3 = .ok (.iload_n 1, 1) := by decide +kernel
theorem dX12_findWin_4 : decode cX12_findWin 4 = .ok (.ifCond .lt 293, 3) := by decide +kernel
theorem dX12_findWin_7 : decode cX12_findWin 7 = .ok (.iconst 0, 1) := by decide +kernel
theorem dX12_findWin_8 : decode cX12_findWin 8 = .ok (.istore_n 2, 1) := by decide +kernel
theorem dX12_findWin_9 : decode cX12_findWin 9 = .ok (.iload_n 2, 1) := by decide +kernel
theorem dX12_findWin_10 : decode cX12_findWin 10 = .ok (.bipush 6, 2) := by decide +kernel
theorem dX12_findWin_12 : decode cX12_findWin 12 = .ok (.if_icmp .ge 279, 3) := by decide +kernel
theorem dX12_findWin_15 : decode cX12_findWin 15 = .ok (.iconst 0, 1) := by decide +kernel
theorem dX12_findWin_16 : decode cX12_findWin 16 = .ok (.istore_n 3, 1) := by decide +kernel
theorem dX12_findWin_17 : decode cX12_findWin 17 = .ok (.iload_n 3, 1) := by decide +kernel
theorem dX12_findWin_18 : decode cX12_findWin 18 = .ok (.bipush 6, 2) := by decide +kernel
theorem dX12_findWin_20 : decode cX12_findWin 20 = .ok (.if_icmp .ge 265, 3) := by decide +kernel
theorem dX12_findWin_23 : decode cX12_findWin 23 = .ok (.aload_n 0, 1) := by decide +kernel
theorem dX12_findWin_24 : decode cX12_findWin 24 = .ok (.iload_n 1, 1) := by decide +kernel
theorem dX12_findWin_25 : decode cX12_findWin 25 = .ok (.iload_n 2, 1) := by decide +kernel
theorem dX12_findWin_26 : decode cX12_findWin 26 = .ok (.iload_n 3, 1) := by decide +kernel
theorem dX12_findWin_27 : decode cX12_findWin 27 = .ok (.invokevirtual 322, 3) := by decide +kernel
theorem dX12_findWin_30 : decode cX12_findWin 30 = .ok (.istore 4, 2) := by decide +kernel
theorem dX12_findWin_32 : decode cX12_findWin 32 = .ok (.bipush 36, 2) := by decide +kernel
theorem dX12_findWin_34 : decode cX12_findWin 34 = .ok (.iload_n 1, 1) := by decide +kernel
theorem dX12_findWin_35 : decode cX12_findWin 35 = .ok (.imul, 1) := by decide +kernel
theorem dX12_findWin_36 : decode cX12_findWin 36 = .ok (.bipush 6, 2) := by decide +kernel
theorem dX12_findWin_38 : decode cX12_findWin 38 = .ok (.iload_n 2, 1) := by decide +kernel
theorem dX12_findWin_39 : decode cX12_findWin 39 = .ok (.imul, 1) := by decide +kernel
theorem dX12_findWin_40 : decode cX12_findWin 40 = .ok (.iadd, 1) := by decide +kernel
theorem dX12_findWin_41 : decode cX12_findWin 41 = .ok (.iload_n 3, 1) := by decide +kernel
theorem dX12_findWin_42 : decode cX12_findWin 42 = .ok (.iadd, 1) := by decide +kernel
theorem dX12_findWin_43 : decode cX12_findWin 43 = .ok (.istore 5, 2) := by decide +kernel
theorem dX12_findWin_45 : decode cX12_findWin 45 = .ok (.iload 4, 2) := by decide +kernel
theorem dX12_findWin_47 : decode cX12_findWin 47 = .ok (.ifCond .le 38, 3) := by decide +kernel
theorem dX12_findWin_50 : decode cX12_findWin 50 = .ok (.aload_n 0, 1) := by decide +kernel
theorem dX12_findWin_51 : decode cX12_findWin 51 = .ok (.getfield 136, 3) := by decide +kernel
theorem dX12_findWin_54 : decode cX12_findWin 54 = .ok (.iload 5, 2) := by decide +kernel
theorem dX12_findWin_56 : decode cX12_findWin 56 = .ok (.iload 4, 2) := by decide +kernel
theorem dX12_findWin_58 : decode cX12_findWin 58 = .ok (.iconst 1, 1) := by decide +kernel
theorem dX12_findWin_59 : decode cX12_findWin 59 = .ok (.if_icmp .ne 9, 3) := by decide +kernel
theorem dX12_findWin_62 : decode cX12_findWin 62 = .ok (.ldc_w 326, 3) := by decide +kernel
theorem dX12_findWin_65 : decode cX12_findWin 65 = .ok (.goto 16, 3) := by decide +kernel
theorem dX12_findWin_68 : decode cX12_findWin 68 = .ok (.iload 4, 2) := by decide +kernel
theorem dX12_findWin_70 : decode cX12_findWin 70 = .ok (.iconst 2, 1) := by decide +kernel
theorem dX12_findWin_71 : decode cX12_findWin 71 = .ok (.if_icmp .ne 7, 3) := by decide +kernel
theorem dX12_findWin_74 : decode cX12_findWin 74 = .ok (.iconst 0, 1) := by decide +kernel
theorem dX12_findWin_75 : decode cX12_findWin 75 = .ok (.goto 6, 3) := by decide +kernel
theorem dX12_findWin_78 : decode cX12_findWin 78 = .ok (.ldc_w 327, 3) := by decide +kernel
theorem dX12_findWin_81 : decode cX12_findWin 81 = .ok (.iastore, 1) := by decide +kernel
theorem dX12_findWin_82 : decode cX12_findWin 82 = .ok (.goto 197, 3) := by decide +kernel
theorem dX12_findWin_85 : decode cX12_findWin 85 = .ok (.iload_n 1, 1) := by decide +kernel
theorem dX12_findWin_86 : decode cX12_findWin 86 = .ok (.iconst 2, 1) := by decide +kernel
theorem dX12_findWin_87 : decode cX12_findWin 87 = .ok (.irem, 1) := by decide +kernel
theorem dX12_findWin_88 : decode cX12_findWin 88 = .ok (.ifCond .ne 7, 3) := by decide +kernel
theorem dX12_findWin_91 : decode cX12_findWin 91 = .ok (.iconst 1, 1) := by decide +kernel
theorem dX12_findWin_92 : decode cX12_findWin 92 = .ok (.goto 4, 3) := by decide +kernel
theorem dX12_findWin_95 : decode cX12_findWin 95 = .ok (.iconst 0, 1) := by decide +kernel
theorem dX12_findWin_96 : decode cX12_findWin 96 = .ok (.istore 6, 2) := by decide +kernel
theorem dX12_findWin_98 : decode cX12_findWin 98 = .ok (.iload 6, 2) := by decide +kernel
theorem dX12_findWin_100 : decode cX12_findWin 100 = .ok (.ifCond .eq 7, 3) := by decide +kernel
theorem dX12_findWin_103 : decode cX12_findWin 103 = .ok (.iload_n 2, 1) := by decide +kernel
theorem dX12_findWin_104 : decode cX12_findWin 104 = .ok (.goto 4, 3) := by decide +kernel
theorem dX12_findWin_107 : decode cX12_findWin 107 = .ok (.iload_n 3, 1) := by decide +kernel
theorem dX12_findWin_108 : decode cX12_findWin 108 = .ok (.iconst 5, 1) := by decide +kernel
theorem dX12_findWin_109 : decode cX12_findWin 109 = .ok (.if_icmp .ne 14, 3) := by decide +kernel
theorem dX12_findWin_112 : decode cX12_findWin 112 = .ok (.aload_n 0, 1) := by decide +kernel
theorem dX12_findWin_113 : decode cX12_findWin 113 = .ok (.getfield 136, 3) := by decide +kernel
theorem dX12_findWin_116 : decode cX12_findWin 116 = .ok (.iload 5, 2) := by decide +kernel
theorem dX12_findWin_118 : decode cX12_findWin 118 = .ok (.iconst 0, 1) := by decide +kernel
theorem dX12_findWin_119 : decode cX12_findWin 119 = .ok (.iastore, 1) := by decide +kernel
theorem dX12_findWin_120 : decode cX12_findWin 120 = .ok (.goto 159, 3) := by decide +kernel
theorem dX12_findWin_123 : decode cX12_findWin 123 = .ok (.iload 6, 2) := by decide +kernel
theorem dX12_findWin_125 : decode cX12_findWin 125 = .ok (.ifCond .eq 40, 3) := by decide +kernel
theorem dX12_findWin_128 : decode cX12_findWin 128 = .ok (.aload_n 0, 1) := by decide +kernel
theorem dX12_findWin_129 : decode cX12_findWin 129 = .ok (.getfield 124, 3) := by decide +kernel
theorem dX12_findWin_132 : decode cX12_findWin 132 = .ok (.bipush 55, 2) := by decide +kernel
theorem dX12_findWin_134 : decode cX12_findWin 134 = .ok (.aload_n 0, 1) := by decide +kernel
theorem dX12_findWin_135 : decode cX12_findWin 135 = .ok (.getfield 130, 3) := by decide +kernel
theorem dX12_findWin_138 : decode cX12_findWin 138 = .ok (.iload_n 1, 1) := by decide +kernel
theorem dX12_findWin_139 : decode cX12_findWin 139 = .ok (.iconst 2, 1) := by decide +kernel
theorem dX12_findWin_140 : decode cX12_findWin 140 = .ok (.idiv, 1) := by decide +kernel
theorem dX12_findWin_141 : decode cX12_findWin 141 = .ok (.iaload, 1) := by decide +kernel
theorem dX12_findWin_142 : decode cX12_findWin 142 = .ok (.imul, 1) := by decide +kernel
theorem dX12_findWin_143 : decode cX12_findWin 143 = .ok (.bipush 11, 2) := by decide +kernel
theorem dX12_findWin_145 : decode cX12_findWin 145 = .ok (.iload_n 1, 1) := by decide +kernel
theorem dX12_findWin_146 : decode cX12_findWin 146 = .ok (.iconst 2, 1) := by decide +kernel
theorem dX12_findWin_147 : decode cX12_findWin 147 = .ok (.idiv, 1) := by decide +kernel
theorem dX12_findWin_148 : decode cX12_findWin 148 = .ok (.imul, 1) := by decide +kernel
theorem dX12_findWin_149 : decode cX12_findWin 149 = .ok (.iadd, 1) := by decide +kernel
theorem dX12_findWin_150 : decode cX12_findWin 150 = .ok (.aload_n 0, 1) := by decide +kernel
theorem dX12_findWin_151 : decode cX12_findWin 151 = .ok (.iload_n 2, 1) := by decide +kernel
theorem dX12_findWin_152 : decode cX12_findWin 152 = .ok (.iload_n 3, 1) := by decide +kernel
theorem dX12_findWin_153 : decode cX12_findWin 153 = .ok (.isub, 1) := by decide +kernel
theorem dX12_findWin_154 : decode cX12_findWin 154 = .ok (.invokevirtual 328, 3) := by decide +kernel
theorem dX12_findWin_157 : decode cX12_findWin 157 = .ok (.iadd, 1) := by decide +kernel
theorem dX12_findWin_158 : decode cX12_findWin 158 = .ok (.iconst 5, 1) := by decide +kernel
theorem dX12_findWin_159 : decode cX12_findWin 159 = .ok (.iadd, 1) := by decide +kernel
theorem dX12_findWin_160 : decode cX12_findWin 160 = .ok (.iaload, 1) := by decide +kernel
theorem dX12_findWin_161 : decode cX12_findWin 161 = .ok (.i2l, 1) := by decide +kernel
theorem dX12_findWin_162 : decode cX12_findWin 162 = .ok (.goto 25, 3) := by decide +kernel
theorem dX12_findWin_165 : decode cX12_findWin 165 = .ok (.aload_n 0, 1) := by decide +kernel
theorem dX12_findWin_166 : decode cX12_findWin 166 = .ok (.getfield 127, 3) := by decide +kernel
theorem dX12_findWin_169 : decode cX12_findWin 169 = .ok (.bipush 11, 2) := by decide +kernel
theorem dX12_findWin_171 : decode cX12_findWin 171 = .ok (.iload_n 1, 1) := by decide +kernel
theorem dX12_findWin_172 : decode cX12_findWin 172 = .ok (.iconst 2, 1) := by decide +kernel
theorem dX12_findWin_173 : decode cX12_findWin 173 = .ok (.idiv, 1) := by decide +kernel
theorem dX12_findWin_174 : decode cX12_findWin 174 = .ok (.imul, 1) := by decide +kernel
theorem dX12_findWin_175 : decode cX12_findWin 175 = .ok (.aload_n 0, 1) := by decide +kernel
theorem dX12_findWin_176 : decode cX12_findWin 176 = .ok (.iload_n 3, 1) := by decide +kernel
theorem dX12_findWin_177 : decode cX12_findWin 177 = .ok (.iload_n 2, 1) := by decide +kernel
theorem dX12_findWin_178 : decode cX12_findWin 178 = .ok (.isub, 1) := by decide +kernel
theorem dX12_findWin_179 : decode cX12_findWin 179 = .ok (.invokevirtual 328, 3) := by decide +kernel
theorem dX12_findWin_182 : decode cX12_findWin 182 = .ok (.iadd, 1) := by decide +kernel
theorem dX12_findWin_183 : decode cX12_findWin 183 = .ok (.iconst 5, 1) := by decide +kernel
theorem dX12_findWin_184 : decode cX12_findWin 184 = .ok (.iadd, 1) := by decide +kernel
theorem dX12_findWin_185 : decode cX12_findWin 185 = .ok (.iaload, 1) := by decide +kernel
theorem dX12_findWin_186 : decode cX12_findWin 186 = .ok (.i2l, 1) := by decide +kernel
theorem dX12_findWin_187 : decode cX12_findWin 187 = .ok (.lstore 7, 2) := by decide +kernel
theorem dX12_findWin_189 : decode cX12_findWin 189 = .ok (.aload_n 0, 1) := by decide +kernel
theorem dX12_findWin_190 : decode cX12_findWin 190 = .ok (.getfield 136, 3) := by decide +kernel
theorem dX12_findWin_193 : decode cX12_findWin 193 = .ok (.bipush 36, 2) := by decide +kernel
theorem dX12_findWin_195 : decode cX12_findWin 195 = .ok (.iload_n 1, 1) := by decide +kernel
theorem dX12_findWin_196 : decode cX12_findWin 196 = .ok (.imul, 1) := by decide +kernel
theorem dX12_findWin_197 : decode cX12_findWin 197 = .ok (.bipush 36, 2) := by decide +kernel
theorem dX12_findWin_199 : decode cX12_findWin 199 = .ok (.iadd, 1) := by decide +kernel
theorem dX12_findWin_200 : decode cX12_findWin 200 = .ok (.iload 6, 2) := by decide +kernel
theorem dX12_findWin_202 : decode cX12_findWin 202 = .ok (.ifCond .eq 15, 3) := by decide +kernel
theorem dX12_findWin_205 : decode cX12_findWin 205 = .ok (.bipush 6, 2) := by decide +kernel
theorem dX12_findWin_207 : decode cX12_findWin 207 = .ok (.iload_n 2, 1) := by decide +kernel
theorem dX12_findWin_208 : decode cX12_findWin 208 = .ok (.imul, 1) := by decide +kernel
theorem dX12_findWin_209 : decode cX12_findWin 209 = .ok (.bipush 6, 2) := by decide +kernel
theorem dX12_findWin_211 : decode cX12_findWin 211 = .ok (.iadd, 1) := by decide +kernel
theorem dX12_findWin_212 : decode cX12_findWin 212 = .ok (.iload_n 3, 1) := by decide +kernel
theorem dX12_findWin_213 : decode cX12_findWin 213 = .ok (.iadd, 1) := by decide +kernel
theorem dX12_findWin_214 : decode cX12_findWin 214 = .ok (.goto 11, 3) := by decide +kernel
theorem dX12_findWin_217 : decode cX12_findWin 217 = .ok (.bipush 6, 2) := by decide +kernel
theorem dX12_findWin_219 : decode cX12_findWin 219 = .ok (.iload_n 2, 1) := by decide +kernel
theorem dX12_findWin_220 : decode cX12_findWin 220 = .ok (.imul, 1) := by decide +kernel
theorem dX12_findWin_221 : decode cX12_findWin 221 = .ok (.iload_n 3, 1) := by decide +kernel
theorem dX12_findWin_222 : decode cX12_findWin 222 = .ok (.iadd, 1) := by decide +kernel
theorem dX12_findWin_223 : decode cX12_findWin 223 = .ok (.iconst 1, 1) := by decide +kernel
theorem dX12_findWin_224 : decode cX12_findWin 224 = .ok (.iadd, 1) := by decide +kernel
theorem dX12_findWin_225 : decode cX12_findWin 225 = .ok (.iadd, 1) := by decide +kernel
theorem dX12_findWin_226 : decode cX12_findWin 226 = .ok (.iaload, 1) := by decide +kernel
theorem dX12_findWin_227 : decode cX12_findWin 227 = .ok (.i2l, 1) := by decide +kernel
theorem dX12_findWin_228 : decode cX12_findWin 228 = .ok (.lstore 9, 2) := by decide +kernel
theorem dX12_findWin_230 : decode cX12_findWin 230 = .ok (.aload_n 0, 1) := by decide +kernel
theorem dX12_findWin_231 : decode cX12_findWin 231 = .ok (.getfield 136, 3) := by decide +kernel
theorem dX12_findWin_234 : decode cX12_findWin 234 = .ok (.bipush 36, 2) := by decide +kernel
theorem dX12_findWin_236 : decode cX12_findWin 236 = .ok (.iload_n 1, 1) := by decide +kernel
theorem dX12_findWin_237 : decode cX12_findWin 237 = .ok (.imul, 1) := by decide +kernel
theorem dX12_findWin_238 : decode cX12_findWin 238 = .ok (.bipush 36, 2) := by decide +kernel
theorem dX12_findWin_240 : decode cX12_findWin 240 = .ok (.iadd, 1) := by decide +kernel
theorem dX12_findWin_241 : decode cX12_findWin 241 = .ok (.bipush 6, 2) := by decide +kernel
theorem dX12_findWin_243 : decode cX12_findWin 243 = .ok (.iload_n 2, 1) := by decide +kernel
theorem dX12_findWin_244 : decode cX12_findWin 244 = .ok (.imul, 1) := by decide +kernel
theorem dX12_findWin_245 : decode cX12_findWin 245 = .ok (.iadd, 1) := by decide +kernel
theorem dX12_findWin_246 : decode cX12_findWin 246 = .ok (.iload_n 3, 1) := by decide +kernel
theorem dX12_findWin_247 : decode cX12_findWin 247 = .ok (.iadd, 1) := by decide +kernel
theorem dX12_findWin_248 : decode cX12_findWin 248 = .ok (.iaload, 1) := by decide +kernel
theorem dX12_findWin_249 : decode cX12_findWin 249 = .ok (.i2l, 1) := by decide +kernel
theorem dX12_findWin_250 : decode cX12_findWin 250 = .ok (.lstore 11, 2) := by decide +kernel
theorem dX12_findWin_252 : decode cX12_findWin 252 = .ok (.aload_n 0, 1) := by decide +kernel
theorem dX12_findWin_253 : decode cX12_findWin 253 = .ok (.getfield 136, 3) := by decide +kernel
theorem dX12_findWin_256 : decode cX12_findWin 256 = .ok (.iload 5, 2) := by decide +kernel
theorem dX12_findWin_258 : decode cX12_findWin 258 = .ok (.lload 7, 2) := by decide +kernel
theorem dX12_findWin_260 : decode cX12_findWin 260 = .ok (.lload 9, 2) := by decide +kernel
theorem dX12_findWin_262 : decode cX12_findWin 262 = .ok (.lmul, 1) := by decide +kernel
theorem dX12_findWin_263 : decode cX12_findWin 263 = .ok (.ldc2_w 316, 3) := by decide +kernel
theorem dX12_findWin_266 : decode cX12_findWin 266 = .ok (.lload 7, 2) := by decide +kernel
theorem dX12_findWin_268 : decode cX12_findWin 268 = .ok (.lsub, 1) := by decide +kernel
theorem dX12_findWin_269 : decode cX12_findWin 269 = .ok (.lload 11, 2) := by decide +kernel
theorem dX12_findWin_271 : decode cX12_findWin 271 = .ok (.lmul, 1) := by decide +kernel
theorem dX12_findWin_272 : decode cX12_findWin 272 = .ok (.ladd, 1) := by decide +kernel
theorem dX12_findWin_273 : decode cX12_findWin 273 = .ok (.ldc2_w 316, 3) := by decide +kernel
theorem dX12_findWin_276 : decode cX12_findWin 276 = .ok (.ldiv, 1) := by decide +kernel
theorem dX12_findWin_277 : decode cX12_findWin 277 = .ok (.l2i, 1) := by decide +kernel
theorem dX12_findWin_278 : decode cX12_findWin 278 = .ok (.iastore, 1) := by decide +kernel
theorem dX12_findWin_279 : decode cX12_findWin 279 = .ok (.iinc 3 1, 3) := by decide +kernel
theorem dX12_findWin_282 : decode cX12_findWin 282 = .ok (.goto (-265), 3) := by decide +kernel
theorem dX12_findWin_285 : decode cX12_findWin 285 = .ok (.iinc 2 1, 3) := by decide +kernel
theorem dX12_findWin_288 : decode cX12_findWin 288 = .ok (.goto (-279), 3) := by decide +kernel
theorem dX12_findWin_291 : decode cX12_findWin 291 = .ok (.iinc 1 (-1), 3) := by decide +kernel
theorem dX12_findWin_294 : decode cX12_findWin 294 = .ok (.goto (-291), 3) := by decide +kernel
theorem dX12_findWin_297 : decode cX12_findWin 297 = .ok (.aload_n 0, 1) := by decide +kernel
theorem dX12_findWin_298 : decode cX12_findWin 298 = .ok (.getfield 136, 3) := by decide +kernel
theorem dX12_findWin_301 : decode cX12_findWin 301 = .ok (.iconst 0, 1) := by decide +kernel
theorem dX12_findWin_302 : decode cX12_findWin 302 = .ok (.iaload, 1) := by decide +kernel
theorem dX12_findWin_303 : decode cX12_findWin 303 = .ok (.ireturn, 1) := by decide +kernel
def LX12_findWin_3 (D : GD) (d : Nat) (v1 : Int32) (M : Mm) (post : Option Value → Mm → Prop) : Prop := AW D (d + 1) 0 0 mX12_findWin 0 0 3 [(0, .ref 62), (1, .int v1)] [] M post
def LX12_findWin_9 (D : GD) (d : Nat) (v1 : Int32) (v2 : Int32) (M : Mm) (post : Option Value → Mm → Prop) : Prop := AW D (d + 1) 0 0 mX12_findWin 0 0 9 [(0, .ref 62), (1, .int v1), (2, .int v2)] [] M post
def LX12_findWin_17 (D : GD) (d : Nat) (v1 : Int32) (v2 : Int32) (v3 : Int32) (M : Mm) (post : Option Value → Mm → Prop) : Prop := AW D (d + 1) 0 0 mX12_findWin 0 0 17 [(0, .ref 62), (1, .int v1), (2, .int v2), (3, .int v3)] [] M post
def LX12_findWin_96 (D : GD) (d : Nat) (v1 : Int32) (v2 : Int32) (v3 : Int32) (v5 : Int32) (t0 : Int32) (M : Mm) (post : Option Value → Mm → Prop) : Prop := AW D (d + 1) 0 0 mX12_findWin 0 0 96 [(0, .ref 62), (1, .int v1), (2, .int v2), (3, .int v3), (5, .int v5)] [.int t0] M post
def LX12_findWin_108 (D : GD) (d : Nat) (v1 : Int32) (v2 : Int32) (v3 : Int32) (v5 : Int32) (v6 : Int32) (t0 : Int32) (M : Mm) (post : Option Value → Mm → Prop) : Prop := AW D (d + 1) 0 0 mX12_findWin 0 0 108 [(0, .ref 62), (1, .int v1), (2, .int v2), (3, .int v3), (5, .int v5), (6, .int v6)] [.int t0] M post
def LX12_findWin_187 (D : GD) (d : Nat) (v1 : Int32) (v2 : Int32) (v3 : Int32) (v5 : Int32) (v6 : Int32) (t0 : Int64) (M : Mm) (post : Option Value → Mm → Prop) : Prop := AW D (d + 1) 0 0 mX12_findWin 0 0 187 [(0, .ref 62), (1, .int v1), (2, .int v2), (3, .int v3), (5, .int v5), (6, .int v6)] [.long t0] M post
def LX12_findWin_225 (D : GD) (d : Nat) (v1 : Int32) (v2 : Int32) (v3 : Int32) (v5 : Int32) (v7 : Int64) (t0 : Int32) (t1 : Int32) (M : Mm) (post : Option Value → Mm → Prop) : Prop := AW D (d + 1) 0 0 mX12_findWin 0 0 225 [(0, .ref 62), (1, .int v1), (2, .int v2), (3, .int v3), (5, .int v5), (7, .long v7)] [.int t0, .int t1, .ref 87] M post
set_option maxRecDepth 20000 in
theorem rX12_findWin (D : GD) (d : Nat)  (M : Mm) (post : Option Value → Mm → Prop) (hL : Lay 62 98 M) 
    (h : LX12_findWin_3 D d (10 : Int32) M post) :
    AM D (d + 1) 0 0 mX12_findWin [.ref 62] M post := by
  refine AM.of (by decide) (Nat.le_of_ble_eq_true rfl) ?_
  show AW D (d + 1) 0 0 mX12_findWin 0 0 0 [(0, .ref 62)] [] M post
  refine ab_bipush (v := 10) dX12_findWin_0 (by decide) ?_
  refine ab_istore_n (lv1 := [(1, .int (10 : Int32)), (0, .ref 62)]) dX12_findWin_2 (by decide) rfl ?_
  exact ab_sub [1, 0] rfl h
set_option maxRecDepth 20000 in
theorem rX12_findWin_3 (D : GD) (d : Nat)  (v1 : Int32) (M : Mm) (post : Option Value → Mm → Prop) (hL : Lay 62 98 M) 
    (h : ((v1 < 0 → post (some (.int (gI M 87 0))) M) ∧ (¬ v1 < 0 → LX12_findWin_9 D d v1 (0 : Int32) M post))) :
    LX12_findWin_3 D d v1 M post := by
  show AW D (d + 1) 0 0 mX12_findWin 0 0 3 [(0, .ref 62), (1, .int v1)] [] M post
  refine ab_iload_n 1 dX12_findWin_3 rfl ?_
  refine ab_if_lt (tgt := 297) dX12_findWin_4 (by decide) (fun c1 => ?_) (fun c1 => ?_)
  · have h := h.1 c1
    refine ab_aload_n 0 dX12_findWin_297 rfl ?_
    refine ab_getP (r := 87) dX12_findWin_298 fs_12_136_12 rfl (hL.sh 62 rfl (by decide) (by decide)).1 (hL.sh 62 rfl (by decide) (by decide)).2 (hL.pt 85 rfl (by decide) (by decide)) ?_
    refine ab_iconst (v := 0) dX12_findWin_301 (by decide) ?_
    refine ab_ialdj (j := 0) dX12_findWin_302 (hL.sh 87 rfl (by decide) (by decide)) (vin (by decide)) (by decide) ?_
    exact ab_iret dX12_findWin_303 rfl h
  · have h := h.2 c1
    refine ab_iconst (v := 0) dX12_findWin_7 (by decide) ?_
    refine ab_istore_n (lv1 := [(2, .int (0 : Int32)), (0, .ref 62), (1, .int v1)]) dX12_findWin_8 (by decide) rfl ?_
    exact ab_sub [1, 2, 0] rfl h
set_option maxRecDepth 20000 in
theorem rX12_findWin_9 (D : GD) (d : Nat)  (v1 : Int32) (v2 : Int32) (M : Mm) (post : Option Value → Mm → Prop) (hL : Lay 62 98 M) 
    (h : (((6 : Int32) ≤ v2 → ∀ x2 : Int32, x2 = v1 + (-1 : Int32) → LX12_findWin_3 D d x2 M post) ∧ (¬ (6 : Int32) ≤ v2 → LX12_findWin_17 D d v1 v2 (0 : Int32) M post))) :
    LX12_findWin_9 D d v1 v2 M post := by
  show AW D (d + 1) 0 0 mX12_findWin 0 0 9 [(0, .ref 62), (1, .int v1), (2, .int v2)] [] M post
  refine ab_iload_n 2 dX12_findWin_9 rfl ?_
  refine ab_bipush (v := 6) dX12_findWin_10 (by decide) ?_
  refine ab_icmp_ge (tgt := 291) dX12_findWin_12 (by decide) (fun c1 => ?_) (fun c1 => ?_)
  · have h := h.1 c1
    obtain ⟨x2, hx2⟩ : ∃ y : Int32, y = v1 + (-1 : Int32) := ⟨_, rfl⟩
    have h := h x2 hx2
    refine ab_iinc (v := x2) 1 (lv1 := [(1, .int x2), (0, .ref 62), (2, .int v2)]) dX12_findWin_291 rfl (by rw [hx2]; rfl) (by decide) rfl ?_
    refine ab_goto (tgt := 3) dX12_findWin_294 (by decide) ?_
    exact ab_sub [1, 0] rfl h
  · have h := h.2 c1
    refine ab_iconst (v := 0) dX12_findWin_15 (by decide) ?_
    refine ab_istore_n (lv1 := [(3, .int (0 : Int32)), (0, .ref 62), (1, .int v1), (2, .int v2)]) dX12_findWin_16 (by decide) rfl ?_
    exact ab_sub [1, 2, 3, 0] rfl h
set_option maxRecDepth 20000 in
theorem rX12_findWin_17 (D : GD) (d : Nat)  (v1 : Int32) (v2 : Int32) (v3 : Int32) (M : Mm) (post : Option Value → Mm → Prop) (hL : Lay 62 98 M) 
    (h : (((6 : Int32) ≤ v3 → ∀ x2 : Int32, x2 = v2 + (1 : Int32) → LX12_findWin_9 D d v1 x2 M post) ∧ (¬ (6 : Int32) ≤ v3 → AMi D d mX12_ended [.ref 62, .int v1, .int v2, .int v3] M (fun x4 M3 => ∀ x9 : Int32, x9 = ((((36 : Int32) * v1) + ((6 : Int32) * v2)) + v3) → ((x4 ≤ 0 → ((¬ (v1 - v1 / (2 : Int32) * (2 : Int32)) = 0 → LX12_findWin_96 D d v1 v2 v3 x9 (0 : Int32) M3 post) ∧ ((v1 - v1 / (2 : Int32) * (2 : Int32)) = 0 → LX12_findWin_96 D d v1 v2 v3 x9 (1 : Int32) M3 post))) ∧ (¬ x4 ≤ 0 → ((¬ x4 = (1 : Int32) → ((¬ x4 = (2 : Int32) → vp_in x9 396 ∧ ∀ M15 : Mm, M15 = sI M3 87 x9.toNatClampNeg (500000 : Int32) → ∀ x19 : Int32, x19 = v3 + (1 : Int32) → LX12_findWin_17 D d v1 v2 x19 M15 post) ∧ (x4 = (2 : Int32) → vp_in x9 396 ∧ ∀ M21 : Mm, M21 = sI M3 87 x9.toNatClampNeg (0 : Int32) → ∀ x25 : Int32, x25 = v3 + (1 : Int32) → LX12_findWin_17 D d v1 v2 x25 M21 post))) ∧ (x4 = (1 : Int32) → vp_in x9 396 ∧ ∀ M27 : Mm, M27 = sI M3 87 x9.toNatClampNeg (1000000 : Int32) → ∀ x31 : Int32, x31 = v3 + (1 : Int32) → LX12_findWin_17 D d v1 v2 x31 M27 post)))))))) :
    LX12_findWin_17 D d v1 v2 v3 M post := by
  show AW D (d + 1) 0 0 mX12_findWin 0 0 17 [(0, .ref 62), (1, .int v1), (2, .int v2), (3, .int v3)] [] M post
  refine ab_iload_n 3 dX12_findWin_17 rfl ?_
  refine ab_bipush (v := 6) dX12_findWin_18 (by decide) ?_
  refine ab_icmp_ge (tgt := 285) dX12_findWin_20 (by decide) (fun c1 => ?_) (fun c1 => ?_)
  · have h := h.1 c1
    obtain ⟨x2, hx2⟩ : ∃ y : Int32, y = v2 + (1 : Int32) := ⟨_, rfl⟩
    have h := h x2 hx2
    refine ab_iinc (v := x2) 2 (lv1 := [(2, .int x2), (0, .ref 62), (1, .int v1), (3, .int v3)]) dX12_findWin_285 rfl (by rw [hx2]; rfl) (by decide) rfl ?_
    refine ab_goto (tgt := 9) dX12_findWin_288 (by decide) ?_
    exact ab_sub [1, 2, 0] rfl h
  · have h := h.2 c1
    refine ab_aload_n 0 dX12_findWin_23 rfl ?_
    refine ab_iload_n 1 dX12_findWin_24 rfl ?_
    refine ab_iload_n 2 dX12_findWin_25 rfl ?_
    refine ab_iload_n 3 dX12_findWin_26 rfl ?_
    refine ab_callV (a := 62) (c0 := 12) (d' := d) (mc' := 0) (ms' := 0) (vs := [.int v1, .int v2, .int v3]) (st := []) dX12_findWin_27 ⟨cw_X12_ended, w_1417⟩ w_1419 w_65 (by decide) (hL.sh 62 rfl (by decide) (by decide)).1 (hL.sh 62 rfl (by decide) (by decide)).2 rfl rfl (Nat.le_of_ble_eq_true rfl) (Nat.le_refl _) (Nat.zero_le _) (Nat.zero_le _) (AM.mono h (fun r M3 ⟨x4, hr5, hc6, h⟩ => ?_))
    subst hr5
    refine ab_rs ?_
    have hm7 : Sm M M3 := (Sm.refl M).trans hc6
    have hl8 := hL.of hm7
    refine ab_istore (lv1 := [(4, .int x4), (0, .ref 62), (1, .int v1), (2, .int v2), (3, .int v3)]) dX12_findWin_30 (by decide) rfl ?_
    refine ab_bipush (v := 36) dX12_findWin_32 (by decide) ?_
    refine ab_iload_n 2 dX12_findWin_34 rfl ?_
    refine ab_imul dX12_findWin_35 ?_
    refine ab_bipush (v := 6) dX12_findWin_36 (by decide) ?_
    refine ab_iload_n 3 dX12_findWin_38 rfl ?_
    refine ab_imul dX12_findWin_39 ?_
    refine ab_iadd dX12_findWin_40 ?_
    refine ab_iload_n 4 dX12_findWin_41 rfl ?_
    refine ab_iadd dX12_findWin_42 ?_
    refine ab_topi (fun x9 hx9 => ?_)
    have h := h x9 hx9
    refine ab_istore (lv1 := [(5, .int x9), (4, .int x4), (0, .ref 62), (1, .int v1), (2, .int v2), (3, .int v3)]) dX12_findWin_43 (by decide) rfl ?_
    refine ab_iload 1 dX12_findWin_45 rfl ?_
    refine ab_if_le (tgt := 85) dX12_findWin_47 (by decide) (fun c10 => ?_) (fun c10 => ?_)
    · have h := h.1 c10
      refine ab_iload_n 3 dX12_findWin_85 rfl ?_
      refine ab_iconst (v := 2) dX12_findWin_86 (by decide) ?_
      refine ab_irem dX12_findWin_87 (by decide) ?_
      refine ab_if_ne (tgt := 95) dX12_findWin_88 (by decide) (fun c11 => ?_) (fun c11 => ?_)
      · have h := h.1 c11
        refine ab_iconst (v := 0) dX12_findWin_95 (by decide) ?_
        exact ab_sub [2, 3, 4, 5, 0] rfl h
      · have h := h.2 c11
        refine ab_iconst (v := 1) dX12_findWin_91 (by decide) ?_
        refine ab_goto (tgt := 96) dX12_findWin_92 (by decide) ?_
        exact ab_sub [2, 3, 4, 5, 0] rfl h
    · have h := h.2 c10
      refine ab_aload_n 2 dX12_findWin_50 rfl ?_
      refine ab_getP (r := 87) dX12_findWin_51 fs_12_136_12 rfl (hl8.sh 62 rfl (by decide) (by decide)).1 (hl8.sh 62 rfl (by decide) (by decide)).2 (hl8.pt 85 rfl (by decide) (by decide)) ?_
      refine ab_iload 0 dX12_findWin_54 rfl ?_
      refine ab_iload 1 dX12_findWin_56 rfl ?_
      refine ab_iconst (v := 1) dX12_findWin_58 (by decide) ?_
      refine ab_icmp_ne (tgt := 68) dX12_findWin_59 (by decide) (fun c12 => ?_) (fun c12 => ?_)
      · have h := h.1 c12
        refine ab_iload 1 dX12_findWin_68 rfl ?_
        refine ab_iconst (v := 2) dX12_findWin_70 (by decide) ?_
        refine ab_icmp_ne (tgt := 78) dX12_findWin_71 (by decide) (fun c13 => ?_) (fun c13 => ?_)
        · have h := h.1 c13
          refine ab_ldcw dX12_findWin_78 w_1422 ?_
          have hb14 := h.1
          have h := h.2
          refine ab_iastj (j := x9.toNatClampNeg) dX12_findWin_81 (hl8.sh 87 rfl (by decide) (by decide)) hb14 rfl ?_
          refine ab_nameM (fun M15 hM15 => ?_)
          have h := h M15 hM15
          have hs18 : Sm M3 M15 := hM15 ▸ (Sm.refl _).i
          have hm16 : Sm M M15 := hm7.trans hs18
          have hl17 := hL.of hm16
          refine ab_goto (tgt := 279) dX12_findWin_82 (by decide) ?_
          obtain ⟨x19, hx19⟩ : ∃ y : Int32, y = v3 + (1 : Int32) := ⟨_, rfl⟩
          have h := h x19 hx19
          refine ab_iinc (v := x19) 5 (lv1 := [(3, .int x19), (5, .int x9), (4, .int x4), (0, .ref 62), (1, .int v1), (2, .int v2)]) dX12_findWin_279 rfl (by rw [hx19]; rfl) (by decide) rfl ?_
          refine ab_goto (tgt := 17) dX12_findWin_282 (by decide) ?_
          exact ab_sub [3, 4, 5, 0] rfl h
        · have h := h.2 c13
          refine ab_iconst (v := 0) dX12_findWin_74 (by decide) ?_
          refine ab_goto (tgt := 81) dX12_findWin_75 (by decide) ?_
          have hb20 := h.1
          have h := h.2
          refine ab_iastj (j := x9.toNatClampNeg) dX12_findWin_81 (hl8.sh 87 rfl (by decide) (by decide)) hb20 rfl ?_
          refine ab_nameM (fun M21 hM21 => ?_)
          have h := h M21 hM21
          have hs24 : Sm M3 M21 := hM21 ▸ (Sm.refl _).i
          have hm22 : Sm M M21 := hm7.trans hs24
          have hl23 := hL.of hm22
          refine ab_goto (tgt := 279) dX12_findWin_82 (by decide) ?_
          obtain ⟨x25, hx25⟩ : ∃ y : Int32, y = v3 + (1 : Int32) := ⟨_, rfl⟩
          have h := h x25 hx25
          refine ab_iinc (v := x25) 5 (lv1 := [(3, .int x25), (5, .int x9), (4, .int x4), (0, .ref 62), (1, .int v1), (2, .int v2)]) dX12_findWin_279 rfl (by rw [hx25]; rfl) (by decide) rfl ?_
          refine ab_goto (tgt := 17) dX12_findWin_282 (by decide) ?_
          exact ab_sub [3, 4, 5, 0] rfl h
      · have h := h.2 c12
        refine ab_ldcw dX12_findWin_62 w_1421 ?_
        refine ab_goto (tgt := 81) dX12_findWin_65 (by decide) ?_
        have hb26 := h.1
        have h := h.2
        refine ab_iastj (j := x9.toNatClampNeg) dX12_findWin_81 (hl8.sh 87 rfl (by decide) (by decide)) hb26 rfl ?_
        refine ab_nameM (fun M27 hM27 => ?_)
        have h := h M27 hM27
        have hs30 : Sm M3 M27 := hM27 ▸ (Sm.refl _).i
        have hm28 : Sm M M27 := hm7.trans hs30
        have hl29 := hL.of hm28
        refine ab_goto (tgt := 279) dX12_findWin_82 (by decide) ?_
        obtain ⟨x31, hx31⟩ : ∃ y : Int32, y = v3 + (1 : Int32) := ⟨_, rfl⟩
        have h := h x31 hx31
        refine ab_iinc (v := x31) 5 (lv1 := [(3, .int x31), (5, .int x9), (4, .int x4), (0, .ref 62), (1, .int v1), (2, .int v2)]) dX12_findWin_279 rfl (by rw [hx31]; rfl) (by decide) rfl ?_
        refine ab_goto (tgt := 17) dX12_findWin_282 (by decide) ?_
        exact ab_sub [3, 4, 5, 0] rfl h
set_option maxRecDepth 20000 in
theorem rX12_findWin_96 (D : GD) (d : Nat)  (v1 : Int32) (v2 : Int32) (v3 : Int32) (v5 : Int32) (t0 : Int32) (M : Mm) (post : Option Value → Mm → Prop) (hL : Lay 62 98 M) 
    (h : ((t0 = 0 → LX12_findWin_108 D d v1 v2 v3 v5 t0 v3 M post) ∧ (¬ t0 = 0 → LX12_findWin_108 D d v1 v2 v3 v5 t0 v2 M post))) :
    LX12_findWin_96 D d v1 v2 v3 v5 t0 M post := by
  show AW D (d + 1) 0 0 mX12_findWin 0 0 96 [(0, .ref 62), (1, .int v1), (2, .int v2), (3, .int v3), (5, .int v5)] [.int t0] M post
  refine ab_istore (lv1 := [(6, .int t0), (0, .ref 62), (1, .int v1), (2, .int v2), (3, .int v3), (5, .int v5)]) dX12_findWin_96 (by decide) rfl ?_
  refine ab_iload 0 dX12_findWin_98 rfl ?_
  refine ab_if_eq (tgt := 107) dX12_findWin_100 (by decide) (fun c1 => ?_) (fun c1 => ?_)
  · have h := h.1 c1
    refine ab_iload_n 4 dX12_findWin_107 rfl ?_
    exact ab_sub [1, 2, 3, 4, 5, 0] rfl h
  · have h := h.2 c1
    refine ab_iload_n 3 dX12_findWin_103 rfl ?_
    refine ab_goto (tgt := 108) dX12_findWin_104 (by decide) ?_
    exact ab_sub [1, 2, 3, 4, 5, 0] rfl h
set_option maxRecDepth 20000 in
theorem rX12_findWin_108 (D : GD) (d : Nat)  (v1 : Int32) (v2 : Int32) (v3 : Int32) (v5 : Int32) (v6 : Int32) (t0 : Int32) (M : Mm) (post : Option Value → Mm → Prop) (hL : Lay 62 98 M) 
    (h : ((¬ t0 = (5 : Int32) → ((v6 = 0 → AMi D d mX12_bound5 [.ref 62, .int (v3 - v2)] M (fun x4 M3 => vp_in ((((11 : Int32) * (v1 / (2 : Int32))) + x4) + (5 : Int32)) 55 ∧ LX12_findWin_187 D d v1 v2 v3 v5 v6 (((gI M3 84 (((((11 : Int32) * (v1 / (2 : Int32))) + x4) + (5 : Int32)).toNatClampNeg))).toInt64) M3 post)) ∧ (¬ v6 = 0 → vp_in (v1 / (2 : Int32)) 5 ∧ AMi D d mX12_bound5 [.ref 62, .int (v2 - v3)] M (fun x12 M11 => vp_in (((((55 : Int32) * (gI M 85 ((v1 / (2 : Int32)).toNatClampNeg))) + ((11 : Int32) * (v1 / (2 : Int32)))) + x12) + (5 : Int32)) 275 ∧ LX12_findWin_187 D d v1 v2 v3 v5 v6 (((gI M11 83 ((((((55 : Int32) * (gI M 85 ((v1 / (2 : Int32)).toNatClampNeg))) + ((11 : Int32) * (v1 / (2 : Int32)))) + x12) + (5 : Int32)).toNatClampNeg))).toInt64) M11 post)))) ∧ (t0 = (5 : Int32) → vp_in v5 396 ∧ ∀ M19 : Mm, M19 = sI M 87 v5.toNatClampNeg (0 : Int32) → ∀ x23 : Int32, x23 = v3 + (1 : Int32) → LX12_findWin_17 D d v1 v2 x23 M19 post))) :
    LX12_findWin_108 D d v1 v2 v3 v5 v6 t0 M post := by
  show AW D (d + 1) 0 0 mX12_findWin 0 0 108 [(0, .ref 62), (1, .int v1), (2, .int v2), (3, .int v3), (5, .int v5), (6, .int v6)] [.int t0] M post
  refine ab_iconst (v := 5) dX12_findWin_108 (by decide) ?_
  refine ab_icmp_ne (tgt := 123) dX12_findWin_109 (by decide) (fun c1 => ?_) (fun c1 => ?_)
  · have h := h.1 c1
    refine ab_iload 5 dX12_findWin_123 rfl ?_
    refine ab_if_eq (tgt := 165) dX12_findWin_125 (by decide) (fun c2 => ?_) (fun c2 => ?_)
    · have h := h.1 c2
      refine ab_aload_n 0 dX12_findWin_165 rfl ?_
      refine ab_getP (r := 84) dX12_findWin_166 fs_12_127_12 rfl (hL.sh 62 rfl (by decide) (by decide)).1 (hL.sh 62 rfl (by decide) (by decide)).2 (hL.pt 82 rfl (by decide) (by decide)) ?_
      refine ab_bipush (v := 11) dX12_findWin_169 (by decide) ?_
      refine ab_iload_n 1 dX12_findWin_171 rfl ?_
      refine ab_iconst (v := 2) dX12_findWin_172 (by decide) ?_
      refine ab_idiv dX12_findWin_173 (by decide) ?_
      refine ab_imul dX12_findWin_174 ?_
      refine ab_aload_n 0 dX12_findWin_175 rfl ?_
      refine ab_iload_n 3 dX12_findWin_176 rfl ?_
      refine ab_iload_n 2 dX12_findWin_177 rfl ?_
      refine ab_isub dX12_findWin_178 ?_
      refine ab_callV (a := 62) (c0 := 12) (d' := d) (mc' := 0) (ms' := 0) (vs := [.int (v3 - v2)]) (st := [.int ((11 : Int32) * (v1 / (2 : Int32))), .ref 84]) dX12_findWin_179 ⟨cw_X12_bound5, w_1423⟩ w_1425 w_66 (by decide) (hL.sh 62 rfl (by decide) (by decide)).1 (hL.sh 62 rfl (by decide) (by decide)).2 rfl rfl (Nat.le_of_ble_eq_true rfl) (Nat.le_refl _) (Nat.zero_le _) (Nat.zero_le _) (AM.mono h (fun r M3 ⟨x4, hr5, hc6, h⟩ => ?_))
      subst hr5
      refine ab_rs ?_
      have hm7 : Sm M M3 := (Sm.refl M).trans hc6
      have hl8 := hL.of hm7
      refine ab_iadd dX12_findWin_182 ?_
      refine ab_iconst (v := 5) dX12_findWin_183 (by decide) ?_
      refine ab_iadd dX12_findWin_184 ?_
      have hb9 := h.1
      have h := h.2
      refine ab_ialdj (j := ((((11 : Int32) * (v1 / (2 : Int32))) + x4) + (5 : Int32)).toNatClampNeg) dX12_findWin_185 (hl8.sh 84 rfl (by decide) (by decide)) hb9 rfl ?_
      refine ab_i2l dX12_findWin_186 ?_
      exact ab_sub [0, 1, 2, 3, 4, 5] rfl h
    · have h := h.2 c2
      refine ab_aload_n 0 dX12_findWin_128 rfl ?_
      refine ab_getP (r := 83) dX12_findWin_129 fs_12_124_12 rfl (hL.sh 62 rfl (by decide) (by decide)).1 (hL.sh 62 rfl (by decide) (by decide)).2 (hL.pt 81 rfl (by decide) (by decide)) ?_
      refine ab_bipush (v := 55) dX12_findWin_132 (by decide) ?_
      refine ab_aload_n 0 dX12_findWin_134 rfl ?_
      refine ab_getP (r := 85) dX12_findWin_135 fs_12_130_12 rfl (hL.sh 62 rfl (by decide) (by decide)).1 (hL.sh 62 rfl (by decide) (by decide)).2 (hL.pt 83 rfl (by decide) (by decide)) ?_
      refine ab_iload_n 1 dX12_findWin_138 rfl ?_
      refine ab_iconst (v := 2) dX12_findWin_139 (by decide) ?_
      refine ab_idiv dX12_findWin_140 (by decide) ?_
      have hb10 := h.1
      have h := h.2
      refine ab_ialdj (j := (v1 / (2 : Int32)).toNatClampNeg) dX12_findWin_141 (hL.sh 85 rfl (by decide) (by decide)) hb10 rfl ?_
      refine ab_imul dX12_findWin_142 ?_
      refine ab_bipush (v := 11) dX12_findWin_143 (by decide) ?_
      refine ab_iload_n 1 dX12_findWin_145 rfl ?_
      refine ab_iconst (v := 2) dX12_findWin_146 (by decide) ?_
      refine ab_idiv dX12_findWin_147 (by decide) ?_
      refine ab_imul dX12_findWin_148 ?_
      refine ab_iadd dX12_findWin_149 ?_
      refine ab_aload_n 0 dX12_findWin_150 rfl ?_
      refine ab_iload_n 2 dX12_findWin_151 rfl ?_
      refine ab_iload_n 3 dX12_findWin_152 rfl ?_
      refine ab_isub dX12_findWin_153 ?_
      refine ab_callV (a := 62) (c0 := 12) (d' := d) (mc' := 0) (ms' := 0) (vs := [.int (v2 - v3)]) (st := [.int (((55 : Int32) * (gI M 85 ((v1 / (2 : Int32)).toNatClampNeg))) + ((11 : Int32) * (v1 / (2 : Int32)))), .ref 83]) dX12_findWin_154 ⟨cw_X12_bound5, w_1423⟩ w_1425 w_66 (by decide) (hL.sh 62 rfl (by decide) (by decide)).1 (hL.sh 62 rfl (by decide) (by decide)).2 rfl rfl (Nat.le_of_ble_eq_true rfl) (Nat.le_refl _) (Nat.zero_le _) (Nat.zero_le _) (AM.mono h (fun r M11 ⟨x12, hr13, hc14, h⟩ => ?_))
      subst hr13
      refine ab_rs ?_
      have hm15 : Sm M M11 := (Sm.refl M).trans hc14
      have hl16 := hL.of hm15
      refine ab_iadd dX12_findWin_157 ?_
      refine ab_iconst (v := 5) dX12_findWin_158 (by decide) ?_
      refine ab_iadd dX12_findWin_159 ?_
      have hb17 := h.1
      have h := h.2
      refine ab_ialdj (j := (((((55 : Int32) * (gI M 85 ((v1 / (2 : Int32)).toNatClampNeg))) + ((11 : Int32) * (v1 / (2 : Int32)))) + x12) + (5 : Int32)).toNatClampNeg) dX12_findWin_160 (hl16.sh 83 rfl (by decide) (by decide)) hb17 rfl ?_
      refine ab_i2l dX12_findWin_161 ?_
      refine ab_goto (tgt := 187) dX12_findWin_162 (by decide) ?_
      exact ab_sub [0, 1, 2, 3, 4, 5] rfl h
  · have h := h.2 c1
    refine ab_aload_n 0 dX12_findWin_112 rfl ?_
    refine ab_getP (r := 87) dX12_findWin_113 fs_12_136_12 rfl (hL.sh 62 rfl (by decide) (by decide)).1 (hL.sh 62 rfl (by decide) (by decide)).2 (hL.pt 85 rfl (by decide) (by decide)) ?_
    refine ab_iload 4 dX12_findWin_116 rfl ?_
    refine ab_iconst (v := 0) dX12_findWin_118 (by decide) ?_
    have hb18 := h.1
    have h := h.2
    refine ab_iastj (j := v5.toNatClampNeg) dX12_findWin_119 (hL.sh 87 rfl (by decide) (by decide)) hb18 rfl ?_
    refine ab_nameM (fun M19 hM19 => ?_)
    have h := h M19 hM19
    have hs22 : Sm M M19 := hM19 ▸ (Sm.refl _).i
    have hm20 : Sm M M19 := (Sm.refl M).trans hs22
    have hl21 := hL.of hm20
    refine ab_goto (tgt := 279) dX12_findWin_120 (by decide) ?_
    obtain ⟨x23, hx23⟩ : ∃ y : Int32, y = v3 + (1 : Int32) := ⟨_, rfl⟩
    have h := h x23 hx23
    refine ab_iinc (v := x23) 3 (lv1 := [(3, .int x23), (0, .ref 62), (1, .int v1), (2, .int v2), (5, .int v5), (6, .int v6)]) dX12_findWin_279 rfl (by rw [hx23]; rfl) (by decide) rfl ?_
    refine ab_goto (tgt := 17) dX12_findWin_282 (by decide) ?_
    exact ab_sub [1, 2, 3, 0] rfl h
set_option maxRecDepth 20000 in
theorem rX12_findWin_187 (D : GD) (d : Nat)  (v1 : Int32) (v2 : Int32) (v3 : Int32) (v5 : Int32) (v6 : Int32) (t0 : Int64) (M : Mm) (post : Option Value → Mm → Prop) (hL : Lay 62 98 M) 
    (h : ((v6 = 0 → LX12_findWin_225 D d v1 v2 v3 v5 t0 ((((6 : Int32) * v2) + v3) + (1 : Int32)) (((36 : Int32) * v1) + (36 : Int32)) M post) ∧ (¬ v6 = 0 → LX12_findWin_225 D d v1 v2 v3 v5 t0 ((((6 : Int32) * v2) + (6 : Int32)) + v3) (((36 : Int32) * v1) + (36 : Int32)) M post))) :
    LX12_findWin_187 D d v1 v2 v3 v5 v6 t0 M post := by
  show AW D (d + 1) 0 0 mX12_findWin 0 0 187 [(0, .ref 62), (1, .int v1), (2, .int v2), (3, .int v3), (5, .int v5), (6, .int v6)] [.long t0] M post
  refine ab_lstore (lv1 := [(7, .long t0), (0, .ref 62), (1, .int v1), (2, .int v2), (3, .int v3), (5, .int v5), (6, .int v6)]) dX12_findWin_187 (by decide) rfl ?_
  refine ab_aload_n 1 dX12_findWin_189 rfl ?_
  refine ab_getP (r := 87) dX12_findWin_190 fs_12_136_12 rfl (hL.sh 62 rfl (by decide) (by decide)).1 (hL.sh 62 rfl (by decide) (by decide)).2 (hL.pt 85 rfl (by decide) (by decide)) ?_
  refine ab_bipush (v := 36) dX12_findWin_193 (by decide) ?_
  refine ab_iload_n 2 dX12_findWin_195 rfl ?_
  refine ab_imul dX12_findWin_196 ?_
  refine ab_bipush (v := 36) dX12_findWin_197 (by decide) ?_
  refine ab_iadd dX12_findWin_199 ?_
  refine ab_iload 6 dX12_findWin_200 rfl ?_
  refine ab_if_eq (tgt := 217) dX12_findWin_202 (by decide) (fun c1 => ?_) (fun c1 => ?_)
  · have h := h.1 c1
    refine ab_bipush (v := 6) dX12_findWin_217 (by decide) ?_
    refine ab_iload_n 3 dX12_findWin_219 rfl ?_
    refine ab_imul dX12_findWin_220 ?_
    refine ab_iload_n 4 dX12_findWin_221 rfl ?_
    refine ab_iadd dX12_findWin_222 ?_
    refine ab_iconst (v := 1) dX12_findWin_223 (by decide) ?_
    refine ab_iadd dX12_findWin_224 ?_
    exact ab_sub [1, 2, 3, 4, 5, 0] rfl h
  · have h := h.2 c1
    refine ab_bipush (v := 6) dX12_findWin_205 (by decide) ?_
    refine ab_iload_n 3 dX12_findWin_207 rfl ?_
    refine ab_imul dX12_findWin_208 ?_
    refine ab_bipush (v := 6) dX12_findWin_209 (by decide) ?_
    refine ab_iadd dX12_findWin_211 ?_
    refine ab_iload_n 4 dX12_findWin_212 rfl ?_
    refine ab_iadd dX12_findWin_213 ?_
    refine ab_goto (tgt := 225) dX12_findWin_214 (by decide) ?_
    exact ab_sub [1, 2, 3, 4, 5, 0] rfl h
set_option maxRecDepth 20000 in
theorem rX12_findWin_225 (D : GD) (d : Nat)  (v1 : Int32) (v2 : Int32) (v3 : Int32) (v5 : Int32) (v7 : Int64) (t0 : Int32) (t1 : Int32) (M : Mm) (post : Option Value → Mm → Prop) (hL : Lay 62 98 M) 
    (h : vp_in (t1 + t0) 396 ∧ ∀ x2 : Int64, x2 = ((gI M 87 ((t1 + t0).toNatClampNeg))).toInt64 → vp_in (((((36 : Int32) * v1) + (36 : Int32)) + ((6 : Int32) * v2)) + v3) 396 ∧ ∀ x4 : Int64, x4 = ((gI M 87 ((((((36 : Int32) * v1) + (36 : Int32)) + ((6 : Int32) * v2)) + v3).toNatClampNeg))).toInt64 → vp_in v5 396 ∧ ∀ M6 : Mm, M6 = sI M 87 v5.toNatClampNeg (((((v7 * x2) + (((1000000 : Int64) - v7) * x4)) / (1000000 : Int64))).toInt32) → ∀ x10 : Int32, x10 = v3 + (1 : Int32) → LX12_findWin_17 D d v1 v2 x10 M6 post) :
    LX12_findWin_225 D d v1 v2 v3 v5 v7 t0 t1 M post := by
  show AW D (d + 1) 0 0 mX12_findWin 0 0 225 [(0, .ref 62), (1, .int v1), (2, .int v2), (3, .int v3), (5, .int v5), (7, .long v7)] [.int t0, .int t1, .ref 87] M post
  refine ab_iadd dX12_findWin_225 ?_
  have hb1 := h.1
  have h := h.2
  refine ab_ialdj (j := (t1 + t0).toNatClampNeg) dX12_findWin_226 (hL.sh 87 rfl (by decide) (by decide)) hb1 rfl ?_
  refine ab_i2l dX12_findWin_227 ?_
  refine ab_topl (fun x2 hx2 => ?_)
  have h := h x2 hx2
  refine ab_lstore (lv1 := [(9, .long x2), (0, .ref 62), (1, .int v1), (2, .int v2), (3, .int v3), (5, .int v5), (7, .long v7)]) dX12_findWin_228 (by decide) rfl ?_
  refine ab_aload_n 1 dX12_findWin_230 rfl ?_
  refine ab_getP (r := 87) dX12_findWin_231 fs_12_136_12 rfl (hL.sh 62 rfl (by decide) (by decide)).1 (hL.sh 62 rfl (by decide) (by decide)).2 (hL.pt 85 rfl (by decide) (by decide)) ?_
  refine ab_bipush (v := 36) dX12_findWin_234 (by decide) ?_
  refine ab_iload_n 2 dX12_findWin_236 rfl ?_
  refine ab_imul dX12_findWin_237 ?_
  refine ab_bipush (v := 36) dX12_findWin_238 (by decide) ?_
  refine ab_iadd dX12_findWin_240 ?_
  refine ab_bipush (v := 6) dX12_findWin_241 (by decide) ?_
  refine ab_iload_n 3 dX12_findWin_243 rfl ?_
  refine ab_imul dX12_findWin_244 ?_
  refine ab_iadd dX12_findWin_245 ?_
  refine ab_iload_n 4 dX12_findWin_246 rfl ?_
  refine ab_iadd dX12_findWin_247 ?_
  have hb3 := h.1
  have h := h.2
  refine ab_ialdj (j := (((((36 : Int32) * v1) + (36 : Int32)) + ((6 : Int32) * v2)) + v3).toNatClampNeg) dX12_findWin_248 (hL.sh 87 rfl (by decide) (by decide)) hb3 rfl ?_
  refine ab_i2l dX12_findWin_249 ?_
  refine ab_topl (fun x4 hx4 => ?_)
  have h := h x4 hx4
  refine ab_lstore (lv1 := [(11, .long x4), (9, .long x2), (0, .ref 62), (1, .int v1), (2, .int v2), (3, .int v3), (5, .int v5), (7, .long v7)]) dX12_findWin_250 (by decide) rfl ?_
  refine ab_aload_n 2 dX12_findWin_252 rfl ?_
  refine ab_getP (r := 87) dX12_findWin_253 fs_12_136_12 rfl (hL.sh 62 rfl (by decide) (by decide)).1 (hL.sh 62 rfl (by decide) (by decide)).2 (hL.pt 85 rfl (by decide) (by decide)) ?_
  refine ab_iload 6 dX12_findWin_256 rfl ?_
  refine ab_lload 7 dX12_findWin_258 rfl ?_
  refine ab_lload 1 dX12_findWin_260 rfl ?_
  refine ab_lmul dX12_findWin_262 ?_
  refine ab_ldc2 dX12_findWin_263 w_1412 ?_
  refine ab_lload 7 dX12_findWin_266 rfl ?_
  refine ab_lsub dX12_findWin_268 ?_
  refine ab_lload 0 dX12_findWin_269 rfl ?_
  refine ab_lmul dX12_findWin_271 ?_
  refine ab_ladd dX12_findWin_272 ?_
  refine ab_ldc2 dX12_findWin_273 w_1412 ?_
  refine ab_ldiv dX12_findWin_276 (by decide) ?_
  refine ab_l2i dX12_findWin_277 ?_
  have hb5 := h.1
  have h := h.2
  refine ab_iastj (j := v5.toNatClampNeg) dX12_findWin_278 (hL.sh 87 rfl (by decide) (by decide)) hb5 rfl ?_
  refine ab_nameM (fun M6 hM6 => ?_)
  have h := h M6 hM6
  have hs9 : Sm M M6 := hM6 ▸ (Sm.refl _).i
  have hm7 : Sm M M6 := (Sm.refl M).trans hs9
  have hl8 := hL.of hm7
  obtain ⟨x10, hx10⟩ : ∃ y : Int32, y = v3 + (1 : Int32) := ⟨_, rfl⟩
  have h := h x10 hx10
  refine ab_iinc (v := x10) 5 (lv1 := [(3, .int x10), (11, .long x4), (9, .long x2), (0, .ref 62), (1, .int v1), (2, .int v2), (5, .int v5), (7, .long v7)]) dX12_findWin_279 rfl (by rw [hx10]; rfl) (by decide) rfl ?_
  refine ab_goto (tgt := 17) dX12_findWin_282 (by decide) ?_
  exact ab_sub [3, 4, 5, 0] rfl h
theorem dX12_layOrder_0 : decode cX12_layOrder 0 = .ok (.iconst 0, 1) := by decide +kernel
theorem dX12_layOrder_1 : decode cX12_layOrder 1 = .ok (.istore_n 1, 1) := by decide +kernel
theorem dX12_layOrder_2 : decode cX12_layOrder 2 = .ok (.iload_n 1, 1) := by decide +kernel
theorem dX12_layOrder_3 : decode cX12_layOrder 3 = .ok (.iconst 5, 1) := by decide +kernel
theorem dX12_layOrder_4 : decode cX12_layOrder 4 = .ok (.if_icmp .ge 16, 3) := by decide +kernel
theorem dX12_layOrder_7 : decode cX12_layOrder 7 = .ok (.aload_n 0, 1) := by decide +kernel
theorem dX12_layOrder_8 : decode cX12_layOrder 8 = .ok (.getfield 130, 3) := by decide +kernel
theorem dX12_layOrder_11 : decode cX12_layOrder 11 = .ok (.iload_n 1, 1) := by decide +kernel
theorem dX12_layOrder_12 : decode cX12_layOrder 12 = .ok (.iload_n 1, 1) := by decide +kernel
theorem dX12_layOrder_13 : decode cX12_layOrder 13 = .ok (.iastore, 1) := by decide +kernel
theorem dX12_layOrder_14 : decode cX12_layOrder 14 = .ok (.iinc 1 1, 3) := by decide +kernel
theorem dX12_layOrder_17 : decode cX12_layOrder 17 = .ok (.goto (-15), 3) := by decide +kernel
theorem dX12_layOrder_20 : decode cX12_layOrder 20 = .ok (.return_, 1) := by decide +kernel
def LX12_layOrder_2 (D : GD) (d : Nat) (v1 : Int32) (M : Mm) (post : Option Value → Mm → Prop) : Prop := AW D d 0 0 mX12_layOrder 0 0 2 [(0, .ref 62), (1, .int v1)] [] M post
set_option maxRecDepth 20000 in
theorem rX12_layOrder (D : GD) (d : Nat)  (M : Mm) (post : Option Value → Mm → Prop) (hL : Lay 62 98 M) 
    (h : LX12_layOrder_2 D d (0 : Int32) M post) :
    AM D d 0 0 mX12_layOrder [.ref 62] M post := by
  refine AM.of (by decide) (Nat.le_of_ble_eq_true rfl) ?_
  show AW D d 0 0 mX12_layOrder 0 0 0 [(0, .ref 62)] [] M post
  refine ab_iconst (v := 0) dX12_layOrder_0 (by decide) ?_
  refine ab_istore_n (lv1 := [(1, .int (0 : Int32)), (0, .ref 62)]) dX12_layOrder_1 (by decide) rfl ?_
  exact ab_sub [1, 0] rfl h
set_option maxRecDepth 20000 in
theorem rX12_layOrder_2 (D : GD) (d : Nat)  (v1 : Int32) (M : Mm) (post : Option Value → Mm → Prop) (hL : Lay 62 98 M) 
    (h : (((5 : Int32) ≤ v1 → post none M) ∧ (¬ (5 : Int32) ≤ v1 → vp_in v1 5 ∧ ∀ M3 : Mm, M3 = sI M 85 v1.toNatClampNeg v1 → ∀ x7 : Int32, x7 = v1 + (1 : Int32) → LX12_layOrder_2 D d x7 M3 post))) :
    LX12_layOrder_2 D d v1 M post := by
  show AW D d 0 0 mX12_layOrder 0 0 2 [(0, .ref 62), (1, .int v1)] [] M post
  refine ab_iload_n 1 dX12_layOrder_2 rfl ?_
  refine ab_iconst (v := 5) dX12_layOrder_3 (by decide) ?_
  refine ab_icmp_ge (tgt := 20) dX12_layOrder_4 (by decide) (fun c1 => ?_) (fun c1 => ?_)
  · have h := h.1 c1
    exact ab_vret dX12_layOrder_20 rfl h
  · have h := h.2 c1
    refine ab_aload_n 0 dX12_layOrder_7 rfl ?_
    refine ab_getP (r := 85) dX12_layOrder_8 fs_12_130_12 rfl (hL.sh 62 rfl (by decide) (by decide)).1 (hL.sh 62 rfl (by decide) (by decide)).2 (hL.pt 83 rfl (by decide) (by decide)) ?_
    refine ab_iload_n 1 dX12_layOrder_11 rfl ?_
    refine ab_iload_n 1 dX12_layOrder_12 rfl ?_
    have hb2 := h.1
    have h := h.2
    refine ab_iastj (j := v1.toNatClampNeg) dX12_layOrder_13 (hL.sh 85 rfl (by decide) (by decide)) hb2 rfl ?_
    refine ab_nameM (fun M3 hM3 => ?_)
    have h := h M3 hM3
    have hs6 : Sm M M3 := hM3 ▸ (Sm.refl _).i
    have hm4 : Sm M M3 := (Sm.refl M).trans hs6
    have hl5 := hL.of hm4
    obtain ⟨x7, hx7⟩ : ∃ y : Int32, y = v1 + (1 : Int32) := ⟨_, rfl⟩
    have h := h x7 hx7
    refine ab_iinc (v := x7) 1 (lv1 := [(1, .int x7), (0, .ref 62)]) dX12_layOrder_14 rfl (by rw [hx7]; rfl) (by decide) rfl ?_
    refine ab_goto (tgt := 2) dX12_layOrder_17 (by decide) ?_
    exact ab_sub [1, 0] rfl h
theorem dX12_win_0 : decode cX12_win 0 = .ok (.aload_n 0, 1) := by decide +kernel
theorem dX12_win_1 : decode cX12_win 1 = .ok (.iload_n 1, 1) := by decide +kernel
theorem dX12_win_2 : decode cX12_win 2 = .ok (.iconst 0, 1) := by decide +kernel
theorem dX12_win_3 : decode cX12_win 3 = .ok (.iconst 1, 1) := by decide +kernel
theorem dX12_win_4 : decode cX12_win 4 = .ok (.invokevirtual 180, 3) := by decide +kernel
theorem dX12_win_7 : decode cX12_win 7 = .ok (.ifCond .ne 7, 3) := by decide +kernel
theorem dX12_win_10 : decode cX12_win 10 = .ok (.ldc_w 331, 3) := by decide +kernel
theorem dX12_win_13 : decode cX12_win 13 = .ok (.ireturn, 1) := by decide +kernel
theorem dX12_win_14 : decode cX12_win 14 = .ok (.aload_n 0, 1) := by decide +kernel
theorem dX12_win_15 : decode cX12_win 15 = .ok (.invokevirtual 332, 3) := by decide +kernel
theorem dX12_win_18 : decode cX12_win 18 = .ok (.ifCond .ne 7, 3) := by decide +kernel
theorem dX12_win_21 : decode cX12_win 21 = .ok (.ldc_w 335, 3) := by decide +kernel
theorem dX12_win_24 : decode cX12_win 24 = .ok (.ireturn, 1) := by decide +kernel
theorem dX12_win_25 : decode cX12_win 25 = .ok (.aload_n 0, 1) := by decide +kernel
theorem dX12_win_26 : decode cX12_win 26 = .ok (.invokevirtual 336, 3) := by decide +kernel
theorem dX12_win_29 : decode cX12_win 29 = .ok (.aload_n 0, 1) := by decide +kernel
theorem dX12_win_30 : decode cX12_win 30 = .ok (.iconst 0, 1) := by decide +kernel
theorem dX12_win_31 : decode cX12_win 31 = .ok (.invokevirtual 339, 3) := by decide +kernel
theorem dX12_win_34 : decode cX12_win 34 = .ok (.aload_n 0, 1) := by decide +kernel
theorem dX12_win_35 : decode cX12_win 35 = .ok (.invokevirtual 342, 3) := by decide +kernel
theorem dX12_win_38 : decode cX12_win 38 = .ok (.istore_n 2, 1) := by decide +kernel
theorem dX12_win_39 : decode cX12_win 39 = .ok (.iload_n 1, 1) := by decide +kernel
theorem dX12_win_40 : decode cX12_win 40 = .ok (.ifCond .ne 5, 3) := by decide +kernel
theorem dX12_win_43 : decode cX12_win 43 = .ok (.iload_n 2, 1) := by decide +kernel
theorem dX12_win_44 : decode cX12_win 44 = .ok (.ireturn, 1) := by decide +kernel
theorem dX12_win_45 : decode cX12_win 45 = .ok (.aload_n 0, 1) := by decide +kernel
theorem dX12_win_46 : decode cX12_win 46 = .ok (.iconst 1, 1) := by decide +kernel
theorem dX12_win_47 : decode cX12_win 47 = .ok (.invokevirtual 339, 3) := by decide +kernel
theorem dX12_win_50 : decode cX12_win 50 = .ok (.iload_n 2, 1) := by decide +kernel
theorem dX12_win_51 : decode cX12_win 51 = .ok (.ldc_w 326, 3) := by decide +kernel
theorem dX12_win_54 : decode cX12_win 54 = .ok (.aload_n 0, 1) := by decide +kernel
theorem dX12_win_55 : decode cX12_win 55 = .ok (.invokevirtual 342, 3) := by decide +kernel
theorem dX12_win_58 : decode cX12_win 58 = .ok (.isub, 1) := by decide +kernel
theorem dX12_win_59 : decode cX12_win 59 = .ok (.isub, 1) := by decide +kernel
theorem dX12_win_60 : decode cX12_win 60 = .ok (.ireturn, 1) := by decide +kernel
set_option maxRecDepth 20000 in
theorem rX12_win (D : GD) (d : Nat) (a1 : Int32) (M : Mm) (post : Option Value → Mm → Prop) (hL : Lay 62 98 M) 
    (h : AMi D d mX12_in [.ref 62, .int a1, .int (0 : Int32), .int (1 : Int32)] M (fun x2 M1 => ((¬ x2 = 0 → AMi D d mX12_areTeams [.ref 62] M1 (fun x9 M8 => ((¬ x9 = 0 → AMv D d mX12_layOrder [.ref 62] M8 (fun M15 => AMv D d mX12_layChances [.ref 62, .int (0 : Int32)] M15 (fun M21 => AMi D d mX12_findWin [.ref 62] M21 (fun x28 M27 => ((¬ a1 = 0 → AMv D d mX12_layChances [.ref 62, .int (1 : Int32)] M27 (fun M34 => AMi D d mX12_findWin [.ref 62] M34 (fun x41 M40 => post (some (.int (x28 - ((1000000 : Int32) - x41)))) M40))) ∧ (a1 = 0 → post (some (.int x28)) M27)))))) ∧ (x9 = 0 → post (some (.int (-1000002 : Int32))) M8)))) ∧ (x2 = 0 → post (some (.int (-1000001 : Int32))) M1)))) :
    AM D (d + 1) 0 0 mX12_win [.ref 62, .int a1] M post := by
  refine AM.of (by decide) (Nat.le_of_ble_eq_true rfl) ?_
  show AW D (d + 1) 0 0 mX12_win 0 0 0 [(0, .ref 62), (1, .int a1)] [] M post
  refine ab_aload_n 0 dX12_win_0 rfl ?_
  refine ab_iload_n 1 dX12_win_1 rfl ?_
  refine ab_iconst (v := 0) dX12_win_2 (by decide) ?_
  refine ab_iconst (v := 1) dX12_win_3 (by decide) ?_
  refine ab_callV (a := 62) (c0 := 12) (d' := d) (mc' := 0) (ms' := 0) (vs := [.int a1, .int (0 : Int32), .int (1 : Int32)]) (st := []) dX12_win_4 ⟨cw_X12_in, w_1170⟩ w_1172 w_23 (by decide) (hL.sh 62 rfl (by decide) (by decide)).1 (hL.sh 62 rfl (by decide) (by decide)).2 rfl rfl (Nat.le_of_ble_eq_true rfl) (Nat.le_refl _) (Nat.zero_le _) (Nat.zero_le _) (AM.mono h (fun r M1 ⟨x2, hr3, hc4, h⟩ => ?_))
  subst hr3
  refine ab_rs ?_
  have hm5 : Sm M M1 := (Sm.refl M).trans hc4
  have hl6 := hL.of hm5
  refine ab_if_ne (tgt := 14) dX12_win_7 (by decide) (fun c7 => ?_) (fun c7 => ?_)
  · have h := h.1 c7
    refine ab_aload_n 0 dX12_win_14 rfl ?_
    refine ab_callV (a := 62) (c0 := 12) (d' := d) (mc' := 0) (ms' := 0) (vs := []) (st := []) dX12_win_15 ⟨cw_X12_areTeams, w_1395⟩ w_1397 w_60 (by decide) (hl6.sh 62 rfl (by decide) (by decide)).1 (hl6.sh 62 rfl (by decide) (by decide)).2 rfl rfl (Nat.le_of_ble_eq_true rfl) (Nat.le_refl _) (Nat.zero_le _) (Nat.zero_le _) (AM.mono h (fun r M8 ⟨x9, hr10, hc11, h⟩ => ?_))
    subst hr10
    refine ab_rs ?_
    have hm12 : Sm M M8 := hm5.trans hc11
    have hl13 := hL.of hm12
    refine ab_if_ne (tgt := 25) dX12_win_18 (by decide) (fun c14 => ?_) (fun c14 => ?_)
    · have h := h.1 c14
      refine ab_aload_n 0 dX12_win_25 rfl ?_
      refine ab_callV (a := 62) (c0 := 12) (d' := d) (mc' := 0) (ms' := 0) (vs := []) (st := []) dX12_win_26 ⟨cw_X12_layOrder, w_1400⟩ w_1402 w_61 (by decide) (hl13.sh 62 rfl (by decide) (by decide)).1 (hl13.sh 62 rfl (by decide) (by decide)).2 rfl rfl (Nat.le_of_ble_eq_true rfl) (Nat.le_refl _) (Nat.zero_le _) (Nat.zero_le _) (AM.mono h (fun r M15 ⟨hr17, hc18, h⟩ => ?_))
      subst hr17
      refine ab_rv ?_
      have hm19 : Sm M M15 := hm12.trans hc18
      have hl20 := hL.of hm19
      refine ab_aload_n 0 dX12_win_29 rfl ?_
      refine ab_iconst (v := 0) dX12_win_30 (by decide) ?_
      refine ab_callV (a := 62) (c0 := 12) (d' := d) (mc' := 0) (ms' := 0) (vs := [.int (0 : Int32)]) (st := []) dX12_win_31 ⟨cw_X12_layChances, w_1404⟩ w_1406 w_62 (by decide) (hl20.sh 62 rfl (by decide) (by decide)).1 (hl20.sh 62 rfl (by decide) (by decide)).2 rfl rfl (Nat.le_of_ble_eq_true rfl) (Nat.le_refl _) (Nat.zero_le _) (Nat.zero_le _) (AM.mono h (fun r M21 ⟨hr23, hc24, h⟩ => ?_))
      subst hr23
      refine ab_rv ?_
      have hm25 : Sm M M21 := hm19.trans hc24
      have hl26 := hL.of hm25
      refine ab_aload_n 0 dX12_win_34 rfl ?_
      refine ab_callV (a := 62) (c0 := 12) (d' := d) (mc' := 0) (ms' := 0) (vs := []) (st := []) dX12_win_35 ⟨cw_X12_findWin, w_1413⟩ w_1415 w_64 (by decide) (hl26.sh 62 rfl (by decide) (by decide)).1 (hl26.sh 62 rfl (by decide) (by decide)).2 rfl rfl (Nat.le_of_ble_eq_true rfl) (Nat.le_refl _) (Nat.zero_le _) (Nat.zero_le _) (AM.mono h (fun r M27 ⟨x28, hr29, hc30, h⟩ => ?_))
      subst hr29
      refine ab_rs ?_
      have hm31 : Sm M M27 := hm25.trans hc30
      have hl32 := hL.of hm31
      refine ab_istore_n (lv1 := [(2, .int x28), (0, .ref 62), (1, .int a1)]) dX12_win_38 (by decide) rfl ?_
      refine ab_iload_n 2 dX12_win_39 rfl ?_
      refine ab_if_ne (tgt := 45) dX12_win_40 (by decide) (fun c33 => ?_) (fun c33 => ?_)
      · have h := h.1 c33
        refine ab_aload_n 1 dX12_win_45 rfl ?_
        refine ab_iconst (v := 1) dX12_win_46 (by decide) ?_
        refine ab_callV (a := 62) (c0 := 12) (d' := d) (mc' := 0) (ms' := 0) (vs := [.int (1 : Int32)]) (st := []) dX12_win_47 ⟨cw_X12_layChances, w_1404⟩ w_1406 w_62 (by decide) (hl32.sh 62 rfl (by decide) (by decide)).1 (hl32.sh 62 rfl (by decide) (by decide)).2 rfl rfl (Nat.le_of_ble_eq_true rfl) (Nat.le_refl _) (Nat.zero_le _) (Nat.zero_le _) (AM.mono h (fun r M34 ⟨hr36, hc37, h⟩ => ?_))
        subst hr36
        refine ab_rv ?_
        have hm38 : Sm M M34 := hm31.trans hc37
        have hl39 := hL.of hm38
        refine ab_iload_n 0 dX12_win_50 rfl ?_
        refine ab_ldcw dX12_win_51 w_1421 ?_
        refine ab_aload_n 1 dX12_win_54 rfl ?_
        refine ab_callV (a := 62) (c0 := 12) (d' := d) (mc' := 0) (ms' := 0) (vs := []) (st := [.int (1000000 : Int32), .int x28]) dX12_win_55 ⟨cw_X12_findWin, w_1413⟩ w_1415 w_64 (by decide) (hl39.sh 62 rfl (by decide) (by decide)).1 (hl39.sh 62 rfl (by decide) (by decide)).2 rfl rfl (Nat.le_of_ble_eq_true rfl) (Nat.le_refl _) (Nat.zero_le _) (Nat.zero_le _) (AM.mono h (fun r M40 ⟨x41, hr42, hc43, h⟩ => ?_))
        subst hr42
        refine ab_rs ?_
        have hm44 : Sm M M40 := hm38.trans hc43
        have hl45 := hL.of hm44
        refine ab_isub dX12_win_58 ?_
        refine ab_isub dX12_win_59 ?_
        exact ab_iret dX12_win_60 rfl h
      · have h := h.2 c33
        refine ab_iload_n 0 dX12_win_43 rfl ?_
        exact ab_iret dX12_win_44 rfl h
    · have h := h.2 c14
      refine ab_ldcw dX12_win_21 w_1399 ?_
      exact ab_iret dX12_win_24 rfl h
  · have h := h.2 c7
    refine ab_ldcw dX12_win_10 w_1394 ?_
    exact ab_iret dX12_win_13 rfl h
theorem dX12_at_0 : decode cX12_at 0 = .ok (.aload_n 0, 1) := by decide +kernel
theorem dX12_at_1 : decode cX12_at 1 = .ok (.iload_n 1, 1) := by decide +kernel
theorem dX12_at_2 : decode cX12_at 2 = .ok (.iconst 0, 1) := by decide +kernel
theorem dX12_at_3 : decode cX12_at 3 = .ok (.bipush 10, 2) := by decide +kernel
theorem dX12_at_5 : decode cX12_at 5 = .ok (.invokevirtual 180, 3) := by decide +kernel
theorem dX12_at_8 : decode cX12_at 8 = .ok (.ifCond .eq 29, 3) := by decide +kernel
theorem dX12_at_11 : decode cX12_at 11 = .ok (.aload_n 0, 1) := by decide +kernel
theorem dX12_at_12 : decode cX12_at 12 = .ok (.iload_n 2, 1) := by decide +kernel
theorem dX12_at_13 : decode cX12_at 13 = .ok (.iconst 0, 1) := by decide +kernel
theorem dX12_at_14 : decode cX12_at 14 = .ok (.iload_n 1, 1) := by decide +kernel
theorem dX12_at_15 : decode cX12_at 15 = .ok (.iconst 1, 1) := by decide +kernel
theorem dX12_at_16 : decode cX12_at 16 = .ok (.iadd, 1) := by decide +kernel
theorem dX12_at_17 : decode cX12_at 17 = .ok (.iconst 2, 1) := by decide +kernel
theorem dX12_at_18 : decode cX12_at 18 = .ok (.idiv, 1) := by decide +kernel
theorem dX12_at_19 : decode cX12_at 19 = .ok (.invokevirtual 180, 3) := by decide +kernel
theorem dX12_at_22 : decode cX12_at 22 = .ok (.ifCond .eq 15, 3) := by decide +kernel
theorem dX12_at_25 : decode cX12_at 25 = .ok (.aload_n 0, 1) := by decide +kernel
theorem dX12_at_26 : decode cX12_at 26 = .ok (.iload_n 3, 1) := by decide +kernel
theorem dX12_at_27 : decode cX12_at 27 = .ok (.iconst 0, 1) := by decide +kernel
theorem dX12_at_28 : decode cX12_at 28 = .ok (.iload_n 1, 1) := by decide +kernel
theorem dX12_at_29 : decode cX12_at 29 = .ok (.iconst 2, 1) := by decide +kernel
theorem dX12_at_30 : decode cX12_at 30 = .ok (.idiv, 1) := by decide +kernel
theorem dX12_at_31 : decode cX12_at 31 = .ok (.invokevirtual 180, 3) := by decide +kernel
theorem dX12_at_34 : decode cX12_at 34 = .ok (.ifCond .ne 7, 3) := by decide +kernel
theorem dX12_at_37 : decode cX12_at 37 = .ok (.ldc_w 331, 3) := by decide +kernel
theorem dX12_at_40 : decode cX12_at 40 = .ok (.ireturn, 1) := by decide +kernel
theorem dX12_at_41 : decode cX12_at 41 = .ok (.aload_n 0, 1) := by decide +kernel
theorem dX12_at_42 : decode cX12_at 42 = .ok (.invokevirtual 332, 3) := by decide +kernel
theorem dX12_at_45 : decode cX12_at 45 = .ok (.ifCond .ne 7, 3) := by decide +kernel
theorem dX12_at_48 : decode cX12_at 48 = .ok (.ldc_w 335, 3) := by decide +kernel
theorem dX12_at_51 : decode cX12_at 51 = .ok (.ireturn, 1) := by decide +kernel
theorem dX12_at_52 : decode cX12_at 52 = .ok (.aload_n 0, 1) := by decide +kernel
theorem dX12_at_53 : decode cX12_at 53 = .ok (.invokevirtual 336, 3) := by decide +kernel
theorem dX12_at_56 : decode cX12_at 56 = .ok (.aload_n 0, 1) := by decide +kernel
theorem dX12_at_57 : decode cX12_at 57 = .ok (.iconst 0, 1) := by decide +kernel
theorem dX12_at_58 : decode cX12_at 58 = .ok (.invokevirtual 339, 3) := by decide +kernel
theorem dX12_at_61 : decode cX12_at 61 = .ok (.aload_n 0, 1) := by decide +kernel
theorem dX12_at_62 : decode cX12_at 62 = .ok (.invokevirtual 342, 3) := by decide +kernel
theorem dX12_at_65 : decode cX12_at 65 = .ok (.pop, 1) := by decide +kernel
theorem dX12_at_66 : decode cX12_at 66 = .ok (.aload_n 0, 1) := by decide +kernel
theorem dX12_at_67 : decode cX12_at 67 = .ok (.getfield 136, 3) := by decide +kernel
theorem dX12_at_70 : decode cX12_at 70 = .ok (.bipush 36, 2) := by decide +kernel
theorem dX12_at_72 : decode cX12_at 72 = .ok (.iload_n 1, 1) := by decide +kernel
theorem dX12_at_73 : decode cX12_at 73 = .ok (.imul, 1) := by decide +kernel
theorem dX12_at_74 : decode cX12_at 74 = .ok (.bipush 6, 2) := by decide +kernel
theorem dX12_at_76 : decode cX12_at 76 = .ok (.iload_n 2, 1) := by decide +kernel
theorem dX12_at_77 : decode cX12_at 77 = .ok (.imul, 1) := by decide +kernel
theorem dX12_at_78 : decode cX12_at 78 = .ok (.iadd, 1) := by decide +kernel
theorem dX12_at_79 : decode cX12_at 79 = .ok (.iload_n 3, 1) := by decide +kernel
theorem dX12_at_80 : decode cX12_at 80 = .ok (.iadd, 1) := by decide +kernel
theorem dX12_at_81 : decode cX12_at 81 = .ok (.iaload, 1) := by decide +kernel
theorem dX12_at_82 : decode cX12_at 82 = .ok (.ireturn, 1) := by decide +kernel
set_option maxRecDepth 20000 in
theorem rX12_at (D : GD) (d : Nat) (a1 : Int32) (a2 : Int32) (a3 : Int32) (M : Mm) (post : Option Value → Mm → Prop) (hL : Lay 62 98 M) 
    (h : AMi D d mX12_in [.ref 62, .int a1, .int (0 : Int32), .int (10 : Int32)] M (fun x2 M1 => ((x2 = 0 → post (some (.int (-1000001 : Int32))) M1) ∧ (¬ x2 = 0 → AMi D d mX12_in [.ref 62, .int a2, .int (0 : Int32), .int ((a1 + (1 : Int32)) / (2 : Int32))] M1 (fun x9 M8 => ((x9 = 0 → post (some (.int (-1000001 : Int32))) M8) ∧ (¬ x9 = 0 → AMi D d mX12_in [.ref 62, .int a3, .int (0 : Int32), .int (a1 / (2 : Int32))] M8 (fun x16 M15 => ((¬ x16 = 0 → AMi D d mX12_areTeams [.ref 62] M15 (fun x23 M22 => ((¬ x23 = 0 → AMv D d mX12_layOrder [.ref 62] M22 (fun M29 => AMv D d mX12_layChances [.ref 62, .int (0 : Int32)] M29 (fun M35 => AMi D d mX12_findWin [.ref 62] M35 (fun x42 M41 => vp_in ((((36 : Int32) * a1) + ((6 : Int32) * a2)) + a3) 396 ∧ post (some (.int (gI M41 87 (((((36 : Int32) * a1) + ((6 : Int32) * a2)) + a3).toNatClampNeg)))) M41)))) ∧ (x23 = 0 → post (some (.int (-1000002 : Int32))) M22)))) ∧ (x16 = 0 → post (some (.int (-1000001 : Int32))) M15)))))))))) :
    AM D (d + 1) 0 0 mX12_at [.ref 62, .int a1, .int a2, .int a3] M post := by
  refine AM.of (by decide) (Nat.le_of_ble_eq_true rfl) ?_
  show AW D (d + 1) 0 0 mX12_at 0 0 0 [(0, .ref 62), (1, .int a1), (2, .int a2), (3, .int a3)] [] M post
  refine ab_aload_n 0 dX12_at_0 rfl ?_
  refine ab_iload_n 1 dX12_at_1 rfl ?_
  refine ab_iconst (v := 0) dX12_at_2 (by decide) ?_
  refine ab_bipush (v := 10) dX12_at_3 (by decide) ?_
  refine ab_callV (a := 62) (c0 := 12) (d' := d) (mc' := 0) (ms' := 0) (vs := [.int a1, .int (0 : Int32), .int (10 : Int32)]) (st := []) dX12_at_5 ⟨cw_X12_in, w_1170⟩ w_1172 w_23 (by decide) (hL.sh 62 rfl (by decide) (by decide)).1 (hL.sh 62 rfl (by decide) (by decide)).2 rfl rfl (Nat.le_of_ble_eq_true rfl) (Nat.le_refl _) (Nat.zero_le _) (Nat.zero_le _) (AM.mono h (fun r M1 ⟨x2, hr3, hc4, h⟩ => ?_))
  subst hr3
  refine ab_rs ?_
  have hm5 : Sm M M1 := (Sm.refl M).trans hc4
  have hl6 := hL.of hm5
  refine ab_if_eq (tgt := 37) dX12_at_8 (by decide) (fun c7 => ?_) (fun c7 => ?_)
  · have h := h.1 c7
    refine ab_ldcw dX12_at_37 w_1394 ?_
    exact ab_iret dX12_at_40 rfl h
  · have h := h.2 c7
    refine ab_aload_n 0 dX12_at_11 rfl ?_
    refine ab_iload_n 2 dX12_at_12 rfl ?_
    refine ab_iconst (v := 0) dX12_at_13 (by decide) ?_
    refine ab_iload_n 1 dX12_at_14 rfl ?_
    refine ab_iconst (v := 1) dX12_at_15 (by decide) ?_
    refine ab_iadd dX12_at_16 ?_
    refine ab_iconst (v := 2) dX12_at_17 (by decide) ?_
    refine ab_idiv dX12_at_18 (by decide) ?_
    refine ab_callV (a := 62) (c0 := 12) (d' := d) (mc' := 0) (ms' := 0) (vs := [.int a2, .int (0 : Int32), .int ((a1 + (1 : Int32)) / (2 : Int32))]) (st := []) dX12_at_19 ⟨cw_X12_in, w_1170⟩ w_1172 w_23 (by decide) (hl6.sh 62 rfl (by decide) (by decide)).1 (hl6.sh 62 rfl (by decide) (by decide)).2 rfl rfl (Nat.le_of_ble_eq_true rfl) (Nat.le_refl _) (Nat.zero_le _) (Nat.zero_le _) (AM.mono h (fun r M8 ⟨x9, hr10, hc11, h⟩ => ?_))
    subst hr10
    refine ab_rs ?_
    have hm12 : Sm M M8 := hm5.trans hc11
    have hl13 := hL.of hm12
    refine ab_if_eq (tgt := 37) dX12_at_22 (by decide) (fun c14 => ?_) (fun c14 => ?_)
    · have h := h.1 c14
      refine ab_ldcw dX12_at_37 w_1394 ?_
      exact ab_iret dX12_at_40 rfl h
    · have h := h.2 c14
      refine ab_aload_n 0 dX12_at_25 rfl ?_
      refine ab_iload_n 3 dX12_at_26 rfl ?_
      refine ab_iconst (v := 0) dX12_at_27 (by decide) ?_
      refine ab_iload_n 1 dX12_at_28 rfl ?_
      refine ab_iconst (v := 2) dX12_at_29 (by decide) ?_
      refine ab_idiv dX12_at_30 (by decide) ?_
      refine ab_callV (a := 62) (c0 := 12) (d' := d) (mc' := 0) (ms' := 0) (vs := [.int a3, .int (0 : Int32), .int (a1 / (2 : Int32))]) (st := []) dX12_at_31 ⟨cw_X12_in, w_1170⟩ w_1172 w_23 (by decide) (hl13.sh 62 rfl (by decide) (by decide)).1 (hl13.sh 62 rfl (by decide) (by decide)).2 rfl rfl (Nat.le_of_ble_eq_true rfl) (Nat.le_refl _) (Nat.zero_le _) (Nat.zero_le _) (AM.mono h (fun r M15 ⟨x16, hr17, hc18, h⟩ => ?_))
      subst hr17
      refine ab_rs ?_
      have hm19 : Sm M M15 := hm12.trans hc18
      have hl20 := hL.of hm19
      refine ab_if_ne (tgt := 41) dX12_at_34 (by decide) (fun c21 => ?_) (fun c21 => ?_)
      · have h := h.1 c21
        refine ab_aload_n 0 dX12_at_41 rfl ?_
        refine ab_callV (a := 62) (c0 := 12) (d' := d) (mc' := 0) (ms' := 0) (vs := []) (st := []) dX12_at_42 ⟨cw_X12_areTeams, w_1395⟩ w_1397 w_60 (by decide) (hl20.sh 62 rfl (by decide) (by decide)).1 (hl20.sh 62 rfl (by decide) (by decide)).2 rfl rfl (Nat.le_of_ble_eq_true rfl) (Nat.le_refl _) (Nat.zero_le _) (Nat.zero_le _) (AM.mono h (fun r M22 ⟨x23, hr24, hc25, h⟩ => ?_))
        subst hr24
        refine ab_rs ?_
        have hm26 : Sm M M22 := hm19.trans hc25
        have hl27 := hL.of hm26
        refine ab_if_ne (tgt := 52) dX12_at_45 (by decide) (fun c28 => ?_) (fun c28 => ?_)
        · have h := h.1 c28
          refine ab_aload_n 0 dX12_at_52 rfl ?_
          refine ab_callV (a := 62) (c0 := 12) (d' := d) (mc' := 0) (ms' := 0) (vs := []) (st := []) dX12_at_53 ⟨cw_X12_layOrder, w_1400⟩ w_1402 w_61 (by decide) (hl27.sh 62 rfl (by decide) (by decide)).1 (hl27.sh 62 rfl (by decide) (by decide)).2 rfl rfl (Nat.le_of_ble_eq_true rfl) (Nat.le_refl _) (Nat.zero_le _) (Nat.zero_le _) (AM.mono h (fun r M29 ⟨hr31, hc32, h⟩ => ?_))
          subst hr31
          refine ab_rv ?_
          have hm33 : Sm M M29 := hm26.trans hc32
          have hl34 := hL.of hm33
          refine ab_aload_n 0 dX12_at_56 rfl ?_
          refine ab_iconst (v := 0) dX12_at_57 (by decide) ?_
          refine ab_callV (a := 62) (c0 := 12) (d' := d) (mc' := 0) (ms' := 0) (vs := [.int (0 : Int32)]) (st := []) dX12_at_58 ⟨cw_X12_layChances, w_1404⟩ w_1406 w_62 (by decide) (hl34.sh 62 rfl (by decide) (by decide)).1 (hl34.sh 62 rfl (by decide) (by decide)).2 rfl rfl (Nat.le_of_ble_eq_true rfl) (Nat.le_refl _) (Nat.zero_le _) (Nat.zero_le _) (AM.mono h (fun r M35 ⟨hr37, hc38, h⟩ => ?_))
          subst hr37
          refine ab_rv ?_
          have hm39 : Sm M M35 := hm33.trans hc38
          have hl40 := hL.of hm39
          refine ab_aload_n 0 dX12_at_61 rfl ?_
          refine ab_callV (a := 62) (c0 := 12) (d' := d) (mc' := 0) (ms' := 0) (vs := []) (st := []) dX12_at_62 ⟨cw_X12_findWin, w_1413⟩ w_1415 w_64 (by decide) (hl40.sh 62 rfl (by decide) (by decide)).1 (hl40.sh 62 rfl (by decide) (by decide)).2 rfl rfl (Nat.le_of_ble_eq_true rfl) (Nat.le_refl _) (Nat.zero_le _) (Nat.zero_le _) (AM.mono h (fun r M41 ⟨x42, hr43, hc44, h⟩ => ?_))
          subst hr43
          refine ab_rs ?_
          have hm45 : Sm M M41 := hm39.trans hc44
          have hl46 := hL.of hm45
          refine ab_pop dX12_at_65 rfl ?_
          refine ab_aload_n 0 dX12_at_66 rfl ?_
          refine ab_getP (r := 87) dX12_at_67 fs_12_136_12 rfl (hl46.sh 62 rfl (by decide) (by decide)).1 (hl46.sh 62 rfl (by decide) (by decide)).2 (hl46.pt 85 rfl (by decide) (by decide)) ?_
          refine ab_bipush (v := 36) dX12_at_70 (by decide) ?_
          refine ab_iload_n 1 dX12_at_72 rfl ?_
          refine ab_imul dX12_at_73 ?_
          refine ab_bipush (v := 6) dX12_at_74 (by decide) ?_
          refine ab_iload_n 2 dX12_at_76 rfl ?_
          refine ab_imul dX12_at_77 ?_
          refine ab_iadd dX12_at_78 ?_
          refine ab_iload_n 3 dX12_at_79 rfl ?_
          refine ab_iadd dX12_at_80 ?_
          have hb47 := h.1
          have h := h.2
          refine ab_ialdj (j := ((((36 : Int32) * a1) + ((6 : Int32) * a2)) + a3).toNatClampNeg) dX12_at_81 (hl46.sh 87 rfl (by decide) (by decide)) hb47 rfl ?_
          exact ab_iret dX12_at_82 rfl h
        · have h := h.2 c28
          refine ab_ldcw dX12_at_48 w_1399 ?_
          exact ab_iret dX12_at_51 rfl h
      · have h := h.2 c21
        refine ab_ldcw dX12_at_37 w_1394 ?_
        exact ab_iret dX12_at_40 rfl h
theorem dX12_order_0 : decode cX12_order 0 = .ok (.aload_n 0, 1) := by decide +kernel
theorem dX12_order_1 : decode cX12_order 1 = .ok (.iload_n 1, 1) := by decide +kernel
theorem dX12_order_2 : decode cX12_order 2 = .ok (.iconst (-1), 1) := by decide +kernel
theorem dX12_order_3 : decode cX12_order 3 = .ok (.iconst 4, 1) := by decide +kernel
theorem dX12_order_4 : decode cX12_order 4 = .ok (.invokevirtual 180, 3) := by decide +kernel
theorem dX12_order_7 : decode cX12_order 7 = .ok (.ifCond .ne 7, 3) := by decide +kernel
theorem dX12_order_10 : decode cX12_order 10 = .ok (.ldc_w 331, 3) := by decide +kernel
theorem dX12_order_13 : decode cX12_order 13 = .ok (.ireturn, 1) := by decide +kernel
theorem dX12_order_14 : decode cX12_order 14 = .ok (.aload_n 0, 1) := by decide +kernel
theorem dX12_order_15 : decode cX12_order 15 = .ok (.invokevirtual 332, 3) := by decide +kernel
theorem dX12_order_18 : decode cX12_order 18 = .ok (.ifCond .ne 7, 3) := by decide +kernel
theorem dX12_order_21 : decode cX12_order 21 = .ok (.ldc_w 335, 3) := by decide +kernel
theorem dX12_order_24 : decode cX12_order 24 = .ok (.ireturn, 1) := by decide +kernel
theorem dX12_order_25 : decode cX12_order 25 = .ok (.aload_n 0, 1) := by decide +kernel
theorem dX12_order_26 : decode cX12_order 26 = .ok (.iconst 0, 1) := by decide +kernel
theorem dX12_order_27 : decode cX12_order 27 = .ok (.invokevirtual 339, 3) := by decide +kernel
theorem dX12_order_30 : decode cX12_order 30 = .ok (.iconst (-1), 1) := by decide +kernel
theorem dX12_order_31 : decode cX12_order 31 = .ok (.istore_n 2, 1) := by decide +kernel
theorem dX12_order_32 : decode cX12_order 32 = .ok (.iconst 0, 1) := by decide +kernel
theorem dX12_order_33 : decode cX12_order 33 = .ok (.istore_n 3, 1) := by decide +kernel
theorem dX12_order_34 : decode cX12_order 34 = .ok (.iload_n 3, 1) := by decide +kernel
theorem dX12_order_35 : decode cX12_order 35 = .ok (.sipush 3125, 3) := by decide +kernel
theorem dX12_order_38 : decode cX12_order 38 = .ok (.if_icmp .ge 117, 3) := by decide +kernel
theorem dX12_order_41 : decode cX12_order 41 = .ok (.iload_n 3, 1) := by decide +kernel
theorem dX12_order_42 : decode cX12_order 42 = .ok (.istore 4, 2) := by decide +kernel
theorem dX12_order_44 : decode cX12_order 44 = .ok (.iconst 0, 1) := by decide +kernel
theorem dX12_order_45 : decode cX12_order 45 = .ok (.istore 5, 2) := by decide +kernel
theorem dX12_order_47 : decode cX12_order 47 = .ok (.iconst 4, 1) := by decide +kernel
theorem dX12_order_48 : decode cX12_order 48 = .ok (.istore 6, 2) := by decide +kernel
theorem dX12_order_50 : decode cX12_order 50 = .ok (.iload 6, 2) := by decide +kernel
theorem dX12_order_52 : decode cX12_order 52 = .ok (.ifCond .lt 40, 3) := by decide +kernel
theorem dX12_order_55 : decode cX12_order 55 = .ok (.aload_n 0, 1) := by decide +kernel
theorem dX12_order_56 : decode cX12_order 56 = .ok (.getfield 130, 3) := by decide +kernel
theorem dX12_order_59 : decode cX12_order 59 = .ok (.iload 6, 2) := by decide +kernel
theorem dX12_order_61 : decode cX12_order 61 = .ok (.iload 4, 2) := by decide +kernel
theorem dX12_order_63 : decode cX12_order 63 = .ok (.iconst 5, 1) := by decide +kernel
theorem dX12_order_64 : decode cX12_order 64 = .ok (.irem, 1) := by decide +kernel
theorem dX12_order_65 : decode cX12_order 65 = .ok (.iastore, 1) := by decide +kernel
theorem dX12_order_66 : decode cX12_order 66 = .ok (.iload 4, 2) := by decide +kernel
theorem dX12_order_68 : decode cX12_order 68 = .ok (.iconst 5, 1) := by decide +kernel
theorem dX12_order_69 : decode cX12_order 69 = .ok (.idiv, 1) := by decide +kernel
theorem dX12_order_70 : decode cX12_order 70 = .ok (.istore 4, 2) := by decide +kernel
theorem dX12_order_72 : decode cX12_order 72 = .ok (.iload 5, 2) := by decide +kernel
theorem dX12_order_74 : decode cX12_order 74 = .ok (.iconst 1, 1) := by decide +kernel
theorem dX12_order_75 : decode cX12_order 75 = .ok (.aload_n 0, 1) := by decide +kernel
theorem dX12_order_76 : decode cX12_order 76 = .ok (.getfield 130, 3) := by decide +kernel
theorem dX12_order_79 : decode cX12_order 79 = .ok (.iload 6, 2) := by decide +kernel
theorem dX12_order_81 : decode cX12_order 81 = .ok (.iaload, 1) := by decide +kernel
theorem dX12_order_82 : decode cX12_order 82 = .ok (.ishl, 1) := by decide +kernel
theorem dX12_order_83 : decode cX12_order 83 = .ok (.ior, 1) := by decide +kernel
theorem dX12_order_84 : decode cX12_order 84 = .ok (.istore 5, 2) := by decide +kernel
theorem dX12_order_86 : decode cX12_order 86 = .ok (.iinc 6 (-1), 3) := by decide +kernel
theorem dX12_order_89 : decode cX12_order 89 = .ok (.goto (-39), 3) := by decide +kernel
theorem dX12_order_92 : decode cX12_order 92 = .ok (.iload 5, 2) := by decide +kernel
theorem dX12_order_94 : decode cX12_order 94 = .ok (.bipush 31, 2) := by decide +kernel
theorem dX12_order_96 : decode cX12_order 96 = .ok (.if_icmp .eq 6, 3) := by decide +kernel
theorem dX12_order_99 : decode cX12_order 99 = .ok (.goto 50, 3) := by decide +kernel
theorem dX12_order_102 : decode cX12_order 102 = .ok (.aload_n 0, 1) := by decide +kernel
theorem dX12_order_103 : decode cX12_order 103 = .ok (.invokevirtual 342, 3) := by decide +kernel
theorem dX12_order_106 : decode cX12_order 106 = .ok (.istore 6, 2) := by decide +kernel
theorem dX12_order_108 : decode cX12_order 108 = .ok (.iload 6, 2) := by decide +kernel
theorem dX12_order_110 : decode cX12_order 110 = .ok (.iload_n 2, 1) := by decide +kernel
theorem dX12_order_111 : decode cX12_order 111 = .ok (.if_icmp .gt 6, 3) := by decide +kernel
theorem dX12_order_114 : decode cX12_order 114 = .ok (.goto 35, 3) := by decide +kernel
theorem dX12_order_117 : decode cX12_order 117 = .ok (.iload 6, 2) := by decide +kernel
theorem dX12_order_119 : decode cX12_order 119 = .ok (.istore_n 2, 1) := by decide +kernel
theorem dX12_order_120 : decode cX12_order 120 = .ok (.iconst 0, 1) := by decide +kernel
theorem dX12_order_121 : decode cX12_order 121 = .ok (.istore 7, 2) := by decide +kernel
theorem dX12_order_123 : decode cX12_order 123 = .ok (.iload 7, 2) := by decide +kernel
theorem dX12_order_125 : decode cX12_order 125 = .ok (.iconst 5, 1) := by decide +kernel
theorem dX12_order_126 : decode cX12_order 126 = .ok (.if_icmp .ge 23, 3) := by decide +kernel
theorem dX12_order_129 : decode cX12_order 129 = .ok (.aload_n 0, 1) := by decide +kernel
theorem dX12_order_130 : decode cX12_order 130 = .ok (.getfield 133, 3) := by decide +kernel
theorem dX12_order_133 : decode cX12_order 133 = .ok (.iload 7, 2) := by decide +kernel
theorem dX12_order_135 : decode cX12_order 135 = .ok (.aload_n 0, 1) := by decide +kernel
theorem dX12_order_136 : decode cX12_order 136 = .ok (.getfield 130, 3) := by decide +kernel
theorem dX12_order_139 : decode cX12_order 139 = .ok (.iload 7, 2) := by decide +kernel
theorem dX12_order_141 : decode cX12_order 141 = .ok (.iaload, 1) := by decide +kernel
theorem dX12_order_142 : decode cX12_order 142 = .ok (.iastore, 1) := by decide +kernel
theorem dX12_order_143 : decode cX12_order 143 = .ok (.iinc 7 1, 3) := by decide +kernel
theorem dX12_order_146 : decode cX12_order 146 = .ok (.goto (-23), 3) := by decide +kernel
theorem dX12_order_149 : decode cX12_order 149 = .ok (.iinc 3 1, 3) := by decide +kernel
theorem dX12_order_152 : decode cX12_order 152 = .ok (.goto (-118), 3) := by decide +kernel
theorem dX12_order_155 : decode cX12_order 155 = .ok (.iload_n 1, 1) := by decide +kernel
theorem dX12_order_156 : decode cX12_order 156 = .ok (.ifCond .ge 7, 3) := by decide +kernel
theorem dX12_order_159 : decode cX12_order 159 = .ok (.iload_n 2, 1) := by decide +kernel
theorem dX12_order_160 : decode cX12_order 160 = .ok (.goto 9, 3) := by decide +kernel
theorem dX12_order_163 : decode cX12_order 163 = .ok (.aload_n 0, 1) := by decide +kernel
theorem dX12_order_164 : decode cX12_order 164 = .ok (.getfield 133, 3) := by decide +kernel
theorem dX12_order_167 : decode cX12_order 167 = .ok (.iload_n 1, 1) := by decide +kernel
theorem dX12_order_168 : decode cX12_order 168 = .ok (.iaload, 1) := by decide +kernel
theorem dX12_order_169 : decode cX12_order 169 = .ok (.ireturn, 1) := by decide +kernel
def LX12_order_34 (D : GD) (d : Nat) (v1 : Int32) (v2 : Int32) (v3 : Int32) (M : Mm) (post : Option Value → Mm → Prop) : Prop := AW D (d + 1) 0 0 mX12_order 0 0 34 [(0, .ref 62), (1, .int v1), (2, .int v2), (3, .int v3)] [] M post
def LX12_order_50 (D : GD) (d : Nat) (v1 : Int32) (v2 : Int32) (v3 : Int32) (v4 : Int32) (v5 : Int32) (v6 : Int32) (M : Mm) (post : Option Value → Mm → Prop) : Prop := AW D (d + 1) 0 0 mX12_order 0 0 50 [(0, .ref 62), (1, .int v1), (2, .int v2), (3, .int v3), (4, .int v4), (5, .int v5), (6, .int v6)] [] M post
def LX12_order_123 (D : GD) (d : Nat) (v1 : Int32) (v2 : Int32) (v3 : Int32) (v7 : Int32) (M : Mm) (post : Option Value → Mm → Prop) : Prop := AW D (d + 1) 0 0 mX12_order 0 0 123 [(0, .ref 62), (1, .int v1), (2, .int v2), (3, .int v3), (7, .int v7)] [] M post
set_option maxRecDepth 20000 in
theorem rX12_order (D : GD) (d : Nat) (a1 : Int32) (M : Mm) (post : Option Value → Mm → Prop) (hL : Lay 62 98 M) 
    (h : AMi D d mX12_in [.ref 62, .int a1, .int (-1 : Int32), .int (4 : Int32)] M (fun x2 M1 => ((¬ x2 = 0 → AMi D d mX12_areTeams [.ref 62] M1 (fun x9 M8 => ((¬ x9 = 0 → AMv D d mX12_layChances [.ref 62, .int (0 : Int32)] M8 (fun M15 => LX12_order_34 D d a1 (-1 : Int32) (0 : Int32) M15 post)) ∧ (x9 = 0 → post (some (.int (-1000002 : Int32))) M8)))) ∧ (x2 = 0 → post (some (.int (-1000001 : Int32))) M1)))) :
    AM D (d + 1) 0 0 mX12_order [.ref 62, .int a1] M post := by
  refine AM.of (by decide) (Nat.le_of_ble_eq_true rfl) ?_
  show AW D (d + 1) 0 0 mX12_order 0 0 0 [(0, .ref 62), (1, .int a1)] [] M post
  refine ab_aload_n 0 dX12_order_0 rfl ?_
  refine ab_iload_n 1 dX12_order_1 rfl ?_
  refine ab_iconst (v := (-1)) dX12_order_2 (by decide) ?_
  refine ab_iconst (v := 4) dX12_order_3 (by decide) ?_
  refine ab_callV (a := 62) (c0 := 12) (d' := d) (mc' := 0) (ms' := 0) (vs := [.int a1, .int (-1 : Int32), .int (4 : Int32)]) (st := []) dX12_order_4 ⟨cw_X12_in, w_1170⟩ w_1172 w_23 (by decide) (hL.sh 62 rfl (by decide) (by decide)).1 (hL.sh 62 rfl (by decide) (by decide)).2 rfl rfl (Nat.le_of_ble_eq_true rfl) (Nat.le_refl _) (Nat.zero_le _) (Nat.zero_le _) (AM.mono h (fun r M1 ⟨x2, hr3, hc4, h⟩ => ?_))
  subst hr3
  refine ab_rs ?_
  have hm5 : Sm M M1 := (Sm.refl M).trans hc4
  have hl6 := hL.of hm5
  refine ab_if_ne (tgt := 14) dX12_order_7 (by decide) (fun c7 => ?_) (fun c7 => ?_)
  · have h := h.1 c7
    refine ab_aload_n 0 dX12_order_14 rfl ?_
    refine ab_callV (a := 62) (c0 := 12) (d' := d) (mc' := 0) (ms' := 0) (vs := []) (st := []) dX12_order_15 ⟨cw_X12_areTeams, w_1395⟩ w_1397 w_60 (by decide) (hl6.sh 62 rfl (by decide) (by decide)).1 (hl6.sh 62 rfl (by decide) (by decide)).2 rfl rfl (Nat.le_of_ble_eq_true rfl) (Nat.le_refl _) (Nat.zero_le _) (Nat.zero_le _) (AM.mono h (fun r M8 ⟨x9, hr10, hc11, h⟩ => ?_))
    subst hr10
    refine ab_rs ?_
    have hm12 : Sm M M8 := hm5.trans hc11
    have hl13 := hL.of hm12
    refine ab_if_ne (tgt := 25) dX12_order_18 (by decide) (fun c14 => ?_) (fun c14 => ?_)
    · have h := h.1 c14
      refine ab_aload_n 0 dX12_order_25 rfl ?_
      refine ab_iconst (v := 0) dX12_order_26 (by decide) ?_
      refine ab_callV (a := 62) (c0 := 12) (d' := d) (mc' := 0) (ms' := 0) (vs := [.int (0 : Int32)]) (st := []) dX12_order_27 ⟨cw_X12_layChances, w_1404⟩ w_1406 w_62 (by decide) (hl13.sh 62 rfl (by decide) (by decide)).1 (hl13.sh 62 rfl (by decide) (by decide)).2 rfl rfl (Nat.le_of_ble_eq_true rfl) (Nat.le_refl _) (Nat.zero_le _) (Nat.zero_le _) (AM.mono h (fun r M15 ⟨hr17, hc18, h⟩ => ?_))
      subst hr17
      refine ab_rv ?_
      have hm19 : Sm M M15 := hm12.trans hc18
      have hl20 := hL.of hm19
      refine ab_iconst (v := (-1)) dX12_order_30 (by decide) ?_
      refine ab_istore_n (lv1 := [(2, .int (-1 : Int32)), (0, .ref 62), (1, .int a1)]) dX12_order_31 (by decide) rfl ?_
      refine ab_iconst (v := 0) dX12_order_32 (by decide) ?_
      refine ab_istore_n (lv1 := [(3, .int (0 : Int32)), (2, .int (-1 : Int32)), (0, .ref 62), (1, .int a1)]) dX12_order_33 (by decide) rfl ?_
      exact ab_sub [2, 3, 1, 0] rfl h
    · have h := h.2 c14
      refine ab_ldcw dX12_order_21 w_1399 ?_
      exact ab_iret dX12_order_24 rfl h
  · have h := h.2 c7
    refine ab_ldcw dX12_order_10 w_1394 ?_
    exact ab_iret dX12_order_13 rfl h
set_option maxRecDepth 20000 in
theorem rX12_order_34 (D : GD) (d : Nat)  (v1 : Int32) (v2 : Int32) (v3 : Int32) (M : Mm) (post : Option Value → Mm → Prop) (hL : Lay 62 98 M) 
    (h : (((3125 : Int32) ≤ v3 → ((0 ≤ v1 → vp_in v1 5 ∧ post (some (.int (gI M 86 v1.toNatClampNeg))) M) ∧ (¬ 0 ≤ v1 → post (some (.int v2)) M))) ∧ (¬ (3125 : Int32) ≤ v3 → LX12_order_50 D d v1 v2 v3 v3 (0 : Int32) (4 : Int32) M post))) :
    LX12_order_34 D d v1 v2 v3 M post := by
  show AW D (d + 1) 0 0 mX12_order 0 0 34 [(0, .ref 62), (1, .int v1), (2, .int v2), (3, .int v3)] [] M post
  refine ab_iload_n 3 dX12_order_34 rfl ?_
  refine ab_sipush (v := 3125) dX12_order_35 (by decide) ?_
  refine ab_icmp_ge (tgt := 155) dX12_order_38 (by decide) (fun c1 => ?_) (fun c1 => ?_)
  · have h := h.1 c1
    refine ab_iload_n 1 dX12_order_155 rfl ?_
    refine ab_if_ge (tgt := 163) dX12_order_156 (by decide) (fun c2 => ?_) (fun c2 => ?_)
    · have h := h.1 c2
      refine ab_aload_n 0 dX12_order_163 rfl ?_
      refine ab_getP (r := 86) dX12_order_164 fs_12_133_12 rfl (hL.sh 62 rfl (by decide) (by decide)).1 (hL.sh 62 rfl (by decide) (by decide)).2 (hL.pt 84 rfl (by decide) (by decide)) ?_
      refine ab_iload_n 1 dX12_order_167 rfl ?_
      have hb3 := h.1
      have h := h.2
      refine ab_ialdj (j := v1.toNatClampNeg) dX12_order_168 (hL.sh 86 rfl (by decide) (by decide)) hb3 rfl ?_
      exact ab_iret dX12_order_169 rfl h
    · have h := h.2 c2
      refine ab_iload_n 2 dX12_order_159 rfl ?_
      refine ab_goto (tgt := 169) dX12_order_160 (by decide) ?_
      exact ab_iret dX12_order_169 rfl h
  · have h := h.2 c1
    refine ab_iload_n 3 dX12_order_41 rfl ?_
    refine ab_istore (lv1 := [(4, .int v3), (0, .ref 62), (1, .int v1), (2, .int v2), (3, .int v3)]) dX12_order_42 (by decide) rfl ?_
    refine ab_iconst (v := 0) dX12_order_44 (by decide) ?_
    refine ab_istore (lv1 := [(5, .int (0 : Int32)), (4, .int v3), (0, .ref 62), (1, .int v1), (2, .int v2), (3, .int v3)]) dX12_order_45 (by decide) rfl ?_
    refine ab_iconst (v := 4) dX12_order_47 (by decide) ?_
    refine ab_istore (lv1 := [(6, .int (4 : Int32)), (5, .int (0 : Int32)), (4, .int v3), (0, .ref 62), (1, .int v1), (2, .int v2), (3, .int v3)]) dX12_order_48 (by decide) rfl ?_
    exact ab_sub [3, 4, 5, 6, 2, 1, 0] rfl h
set_option maxRecDepth 20000 in
theorem rX12_order_50 (D : GD) (d : Nat)  (v1 : Int32) (v2 : Int32) (v3 : Int32) (v4 : Int32) (v5 : Int32) (v6 : Int32) (M : Mm) (post : Option Value → Mm → Prop) (hL : Lay 62 98 M) 
    (h : ((v6 < 0 → ((v5 = (31 : Int32) → AMi D d mX12_findWin [.ref 62] M (fun x4 M3 => ((v2 < x4 → LX12_order_123 D d v1 x4 v3 (0 : Int32) M3 post) ∧ (¬ v2 < x4 → ∀ x10 : Int32, x10 = v3 + (1 : Int32) → LX12_order_34 D d v1 v2 x10 M3 post)))) ∧ (¬ v5 = (31 : Int32) → ∀ x11 : Int32, x11 = v3 + (1 : Int32) → LX12_order_34 D d v1 v2 x11 M post))) ∧ (¬ v6 < 0 → vp_in v6 5 ∧ ∀ M13 : Mm, M13 = sI M 85 v6.toNatClampNeg (v4 - v4 / (5 : Int32) * (5 : Int32)) → ∀ x17 : Int32, x17 = (v4 / (5 : Int32)) → ∀ x18 : Int32, x18 = (v5 ||| ((1 : Int32) <<< ((gI M13 85 v6.toNatClampNeg) &&& 31))) → ∀ x19 : Int32, x19 = v6 + (-1 : Int32) → LX12_order_50 D d v1 v2 v3 x17 x18 x19 M13 post))) :
    LX12_order_50 D d v1 v2 v3 v4 v5 v6 M post := by
  show AW D (d + 1) 0 0 mX12_order 0 0 50 [(0, .ref 62), (1, .int v1), (2, .int v2), (3, .int v3), (4, .int v4), (5, .int v5), (6, .int v6)] [] M post
  refine ab_iload 6 dX12_order_50 rfl ?_
  refine ab_if_lt (tgt := 92) dX12_order_52 (by decide) (fun c1 => ?_) (fun c1 => ?_)
  · have h := h.1 c1
    refine ab_iload 5 dX12_order_92 rfl ?_
    refine ab_bipush (v := 31) dX12_order_94 (by decide) ?_
    refine ab_icmp_eq (tgt := 102) dX12_order_96 (by decide) (fun c2 => ?_) (fun c2 => ?_)
    · have h := h.1 c2
      refine ab_aload_n 0 dX12_order_102 rfl ?_
      refine ab_callV (a := 62) (c0 := 12) (d' := d) (mc' := 0) (ms' := 0) (vs := []) (st := []) dX12_order_103 ⟨cw_X12_findWin, w_1413⟩ w_1415 w_64 (by decide) (hL.sh 62 rfl (by decide) (by decide)).1 (hL.sh 62 rfl (by decide) (by decide)).2 rfl rfl (Nat.le_of_ble_eq_true rfl) (Nat.le_refl _) (Nat.zero_le _) (Nat.zero_le _) (AM.mono h (fun r M3 ⟨x4, hr5, hc6, h⟩ => ?_))
      subst hr5
      refine ab_rs ?_
      have hm7 : Sm M M3 := (Sm.refl M).trans hc6
      have hl8 := hL.of hm7
      refine ab_istore (lv1 := [(6, .int x4), (0, .ref 62), (1, .int v1), (2, .int v2), (3, .int v3), (4, .int v4), (5, .int v5)]) dX12_order_106 (by decide) rfl ?_
      refine ab_iload 0 dX12_order_108 rfl ?_
      refine ab_iload_n 3 dX12_order_110 rfl ?_
      refine ab_icmp_gt (tgt := 117) dX12_order_111 (by decide) (fun c9 => ?_) (fun c9 => ?_)
      · have h := h.1 c9
        refine ab_iload 0 dX12_order_117 rfl ?_
        refine ab_istore_n (lv1 := [(2, .int x4), (6, .int x4), (0, .ref 62), (1, .int v1), (3, .int v3), (4, .int v4), (5, .int v5)]) dX12_order_119 (by decide) rfl ?_
        refine ab_iconst (v := 0) dX12_order_120 (by decide) ?_
        refine ab_istore (lv1 := [(7, .int (0 : Int32)), (2, .int x4), (6, .int x4), (0, .ref 62), (1, .int v1), (3, .int v3), (4, .int v4), (5, .int v5)]) dX12_order_121 (by decide) rfl ?_
        exact ab_sub [3, 4, 1, 5, 0] rfl h
      · have h := h.2 c9
        refine ab_goto (tgt := 149) dX12_order_114 (by decide) ?_
        obtain ⟨x10, hx10⟩ : ∃ y : Int32, y = v3 + (1 : Int32) := ⟨_, rfl⟩
        have h := h x10 hx10
        refine ab_iinc (v := x10) 4 (lv1 := [(3, .int x10), (6, .int x4), (0, .ref 62), (1, .int v1), (2, .int v2), (4, .int v4), (5, .int v5)]) dX12_order_149 rfl (by rw [hx10]; rfl) (by decide) rfl ?_
        refine ab_goto (tgt := 34) dX12_order_152 (by decide) ?_
        exact ab_sub [2, 3, 4, 0] rfl h
    · have h := h.2 c2
      refine ab_goto (tgt := 149) dX12_order_99 (by decide) ?_
      obtain ⟨x11, hx11⟩ : ∃ y : Int32, y = v3 + (1 : Int32) := ⟨_, rfl⟩
      have h := h x11 hx11
      refine ab_iinc (v := x11) 3 (lv1 := [(3, .int x11), (0, .ref 62), (1, .int v1), (2, .int v2), (4, .int v4), (5, .int v5), (6, .int v6)]) dX12_order_149 rfl (by rw [hx11]; rfl) (by decide) rfl ?_
      refine ab_goto (tgt := 34) dX12_order_152 (by decide) ?_
      exact ab_sub [1, 2, 3, 0] rfl h
  · have h := h.2 c1
    refine ab_aload_n 0 dX12_order_55 rfl ?_
    refine ab_getP (r := 85) dX12_order_56 fs_12_130_12 rfl (hL.sh 62 rfl (by decide) (by decide)).1 (hL.sh 62 rfl (by decide) (by decide)).2 (hL.pt 83 rfl (by decide) (by decide)) ?_
    refine ab_iload 6 dX12_order_59 rfl ?_
    refine ab_iload 4 dX12_order_61 rfl ?_
    refine ab_iconst (v := 5) dX12_order_63 (by decide) ?_
    refine ab_irem dX12_order_64 (by decide) ?_
    have hb12 := h.1
    have h := h.2
    refine ab_iastj (j := v6.toNatClampNeg) dX12_order_65 (hL.sh 85 rfl (by decide) (by decide)) hb12 rfl ?_
    refine ab_nameM (fun M13 hM13 => ?_)
    have h := h M13 hM13
    have hs16 : Sm M M13 := hM13 ▸ (Sm.refl _).i
    have hm14 : Sm M M13 := (Sm.refl M).trans hs16
    have hl15 := hL.of hm14
    refine ab_iload 4 dX12_order_66 rfl ?_
    refine ab_iconst (v := 5) dX12_order_68 (by decide) ?_
    refine ab_idiv dX12_order_69 (by decide) ?_
    refine ab_topi (fun x17 hx17 => ?_)
    have h := h x17 hx17
    refine ab_istore (lv1 := [(4, .int x17), (0, .ref 62), (1, .int v1), (2, .int v2), (3, .int v3), (5, .int v5), (6, .int v6)]) dX12_order_70 (by decide) rfl ?_
    refine ab_iload 5 dX12_order_72 rfl ?_
    refine ab_iconst (v := 1) dX12_order_74 (by decide) ?_
    refine ab_aload_n 1 dX12_order_75 rfl ?_
    refine ab_getP (r := 85) dX12_order_76 fs_12_130_12 rfl (hl15.sh 62 rfl (by decide) (by decide)).1 (hl15.sh 62 rfl (by decide) (by decide)).2 (hl15.pt 83 rfl (by decide) (by decide)) ?_
    refine ab_iload 6 dX12_order_79 rfl ?_
    refine ab_ialdj (j := v6.toNatClampNeg) dX12_order_81 (hl15.sh 85 rfl (by decide) (by decide)) hb12 rfl ?_
    refine ab_ishl dX12_order_82 ?_
    refine ab_ior dX12_order_83 ?_
    refine ab_topi (fun x18 hx18 => ?_)
    have h := h x18 hx18
    refine ab_istore (lv1 := [(5, .int x18), (4, .int x17), (0, .ref 62), (1, .int v1), (2, .int v2), (3, .int v3), (6, .int v6)]) dX12_order_84 (by decide) rfl ?_
    obtain ⟨x19, hx19⟩ : ∃ y : Int32, y = v6 + (-1 : Int32) := ⟨_, rfl⟩
    have h := h x19 hx19
    refine ab_iinc (v := x19) 6 (lv1 := [(6, .int x19), (5, .int x18), (4, .int x17), (0, .ref 62), (1, .int v1), (2, .int v2), (3, .int v3)]) dX12_order_86 rfl (by rw [hx19]; rfl) (by decide) rfl ?_
    refine ab_goto (tgt := 50) dX12_order_89 (by decide) ?_
    exact ab_sub [3, 4, 5, 6, 2, 1, 0] rfl h
set_option maxRecDepth 20000 in
theorem rX12_order_123 (D : GD) (d : Nat)  (v1 : Int32) (v2 : Int32) (v3 : Int32) (v7 : Int32) (M : Mm) (post : Option Value → Mm → Prop) (hL : Lay 62 98 M) 
    (h : (((5 : Int32) ≤ v7 → ∀ x2 : Int32, x2 = v3 + (1 : Int32) → LX12_order_34 D d v1 v2 x2 M post) ∧ (¬ (5 : Int32) ≤ v7 → vp_in v7 5 ∧ ∀ M4 : Mm, M4 = sI M 86 v7.toNatClampNeg (gI M 85 v7.toNatClampNeg) → ∀ x8 : Int32, x8 = v7 + (1 : Int32) → LX12_order_123 D d v1 v2 v3 x8 M4 post))) :
    LX12_order_123 D d v1 v2 v3 v7 M post := by
  show AW D (d + 1) 0 0 mX12_order 0 0 123 [(0, .ref 62), (1, .int v1), (2, .int v2), (3, .int v3), (7, .int v7)] [] M post
  refine ab_iload 4 dX12_order_123 rfl ?_
  refine ab_iconst (v := 5) dX12_order_125 (by decide) ?_
  refine ab_icmp_ge (tgt := 149) dX12_order_126 (by decide) (fun c1 => ?_) (fun c1 => ?_)
  · have h := h.1 c1
    obtain ⟨x2, hx2⟩ : ∃ y : Int32, y = v3 + (1 : Int32) := ⟨_, rfl⟩
    have h := h x2 hx2
    refine ab_iinc (v := x2) 3 (lv1 := [(3, .int x2), (0, .ref 62), (1, .int v1), (2, .int v2), (7, .int v7)]) dX12_order_149 rfl (by rw [hx2]; rfl) (by decide) rfl ?_
    refine ab_goto (tgt := 34) dX12_order_152 (by decide) ?_
    exact ab_sub [1, 2, 3, 0] rfl h
  · have h := h.2 c1
    refine ab_aload_n 0 dX12_order_129 rfl ?_
    refine ab_getP (r := 86) dX12_order_130 fs_12_133_12 rfl (hL.sh 62 rfl (by decide) (by decide)).1 (hL.sh 62 rfl (by decide) (by decide)).2 (hL.pt 84 rfl (by decide) (by decide)) ?_
    refine ab_iload 4 dX12_order_133 rfl ?_
    refine ab_aload_n 0 dX12_order_135 rfl ?_
    refine ab_getP (r := 85) dX12_order_136 fs_12_130_12 rfl (hL.sh 62 rfl (by decide) (by decide)).1 (hL.sh 62 rfl (by decide) (by decide)).2 (hL.pt 83 rfl (by decide) (by decide)) ?_
    refine ab_iload 4 dX12_order_139 rfl ?_
    have hb3 := h.1
    have h := h.2
    refine ab_ialdj (j := v7.toNatClampNeg) dX12_order_141 (hL.sh 85 rfl (by decide) (by decide)) hb3 rfl ?_
    refine ab_iastj (j := v7.toNatClampNeg) dX12_order_142 (hL.sh 86 rfl (by decide) (by decide)) hb3 rfl ?_
    refine ab_nameM (fun M4 hM4 => ?_)
    have h := h M4 hM4
    have hs7 : Sm M M4 := hM4 ▸ (Sm.refl _).i
    have hm5 : Sm M M4 := (Sm.refl M).trans hs7
    have hl6 := hL.of hm5
    obtain ⟨x8, hx8⟩ : ∃ y : Int32, y = v7 + (1 : Int32) := ⟨_, rfl⟩
    have h := h x8 hx8
    refine ab_iinc (v := x8) 4 (lv1 := [(7, .int x8), (0, .ref 62), (1, .int v1), (2, .int v2), (3, .int v3)]) dX12_order_143 rfl (by rw [hx8]; rfl) (by decide) rfl ?_
    refine ab_goto (tgt := 123) dX12_order_146 (by decide) ?_
    exact ab_sub [1, 2, 3, 4, 0] rfl h
