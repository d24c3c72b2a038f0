
theorem pl_nF {c : Nat} (h : plc c) : 5 < nF c := by rcases h with rfl | rfl | rfl | rfl | rfl | rfl | rfl <;> decide
theorem pl_fk5 {c : Nat} (h : plc c) : fk c 5 = 2 := by rcases h with rfl | rfl | rfl | rfl | rfl | rfl | rfl <;> rfl
theorem pl_nest {c : Nat} (h : plc c) : Cond.fieldLinkNest RX0 134 (Tn c 5).1 (Tn c 5).2.1 (Tn c 5).2.2.1 RX11 ∈ lw_tbl := by rcases h with rfl | rfl | rfl | rfl | rfl | rfl | rfl <;> exact w_478
section
variable {D : GD} {d mc ms : Nat} {u : MD} {kc ks pc : Nat} {lv : List (Nat × Value)} {st : List Value} {M : Mm} {post : Option Value → Mm → Prop}
theorem rh_x (j : Nat) : rh D (1000000 + j) = D.2.2.2.2.1 j := by
  unfold rh
  rw [if_neg (by omega), Nat.add_sub_cancel_left]
/-- a call of a text's own method -/
theorem ab_callT {i n d' j : Nat} {u' : MD} {vs stk : List Value} (hd : decode u.2.1 pc = .ok (.invokevirtual i, 3)) (cb : CB u.1.cls i u' n) (hi : Cond.instanceMethod u'.1 ∈ lw_tbl) (hse : Cond.selects "java/lang/String" u'.1 u'.1 ∈ lw_tbl) (hj : j < 7) (hn : vs.length = n) (hstk : stk = vs.reverse ++ .ref (1000000 + j) :: st) (hcat : (st.map fun v => v.category).sum ≤ 8) (hdd : d' + 1 ≤ d)
    (h : AM D d' 0 0 u' (.ref (1000000 + j) :: vs) M (fun r M1 => AW D d mc ms u (kc - 0) (ks - 0) (pc + 3) lv (r.toList ++ st) M1 post)) : AW D d mc ms u kc ks pc lv stk M post := by
  subst hstk
  intro p e s m args below meth c H locs ls cells slots B h1 h2 hR hS hl
  have hrc := vk_recv (i := j) B.2.2.2.2.2.2.2.2.1.2.2.2.2.1 hj hS
  rw [← rh_x] at hrc
  refine ab_after (va_runV (C := "java/lang/String") (b := rh D (1000000 + j)) (As := vs.map (cv D)) (rest := st.map (cv D)) (n := n) ⟨B.1, B.2.1, B.2.2.2.1, B.own, B.tb.all args⟩ h ⟨cb.use hdd B.tb, B.tb.use hi rfl args, B.tb.use hse rfl args⟩ ⟨Pp.blind, hrc, Pp.pre B hR hS⟩ rfl (by simp [hn]) hl.1 (rev_map vs) (cat_room hcat) hd ⟨by show cells + 0 ≤ mc; omega, by show slots + 0 ≤ ms; omega⟩) hS (fun r M1 H1 locs1 hp hR1 hS1 => ?_)
  rw [st_map]
  exact hp p e s m args below meth c H1 locs1 ls (cells + 0) (slots + 0) B (by omega) (by omega) hR1 hS1 hl
end
abbrev mJ0_length_8abf5 : MD := (yJ0_length_8abf5, cJ0_length_8abf5, 1, (some .int))
theorem cw_J0_length_8abf5 : CW mJ0_length_8abf5 0 := ⟨w_358, w_87, ⟨by decide, by decide⟩, by decide +kernel, by decide⟩
theorem dJ0_length_8abf5_0 : decode cJ0_length_8abf5 0 = .ok (.aload_n 0, 1) := by decide +kernel
theorem dJ0_length_8abf5_1 : decode cJ0_length_8abf5 1 = .ok (.getfield 9, 3) := by decide +kernel
theorem dJ0_length_8abf5_4 : decode cJ0_length_8abf5 4 = .ok (.arraylength, 1) := by decide +kernel
theorem dJ0_length_8abf5_5 : decode cJ0_length_8abf5 5 = .ok (.aload_n 0, 1) := by decide +kernel
theorem dJ0_length_8abf5_6 : decode cJ0_length_8abf5 6 = .ok (.invokevirtual 335, 3) := by decide +kernel
theorem dJ0_length_8abf5_9 : decode cJ0_length_8abf5 9 = .ok (.ishr, 1) := by decide +kernel
theorem dJ0_length_8abf5_10 : decode cJ0_length_8abf5 10 = .ok (.ireturn, 1) := by decide +kernel
abbrev mJ0_charAt_5068e : MD := (yJ0_charAt_5068e, cJ0_charAt_5068e, 2, (some .char))
theorem cw_J0_charAt_5068e : CW mJ0_charAt_5068e 1 := ⟨w_368, w_87, ⟨by decide, by decide⟩, by decide +kernel, by decide⟩
theorem dJ0_charAt_5068e_0 : decode cJ0_charAt_5068e 0 = .ok (.aload_n 0, 1) := by decide +kernel
theorem dJ0_charAt_5068e_1 : decode cJ0_charAt_5068e 1 = .ok (.invokevirtual 492, 3) := by decide +kernel
theorem dJ0_charAt_5068e_4 : decode cJ0_charAt_5068e 4 = .ok (.ifCond .eq 12, 3) := by decide +kernel
theorem dJ0_charAt_5068e_7 : decode cJ0_charAt_5068e 7 = .ok (.aload_n 0, 1) := by decide +kernel
theorem dJ0_charAt_5068e_8 : decode cJ0_charAt_5068e 8 = .ok (.getfield 9, 3) := by decide +kernel
theorem dJ0_charAt_5068e_11 : decode cJ0_charAt_5068e 11 = .ok (.iload_n 1, 1) := by decide +kernel
theorem dJ0_charAt_5068e_12 : decode cJ0_charAt_5068e 12 = .ok (.invokestatic 495, 3) := by decide +kernel
theorem dJ0_charAt_5068e_15 : decode cJ0_charAt_5068e 15 = .ok (.ireturn, 1) := by decide +kernel
theorem dJ0_charAt_5068e_16 : decode cJ0_charAt_5068e 16 = .ok (.aload_n 0, 1) := by decide +kernel
theorem dJ0_charAt_5068e_17 : decode cJ0_charAt_5068e 17 = .ok (.getfield 9, 3) := by decide +kernel
theorem dJ0_charAt_5068e_20 : decode cJ0_charAt_5068e 20 = .ok (.iload_n 1, 1) := by decide +kernel
theorem dJ0_charAt_5068e_21 : decode cJ0_charAt_5068e 21 = .ok (.invokestatic 498, 3) := by decide +kernel
theorem dJ0_charAt_5068e_24 : decode cJ0_charAt_5068e 24 = .ok (.ireturn, 1) := by decide +kernel
abbrev mJ0_coder_7d493 : MD := (yJ0_coder_7d493, cJ0_coder_7d493, 1, (some .byte))
theorem cw_J0_coder_7d493 : CW mJ0_coder_7d493 0 := ⟨w_362, w_87, ⟨by decide, by decide⟩, by decide +kernel, by decide⟩
theorem dJ0_coder_7d493_0 : decode cJ0_coder_7d493 0 = .ok (.getstatic 38, 3) := by decide +kernel
theorem dJ0_coder_7d493_3 : decode cJ0_coder_7d493 3 = .ok (.ifCond .eq 10, 3) := by decide +kernel
theorem dJ0_coder_7d493_6 : decode cJ0_coder_7d493 6 = .ok (.aload_n 0, 1) := by decide +kernel
theorem dJ0_coder_7d493_7 : decode cJ0_coder_7d493 7 = .ok (.getfield 15, 3) := by decide +kernel
theorem dJ0_coder_7d493_10 : decode cJ0_coder_7d493 10 = .ok (.goto 4, 3) := by decide +kernel
theorem dJ0_coder_7d493_13 : decode cJ0_coder_7d493 13 = .ok (.iconst 1, 1) := by decide +kernel
theorem dJ0_coder_7d493_14 : decode cJ0_coder_7d493 14 = .ok (.ireturn, 1) := by decide +kernel
abbrev mJ0_isLatin1_aae02 : MD := (yJ0_isLatin1_aae02, cJ0_isLatin1_aae02, 1, (some .boolean))
theorem cw_J0_isLatin1_aae02 : CW mJ0_isLatin1_aae02 0 := ⟨w_372, w_87, ⟨by decide, by decide⟩, by decide +kernel, by decide⟩
theorem dJ0_isLatin1_aae02_0 : decode cJ0_isLatin1_aae02 0 = .ok (.getstatic 38, 3) := by decide +kernel
theorem dJ0_isLatin1_aae02_3 : decode cJ0_isLatin1_aae02 3 = .ok (.ifCond .eq 14, 3) := by decide +kernel
theorem dJ0_isLatin1_aae02_6 : decode cJ0_isLatin1_aae02 6 = .ok (.aload_n 0, 1) := by decide +kernel
theorem dJ0_isLatin1_aae02_7 : decode cJ0_isLatin1_aae02 7 = .ok (.getfield 15, 3) := by decide +kernel
theorem dJ0_isLatin1_aae02_10 : decode cJ0_isLatin1_aae02 10 = .ok (.ifCond .ne 7, 3) := by decide +kernel
theorem dJ0_isLatin1_aae02_13 : decode cJ0_isLatin1_aae02 13 = .ok (.iconst 1, 1) := by decide +kernel
theorem dJ0_isLatin1_aae02_14 : decode cJ0_isLatin1_aae02 14 = .ok (.goto 4, 3) := by decide +kernel
theorem dJ0_isLatin1_aae02_17 : decode cJ0_isLatin1_aae02 17 = .ok (.iconst 0, 1) := by decide +kernel
theorem dJ0_isLatin1_aae02_18 : decode cJ0_isLatin1_aae02 18 = .ok (.ireturn, 1) := by decide +kernel
abbrev mJ0_checkIndex_df160 : MD := (yJ0_checkIndex_df160, cJ0_checkIndex_df160, 2, none)
theorem cw_J0_checkIndex_df160 : CW mJ0_checkIndex_df160 2 := ⟨w_378, w_87, ⟨by decide, by decide⟩, by decide +kernel, by decide⟩
theorem dJ0_checkIndex_df160_0 : decode cJ0_checkIndex_df160 0 = .ok (.iload_n 0, 1) := by decide +kernel
theorem dJ0_checkIndex_df160_1 : decode cJ0_checkIndex_df160 1 = .ok (.iload_n 1, 1) := by decide +kernel
theorem dJ0_checkIndex_df160_2 : decode cJ0_checkIndex_df160 2 = .ok (.getstatic 1053, 3) := by decide +kernel
theorem dJ0_checkIndex_df160_5 : decode cJ0_checkIndex_df160 5 = .ok (.invokestatic 1059, 3) := by decide +kernel
theorem dJ0_checkIndex_df160_8 : decode cJ0_checkIndex_df160 8 = .ok (.pop, 1) := by decide +kernel
theorem dJ0_checkIndex_df160_9 : decode cJ0_checkIndex_df160 9 = .ok (.return_, 1) := by decide +kernel
abbrev mJ1_charAt_3b067 : MD := (yJ1_charAt_3b067, cJ1_charAt_3b067, 2, (some .char))
theorem cw_J1_charAt_3b067 : CW mJ1_charAt_3b067 2 := ⟨w_375, w_88, ⟨by decide, by decide⟩, by decide +kernel, by decide⟩
theorem dJ1_charAt_3b067_0 : decode cJ1_charAt_3b067 0 = .ok (.iload_n 1, 1) := by decide +kernel
theorem dJ1_charAt_3b067_1 : decode cJ1_charAt_3b067 1 = .ok (.aload_n 0, 1) := by decide +kernel
theorem dJ1_charAt_3b067_2 : decode cJ1_charAt_3b067 2 = .ok (.arraylength, 1) := by decide +kernel
theorem dJ1_charAt_3b067_3 : decode cJ1_charAt_3b067 3 = .ok (.invokestatic 9, 3) := by decide +kernel
theorem dJ1_charAt_3b067_6 : decode cJ1_charAt_3b067 6 = .ok (.aload_n 0, 1) := by decide +kernel
theorem dJ1_charAt_3b067_7 : decode cJ1_charAt_3b067 7 = .ok (.iload_n 1, 1) := by decide +kernel
theorem dJ1_charAt_3b067_8 : decode cJ1_charAt_3b067 8 = .ok (.baload, 1) := by decide +kernel
theorem dJ1_charAt_3b067_9 : decode cJ1_charAt_3b067 9 = .ok (.sipush 255, 3) := by decide +kernel
theorem dJ1_charAt_3b067_12 : decode cJ1_charAt_3b067 12 = .ok (.iand, 1) := by decide +kernel
theorem dJ1_charAt_3b067_13 : decode cJ1_charAt_3b067 13 = .ok (.i2c, 1) := by decide +kernel
theorem dJ1_charAt_3b067_14 : decode cJ1_charAt_3b067 14 = .ok (.ireturn, 1) := by decide +kernel
abbrev mJ3_checkIndex_8e157 : MD := (yJ3_checkIndex_8e157, cJ3_checkIndex_8e157, 3, (some .int))
theorem cw_J3_checkIndex_8e157 : CW mJ3_checkIndex_8e157 3 := ⟨w_383, w_89, ⟨by decide, by decide⟩, by decide +kernel, by decide⟩
theorem dJ3_checkIndex_8e157_0 : decode cJ3_checkIndex_8e157 0 = .ok (.iload_n 0, 1) := by decide +kernel
theorem dJ3_checkIndex_8e157_1 : decode cJ3_checkIndex_8e157 1 = .ok (.ifCond .lt 8, 3) := by decide +kernel
theorem dJ3_checkIndex_8e157_4 : decode cJ3_checkIndex_8e157 4 = .ok (.iload_n 0, 1) := by decide +kernel
theorem dJ3_checkIndex_8e157_5 : decode cJ3_checkIndex_8e157 5 = .ok (.iload_n 1, 1) := by decide +kernel
theorem dJ3_checkIndex_8e157_6 : decode cJ3_checkIndex_8e157 6 = .ok (.if_icmp .lt 10, 3) := by decide +kernel
theorem dJ3_checkIndex_8e157_9 : decode cJ3_checkIndex_8e157 9 = .ok (.aload_n 2, 1) := by decide +kernel
theorem dJ3_checkIndex_8e157_10 : decode cJ3_checkIndex_8e157 10 = .ok (.iload_n 0, 1) := by decide +kernel
theorem dJ3_checkIndex_8e157_11 : decode cJ3_checkIndex_8e157 11 = .ok (.iload_n 1, 1) := by decide +kernel
theorem dJ3_checkIndex_8e157_12 : decode cJ3_checkIndex_8e157 12 = .ok (.invokestatic 95, 3) := by decide +kernel
theorem dJ3_checkIndex_8e157_15 : decode cJ3_checkIndex_8e157 15 = .ok (.athrow, 1) := by decide +kernel
theorem dJ3_checkIndex_8e157_16 : decode cJ3_checkIndex_8e157 16 = .ok (.iload_n 0, 1) := by decide +kernel
theorem dJ3_checkIndex_8e157_17 : decode cJ3_checkIndex_8e157 17 = .ok (.ireturn, 1) := by decide +kernel

def ExOk (D : GD) : Prop := ∀ j, j < 7 → D.2.2.2.2.1 (100 + j) = D.2.2.2.2.2 j
theorem st_ch : ∀ j, j < 7 → ∀ i, i < st_n.getD j 0 → (((st_b.getD j []).getD i 0 &&& 255).toUInt32 % 65536).toInt32 = (st_b.getD j []).getD i 0 := by decide +kernel
theorem st_nc : ∀ j, j < 7 → ∀ i, i < st_n.getD j 0 → narrow .char (.int ((st_b.getD j []).getD i 0)) = .int ((st_b.getD j []).getD i 0) := by decide +kernel
theorem st_sh : ∀ j, j < 7 → Int32.ofNat (st_n.getD j 0) >>> ((0 : Int32) &&& 31) = Int32.ofNat (st_n.getD j 0) := by decide +kernel
theorem st_lt : ∀ j, j < 7 → st_n.getD j 0 < 2 ^ 31 := by decide +kernel
section
variable {D : GD} {d mc ms : Nat} {u : MD} {kc ks pc : Nat} {lv : List (Nat × Value)} {st : List Value} {M : Mm} {post : Option Value → Mm → Prop}
theorem Bx.X {p : Program} {s : State} {m : MethodId} {meth : Method} {c : Code} (B : Bx D u p s m meth c) : XF D s s.heap := B.2.2.2.2.2.2.2.2.1
theorem ab_gcs {i : Nat} (hd : decode u.2.1 pc = .ok (.getstatic i, 3)) (hln : Cond.fieldLink u.1.cls i "java/lang/String" "COMPACT_STRINGS" "Z" ∈ lw_tbl) (kk : AW D d mc ms u kc ks (pc + 3) lv (.int 1 :: st) M post) : AW D d mc ms u kc ks pc lv st M post := by
  intro p e s m args below meth c H locs ls cells slots B h1 h2 hR hS hl
  exact va_gets B.1 B.2.1 B.X.2.2.1 hS B.own (B.tb.use hln rfl args) (fun _ h => h) hd (kk p e s m args below meth c H locs ls cells slots B h1 h2 hR hS hl)
theorem ab_xgetc {i j : Nat} (hj : j < 7) (hd : decode u.2.1 pc = .ok (.getfield i, 3)) (hln : Cond.fieldLink u.1.cls i "java/lang/String" "coder" "B" ∈ lw_tbl) (kk : AW D d mc ms u kc ks (pc + 3) lv (.int 0 :: st) M post) : AW D d mc ms u kc ks pc lv (.ref (1000000 + j) :: st) M post := by
  intro p e s m args below meth c H locs ls cells slots B h1 h2 hR hS hl
  show W _ _ _ _ _ _ _ _ _ _ _ _ _ _ _ (F0 m pc ls (.ref (rh D (1000000 + j)) :: st.map (cv D)))
  rw [rh_x]
  exact vk_getf B.1 B.2.1 (B.X.2.2.2.2.1.1 j hj).2.1 hS B.own (B.tb.use hln rfl args) (fun _ h => h) hd (kk p e s m args below meth c H locs ls cells slots B h1 h2 hR hS hl)
theorem rh_y (hE : ExOk D) {j : Nat} (hj : j < 7) : rh D (1000100 + j) = D.2.2.2.2.2 j := by
  rw [← hE j hj, ← rh_x (100 + j), ← Nat.add_assoc]
theorem ab_xgetv (hE : ExOk D) {i j : Nat} (hj : j < 7) (hd : decode u.2.1 pc = .ok (.getfield i, 3)) (hln : Cond.fieldLink u.1.cls i "java/lang/String" "value" "[B" ∈ lw_tbl) (kk : AW D d mc ms u kc ks (pc + 3) lv (.ref (1000100 + j) :: st) M post) : AW D d mc ms u kc ks pc lv (.ref (1000000 + j) :: st) M post := by
  intro p e s m args below meth c H locs ls cells slots B h1 h2 hR hS hl
  show W _ _ _ _ _ _ _ _ _ _ _ _ _ _ _ (F0 m pc ls (.ref (rh D (1000000 + j)) :: st.map (cv D)))
  rw [rh_x]
  have k2 := kk p e s m args below meth c H locs ls cells slots B h1 h2 hR hS hl
  have e : cv D (.ref (1000100 + j)) = .ref (D.2.2.2.2.2 j) := by show Value.ref (rh D (1000100 + j)) = _; rw [rh_y hE hj]
  rw [List.map_cons, e] at k2
  exact vk_getf B.1 B.2.1 (B.X.2.2.2.2.1.1 j hj).2.2.1 hS B.own (B.tb.use hln rfl args) (fun _ h => h) hd k2
theorem ab_xlen (hE : ExOk D) {j : Nat} (hj : j < 7) (hd : decode u.2.1 pc = .ok (.arraylength, 1)) (kk : AW D d mc ms u kc ks (pc + 1) lv (.int (Int32.ofNat (st_n.getD j 0)) :: st) M post) : AW D d mc ms u kc ks pc lv (.ref (1000100 + j) :: st) M post := by
  intro p e s m args below meth c H locs ls cells slots B h1 h2 hR hS hl
  show W _ _ _ _ _ _ _ _ _ _ _ _ _ _ _ (F0 m pc ls (.ref (rh D (1000100 + j)) :: st.map (cv D)))
  rw [rh_y hE hj]
  exact va_tlen B.1 B.2.1 (B.X.2.2.2.2.1.1 j hj).2.2.2 hS rfl hd (kk p e s m args below meth c H locs ls cells slots B h1 h2 hR hS hl)
theorem ab_xbld (hE : ExOk D) {j : Nat} {i : Int32} (hj : j < 7) (hd : decode u.2.1 pc = .ok (.baload, 1)) (hin : vp_in i (st_n.getD j 0)) (kk : AW D d mc ms u kc ks (pc + 1) lv (.int ((st_b.getD j []).getD i.toNatClampNeg 0) :: st) M post) : AW D d mc ms u kc ks pc lv (.int i :: .ref (1000100 + j) :: st) M post := by
  intro p e s m args below meth c H locs ls cells slots B h1 h2 hR hS hl
  show W _ _ _ _ _ _ _ _ _ _ _ _ _ _ _ (F0 m pc ls (.int i :: .ref (rh D (1000100 + j)) :: st.map (cv D)))
  rw [rh_y hE hj]
  exact va_tb B.1 B.2.1 (B.X.2.2.2.2.1.1 j hj).2.2.2 hS hin rfl hd (kk p e s m args below meth c H locs ls cells slots B h1 h2 hR hS hl)
theorem c_coder {j : Nat} (hj : j < 7) (h : post (some (.int 0)) M) : AM D d 0 0 mJ0_coder_7d493 [.ref (1000000 + j)] M post := by
  refine AM.of (by decide) (Nat.le_of_ble_eq_true rfl) ?_
  show AW D d 0 0 mJ0_coder_7d493 0 0 0 [(0, .ref (1000000 + j))] [] M post
  refine ab_gcs dJ0_coder_7d493_0 w_363 ?_
  refine ab_if_eq (tgt := 13) dJ0_coder_7d493_3 (by decide) (fun c => absurd c (by decide)) (fun _ => ?_)
  refine ab_aload_n 0 dJ0_coder_7d493_6 rfl ?_
  refine ab_xgetc hj dJ0_coder_7d493_7 w_1550 ?_
  refine ab_goto (tgt := 14) dJ0_coder_7d493_10 (by decide) ?_
  exact ab_zret dJ0_coder_7d493_14 rfl rfl h
theorem c_isLatin1 {j : Nat} (hj : j < 7) (h : post (some (.int 1)) M) : AM D d 0 0 mJ0_isLatin1_aae02 [.ref (1000000 + j)] M post := by
  refine AM.of (by decide) (Nat.le_of_ble_eq_true rfl) ?_
  show AW D d 0 0 mJ0_isLatin1_aae02 0 0 0 [(0, .ref (1000000 + j))] [] M post
  refine ab_gcs dJ0_isLatin1_aae02_0 w_363 ?_
  refine ab_if_eq (tgt := 17) dJ0_isLatin1_aae02_3 (by decide) (fun c => absurd c (by decide)) (fun _ => ?_)
  refine ab_aload_n 0 dJ0_isLatin1_aae02_6 rfl ?_
  refine ab_xgetc hj dJ0_isLatin1_aae02_7 w_1550 ?_
  refine ab_if_ne (tgt := 17) dJ0_isLatin1_aae02_10 (by decide) (fun c => absurd rfl c) (fun _ => ?_)
  refine ab_iconst (v := 1) dJ0_isLatin1_aae02_13 (by decide) ?_
  refine ab_goto (tgt := 18) dJ0_isLatin1_aae02_14 (by decide) ?_
  exact ab_zret dJ0_isLatin1_aae02_18 rfl rfl h
theorem c_strlen (hE : ExOk D) {j : Nat} (hj : j < 7) (h : post (some (.int (Int32.ofNat (st_n.getD j 0)))) M) : AM D (d + 1) 0 0 mJ0_length_8abf5 [.ref (1000000 + j)] M post := by
  refine AM.of (by decide) (Nat.le_of_ble_eq_true rfl) ?_
  show AW D (d + 1) 0 0 mJ0_length_8abf5 0 0 0 [(0, .ref (1000000 + j))] [] M post
  refine ab_aload_n 0 dJ0_length_8abf5_0 rfl ?_
  refine ab_xgetv hE hj dJ0_length_8abf5_1 w_1549 ?_
  refine ab_xlen hE hj dJ0_length_8abf5_4 ?_
  refine ab_aload_n 0 dJ0_length_8abf5_5 rfl ?_
  refine ab_callT (d' := d) (vs := []) (st := [.int (Int32.ofNat (st_n.getD j 0))]) dJ0_length_8abf5_6 ⟨cw_J0_coder_7d493, w_359⟩ w_360 w_361 hj rfl rfl (Nat.le_of_ble_eq_true rfl) (Nat.le_refl _) (c_coder hj ?_)
  refine ab_rs ?_
  refine ab_ishr dJ0_length_8abf5_9 ?_
  rw [st_sh j hj]
  exact ab_iret dJ0_length_8abf5_10 rfl h
/-- the library's own look at an index, where it is within -/
theorem c_pre {i n : Int32} (w : Value) (hw : w.category = 1) (h0 : ¬ i < 0) (h1 : i < n) (h : post (some (.int i)) M) : Met D.1 yJ3_checkIndex_8e157 [.code yJ3_checkIndex_8e157 cJ3_checkIndex_8e157 3 (some .int)] (rm_ d 0 0) (fun v U => v = [Value.int i, .int n, w].toArray ∧ Rp D M U.heap ∧ VF D U ∧ XF D U U.heap) (Qp D post) 0 0 (Fr D) := by
  refine Met.ofW (cc := cJ3_checkIndex_8e157) (maxL := 3) (ret := some .int) (by decide) rfl ?_
  intro p e s m args below meth c s₁ B hml hv
  obtain ⟨rfl, hR, hV, hX⟩ := hv
  have hE := lv_entry [Value.int i, .int n, w] (n := 3) (by show ([Slot.val (.int i)] ++ ([Slot.val (.int n)] ++ ((if w.category = 2 then [Slot.val w, Slot.second] else [Slot.val w]) ++ []))).length ≤ 3; rw [if_neg (by omega)]; simp)
  rw [lg_entry_eq]
  refine lv_iload_n B.exec B.bytes dJ3_checkIndex_8e157_0 rfl (lv_at hE 0 rfl) ?_
  refine lv_if_lt (tgt := 9) B.exec B.bytes dJ3_checkIndex_8e157_1 (by decide) (fun c => absurd c h0) (fun _ => ?_)
  refine lv_iload_n B.exec B.bytes dJ3_checkIndex_8e157_4 rfl (lv_at hE 0 rfl) ?_
  refine lv_iload_n B.exec B.bytes dJ3_checkIndex_8e157_5 rfl (lv_at hE 1 rfl) ?_
  refine lv_icmp_lt (tgt := 16) B.exec B.bytes dJ3_checkIndex_8e157_6 (by decide) (fun _ => ?_) (fun c => absurd h1 c)
  refine lv_iload_n B.exec B.bytes dJ3_checkIndex_8e157_16 rfl (lv_at hE 0 rfl) ?_
  exact W.iret B.exec B.bytes B.returns (fun t ht _ => Qp.end (r := some (.int i)) h hR va_S.rf ht) (fun q hq => by cases hq) dJ3_checkIndex_8e157_17 B.notSynchronized
theorem c_chk {i n : Int32} (h0 : ¬ i < 0) (hi : i < n) (h : post none M) : AM D (d + 1) 0 0 mJ0_checkIndex_df160 [.int i, .int n] M post := by
  refine AM.of (by decide) (Nat.le_of_ble_eq_true rfl) ?_
  show AW D (d + 1) 0 0 mJ0_checkIndex_df160 0 0 0 [(0, .int i), (1, .int n)] [] M post
  refine ab_iload_n 0 dJ0_checkIndex_df160_0 rfl ?_
  refine ab_iload_n 1 dJ0_checkIndex_df160_1 rfl ?_
  have k8 : AW D (d + 1) 0 0 mJ0_checkIndex_df160 0 0 8 [(0, .int i), (1, .int n)] [.int i] M post := ab_pop dJ0_checkIndex_df160_8 rfl (ab_vret dJ0_checkIndex_df160_9 rfl h)
  intro p e s m args below meth c H locs ls cells slots B h1 h2 hR hS hl
  have main : ∀ w : Value, w.category = 1 → va_Z "jdk/internal/util/Preconditions" "SIOOBE_FORMATTER" "Ljava/util/function/BiFunction;" w (Fr D) s s.heap → W p D.1 e (rm_ (d + 1) 0 0) s m args below meth c H locs cells slots (MQ below (Qp D post) args s 0 0 (Fr D)) (F0 m (1 + 1) ls [.int n, .int i]) := by
    intro w hw hz
    refine va_gets B.1 B.2.1 hz hS B.own (B.tb.use w_379 rfl args) (fun _ h => h) dJ0_checkIndex_df160_2 ?_
    have hr := cw_J3_checkIndex_8e157.room (mc := 0) (ms := 0) (mc' := 0) (ms' := 0) (Nat.le_refl (d + 1))
    refine ab_after (P := fun r M1 => r = some (.int i) ∧ M1 = M) (va_runS (As := [.int i, .int n, w]) (rest := []) (n := 3) ⟨B.1, B.2.1, B.2.2.2.1, B.own, B.tb.all args⟩ (c_pre w hw h0 hi ⟨rfl, rfl⟩) ⟨⟨hr.1, hr.2.1, hr.2.2.1, hr.2.2.2, cw_J3_checkIndex_8e157.code B.tb, List.mem_singleton.mpr rfl, B.tb.use cw_J3_checkIndex_8e157.1 rfl args, B.tb.use cw_J3_checkIndex_8e157.2.1 rfl args, cw_J3_checkIndex_8e157.2.2.1, cw_J3_checkIndex_8e157.len, B.tb.use w_381 rfl args⟩, B.tb.use w_382 rfl args⟩ ⟨fun a U g mk h => ⟨h.1, h.2.1, VF.warm (s := U) (U := U.calling g mk a) (State.WarmedH.refl U) h.2.2.1, XF.warm (s := U) (U := U.calling g mk a) (State.WarmedH.refl U) h.2.2.2⟩, fun U hU hW => ⟨rfl, by rw [hU]; exact hR, B.2.2.2.2.2.2.2.1.warm hW, by rw [hU]; exact (B.X.kept hS).warm hW⟩⟩ rfl rfl hl.1 rfl (lv_room (Nat.le_of_ble_eq_true rfl)) dJ0_checkIndex_df160_5 ⟨by show cells + 0 ≤ 0; omega, by show slots + 0 ≤ 0; omega⟩) hS (fun r M1 H1 locs1 hp hR1 hS1 => ?_)
    obtain ⟨rfl, rfl⟩ := hp
    exact k8 p e s m args below meth c H1 locs1 ls (cells + 0) (slots + 0) B (by omega) (by omega) hR1 hS1 hl
  rcases B.X.2.2.2.1 with hz | ⟨t, hz⟩
  · exact main .null rfl hz
  · exact main (.ref t) rfl hz
theorem c_lat (hE : ExOk D) {j : Nat} {i : Int32} (hj : j < 7) (hin : vp_in i (st_n.getD j 0)) (h : post (some (.int ((st_b.getD j []).getD i.toNatClampNeg 0))) M) : AM D (d + 2) 0 0 mJ1_charAt_3b067 [.ref (1000100 + j), .int i] M post := by
  have hlt := vin_lt hin
  have hb := vp_in_iff.mp hin
  have hn := st_lt j hj
  have hN : (Int32.ofNat (st_n.getD j 0)).toInt = (st_n.getD j 0 : Int) := nI_toInt hn
  refine AM.of (by decide) (Nat.le_of_ble_eq_true rfl) ?_
  show AW D (d + 2) 0 0 mJ1_charAt_3b067 0 0 0 [(0, .ref (1000100 + j)), (1, .int i)] [] M post
  refine ab_iload_n 1 dJ1_charAt_3b067_0 rfl ?_
  refine ab_aload_n 0 dJ1_charAt_3b067_1 rfl ?_
  refine ab_xlen hE hj dJ1_charAt_3b067_2 ?_
  refine ab_callS (d' := d + 1) (mc' := 0) (ms' := 0) (vs := [.int i, .int (Int32.ofNat (st_n.getD j 0))]) (st := []) dJ1_charAt_3b067_3 ⟨cw_J0_checkIndex_df160, w_376⟩ w_377 rfl rfl (Nat.le_of_ble_eq_true rfl) (Nat.le_refl _) (Nat.zero_le _) (Nat.zero_le _) (c_chk (by rw [Int32.lt_iff_toInt_lt]; have e0 : (0 : Int32).toInt = 0 := rfl; omega) (by rw [Int32.lt_iff_toInt_lt]; omega) ?_)
  refine ab_rv ?_
  refine ab_aload_n 0 dJ1_charAt_3b067_6 rfl ?_
  refine ab_iload_n 1 dJ1_charAt_3b067_7 rfl ?_
  refine ab_xbld hE hj dJ1_charAt_3b067_8 hin ?_
  refine ab_sipush (v := 255) dJ1_charAt_3b067_9 (by decide) ?_
  refine ab_iand dJ1_charAt_3b067_12 ?_
  refine ab_i2c dJ1_charAt_3b067_13 ?_
  rw [st_ch j hj _ hlt]
  exact ab_zret dJ1_charAt_3b067_14 rfl (st_nc j hj _ hlt) h
theorem c_strchar (hE : ExOk D) {j : Nat} {i : Int32} (hj : j < 7) (hin : vp_in i (st_n.getD j 0)) (h : post (some (.int ((st_b.getD j []).getD i.toNatClampNeg 0))) M) : AM D (d + 3) 0 0 mJ0_charAt_5068e [.ref (1000000 + j), .int i] M post := by
  refine AM.of (by decide) (Nat.le_of_ble_eq_true rfl) ?_
  show AW D (d + 3) 0 0 mJ0_charAt_5068e 0 0 0 [(0, .ref (1000000 + j)), (1, .int i)] [] M post
  refine ab_aload_n 0 dJ0_charAt_5068e_0 rfl ?_
  refine ab_callT (d' := d + 2) (vs := []) (st := []) dJ0_charAt_5068e_1 ⟨cw_J0_isLatin1_aae02, w_369⟩ w_370 w_371 hj rfl rfl (Nat.le_of_ble_eq_true rfl) (Nat.le_refl _) (c_isLatin1 hj ?_)
  refine ab_rs ?_
  refine ab_if_eq (tgt := 16) dJ0_charAt_5068e_4 (by decide) (fun c => absurd c (by decide)) (fun _ => ?_)
  refine ab_aload_n 0 dJ0_charAt_5068e_7 rfl ?_
  refine ab_xgetv hE hj dJ0_charAt_5068e_8 w_1549 ?_
  refine ab_iload_n 1 dJ0_charAt_5068e_11 rfl ?_
  refine ab_callS (d' := d + 2) (mc' := 0) (ms' := 0) (vs := [.ref (1000100 + j), .int i]) (st := []) dJ0_charAt_5068e_12 ⟨cw_J1_charAt_3b067, w_373⟩ w_374 rfl rfl (Nat.le_of_ble_eq_true rfl) (Nat.le_refl _) (Nat.zero_le _) (Nat.zero_le _) (c_lat hE hj hin ?_)
  refine ab_rs ?_
  exact ab_zret dJ0_charAt_5068e_15 rfl (st_nc j hj _ (vin_lt hin)) h
end

