theorem dX6_pass_0 : decode cX6_pass 0 = .ok (.iconst 0, 1) := by decide +kernel
theorem dX6_pass_1 : decode cX6_pass 1 = .ok (.istore_n 2, 1) := by decide +kernel
theorem dX6_pass_2 : decode cX6_pass 2 = .ok (.iload_n 2, 1) := by decide +kernel
theorem dX6_pass_3 : decode cX6_pass 3 = .ok (.aload_n 1, 1) := by decide +kernel
theorem dX6_pass_4 : decode cX6_pass 4 = .ok (.invokevirtual 79, 3) := by decide +kernel
theorem dX6_pass_7 : decode cX6_pass 7 = .ok (.if_icmp .ge 39, 3) := by decide +kernel
theorem dX6_pass_10 : decode cX6_pass 10 = .ok (.aload_n 0, 1) := by decide +kernel
theorem dX6_pass_11 : decode cX6_pass 11 = .ok (.aload_n 1, 1) := by decide +kernel
theorem dX6_pass_12 : decode cX6_pass 12 = .ok (.iload_n 2, 1) := by decide +kernel
theorem dX6_pass_13 : decode cX6_pass 13 = .ok (.invokevirtual 83, 3) := by decide +kernel
theorem dX6_pass_16 : decode cX6_pass 16 = .ok (.invokevirtual 35, 3) := by decide +kernel
theorem dX6_pass_19 : decode cX6_pass 19 = .ok (.ifCond .eq 16, 3) := by decide +kernel
theorem dX6_pass_22 : decode cX6_pass 22 = .ok (.aload_n 0, 1) := by decide +kernel
theorem dX6_pass_23 : decode cX6_pass 23 = .ok (.dup, 1) := by decide +kernel
theorem dX6_pass_24 : decode cX6_pass 24 = .ok (.getfield 25, 3) := by decide +kernel
theorem dX6_pass_27 : decode cX6_pass 27 = .ok (.iconst 1, 1) := by decide +kernel
theorem dX6_pass_28 : decode cX6_pass 28 = .ok (.iadd, 1) := by decide +kernel
theorem dX6_pass_29 : decode cX6_pass 29 = .ok (.putfield 25, 3) := by decide +kernel
theorem dX6_pass_32 : decode cX6_pass 32 = .ok (.goto 8, 3) := by decide +kernel
theorem dX6_pass_35 : decode cX6_pass 35 = .ok (.aload_n 0, 1) := by decide +kernel
theorem dX6_pass_36 : decode cX6_pass 36 = .ok (.iconst 1, 1) := by decide +kernel
theorem dX6_pass_37 : decode cX6_pass 37 = .ok (.putfield 28, 3) := by decide +kernel
theorem dX6_pass_40 : decode cX6_pass 40 = .ok (.iinc 2 1, 3) := by decide +kernel
theorem dX6_pass_43 : decode cX6_pass 43 = .ok (.goto (-41), 3) := by decide +kernel
theorem dX6_pass_46 : decode cX6_pass 46 = .ok (.return_, 1) := by decide +kernel
def LX6_pass_2 (D : GD) (d : Nat) (v1 : Nat) (v2 : Int32) (M : Mm) (post : Option Value → Mm → Prop) : Prop := AW D (d + 1) 0 0 mX6_pass 0 0 2 [(0, .ref 1), (1, .ref (1000000 + v1)), (2, .int v2)] [] M post
set_option maxRecDepth 20000 in
theorem rX6_pass (D : GD) (d : Nat) (a1 : Nat) (M : Mm) (post : Option Value → Mm → Prop) (hL : Lay 1 4 M) (ha1 : a1 < 7)
    (h : LX6_pass_2 D d a1 (0 : Int32) M post) :
    AM D (d + 1) 0 0 mX6_pass [.ref 1, .ref (1000000 + a1)] M post := by
  refine AM.of (by decide) (Nat.le_of_ble_eq_true rfl) ?_
  show AW D (d + 1) 0 0 mX6_pass 0 0 0 [(0, .ref 1), (1, .ref (1000000 + a1))] [] M post
  refine ab_iconst (v := 0) dX6_pass_0 (by decide) ?_
  refine ab_istore_n (lv1 := [(2, .int (0 : Int32)), (0, .ref 1), (1, .ref (1000000 + a1))]) dX6_pass_1 (by decide) rfl ?_
  exact ab_sub [1, 2, 0] rfl h
set_option maxRecDepth 20000 in
theorem rX6_pass_2 (D : GD) (d : Nat)  (v1 : Nat) (v2 : Int32) (M : Mm) (post : Option Value → Mm → Prop) (hL : Lay 1 4 M) (hv1 : v1 < 7)
    (h : AMi D d mJ0_length_8abf5 [.ref (1000000 + v1)] M (fun x2 M1 => ((x2 ≤ v2 → post none M1) ∧ (¬ x2 ≤ v2 → AMi D d mJ0_charAt_5068e [.ref (1000000 + v1), .int v2] M1 (fun x9 M8 => AMi D d mX6_sees [.ref 1, .int x9] M8 (fun x15 M14 => ((x15 = 0 → ∀ M21 : Mm, M21 = sI M14 1 5 (1 : Int32) → ∀ x25 : Int32, x25 = v2 + (1 : Int32) → LX6_pass_2 D d v1 x25 M21 post) ∧ (¬ x15 = 0 → ∀ M26 : Mm, M26 = sI M14 1 4 ((gI M14 1 4) + (1 : Int32)) → ∀ x30 : Int32, x30 = v2 + (1 : Int32) → LX6_pass_2 D d v1 x30 M26 post)))))))) :
    LX6_pass_2 D d v1 v2 M post := by
  show AW D (d + 1) 0 0 mX6_pass 0 0 2 [(0, .ref 1), (1, .ref (1000000 + v1)), (2, .int v2)] [] M post
  refine ab_iload_n 2 dX6_pass_2 rfl ?_
  refine ab_aload_n 1 dX6_pass_3 rfl ?_
  refine ab_callT (d' := d) (vs := []) (st := [.int v2]) dX6_pass_4 ⟨cw_J0_length_8abf5, w_355⟩ w_356 w_357 hv1 rfl rfl (Nat.le_of_ble_eq_true rfl) (Nat.le_refl _) (AM.mono h (fun r M1 ⟨x2, hr3, hc4, h⟩ => ?_))
  subst hr3
  refine ab_rs ?_
  have hm5 : Sm M M1 := (Sm.refl M).trans hc4
  have hl6 := hL.of hm5
  refine ab_icmp_ge (tgt := 46) dX6_pass_7 (by decide) (fun c7 => ?_) (fun c7 => ?_)
  · have h := h.1 c7
    exact ab_vret dX6_pass_46 rfl h
  · have h := h.2 c7
    refine ab_aload_n 0 dX6_pass_10 rfl ?_
    refine ab_aload_n 1 dX6_pass_11 rfl ?_
    refine ab_iload_n 2 dX6_pass_12 rfl ?_
    refine ab_callT (d' := d) (vs := [.int v2]) (st := [.ref 1]) dX6_pass_13 ⟨cw_J0_charAt_5068e, w_365⟩ w_366 w_367 hv1 rfl rfl (Nat.le_of_ble_eq_true rfl) (Nat.le_refl _) (AM.mono h (fun r M8 ⟨x9, hr10, hc11, h⟩ => ?_))
    subst hr10
    refine ab_rs ?_
    have hm12 : Sm M M8 := hm5.trans hc11
    have hl13 := hL.of hm12
    refine ab_callV (a := 1) (c0 := 6) (d' := d) (mc' := 0) (ms' := 0) (vs := [.int x9]) (st := []) dX6_pass_16 ⟨cw_X6_sees, w_346⟩ w_348 w_4 (by decide) (hl13.sh 1 rfl (by decide) (by decide)).1 (hl13.sh 1 rfl (by decide) (by decide)).2 rfl rfl (Nat.le_of_ble_eq_true rfl) (Nat.le_refl _) (Nat.zero_le _) (Nat.zero_le _) (AM.mono h (fun r M14 ⟨x15, hr16, hc17, h⟩ => ?_))
    subst hr16
    refine ab_rs ?_
    have hm18 : Sm M M14 := hm12.trans hc17
    have hl19 := hL.of hm18
    refine ab_if_eq (tgt := 35) dX6_pass_19 (by decide) (fun c20 => ?_) (fun c20 => ?_)
    · have h := h.1 c20
      refine ab_aload_n 0 dX6_pass_35 rfl ?_
      refine ab_iconst (v := 1) dX6_pass_36 (by decide) ?_
      refine ab_putZ dX6_pass_37 fs_6_28_6 rfl rfl (hl19.sh 1 rfl (by decide) (by decide)).1 (hl19.sh 1 rfl (by decide) (by decide)).2 (by decide) ?_
      refine ab_nameM (fun M21 hM21 => ?_)
      have h := h M21 hM21
      have hs24 : Sm M14 M21 := hM21 ▸ (Sm.refl _).i
      have hm22 : Sm M M21 := hm18.trans hs24
      have hl23 := hL.of hm22
      obtain ⟨x25, hx25⟩ : ∃ y : Int32, y = v2 + (1 : Int32) := ⟨_, rfl⟩
      have h := h x25 hx25
      refine ab_iinc (v := x25) 2 (lv1 := [(2, .int x25), (0, .ref 1), (1, .ref (1000000 + v1))]) dX6_pass_40 rfl (by rw [hx25]; rfl) (by decide) rfl ?_
      refine ab_goto (tgt := 2) dX6_pass_43 (by decide) ?_
      exact ab_sub [1, 2, 0] rfl h
    · have h := h.2 c20
      refine ab_aload_n 0 dX6_pass_22 rfl ?_
      refine ab_dup dX6_pass_23 rfl ?_
      refine ab_getI dX6_pass_24 fs_6_25_6 rfl (hl19.sh 1 rfl (by decide) (by decide)).1 (hl19.sh 1 rfl (by decide) (by decide)).2 ?_
      refine ab_iconst (v := 1) dX6_pass_27 (by decide) ?_
      refine ab_iadd dX6_pass_28 ?_
      refine ab_putI dX6_pass_29 fs_6_25_6 rfl rfl (hl19.sh 1 rfl (by decide) (by decide)).1 (hl19.sh 1 rfl (by decide) (by decide)).2 ?_
      refine ab_nameM (fun M26 hM26 => ?_)
      have h := h M26 hM26
      have hs29 : Sm M14 M26 := hM26 ▸ (Sm.refl _).i
      have hm27 : Sm M M26 := hm18.trans hs29
      have hl28 := hL.of hm27
      refine ab_goto (tgt := 40) dX6_pass_32 (by decide) ?_
      obtain ⟨x30, hx30⟩ : ∃ y : Int32, y = v2 + (1 : Int32) := ⟨_, rfl⟩
      have h := h x30 hx30
      refine ab_iinc (v := x30) 2 (lv1 := [(2, .int x30), (0, .ref 1), (1, .ref (1000000 + v1))]) dX6_pass_40 rfl (by rw [hx30]; rfl) (by decide) rfl ?_
      refine ab_goto (tgt := 2) dX6_pass_43 (by decide) ?_
      exact ab_sub [1, 2, 0] rfl h
theorem dX6_passOneOf_0 : decode cX6_passOneOf 0 = .ok (.iconst 0, 1) := by decide +kernel
theorem dX6_passOneOf_1 : decode cX6_passOneOf 1 = .ok (.istore_n 2, 1) := by decide +kernel
theorem dX6_passOneOf_2 : decode cX6_passOneOf 2 = .ok (.iload_n 2, 1) := by decide +kernel
theorem dX6_passOneOf_3 : decode cX6_passOneOf 3 = .ok (.aload_n 1, 1) := by decide +kernel
theorem dX6_passOneOf_4 : decode cX6_passOneOf 4 = .ok (.invokevirtual 79, 3) := by decide +kernel
theorem dX6_passOneOf_7 : decode cX6_passOneOf 7 = .ok (.if_icmp .ge 33, 3) := by decide +kernel
theorem dX6_passOneOf_10 : decode cX6_passOneOf 10 = .ok (.aload_n 0, 1) := by decide +kernel
theorem dX6_passOneOf_11 : decode cX6_passOneOf 11 = .ok (.aload_n 1, 1) := by decide +kernel
theorem dX6_passOneOf_12 : decode cX6_passOneOf 12 = .ok (.iload_n 2, 1) := by decide +kernel
theorem dX6_passOneOf_13 : decode cX6_passOneOf 13 = .ok (.invokevirtual 83, 3) := by decide +kernel
theorem dX6_passOneOf_16 : decode cX6_passOneOf 16 = .ok (.invokevirtual 35, 3) := by decide +kernel
theorem dX6_passOneOf_19 : decode cX6_passOneOf 19 = .ok (.ifCond .eq 15, 3) := by decide +kernel
theorem dX6_passOneOf_22 : decode cX6_passOneOf 22 = .ok (.aload_n 0, 1) := by decide +kernel
theorem dX6_passOneOf_23 : decode cX6_passOneOf 23 = .ok (.dup, 1) := by decide +kernel
theorem dX6_passOneOf_24 : decode cX6_passOneOf 24 = .ok (.getfield 25, 3) := by decide +kernel
theorem dX6_passOneOf_27 : decode cX6_passOneOf 27 = .ok (.iconst 1, 1) := by decide +kernel
theorem dX6_passOneOf_28 : decode cX6_passOneOf 28 = .ok (.iadd, 1) := by decide +kernel
theorem dX6_passOneOf_29 : decode cX6_passOneOf 29 = .ok (.putfield 25, 3) := by decide +kernel
theorem dX6_passOneOf_32 : decode cX6_passOneOf 32 = .ok (.iload_n 2, 1) := by decide +kernel
theorem dX6_passOneOf_33 : decode cX6_passOneOf 33 = .ok (.ireturn, 1) := by decide +kernel
theorem dX6_passOneOf_34 : decode cX6_passOneOf 34 = .ok (.iinc 2 1, 3) := by decide +kernel
theorem dX6_passOneOf_37 : decode cX6_passOneOf 37 = .ok (.goto (-35), 3) := by decide +kernel
theorem dX6_passOneOf_40 : decode cX6_passOneOf 40 = .ok (.aload_n 0, 1) := by decide +kernel
theorem dX6_passOneOf_41 : decode cX6_passOneOf 41 = .ok (.iconst 1, 1) := by decide +kernel
theorem dX6_passOneOf_42 : decode cX6_passOneOf 42 = .ok (.putfield 28, 3) := by decide +kernel
theorem dX6_passOneOf_45 : decode cX6_passOneOf 45 = .ok (.iconst 0, 1) := by decide +kernel
theorem dX6_passOneOf_46 : decode cX6_passOneOf 46 = .ok (.ireturn, 1) := by decide +kernel
def LX6_passOneOf_2 (D : GD) (d : Nat) (v1 : Nat) (v2 : Int32) (M : Mm) (post : Option Value → Mm → Prop) : Prop := AW D (d + 1) 0 0 mX6_passOneOf 0 0 2 [(0, .ref 1), (1, .ref (1000000 + v1)), (2, .int v2)] [] M post
set_option maxRecDepth 20000 in
theorem rX6_passOneOf (D : GD) (d : Nat) (a1 : Nat) (M : Mm) (post : Option Value → Mm → Prop) (hL : Lay 1 4 M) (ha1 : a1 < 7)
    (h : LX6_passOneOf_2 D d a1 (0 : Int32) M post) :
    AM D (d + 1) 0 0 mX6_passOneOf [.ref 1, .ref (1000000 + a1)] M post := by
  refine AM.of (by decide) (Nat.le_of_ble_eq_true rfl) ?_
  show AW D (d + 1) 0 0 mX6_passOneOf 0 0 0 [(0, .ref 1), (1, .ref (1000000 + a1))] [] M post
  refine ab_iconst (v := 0) dX6_passOneOf_0 (by decide) ?_
  refine ab_istore_n (lv1 := [(2, .int (0 : Int32)), (0, .ref 1), (1, .ref (1000000 + a1))]) dX6_passOneOf_1 (by decide) rfl ?_
  exact ab_sub [1, 2, 0] rfl h
set_option maxRecDepth 20000 in
theorem rX6_passOneOf_2 (D : GD) (d : Nat)  (v1 : Nat) (v2 : Int32) (M : Mm) (post : Option Value → Mm → Prop) (hL : Lay 1 4 M) (hv1 : v1 < 7)
    (h : AMi D d mJ0_length_8abf5 [.ref (1000000 + v1)] M (fun x2 M1 => ((x2 ≤ v2 → ∀ M8 : Mm, M8 = sI M1 1 5 (1 : Int32) → post (some (.int (0 : Int32))) M8) ∧ (¬ x2 ≤ v2 → AMi D d mJ0_charAt_5068e [.ref (1000000 + v1), .int v2] M1 (fun x13 M12 => AMi D d mX6_sees [.ref 1, .int x13] M12 (fun x19 M18 => ((x19 = 0 → ∀ x25 : Int32, x25 = v2 + (1 : Int32) → LX6_passOneOf_2 D d v1 x25 M18 post) ∧ (¬ x19 = 0 → ∀ M26 : Mm, M26 = sI M18 1 4 ((gI M18 1 4) + (1 : Int32)) → post (some (.int v2)) M26)))))))) :
    LX6_passOneOf_2 D d v1 v2 M post := by
  show AW D (d + 1) 0 0 mX6_passOneOf 0 0 2 [(0, .ref 1), (1, .ref (1000000 + v1)), (2, .int v2)] [] M post
  refine ab_iload_n 2 dX6_passOneOf_2 rfl ?_
  refine ab_aload_n 1 dX6_passOneOf_3 rfl ?_
  refine ab_callT (d' := d) (vs := []) (st := [.int v2]) dX6_passOneOf_4 ⟨cw_J0_length_8abf5, w_355⟩ w_356 w_357 hv1 rfl rfl (Nat.le_of_ble_eq_true rfl) (Nat.le_refl _) (AM.mono h (fun r M1 ⟨x2, hr3, hc4, h⟩ => ?_))
  subst hr3
  refine ab_rs ?_
  have hm5 : Sm M M1 := (Sm.refl M).trans hc4
  have hl6 := hL.of hm5
  refine ab_icmp_ge (tgt := 40) dX6_passOneOf_7 (by decide) (fun c7 => ?_) (fun c7 => ?_)
  · have h := h.1 c7
    refine ab_aload_n 0 dX6_passOneOf_40 rfl ?_
    refine ab_iconst (v := 1) dX6_passOneOf_41 (by decide) ?_
    refine ab_putZ dX6_passOneOf_42 fs_6_28_6 rfl rfl (hl6.sh 1 rfl (by decide) (by decide)).1 (hl6.sh 1 rfl (by decide) (by decide)).2 (by decide) ?_
    refine ab_nameM (fun M8 hM8 => ?_)
    have h := h M8 hM8
    have hs11 : Sm M1 M8 := hM8 ▸ (Sm.refl _).i
    have hm9 : Sm M M8 := hm5.trans hs11
    have hl10 := hL.of hm9
    refine ab_iconst (v := 0) dX6_passOneOf_45 (by decide) ?_
    exact ab_iret dX6_passOneOf_46 rfl h
  · have h := h.2 c7
    refine ab_aload_n 0 dX6_passOneOf_10 rfl ?_
    refine ab_aload_n 1 dX6_passOneOf_11 rfl ?_
    refine ab_iload_n 2 dX6_passOneOf_12 rfl ?_
    refine ab_callT (d' := d) (vs := [.int v2]) (st := [.ref 1]) dX6_passOneOf_13 ⟨cw_J0_charAt_5068e, w_365⟩ w_366 w_367 hv1 rfl rfl (Nat.le_of_ble_eq_true rfl) (Nat.le_refl _) (AM.mono h (fun r M12 ⟨x13, hr14, hc15, h⟩ => ?_))
    subst hr14
    refine ab_rs ?_
    have hm16 : Sm M M12 := hm5.trans hc15
    have hl17 := hL.of hm16
    refine ab_callV (a := 1) (c0 := 6) (d' := d) (mc' := 0) (ms' := 0) (vs := [.int x13]) (st := []) dX6_passOneOf_16 ⟨cw_X6_sees, w_346⟩ w_348 w_4 (by decide) (hl17.sh 1 rfl (by decide) (by decide)).1 (hl17.sh 1 rfl (by decide) (by decide)).2 rfl rfl (Nat.le_of_ble_eq_true rfl) (Nat.le_refl _) (Nat.zero_le _) (Nat.zero_le _) (AM.mono h (fun r M18 ⟨x19, hr20, hc21, h⟩ => ?_))
    subst hr20
    refine ab_rs ?_
    have hm22 : Sm M M18 := hm16.trans hc21
    have hl23 := hL.of hm22
    refine ab_if_eq (tgt := 34) dX6_passOneOf_19 (by decide) (fun c24 => ?_) (fun c24 => ?_)
    · have h := h.1 c24
      obtain ⟨x25, hx25⟩ : ∃ y : Int32, y = v2 + (1 : Int32) := ⟨_, rfl⟩
      have h := h x25 hx25
      refine ab_iinc (v := x25) 2 (lv1 := [(2, .int x25), (0, .ref 1), (1, .ref (1000000 + v1))]) dX6_passOneOf_34 rfl (by rw [hx25]; rfl) (by decide) rfl ?_
      refine ab_goto (tgt := 2) dX6_passOneOf_37 (by decide) ?_
      exact ab_sub [1, 2, 0] rfl h
    · have h := h.2 c24
      refine ab_aload_n 0 dX6_passOneOf_22 rfl ?_
      refine ab_dup dX6_passOneOf_23 rfl ?_
      refine ab_getI dX6_passOneOf_24 fs_6_25_6 rfl (hl23.sh 1 rfl (by decide) (by decide)).1 (hl23.sh 1 rfl (by decide) (by decide)).2 ?_
      refine ab_iconst (v := 1) dX6_passOneOf_27 (by decide) ?_
      refine ab_iadd dX6_passOneOf_28 ?_
      refine ab_putI dX6_passOneOf_29 fs_6_25_6 rfl rfl (hl23.sh 1 rfl (by decide) (by decide)).1 (hl23.sh 1 rfl (by decide) (by decide)).2 ?_
      refine ab_nameM (fun M26 hM26 => ?_)
      have h := h M26 hM26
      have hs29 : Sm M18 M26 := hM26 ▸ (Sm.refl _).i
      have hm27 : Sm M M26 := hm22.trans hs29
      have hl28 := hL.of hm27
      refine ab_iload_n 2 dX6_passOneOf_32 rfl ?_
      exact ab_iret dX6_passOneOf_33 rfl h
theorem dX7_playBack_0 : decode cX7_playBack 0 = .ok (.iconst 0, 1) := by decide +kernel
theorem dX7_playBack_1 : decode cX7_playBack 1 = .ok (.istore_n 3, 1) := by decide +kernel
theorem dX7_playBack_2 : decode cX7_playBack 2 = .ok (.iload_n 3, 1) := by decide +kernel
theorem dX7_playBack_3 : decode cX7_playBack 3 = .ok (.iconst 5, 1) := by decide +kernel
theorem dX7_playBack_4 : decode cX7_playBack 4 = .ok (.if_icmp .ge 29, 3) := by decide +kernel
theorem dX7_playBack_7 : decode cX7_playBack 7 = .ok (.aload_n 0, 1) := by decide +kernel
theorem dX7_playBack_8 : decode cX7_playBack 8 = .ok (.aload_n 1, 1) := by decide +kernel
theorem dX7_playBack_9 : decode cX7_playBack 9 = .ok (.iconst 0, 1) := by decide +kernel
theorem dX7_playBack_10 : decode cX7_playBack 10 = .ok (.iload_n 2, 1) := by decide +kernel
theorem dX7_playBack_11 : decode cX7_playBack 11 = .ok (.iload_n 3, 1) := by decide +kernel
theorem dX7_playBack_12 : decode cX7_playBack 12 = .ok (.iload_n 3, 1) := by decide +kernel
theorem dX7_playBack_13 : decode cX7_playBack 13 = .ok (.invokevirtual 38, 3) := by decide +kernel
theorem dX7_playBack_16 : decode cX7_playBack 16 = .ok (.aload_n 0, 1) := by decide +kernel
theorem dX7_playBack_17 : decode cX7_playBack 17 = .ok (.aload_n 1, 1) := by decide +kernel
theorem dX7_playBack_18 : decode cX7_playBack 18 = .ok (.iconst 1, 1) := by decide +kernel
theorem dX7_playBack_19 : decode cX7_playBack 19 = .ok (.iconst 1, 1) := by decide +kernel
theorem dX7_playBack_20 : decode cX7_playBack 20 = .ok (.iload_n 2, 1) := by decide +kernel
theorem dX7_playBack_21 : decode cX7_playBack 21 = .ok (.isub, 1) := by decide +kernel
theorem dX7_playBack_22 : decode cX7_playBack 22 = .ok (.iload_n 3, 1) := by decide +kernel
theorem dX7_playBack_23 : decode cX7_playBack 23 = .ok (.iload_n 3, 1) := by decide +kernel
theorem dX7_playBack_24 : decode cX7_playBack 24 = .ok (.invokevirtual 38, 3) := by decide +kernel
theorem dX7_playBack_27 : decode cX7_playBack 27 = .ok (.iinc 3 1, 3) := by decide +kernel
theorem dX7_playBack_30 : decode cX7_playBack 30 = .ok (.goto (-28), 3) := by decide +kernel
theorem dX7_playBack_33 : decode cX7_playBack 33 = .ok (.bipush 9, 2) := by decide +kernel
theorem dX7_playBack_35 : decode cX7_playBack 35 = .ok (.istore_n 3, 1) := by decide +kernel
theorem dX7_playBack_36 : decode cX7_playBack 36 = .ok (.iload_n 3, 1) := by decide +kernel
theorem dX7_playBack_37 : decode cX7_playBack 37 = .ok (.ifCond .lt 17, 3) := by decide +kernel
theorem dX7_playBack_40 : decode cX7_playBack 40 = .ok (.aload_n 0, 1) := by decide +kernel
theorem dX7_playBack_41 : decode cX7_playBack 41 = .ok (.iload_n 3, 1) := by decide +kernel
theorem dX7_playBack_42 : decode cX7_playBack 42 = .ok (.iload_n 3, 1) := by decide +kernel
theorem dX7_playBack_43 : decode cX7_playBack 43 = .ok (.iconst 2, 1) := by decide +kernel
theorem dX7_playBack_44 : decode cX7_playBack 44 = .ok (.idiv, 1) := by decide +kernel
theorem dX7_playBack_45 : decode cX7_playBack 45 = .ok (.invokevirtual 42, 3) := by decide +kernel
theorem dX7_playBack_48 : decode cX7_playBack 48 = .ok (.iinc 3 (-1), 3) := by decide +kernel
theorem dX7_playBack_51 : decode cX7_playBack 51 = .ok (.goto (-15), 3) := by decide +kernel
theorem dX7_playBack_54 : decode cX7_playBack 54 = .ok (.return_, 1) := by decide +kernel
def LX7_playBack_2 (D : GD) (d : Nat) (v2 : Int32) (v3 : Int32) (M : Mm) (post : Option Value → Mm → Prop) : Prop := AW D (d + 1) 0 0 mX7_playBack 0 0 2 [(0, .ref 29), (1, .ref 13), (2, .int v2), (3, .int v3)] [] M post
def LX7_playBack_36 (D : GD) (d : Nat) (v3 : Int32) (M : Mm) (post : Option Value → Mm → Prop) : Prop := AW D (d + 1) 0 0 mX7_playBack 0 0 36 [(0, .ref 29), (3, .int v3)] [] M post
set_option maxRecDepth 20000 in
theorem rX7_playBack (D : GD) (d : Nat) (a2 : Int32) (M : Mm) (post : Option Value → Mm → Prop) (hL : Lay 13 46 M) 
    (h : LX7_playBack_2 D d a2 (0 : Int32) M post) :
    AM D (d + 1) 0 0 mX7_playBack [.ref 29, .ref 13, .int a2] M post := by
  refine AM.of (by decide) (Nat.le_of_ble_eq_true rfl) ?_
  show AW D (d + 1) 0 0 mX7_playBack 0 0 0 [(0, .ref 29), (1, .ref 13), (2, .int a2)] [] M post
  refine ab_iconst (v := 0) dX7_playBack_0 (by decide) ?_
  refine ab_istore_n (lv1 := [(3, .int (0 : Int32)), (0, .ref 29), (1, .ref 13), (2, .int a2)]) dX7_playBack_1 (by decide) rfl ?_
  exact ab_sub [1, 2, 3, 0] rfl h
set_option maxRecDepth 20000 in
theorem rX7_playBack_2 (D : GD) (d : Nat)  (v2 : Int32) (v3 : Int32) (M : Mm) (post : Option Value → Mm → Prop) (hL : Lay 13 46 M) 
    (h : (((5 : Int32) ≤ v3 → LX7_playBack_36 D d (9 : Int32) M post) ∧ (¬ (5 : Int32) ≤ v3 → AMv D d mX7_fillChances [.ref 29, .ref 13, .int (0 : Int32), .int v2, .int v3, .int v3] M (fun M2 => AMv D d mX7_fillChances [.ref 29, .ref 13, .int (1 : Int32), .int ((1 : Int32) - v2), .int v3, .int v3] M2 (fun M8 => ∀ x14 : Int32, x14 = v3 + (1 : Int32) → LX7_playBack_2 D d v2 x14 M8 post))))) :
    LX7_playBack_2 D d v2 v3 M post := by
  show AW D (d + 1) 0 0 mX7_playBack 0 0 2 [(0, .ref 29), (1, .ref 13), (2, .int v2), (3, .int v3)] [] M post
  refine ab_iload_n 3 dX7_playBack_2 rfl ?_
  refine ab_iconst (v := 5) dX7_playBack_3 (by decide) ?_
  refine ab_icmp_ge (tgt := 33) dX7_playBack_4 (by decide) (fun c1 => ?_) (fun c1 => ?_)
  · have h := h.1 c1
    refine ab_bipush (v := 9) dX7_playBack_33 (by decide) ?_
    refine ab_istore_n (lv1 := [(3, .int (9 : Int32)), (0, .ref 29), (1, .ref 13), (2, .int v2)]) dX7_playBack_35 (by decide) rfl ?_
    exact ab_sub [1, 0] rfl h
  · have h := h.2 c1
    refine ab_aload_n 0 dX7_playBack_7 rfl ?_
    refine ab_aload_n 1 dX7_playBack_8 rfl ?_
    refine ab_iconst (v := 0) dX7_playBack_9 (by decide) ?_
    refine ab_iload_n 2 dX7_playBack_10 rfl ?_
    refine ab_iload_n 3 dX7_playBack_11 rfl ?_
    refine ab_iload_n 3 dX7_playBack_12 rfl ?_
    refine ab_callV (a := 29) (c0 := 7) (d' := d) (mc' := 0) (ms' := 0) (vs := [.ref 13, .int (0 : Int32), .int v2, .int v3, .int v3]) (st := []) dX7_playBack_13 ⟨cw_X7_fillChances, w_786⟩ w_788 w_19 (by decide) (hL.sh 29 rfl (by decide) (by decide)).1 (hL.sh 29 rfl (by decide) (by decide)).2 rfl rfl (Nat.le_of_ble_eq_true rfl) (Nat.le_refl _) (Nat.zero_le _) (Nat.zero_le _) (AM.mono h (fun r M2 ⟨hr4, hc5, h⟩ => ?_))
    subst hr4
    refine ab_rv ?_
    have hm6 : Sm M M2 := (Sm.refl M).trans hc5
    have hl7 := hL.of hm6
    refine ab_aload_n 0 dX7_playBack_16 rfl ?_
    refine ab_aload_n 1 dX7_playBack_17 rfl ?_
    refine ab_iconst (v := 1) dX7_playBack_18 (by decide) ?_
    refine ab_iconst (v := 1) dX7_playBack_19 (by decide) ?_
    refine ab_iload_n 2 dX7_playBack_20 rfl ?_
    refine ab_isub dX7_playBack_21 ?_
    refine ab_iload_n 3 dX7_playBack_22 rfl ?_
    refine ab_iload_n 3 dX7_playBack_23 rfl ?_
    refine ab_callV (a := 29) (c0 := 7) (d' := d) (mc' := 0) (ms' := 0) (vs := [.ref 13, .int (1 : Int32), .int ((1 : Int32) - v2), .int v3, .int v3]) (st := []) dX7_playBack_24 ⟨cw_X7_fillChances, w_786⟩ w_788 w_19 (by decide) (hl7.sh 29 rfl (by decide) (by decide)).1 (hl7.sh 29 rfl (by decide) (by decide)).2 rfl rfl (Nat.le_of_ble_eq_true rfl) (Nat.le_refl _) (Nat.zero_le _) (Nat.zero_le _) (AM.mono h (fun r M8 ⟨hr10, hc11, h⟩ => ?_))
    subst hr10
    refine ab_rv ?_
    have hm12 : Sm M M8 := hm6.trans hc11
    have hl13 := hL.of hm12
    obtain ⟨x14, hx14⟩ : ∃ y : Int32, y = v3 + (1 : Int32) := ⟨_, rfl⟩
    have h := h x14 hx14
    refine ab_iinc (v := x14) 3 (lv1 := [(3, .int x14), (0, .ref 29), (1, .ref 13), (2, .int v2)]) dX7_playBack_27 rfl (by rw [hx14]; rfl) (by decide) rfl ?_
    refine ab_goto (tgt := 2) dX7_playBack_30 (by decide) ?_
    exact ab_sub [1, 2, 3, 0] rfl h
set_option maxRecDepth 20000 in
theorem rX7_playBack_36 (D : GD) (d : Nat)  (v3 : Int32) (M : Mm) (post : Option Value → Mm → Prop) (hL : Lay 13 46 M) 
    (h : ((v3 < 0 → post none M) ∧ (¬ v3 < 0 → AMv D d mX7_stepBack [.ref 29, .int v3, .int (v3 / (2 : Int32))] M (fun M2 => ∀ x8 : Int32, x8 = v3 + (-1 : Int32) → LX7_playBack_36 D d x8 M2 post)))) :
    LX7_playBack_36 D d v3 M post := by
  show AW D (d + 1) 0 0 mX7_playBack 0 0 36 [(0, .ref 29), (3, .int v3)] [] M post
  refine ab_iload_n 1 dX7_playBack_36 rfl ?_
  refine ab_if_lt (tgt := 54) dX7_playBack_37 (by decide) (fun c1 => ?_) (fun c1 => ?_)
  · have h := h.1 c1
    exact ab_vret dX7_playBack_54 rfl h
  · have h := h.2 c1
    refine ab_aload_n 0 dX7_playBack_40 rfl ?_
    refine ab_iload_n 1 dX7_playBack_41 rfl ?_
    refine ab_iload_n 1 dX7_playBack_42 rfl ?_
    refine ab_iconst (v := 2) dX7_playBack_43 (by decide) ?_
    refine ab_idiv dX7_playBack_44 (by decide) ?_
    refine ab_callV (a := 29) (c0 := 7) (d' := d) (mc' := 0) (ms' := 0) (vs := [.int v3, .int (v3 / (2 : Int32))]) (st := []) dX7_playBack_45 ⟨cw_X7_stepBack, w_799⟩ w_801 w_20 (by decide) (hL.sh 29 rfl (by decide) (by decide)).1 (hL.sh 29 rfl (by decide) (by decide)).2 rfl rfl (Nat.le_of_ble_eq_true rfl) (Nat.le_refl _) (Nat.zero_le _) (Nat.zero_le _) (AM.mono h (fun r M2 ⟨hr4, hc5, h⟩ => ?_))
    subst hr4
    refine ab_rv ?_
    have hm6 : Sm M M2 := (Sm.refl M).trans hc5
    have hl7 := hL.of hm6
    obtain ⟨x8, hx8⟩ : ∃ y : Int32, y = v3 + (-1 : Int32) := ⟨_, rfl⟩
    have h := h x8 hx8
    refine ab_iinc (v := x8) 1 (lv1 := [(3, .int x8), (0, .ref 29)]) dX7_playBack_48 rfl (by rw [hx8]; rfl) (by decide) rfl ?_
    refine ab_goto (tgt := 36) dX7_playBack_51 (by decide) ?_
    exact ab_sub [1, 0] rfl h
theorem dX7_fillChances_0 : decode cX7_fillChances 0 = .ok (.aload_n 0, 1) := by decide +kernel
theorem dX7_fillChances_1 : decode cX7_fillChances 1 = .ok (.getfield 11, 3) := by decide +kernel
theorem dX7_fillChances_4 : decode cX7_fillChances 4 = .ok (.iload_n 3, 1) := by decide +kernel
theorem dX7_fillChances_5 : decode cX7_fillChances 5 = .ok (.bipush 6, 2) := by decide +kernel
theorem dX7_fillChances_7 : decode cX7_fillChances 7 = .ok (.imul, 1) := by decide +kernel
theorem dX7_fillChances_8 : decode cX7_fillChances 8 = .ok (.iload 4, 2) := by decide +kernel
theorem dX7_fillChances_10 : decode cX7_fillChances 10 = .ok (.iadd, 1) := by decide +kernel
theorem dX7_fillChances_11 : decode cX7_fillChances 11 = .ok (.aaload, 1) := by decide +kernel
theorem dX7_fillChances_12 : decode cX7_fillChances 12 = .ok (.astore 6, 2) := by decide +kernel
theorem dX7_fillChances_14 : decode cX7_fillChances 14 = .ok (.aload_n 0, 1) := by decide +kernel
theorem dX7_fillChances_15 : decode cX7_fillChances 15 = .ok (.getfield 11, 3) := by decide +kernel
theorem dX7_fillChances_18 : decode cX7_fillChances 18 = .ok (.iconst 1, 1) := by decide +kernel
theorem dX7_fillChances_19 : decode cX7_fillChances 19 = .ok (.iload_n 3, 1) := by decide +kernel
theorem dX7_fillChances_20 : decode cX7_fillChances 20 = .ok (.isub, 1) := by decide +kernel
theorem dX7_fillChances_21 : decode cX7_fillChances 21 = .ok (.bipush 6, 2) := by decide +kernel
theorem dX7_fillChances_23 : decode cX7_fillChances 23 = .ok (.imul, 1) := by decide +kernel
theorem dX7_fillChances_24 : decode cX7_fillChances 24 = .ok (.iconst 5, 1) := by decide +kernel
theorem dX7_fillChances_25 : decode cX7_fillChances 25 = .ok (.iadd, 1) := by decide +kernel
theorem dX7_fillChances_26 : decode cX7_fillChances 26 = .ok (.aaload, 1) := by decide +kernel
theorem dX7_fillChances_27 : decode cX7_fillChances 27 = .ok (.astore 7, 2) := by decide +kernel
theorem dX7_fillChances_29 : decode cX7_fillChances 29 = .ok (.aload 6, 2) := by decide +kernel
theorem dX7_fillChances_31 : decode cX7_fillChances 31 = .ok (.ifnull 8, 3) := by decide +kernel
theorem dX7_fillChances_34 : decode cX7_fillChances 34 = .ok (.aload 7, 2) := by decide +kernel
theorem dX7_fillChances_36 : decode cX7_fillChances 36 = .ok (.ifnonnull 4, 3) := by decide +kernel
theorem dX7_fillChances_39 : decode cX7_fillChances 39 = .ok (.return_, 1) := by decide +kernel
theorem dX7_fillChances_40 : decode cX7_fillChances 40 = .ok (.iload 5, 2) := by decide +kernel
theorem dX7_fillChances_42 : decode cX7_fillChances 42 = .ok (.ineg, 1) := by decide +kernel
theorem dX7_fillChances_43 : decode cX7_fillChances 43 = .ok (.iload_n 2, 1) := by decide +kernel
theorem dX7_fillChances_44 : decode cX7_fillChances 44 = .ok (.isub, 1) := by decide +kernel
theorem dX7_fillChances_45 : decode cX7_fillChances 45 = .ok (.istore 8, 2) := by decide +kernel
theorem dX7_fillChances_47 : decode cX7_fillChances 47 = .ok (.iload 8, 2) := by decide +kernel
theorem dX7_fillChances_49 : decode cX7_fillChances 49 = .ok (.iload 5, 2) := by decide +kernel
theorem dX7_fillChances_51 : decode cX7_fillChances 51 = .ok (.if_icmp .gt 54, 3) := by decide +kernel
theorem dX7_fillChances_54 : decode cX7_fillChances 54 = .ok (.aload_n 1, 1) := by decide +kernel
theorem dX7_fillChances_55 : decode cX7_fillChances 55 = .ok (.iconst 3, 1) := by decide +kernel
theorem dX7_fillChances_56 : decode cX7_fillChances 56 = .ok (.iconst 3, 1) := by decide +kernel
theorem dX7_fillChances_57 : decode cX7_fillChances 57 = .ok (.iconst 2, 1) := by decide +kernel
theorem dX7_fillChances_58 : decode cX7_fillChances 58 = .ok (.iload 5, 2) := by decide +kernel
theorem dX7_fillChances_60 : decode cX7_fillChances 60 = .ok (.imul, 1) := by decide +kernel
theorem dX7_fillChances_61 : decode cX7_fillChances 61 = .ok (.iload_n 2, 1) := by decide +kernel
theorem dX7_fillChances_62 : decode cX7_fillChances 62 = .ok (.iadd, 1) := by decide +kernel
theorem dX7_fillChances_63 : decode cX7_fillChances 63 = .ok (.bipush 10, 2) := by decide +kernel
theorem dX7_fillChances_65 : decode cX7_fillChances 65 = .ok (.iload 8, 2) := by decide +kernel
theorem dX7_fillChances_67 : decode cX7_fillChances 67 = .ok (.iadd, 1) := by decide +kernel
theorem dX7_fillChances_68 : decode cX7_fillChances 68 = .ok (.invokevirtual 46, 3) := by decide +kernel
theorem dX7_fillChances_71 : decode cX7_fillChances 71 = .ok (.aload_n 1, 1) := by decide +kernel
theorem dX7_fillChances_72 : decode cX7_fillChances 72 = .ok (.aload 6, 2) := by decide +kernel
theorem dX7_fillChances_74 : decode cX7_fillChances 74 = .ok (.aload 7, 2) := by decide +kernel
theorem dX7_fillChances_76 : decode cX7_fillChances 76 = .ok (.invokevirtual 52, 3) := by decide +kernel
theorem dX7_fillChances_79 : decode cX7_fillChances 79 = .ok (.aload_n 0, 1) := by decide +kernel
theorem dX7_fillChances_80 : decode cX7_fillChances 80 = .ok (.getfield 19, 3) := by decide +kernel
theorem dX7_fillChances_83 : decode cX7_fillChances 83 = .ok (.iload_n 2, 1) := by decide +kernel
theorem dX7_fillChances_84 : decode cX7_fillChances 84 = .ok (.aaload, 1) := by decide +kernel
theorem dX7_fillChances_85 : decode cX7_fillChances 85 = .ok (.iload 4, 2) := by decide +kernel
theorem dX7_fillChances_87 : decode cX7_fillChances 87 = .ok (.iload 5, 2) := by decide +kernel
theorem dX7_fillChances_89 : decode cX7_fillChances 89 = .ok (.iload 8, 2) := by decide +kernel
theorem dX7_fillChances_91 : decode cX7_fillChances 91 = .ok (.invokestatic 56, 3) := by decide +kernel
theorem dX7_fillChances_94 : decode cX7_fillChances 94 = .ok (.aload_n 1, 1) := by decide +kernel
theorem dX7_fillChances_95 : decode cX7_fillChances 95 = .ok (.invokevirtual 60, 3) := by decide +kernel
theorem dX7_fillChances_98 : decode cX7_fillChances 98 = .ok (.iastore, 1) := by decide +kernel
theorem dX7_fillChances_99 : decode cX7_fillChances 99 = .ok (.iinc 8 1, 3) := by decide +kernel
theorem dX7_fillChances_102 : decode cX7_fillChances 102 = .ok (.goto (-55), 3) := by decide +kernel
theorem dX7_fillChances_105 : decode cX7_fillChances 105 = .ok (.return_, 1) := by decide +kernel
def LX7_fillChances_47 (D : GD) (d : Nat) (v2 : Int32) (v4 : Int32) (v5 : Int32) (v6 : Nat) (v7 : Nat) (v8 : Int32) (M : Mm) (post : Option Value → Mm → Prop) : Prop := AW D (d + 1) 0 0 mX7_fillChances 0 0 47 [(0, .ref 29), (1, .ref 13), (2, .int v2), (4, .int v4), (5, .int v5), (6, .ref v6), (7, .ref v7), (8, .int v8)] [] M post
set_option maxRecDepth 20000 in
theorem rX7_fillChances (D : GD) (d : Nat) (a2 : Int32) (a3 : Int32) (a4 : Int32) (a5 : Int32) (M : Mm) (post : Option Value → Mm → Prop) (hL : Lay 13 46 M) 
    (h : vp_in ((a3 * (6 : Int32)) + a4) 12 ∧ vp_in ((((1 : Int32) - a3) * (6 : Int32)) + (5 : Int32)) 12 ∧ (((gP M 30 (((a3 * (6 : Int32)) + a4).toNatClampNeg)) = none → post none M) ∧ (∀ p4 : Nat, (gP M 30 (((a3 * (6 : Int32)) + a4).toNatClampNeg)) = some p4 → ((∀ p6 : Nat, (gP M 30 (((((1 : Int32) - a3) * (6 : Int32)) + (5 : Int32)).toNatClampNeg)) = some p6 → ∀ x7 : Int32, x7 = ((-a5) - a2) → LX7_fillChances_47 D d a2 a4 a5 p4 p6 x7 M post) ∧ ((gP M 30 (((((1 : Int32) - a3) * (6 : Int32)) + (5 : Int32)).toNatClampNeg)) = none → post none M))))) :
    AM D (d + 1) 0 0 mX7_fillChances [.ref 29, .ref 13, .int a2, .int a3, .int a4, .int a5] M post := by
  refine AM.of (by decide) (Nat.le_of_ble_eq_true rfl) ?_
  show AW D (d + 1) 0 0 mX7_fillChances 0 0 0 [(0, .ref 29), (1, .ref 13), (2, .int a2), (3, .int a3), (4, .int a4), (5, .int a5)] [] M post
  refine ab_aload_n 0 dX7_fillChances_0 rfl ?_
  refine ab_getP (r := 30) dX7_fillChances_1 fs_7_11_7 rfl (hL.sh 29 rfl (by decide) (by decide)).1 (hL.sh 29 rfl (by decide) (by decide)).2 (hL.pt 36 rfl (by decide) (by decide)) ?_
  refine ab_iload_n 3 dX7_fillChances_4 rfl ?_
  refine ab_bipush (v := 6) dX7_fillChances_5 (by decide) ?_
  refine ab_imul dX7_fillChances_7 ?_
  refine ab_iload 4 dX7_fillChances_8 rfl ?_
  refine ab_iadd dX7_fillChances_10 ?_
  have hb1 := h.1
  have h := h.2
  refine ab_aald6j (j := ((a3 * (6 : Int32)) + a4).toNatClampNeg) dX7_fillChances_11 (hL.sh 30 rfl (by decide) (by decide)) hb1 rfl ?_
  refine ab_astoreq (lv1 := [(6, va_rf (gP M 30 (((a3 * (6 : Int32)) + a4).toNatClampNeg))), (0, .ref 29), (1, .ref 13), (2, .int a2), (3, .int a3), (4, .int a4), (5, .int a5)]) dX7_fillChances_12 (by decide) rfl ?_
  refine ab_aload_n 1 dX7_fillChances_14 rfl ?_
  refine ab_getP (r := 30) dX7_fillChances_15 fs_7_11_7 rfl (hL.sh 29 rfl (by decide) (by decide)).1 (hL.sh 29 rfl (by decide) (by decide)).2 (hL.pt 36 rfl (by decide) (by decide)) ?_
  refine ab_iconst (v := 1) dX7_fillChances_18 (by decide) ?_
  refine ab_iload_n 4 dX7_fillChances_19 rfl ?_
  refine ab_isub dX7_fillChances_20 ?_
  refine ab_bipush (v := 6) dX7_fillChances_21 (by decide) ?_
  refine ab_imul dX7_fillChances_23 ?_
  refine ab_iconst (v := 5) dX7_fillChances_24 (by decide) ?_
  refine ab_iadd dX7_fillChances_25 ?_
  have hb2 := h.1
  have h := h.2
  refine ab_aald6j (j := ((((1 : Int32) - a3) * (6 : Int32)) + (5 : Int32)).toNatClampNeg) dX7_fillChances_26 (hL.sh 30 rfl (by decide) (by decide)) hb2 rfl ?_
  refine ab_astoreq (lv1 := [(7, va_rf (gP M 30 (((((1 : Int32) - a3) * (6 : Int32)) + (5 : Int32)).toNatClampNeg))), (6, va_rf (gP M 30 (((a3 * (6 : Int32)) + a4).toNatClampNeg))), (0, .ref 29), (1, .ref 13), (2, .int a2), (3, .int a3), (4, .int a4), (5, .int a5)]) dX7_fillChances_27 (by decide) (by simp [q1, cat_rf]) ?_
  refine ab_aloadq 1 dX7_fillChances_29 rfl ?_
  refine ab_ifnull (tgt := 39) dX7_fillChances_31 (by decide) (fun c3 => ?_) (fun p4 c3 => ?_)
  · have h := h.1 c3
    exact ab_vret dX7_fillChances_39 rfl h
  · have h := h.2 p4 c3
    rw [c3]
    refine ab_aloadq 0 dX7_fillChances_34 rfl ?_
    refine ab_ifnonnull (tgt := 40) dX7_fillChances_36 (by decide) (fun p6 c5 => ?_) (fun c5 => ?_)
    · have h := h.1 p6 c5
      rw [c5]
      refine ab_iload 7 dX7_fillChances_40 rfl ?_
      refine ab_ineg dX7_fillChances_42 ?_
      refine ab_iload_n 4 dX7_fillChances_43 rfl ?_
      refine ab_isub dX7_fillChances_44 ?_
      refine ab_topi (fun x7 hx7 => ?_)
      have h := h x7 hx7
      refine ab_istore (lv1 := [(8, .int x7), (7, .ref p6), (6, .ref p4), (0, .ref 29), (1, .ref 13), (2, .int a2), (3, .int a3), (4, .int a4), (5, .int a5)]) dX7_fillChances_45 (by decide) rfl ?_
      exact ab_sub [3, 4, 5, 7, 8, 2, 1, 0] rfl h
    · have h := h.2 c5
      exact ab_vret dX7_fillChances_39 rfl h
set_option maxRecDepth 20000 in
theorem rX7_fillChances_47 (D : GD) (d : Nat)  (v2 : Int32) (v4 : Int32) (v5 : Int32) (v6 : Nat) (v7 : Nat) (v8 : Int32) (M : Mm) (post : Option Value → Mm → Prop) (hL : Lay 13 46 M) 
    (h : ((v5 < v8 → post none M) ∧ (¬ v5 < v8 → AMv D d mX0_setState [.ref 13, .int (3 : Int32), .int (3 : Int32), .int (((2 : Int32) * v5) + v2), .int ((10 : Int32) + v8)] M (fun M2 => AMv D d mX0_meet [.ref 13, .ref v6, .ref v7] M2 (fun M8 => vp_in v2 2 ∧ AMi D d mX7_chanceIndex [.int v4, .int v5, .int v8] M8 (fun x16 M15 => AMi D d mX0_millionths [.ref 13] M15 (fun x22 M21 => vp_in x16 275 ∧ ∀ M28 : Mm, M28 = sI M21 (32 + v2.toNatClampNeg) x16.toNatClampNeg x22 → ∀ x32 : Int32, x32 = v8 + (1 : Int32) → LX7_fillChances_47 D d v2 v4 v5 v6 v7 x32 M28 post))))))) :
    LX7_fillChances_47 D d v2 v4 v5 v6 v7 v8 M post := by
  show AW D (d + 1) 0 0 mX7_fillChances 0 0 47 [(0, .ref 29), (1, .ref 13), (2, .int v2), (4, .int v4), (5, .int v5), (6, .ref v6), (7, .ref v7), (8, .int v8)] [] M post
  refine ab_iload 7 dX7_fillChances_47 rfl ?_
  refine ab_iload 4 dX7_fillChances_49 rfl ?_
  refine ab_icmp_gt (tgt := 105) dX7_fillChances_51 (by decide) (fun c1 => ?_) (fun c1 => ?_)
  · have h := h.1 c1
    exact ab_vret dX7_fillChances_105 rfl h
  · have h := h.2 c1
    refine ab_aload_n 1 dX7_fillChances_54 rfl ?_
    refine ab_iconst (v := 3) dX7_fillChances_55 (by decide) ?_
    refine ab_iconst (v := 3) dX7_fillChances_56 (by decide) ?_
    refine ab_iconst (v := 2) dX7_fillChances_57 (by decide) ?_
    refine ab_iload 4 dX7_fillChances_58 rfl ?_
    refine ab_imul dX7_fillChances_60 ?_
    refine ab_iload_n 2 dX7_fillChances_61 rfl ?_
    refine ab_iadd dX7_fillChances_62 ?_
    refine ab_bipush (v := 10) dX7_fillChances_63 (by decide) ?_
    refine ab_iload 7 dX7_fillChances_65 rfl ?_
    refine ab_iadd dX7_fillChances_67 ?_
    refine ab_callV (a := 13) (c0 := 0) (d' := d) (mc' := 0) (ms' := 0) (vs := [.int (3 : Int32), .int (3 : Int32), .int (((2 : Int32) * v5) + v2), .int ((10 : Int32) + v8)]) (st := []) dX7_fillChances_68 ⟨cw_X0_setState, w_790⟩ w_593 w_594 (by decide) (hL.sh 13 rfl (by decide) (by decide)).1 (hL.sh 13 rfl (by decide) (by decide)).2 rfl rfl (Nat.le_of_ble_eq_true rfl) (Nat.le_refl _) (Nat.zero_le _) (Nat.zero_le _) (AM.mono h (fun r M2 ⟨hr4, hc5, h⟩ => ?_))
    subst hr4
    refine ab_rv ?_
    have hm6 : Sm M M2 := (Sm.refl M).trans hc5
    have hl7 := hL.of hm6
    refine ab_aload_n 1 dX7_fillChances_71 rfl ?_
    refine ab_aload 5 dX7_fillChances_72 rfl ?_
    refine ab_aload 6 dX7_fillChances_74 rfl ?_
    refine ab_callV (a := 13) (c0 := 0) (d' := d) (mc' := 0) (ms' := 0) (vs := [.ref v6, .ref v7]) (st := []) dX7_fillChances_76 ⟨cw_X0_meet, w_791⟩ w_600 w_601 (by decide) (hl7.sh 13 rfl (by decide) (by decide)).1 (hl7.sh 13 rfl (by decide) (by decide)).2 rfl rfl (Nat.le_of_ble_eq_true rfl) (Nat.le_refl _) (Nat.zero_le _) (Nat.zero_le _) (AM.mono h (fun r M8 ⟨hr10, hc11, h⟩ => ?_))
    subst hr10
    refine ab_rv ?_
    have hm12 : Sm M M8 := hm6.trans hc11
    have hl13 := hL.of hm12
    refine ab_aload_n 0 dX7_fillChances_79 rfl ?_
    refine ab_getP (r := 31) dX7_fillChances_80 fs_7_19_7 rfl (hl13.sh 29 rfl (by decide) (by decide)).1 (hl13.sh 29 rfl (by decide) (by decide)).2 (hl13.pt 37 rfl (by decide) (by decide)) ?_
    refine ab_iload_n 2 dX7_fillChances_83 rfl ?_
    have hb14 := h.1
    have h := h.2
    refine ab_aald4j (j := v2.toNatClampNeg) (r := 32 + v2.toNatClampNeg) dX7_fillChances_84 (hl13.sh 31 rfl (by decide) (by decide)) hb14 rfl (row_31 hl13 (by decide) (by decide) (vin_lt hb14)).1 ?_
    refine ab_iload 3 dX7_fillChances_85 rfl ?_
    refine ab_iload 4 dX7_fillChances_87 rfl ?_
    refine ab_iload 7 dX7_fillChances_89 rfl ?_
    refine ab_callS (d' := d) (mc' := 0) (ms' := 0) (vs := [.int v4, .int v5, .int v8]) (st := [.ref (32 + v2.toNatClampNeg)]) dX7_fillChances_91 ⟨cw_X7_chanceIndex, w_792⟩ w_793 rfl rfl (Nat.le_of_ble_eq_true rfl) (Nat.le_refl _) (Nat.zero_le _) (Nat.zero_le _) (AM.mono h (fun r M15 ⟨x16, hr17, hc18, h⟩ => ?_))
    subst hr17
    refine ab_rs ?_
    have hm19 : Sm M M15 := hm12.trans hc18
    have hl20 := hL.of hm19
    refine ab_aload_n 1 dX7_fillChances_94 rfl ?_
    refine ab_callV (a := 13) (c0 := 0) (d' := d) (mc' := 0) (ms' := 0) (vs := []) (st := [.int x16, .ref (32 + v2.toNatClampNeg)]) dX7_fillChances_95 ⟨cw_X0_millionths, w_795⟩ w_796 w_797 (by decide) (hl20.sh 13 rfl (by decide) (by decide)).1 (hl20.sh 13 rfl (by decide) (by decide)).2 rfl rfl (Nat.le_of_ble_eq_true rfl) (Nat.le_refl _) (Nat.zero_le _) (Nat.zero_le _) (AM.mono h (fun r M21 ⟨x22, hr23, hc24, h⟩ => ?_))
    subst hr23
    refine ab_rs ?_
    have hm25 : Sm M M21 := hm19.trans hc24
    have hl26 := hL.of hm25
    have hb27 := h.1
    have h := h.2
    refine ab_iastj (j := x16.toNatClampNeg) dX7_fillChances_98 (row_31 hl26 (by decide) (by decide) (vin_lt hb14)).2 hb27 rfl ?_
    refine ab_nameM (fun M28 hM28 => ?_)
    have h := h M28 hM28
    have hs31 : Sm M21 M28 := hM28 ▸ (Sm.refl _).i
    have hm29 : Sm M M28 := hm25.trans hs31
    have hl30 := hL.of hm29
    obtain ⟨x32, hx32⟩ : ∃ y : Int32, y = v8 + (1 : Int32) := ⟨_, rfl⟩
    have h := h x32 hx32
    refine ab_iinc (v := x32) 7 (lv1 := [(8, .int x32), (0, .ref 29), (1, .ref 13), (2, .int v2), (4, .int v4), (5, .int v5), (6, .ref v6), (7, .ref v7)]) dX7_fillChances_99 rfl (by rw [hx32]; rfl) (by decide) rfl ?_
    refine ab_goto (tgt := 47) dX7_fillChances_102 (by decide) ?_
    exact ab_sub [1, 2, 3, 4, 5, 6, 7, 0] rfl h
theorem dX7_seekOrder_0 : decode cX7_seekOrder 0 = .ok (.iconst 0, 1) := by decide +kernel
theorem dX7_seekOrder_1 : decode cX7_seekOrder 1 = .ok (.istore_n 2, 1) := by decide +kernel
theorem dX7_seekOrder_2 : decode cX7_seekOrder 2 = .ok (.iload_n 2, 1) := by decide +kernel
theorem dX7_seekOrder_3 : decode cX7_seekOrder 3 = .ok (.iconst 5, 1) := by decide +kernel
theorem dX7_seekOrder_4 : decode cX7_seekOrder 4 = .ok (.if_icmp .ge 40, 3) := by decide +kernel
theorem dX7_seekOrder_7 : decode cX7_seekOrder 7 = .ok (.iconst 0, 1) := by decide +kernel
theorem dX7_seekOrder_8 : decode cX7_seekOrder 8 = .ok (.istore_n 3, 1) := by decide +kernel
theorem dX7_seekOrder_9 : decode cX7_seekOrder 9 = .ok (.iload_n 3, 1) := by decide +kernel
theorem dX7_seekOrder_10 : decode cX7_seekOrder 10 = .ok (.iconst 5, 1) := by decide +kernel
theorem dX7_seekOrder_11 : decode cX7_seekOrder 11 = .ok (.if_icmp .ge 18, 3) := by decide +kernel
theorem dX7_seekOrder_14 : decode cX7_seekOrder 14 = .ok (.aload_n 0, 1) := by decide +kernel
theorem dX7_seekOrder_15 : decode cX7_seekOrder 15 = .ok (.aload_n 1, 1) := by decide +kernel
theorem dX7_seekOrder_16 : decode cX7_seekOrder 16 = .ok (.iconst 0, 1) := by decide +kernel
theorem dX7_seekOrder_17 : decode cX7_seekOrder 17 = .ok (.iconst 0, 1) := by decide +kernel
theorem dX7_seekOrder_18 : decode cX7_seekOrder 18 = .ok (.iload_n 3, 1) := by decide +kernel
theorem dX7_seekOrder_19 : decode cX7_seekOrder 19 = .ok (.iload_n 2, 1) := by decide +kernel
theorem dX7_seekOrder_20 : decode cX7_seekOrder 20 = .ok (.invokevirtual 38, 3) := by decide +kernel
theorem dX7_seekOrder_23 : decode cX7_seekOrder 23 = .ok (.iinc 3 1, 3) := by decide +kernel
theorem dX7_seekOrder_26 : decode cX7_seekOrder 26 = .ok (.goto (-17), 3) := by decide +kernel
theorem dX7_seekOrder_29 : decode cX7_seekOrder 29 = .ok (.aload_n 0, 1) := by decide +kernel
theorem dX7_seekOrder_30 : decode cX7_seekOrder 30 = .ok (.aload_n 1, 1) := by decide +kernel
theorem dX7_seekOrder_31 : decode cX7_seekOrder 31 = .ok (.iconst 1, 1) := by decide +kernel
theorem dX7_seekOrder_32 : decode cX7_seekOrder 32 = .ok (.iconst 1, 1) := by decide +kernel
theorem dX7_seekOrder_33 : decode cX7_seekOrder 33 = .ok (.iload_n 2, 1) := by decide +kernel
theorem dX7_seekOrder_34 : decode cX7_seekOrder 34 = .ok (.iload_n 2, 1) := by decide +kernel
theorem dX7_seekOrder_35 : decode cX7_seekOrder 35 = .ok (.invokevirtual 38, 3) := by decide +kernel
theorem dX7_seekOrder_38 : decode cX7_seekOrder 38 = .ok (.iinc 2 1, 3) := by decide +kernel
theorem dX7_seekOrder_41 : decode cX7_seekOrder 41 = .ok (.goto (-39), 3) := by decide +kernel
theorem dX7_seekOrder_44 : decode cX7_seekOrder 44 = .ok (.aload_n 0, 1) := by decide +kernel
theorem dX7_seekOrder_45 : decode cX7_seekOrder 45 = .ok (.iconst (-1), 1) := by decide +kernel
theorem dX7_seekOrder_46 : decode cX7_seekOrder 46 = .ok (.putfield 25, 3) := by decide +kernel
theorem dX7_seekOrder_49 : decode cX7_seekOrder 49 = .ok (.aload_n 0, 1) := by decide +kernel
theorem dX7_seekOrder_50 : decode cX7_seekOrder 50 = .ok (.iconst 0, 1) := by decide +kernel
theorem dX7_seekOrder_51 : decode cX7_seekOrder 51 = .ok (.putfield 29, 3) := by decide +kernel
theorem dX7_seekOrder_54 : decode cX7_seekOrder 54 = .ok (.aload_n 0, 1) := by decide +kernel
theorem dX7_seekOrder_55 : decode cX7_seekOrder 55 = .ok (.iconst 4, 1) := by decide +kernel
theorem dX7_seekOrder_56 : decode cX7_seekOrder 56 = .ok (.iconst 0, 1) := by decide +kernel
theorem dX7_seekOrder_57 : decode cX7_seekOrder 57 = .ok (.iconst 0, 1) := by decide +kernel
theorem dX7_seekOrder_58 : decode cX7_seekOrder 58 = .ok (.invokevirtual 66, 3) := by decide +kernel
theorem dX7_seekOrder_61 : decode cX7_seekOrder 61 = .ok (.return_, 1) := by decide +kernel
def LX7_seekOrder_2 (D : GD) (d : Nat) (v2 : Int32) (M : Mm) (post : Option Value → Mm → Prop) : Prop := AW D (d + 1) 0 0 mX7_seekOrder 0 0 2 [(0, .ref 29), (1, .ref 13), (2, .int v2)] [] M post
def LX7_seekOrder_9 (D : GD) (d : Nat) (v2 : Int32) (v3 : Int32) (M : Mm) (post : Option Value → Mm → Prop) : Prop := AW D (d + 1) 0 0 mX7_seekOrder 0 0 9 [(0, .ref 29), (1, .ref 13), (2, .int v2), (3, .int v3)] [] M post
set_option maxRecDepth 20000 in
theorem rX7_seekOrder (D : GD) (d : Nat)  (M : Mm) (post : Option Value → Mm → Prop) (hL : Lay 13 46 M) 
    (h : LX7_seekOrder_2 D d (0 : Int32) M post) :
    AM D (d + 1) 0 0 mX7_seekOrder [.ref 29, .ref 13] M post := by
  refine AM.of (by decide) (Nat.le_of_ble_eq_true rfl) ?_
  show AW D (d + 1) 0 0 mX7_seekOrder 0 0 0 [(0, .ref 29), (1, .ref 13)] [] M post
  refine ab_iconst (v := 0) dX7_seekOrder_0 (by decide) ?_
  refine ab_istore_n (lv1 := [(2, .int (0 : Int32)), (0, .ref 29), (1, .ref 13)]) dX7_seekOrder_1 (by decide) rfl ?_
  exact ab_sub [1, 2, 0] rfl h
set_option maxRecDepth 20000 in
theorem rX7_seekOrder_2 (D : GD) (d : Nat)  (v2 : Int32) (M : Mm) (post : Option Value → Mm → Prop) (hL : Lay 13 46 M) 
    (h : (((5 : Int32) ≤ v2 → ∀ M2 : Mm, M2 = sI M 29 3 (-1 : Int32) → ∀ M6 : Mm, M6 = sI M2 29 4 (0 : Int32) → AMv D d mX7_placeKicker [.ref 29, .int (4 : Int32), .int (0 : Int32), .int (0 : Int32)] M6 (fun M10 => post none M10)) ∧ (¬ (5 : Int32) ≤ v2 → LX7_seekOrder_9 D d v2 (0 : Int32) M post))) :
    LX7_seekOrder_2 D d v2 M post := by
  show AW D (d + 1) 0 0 mX7_seekOrder 0 0 2 [(0, .ref 29), (1, .ref 13), (2, .int v2)] [] M post
  refine ab_iload_n 2 dX7_seekOrder_2 rfl ?_
  refine ab_iconst (v := 5) dX7_seekOrder_3 (by decide) ?_
  refine ab_icmp_ge (tgt := 44) dX7_seekOrder_4 (by decide) (fun c1 => ?_) (fun c1 => ?_)
  · have h := h.1 c1
    refine ab_aload_n 0 dX7_seekOrder_44 rfl ?_
    refine ab_iconst (v := (-1)) dX7_seekOrder_45 (by decide) ?_
    refine ab_putI dX7_seekOrder_46 fs_7_25_7 rfl rfl (hL.sh 29 rfl (by decide) (by decide)).1 (hL.sh 29 rfl (by decide) (by decide)).2 ?_
    refine ab_nameM (fun M2 hM2 => ?_)
    have h := h M2 hM2
    have hs5 : Sm M M2 := hM2 ▸ (Sm.refl _).i
    have hm3 : Sm M M2 := (Sm.refl M).trans hs5
    have hl4 := hL.of hm3
    refine ab_aload_n 0 dX7_seekOrder_49 rfl ?_
    refine ab_iconst (v := 0) dX7_seekOrder_50 (by decide) ?_
    refine ab_putI dX7_seekOrder_51 fs_7_29_7 rfl rfl (hl4.sh 29 rfl (by decide) (by decide)).1 (hl4.sh 29 rfl (by decide) (by decide)).2 ?_
    refine ab_nameM (fun M6 hM6 => ?_)
    have h := h M6 hM6
    have hs9 : Sm M2 M6 := hM6 ▸ (Sm.refl _).i
    have hm7 : Sm M M6 := hm3.trans hs9
    have hl8 := hL.of hm7
    refine ab_aload_n 0 dX7_seekOrder_54 rfl ?_
    refine ab_iconst (v := 4) dX7_seekOrder_55 (by decide) ?_
    refine ab_iconst (v := 0) dX7_seekOrder_56 (by decide) ?_
    refine ab_iconst (v := 0) dX7_seekOrder_57 (by decide) ?_
    refine ab_callV (a := 29) (c0 := 7) (d' := d) (mc' := 0) (ms' := 0) (vs := [.int (4 : Int32), .int (0 : Int32), .int (0 : Int32)]) (st := []) dX7_seekOrder_58 ⟨cw_X7_placeKicker, w_818⟩ w_820 w_21 (by decide) (hl8.sh 29 rfl (by decide) (by decide)).1 (hl8.sh 29 rfl (by decide) (by decide)).2 rfl rfl (Nat.le_of_ble_eq_true rfl) (Nat.le_refl _) (Nat.zero_le _) (Nat.zero_le _) (AM.mono h (fun r M10 ⟨hr12, hc13, h⟩ => ?_))
    subst hr12
    refine ab_rv ?_
    have hm14 : Sm M M10 := hm7.trans hc13
    have hl15 := hL.of hm14
    exact ab_vret dX7_seekOrder_61 rfl h
  · have h := h.2 c1
    refine ab_iconst (v := 0) dX7_seekOrder_7 (by decide) ?_
    refine ab_istore_n (lv1 := [(3, .int (0 : Int32)), (0, .ref 29), (1, .ref 13), (2, .int v2)]) dX7_seekOrder_8 (by decide) rfl ?_
    exact ab_sub [1, 2, 3, 0] rfl h
set_option maxRecDepth 20000 in
theorem rX7_seekOrder_9 (D : GD) (d : Nat)  (v2 : Int32) (v3 : Int32) (M : Mm) (post : Option Value → Mm → Prop) (hL : Lay 13 46 M) 
    (h : (((5 : Int32) ≤ v3 → AMv D d mX7_fillChances [.ref 29, .ref 13, .int (1 : Int32), .int (1 : Int32), .int v2, .int v2] M (fun M2 => ∀ x8 : Int32, x8 = v2 + (1 : Int32) → LX7_seekOrder_2 D d x8 M2 post)) ∧ (¬ (5 : Int32) ≤ v3 → AMv D d mX7_fillChances [.ref 29, .ref 13, .int (0 : Int32), .int (0 : Int32), .int v3, .int v2] M (fun M9 => ∀ x15 : Int32, x15 = v3 + (1 : Int32) → LX7_seekOrder_9 D d v2 x15 M9 post)))) :
    LX7_seekOrder_9 D d v2 v3 M post := by
  show AW D (d + 1) 0 0 mX7_seekOrder 0 0 9 [(0, .ref 29), (1, .ref 13), (2, .int v2), (3, .int v3)] [] M post
  refine ab_iload_n 3 dX7_seekOrder_9 rfl ?_
  refine ab_iconst (v := 5) dX7_seekOrder_10 (by decide) ?_
  refine ab_icmp_ge (tgt := 29) dX7_seekOrder_11 (by decide) (fun c1 => ?_) (fun c1 => ?_)
  · have h := h.1 c1
    refine ab_aload_n 0 dX7_seekOrder_29 rfl ?_
    refine ab_aload_n 1 dX7_seekOrder_30 rfl ?_
    refine ab_iconst (v := 1) dX7_seekOrder_31 (by decide) ?_
    refine ab_iconst (v := 1) dX7_seekOrder_32 (by decide) ?_
    refine ab_iload_n 2 dX7_seekOrder_33 rfl ?_
    refine ab_iload_n 2 dX7_seekOrder_34 rfl ?_
    refine ab_callV (a := 29) (c0 := 7) (d' := d) (mc' := 0) (ms' := 0) (vs := [.ref 13, .int (1 : Int32), .int (1 : Int32), .int v2, .int v2]) (st := []) dX7_seekOrder_35 ⟨cw_X7_fillChances, w_786⟩ w_788 w_19 (by decide) (hL.sh 29 rfl (by decide) (by decide)).1 (hL.sh 29 rfl (by decide) (by decide)).2 rfl rfl (Nat.le_of_ble_eq_true rfl) (Nat.le_refl _) (Nat.zero_le _) (Nat.zero_le _) (AM.mono h (fun r M2 ⟨hr4, hc5, h⟩ => ?_))
    subst hr4
    refine ab_rv ?_
    have hm6 : Sm M M2 := (Sm.refl M).trans hc5
    have hl7 := hL.of hm6
    obtain ⟨x8, hx8⟩ : ∃ y : Int32, y = v2 + (1 : Int32) := ⟨_, rfl⟩
    have h := h x8 hx8
    refine ab_iinc (v := x8) 2 (lv1 := [(2, .int x8), (0, .ref 29), (1, .ref 13), (3, .int v3)]) dX7_seekOrder_38 rfl (by rw [hx8]; rfl) (by decide) rfl ?_
    refine ab_goto (tgt := 2) dX7_seekOrder_41 (by decide) ?_
    exact ab_sub [1, 2, 0] rfl h
  · have h := h.2 c1
    refine ab_aload_n 0 dX7_seekOrder_14 rfl ?_
    refine ab_aload_n 1 dX7_seekOrder_15 rfl ?_
    refine ab_iconst (v := 0) dX7_seekOrder_16 (by decide) ?_
    refine ab_iconst (v := 0) dX7_seekOrder_17 (by decide) ?_
    refine ab_iload_n 3 dX7_seekOrder_18 rfl ?_
    refine ab_iload_n 2 dX7_seekOrder_19 rfl ?_
    refine ab_callV (a := 29) (c0 := 7) (d' := d) (mc' := 0) (ms' := 0) (vs := [.ref 13, .int (0 : Int32), .int (0 : Int32), .int v3, .int v2]) (st := []) dX7_seekOrder_20 ⟨cw_X7_fillChances, w_786⟩ w_788 w_19 (by decide) (hL.sh 29 rfl (by decide) (by decide)).1 (hL.sh 29 rfl (by decide) (by decide)).2 rfl rfl (Nat.le_of_ble_eq_true rfl) (Nat.le_refl _) (Nat.zero_le _) (Nat.zero_le _) (AM.mono h (fun r M9 ⟨hr11, hc12, h⟩ => ?_))
    subst hr11
    refine ab_rv ?_
    have hm13 : Sm M M9 := (Sm.refl M).trans hc12
    have hl14 := hL.of hm13
    obtain ⟨x15, hx15⟩ : ∃ y : Int32, y = v3 + (1 : Int32) := ⟨_, rfl⟩
    have h := h x15 hx15
    refine ab_iinc (v := x15) 3 (lv1 := [(3, .int x15), (0, .ref 29), (1, .ref 13), (2, .int v2)]) dX7_seekOrder_23 rfl (by rw [hx15]; rfl) (by decide) rfl ?_
    refine ab_goto (tgt := 9) dX7_seekOrder_26 (by decide) ?_
    exact ab_sub [1, 2, 3, 0] rfl h
theorem dX7_placeKicker_0 : decode cX7_placeKicker 0 = .ok (.iload_n 1, 1) := by decide +kernel
theorem dX7_placeKicker_1 : decode cX7_placeKicker 1 = .ok (.ifCond .ge 51, 3) := by decide +kernel
theorem dX7_placeKicker_4 : decode cX7_placeKicker 4 = .ok (.aload_n 0, 1) := by decide +kernel
theorem dX7_placeKicker_5 : decode cX7_placeKicker 5 = .ok (.getfield 22, 3) := by decide +kernel
theorem dX7_placeKicker_8 : decode cX7_placeKicker 8 = .ok (.iconst 0, 1) := by decide +kernel
theorem dX7_placeKicker_9 : decode cX7_placeKicker 9 = .ok (.aaload, 1) := by decide +kernel
theorem dX7_placeKicker_10 : decode cX7_placeKicker 10 = .ok (.iconst 0, 1) := by decide +kernel
theorem dX7_placeKicker_11 : decode cX7_placeKicker 11 = .ok (.iaload, 1) := by decide +kernel
theorem dX7_placeKicker_12 : decode cX7_placeKicker 12 = .ok (.istore 4, 2) := by decide +kernel
theorem dX7_placeKicker_14 : decode cX7_placeKicker 14 = .ok (.iload 4, 2) := by decide +kernel
theorem dX7_placeKicker_16 : decode cX7_placeKicker 16 = .ok (.aload_n 0, 1) := by decide +kernel
theorem dX7_placeKicker_17 : decode cX7_placeKicker 17 = .ok (.getfield 25, 3) := by decide +kernel
theorem dX7_placeKicker_20 : decode cX7_placeKicker 20 = .ok (.if_icmp .gt 20, 3) := by decide +kernel
theorem dX7_placeKicker_23 : decode cX7_placeKicker 23 = .ok (.iload 4, 2) := by decide +kernel
theorem dX7_placeKicker_25 : decode cX7_placeKicker 25 = .ok (.aload_n 0, 1) := by decide +kernel
theorem dX7_placeKicker_26 : decode cX7_placeKicker 26 = .ok (.getfield 25, 3) := by decide +kernel
theorem dX7_placeKicker_29 : decode cX7_placeKicker 29 = .ok (.if_icmp .ne 22, 3) := by decide +kernel
theorem dX7_placeKicker_32 : decode cX7_placeKicker 32 = .ok (.iload_n 3, 1) := by decide +kernel
theorem dX7_placeKicker_33 : decode cX7_placeKicker 33 = .ok (.aload_n 0, 1) := by decide +kernel
theorem dX7_placeKicker_34 : decode cX7_placeKicker 34 = .ok (.getfield 29, 3) := by decide +kernel
theorem dX7_placeKicker_37 : decode cX7_placeKicker 37 = .ok (.if_icmp .ge 14, 3) := by decide +kernel
theorem dX7_placeKicker_40 : decode cX7_placeKicker 40 = .ok (.aload_n 0, 1) := by decide +kernel
theorem dX7_placeKicker_41 : decode cX7_placeKicker 41 = .ok (.iload 4, 2) := by decide +kernel
theorem dX7_placeKicker_43 : decode cX7_placeKicker 43 = .ok (.putfield 25, 3) := by decide +kernel
theorem dX7_placeKicker_46 : decode cX7_placeKicker 46 = .ok (.aload_n 0, 1) := by decide +kernel
theorem dX7_placeKicker_47 : decode cX7_placeKicker 47 = .ok (.iload_n 3, 1) := by decide +kernel
theorem dX7_placeKicker_48 : decode cX7_placeKicker 48 = .ok (.putfield 29, 3) := by decide +kernel
theorem dX7_placeKicker_51 : decode cX7_placeKicker 51 = .ok (.return_, 1) := by decide +kernel
theorem dX7_placeKicker_52 : decode cX7_placeKicker 52 = .ok (.aload_n 0, 1) := by decide +kernel
theorem dX7_placeKicker_53 : decode cX7_placeKicker 53 = .ok (.iconst 2, 1) := by decide +kernel
theorem dX7_placeKicker_54 : decode cX7_placeKicker 54 = .ok (.iload_n 1, 1) := by decide +kernel
theorem dX7_placeKicker_55 : decode cX7_placeKicker 55 = .ok (.imul, 1) := by decide +kernel
theorem dX7_placeKicker_56 : decode cX7_placeKicker 56 = .ok (.iconst 1, 1) := by decide +kernel
theorem dX7_placeKicker_57 : decode cX7_placeKicker 57 = .ok (.iadd, 1) := by decide +kernel
theorem dX7_placeKicker_58 : decode cX7_placeKicker 58 = .ok (.iload_n 1, 1) := by decide +kernel
theorem dX7_placeKicker_59 : decode cX7_placeKicker 59 = .ok (.invokevirtual 42, 3) := by decide +kernel
theorem dX7_placeKicker_62 : decode cX7_placeKicker 62 = .ok (.iconst 0, 1) := by decide +kernel
theorem dX7_placeKicker_63 : decode cX7_placeKicker 63 = .ok (.istore 4, 2) := by decide +kernel
theorem dX7_placeKicker_65 : decode cX7_placeKicker 65 = .ok (.iload 4, 2) := by decide +kernel
theorem dX7_placeKicker_67 : decode cX7_placeKicker 67 = .ok (.iconst 5, 1) := by decide +kernel
theorem dX7_placeKicker_68 : decode cX7_placeKicker 68 = .ok (.if_icmp .ge 50, 3) := by decide +kernel
theorem dX7_placeKicker_71 : decode cX7_placeKicker 71 = .ok (.iload_n 2, 1) := by decide +kernel
theorem dX7_placeKicker_72 : decode cX7_placeKicker 72 = .ok (.iload 4, 2) := by decide +kernel
theorem dX7_placeKicker_74 : decode cX7_placeKicker 74 = .ok (.ishr, 1) := by decide +kernel
theorem dX7_placeKicker_75 : decode cX7_placeKicker 75 = .ok (.iconst 1, 1) := by decide +kernel
theorem dX7_placeKicker_76 : decode cX7_placeKicker 76 = .ok (.iand, 1) := by decide +kernel
theorem dX7_placeKicker_77 : decode cX7_placeKicker 77 = .ok (.ifCond .ne 35, 3) := by decide +kernel
theorem dX7_placeKicker_80 : decode cX7_placeKicker 80 = .ok (.aload_n 0, 1) := by decide +kernel
theorem dX7_placeKicker_81 : decode cX7_placeKicker 81 = .ok (.iconst 2, 1) := by decide +kernel
theorem dX7_placeKicker_82 : decode cX7_placeKicker 82 = .ok (.iload_n 1, 1) := by decide +kernel
theorem dX7_placeKicker_83 : decode cX7_placeKicker 83 = .ok (.imul, 1) := by decide +kernel
theorem dX7_placeKicker_84 : decode cX7_placeKicker 84 = .ok (.iload 4, 2) := by decide +kernel
theorem dX7_placeKicker_86 : decode cX7_placeKicker 86 = .ok (.invokevirtual 42, 3) := by decide +kernel
theorem dX7_placeKicker_89 : decode cX7_placeKicker 89 = .ok (.aload_n 0, 1) := by decide +kernel
theorem dX7_placeKicker_90 : decode cX7_placeKicker 90 = .ok (.iload_n 1, 1) := by decide +kernel
theorem dX7_placeKicker_91 : decode cX7_placeKicker 91 = .ok (.iconst 1, 1) := by decide +kernel
theorem dX7_placeKicker_92 : decode cX7_placeKicker 92 = .ok (.isub, 1) := by decide +kernel
theorem dX7_placeKicker_93 : decode cX7_placeKicker 93 = .ok (.iload_n 2, 1) := by decide +kernel
theorem dX7_placeKicker_94 : decode cX7_placeKicker 94 = .ok (.iconst 1, 1) := by decide +kernel
theorem dX7_placeKicker_95 : decode cX7_placeKicker 95 = .ok (.iload 4, 2) := by decide +kernel
theorem dX7_placeKicker_97 : decode cX7_placeKicker 97 = .ok (.ishl, 1) := by decide +kernel
theorem dX7_placeKicker_98 : decode cX7_placeKicker 98 = .ok (.ior, 1) := by decide +kernel
theorem dX7_placeKicker_99 : decode cX7_placeKicker 99 = .ok (.iload_n 3, 1) := by decide +kernel
theorem dX7_placeKicker_100 : decode cX7_placeKicker 100 = .ok (.iload 4, 2) := by decide +kernel
theorem dX7_placeKicker_102 : decode cX7_placeKicker 102 = .ok (.getstatic 70, 3) := by decide +kernel
theorem dX7_placeKicker_105 : decode cX7_placeKicker 105 = .ok (.iload_n 1, 1) := by decide +kernel
theorem dX7_placeKicker_106 : decode cX7_placeKicker 106 = .ok (.iaload, 1) := by decide +kernel
theorem dX7_placeKicker_107 : decode cX7_placeKicker 107 = .ok (.imul, 1) := by decide +kernel
theorem dX7_placeKicker_108 : decode cX7_placeKicker 108 = .ok (.iadd, 1) := by decide +kernel
theorem dX7_placeKicker_109 : decode cX7_placeKicker 109 = .ok (.invokevirtual 66, 3) := by decide +kernel
theorem dX7_placeKicker_112 : decode cX7_placeKicker 112 = .ok (.iinc 4 1, 3) := by decide +kernel
theorem dX7_placeKicker_115 : decode cX7_placeKicker 115 = .ok (.goto (-50), 3) := by decide +kernel
theorem dX7_placeKicker_118 : decode cX7_placeKicker 118 = .ok (.return_, 1) := by decide +kernel
def LX7_placeKicker_65 (D : GD) (d : Nat) (v1 : Int32) (v2 : Int32) (v3 : Int32) (v4 : Int32) (M : Mm) (post : Option Value → Mm → Prop) : Prop := AW D (d + 1) 0 0 mX7_placeKicker 0 0 65 [(0, .ref 29), (1, .int v1), (2, .int v2), (3, .int v3), (4, .int v4)] [] M post
set_option maxRecDepth 20000 in
theorem rX7_placeKicker (D : GD) (d : Nat) (a1 : Int32) (a2 : Int32) (a3 : Int32) (M : Mm) (post : Option Value → Mm → Prop) (hL : Lay 29 46 M) 
    (h : ((0 ≤ a1 → AMv D d mX7_stepBack [.ref 29, .int (((2 : Int32) * a1) + (1 : Int32)), .int a1] M (fun M2 => LX7_placeKicker_65 D d a1 a2 a3 (0 : Int32) M2 post)) ∧ (¬ 0 ≤ a1 → ∀ x8 : Int32, x8 = (gI M 35 0) → (((gI M 29 3) < x8 → ∀ M10 : Mm, M10 = sI M 29 3 x8 → ∀ M14 : Mm, M14 = sI M10 29 4 a3 → post none M14) ∧ (¬ (gI M 29 3) < x8 → ((¬ x8 = (gI M 29 3) → post none M) ∧ (x8 = (gI M 29 3) → (((gI M 29 4) ≤ a3 → post none M) ∧ (¬ (gI M 29 4) ≤ a3 → ∀ M20 : Mm, M20 = sI M 29 3 x8 → ∀ M24 : Mm, M24 = sI M20 29 4 a3 → post none M24))))))))) :
    AM D (d + 1) 0 0 mX7_placeKicker [.ref 29, .int a1, .int a2, .int a3] M post := by
  refine AM.of (by decide) (Nat.le_of_ble_eq_true rfl) ?_
  show AW D (d + 1) 0 0 mX7_placeKicker 0 0 0 [(0, .ref 29), (1, .int a1), (2, .int a2), (3, .int a3)] [] M post
  refine ab_iload_n 1 dX7_placeKicker_0 rfl ?_
  refine ab_if_ge (tgt := 52) dX7_placeKicker_1 (by decide) (fun c1 => ?_) (fun c1 => ?_)
  · have h := h.1 c1
    refine ab_aload_n 0 dX7_placeKicker_52 rfl ?_
    refine ab_iconst (v := 2) dX7_placeKicker_53 (by decide) ?_
    refine ab_iload_n 1 dX7_placeKicker_54 rfl ?_
    refine ab_imul dX7_placeKicker_55 ?_
    refine ab_iconst (v := 1) dX7_placeKicker_56 (by decide) ?_
    refine ab_iadd dX7_placeKicker_57 ?_
    refine ab_iload_n 1 dX7_placeKicker_58 rfl ?_
    refine ab_callV (a := 29) (c0 := 7) (d' := d) (mc' := 0) (ms' := 0) (vs := [.int (((2 : Int32) * a1) + (1 : Int32)), .int a1]) (st := []) dX7_placeKicker_59 ⟨cw_X7_stepBack, w_799⟩ w_801 w_20 (by decide) (hL.sh 29 rfl (by decide) (by decide)).1 (hL.sh 29 rfl (by decide) (by decide)).2 rfl rfl (Nat.le_of_ble_eq_true rfl) (Nat.le_refl _) (Nat.zero_le _) (Nat.zero_le _) (AM.mono h (fun r M2 ⟨hr4, hc5, h⟩ => ?_))
    subst hr4
    refine ab_rv ?_
    have hm6 : Sm M M2 := (Sm.refl M).trans hc5
    have hl7 := hL.of hm6
    refine ab_iconst (v := 0) dX7_placeKicker_62 (by decide) ?_
    refine ab_istore (lv1 := [(4, .int (0 : Int32)), (0, .ref 29), (1, .int a1), (2, .int a2), (3, .int a3)]) dX7_placeKicker_63 (by decide) rfl ?_
    exact ab_sub [1, 2, 3, 4, 0] rfl h
  · have h := h.2 c1
    refine ab_aload_n 0 dX7_placeKicker_4 rfl ?_
    refine ab_getP (r := 34) dX7_placeKicker_5 fs_7_22_7 rfl (hL.sh 29 rfl (by decide) (by decide)).1 (hL.sh 29 rfl (by decide) (by decide)).2 (hL.pt 38 rfl (by decide) (by decide)) ?_
    refine ab_iconst (v := 0) dX7_placeKicker_8 (by decide) ?_
    refine ab_aald4j (j := 0) (r := 35) dX7_placeKicker_9 (hL.sh 34 rfl (by decide) (by decide)) (vin (by decide)) (by decide) (hL.pt 41 rfl (by decide) (by decide)) ?_
    refine ab_iconst (v := 0) dX7_placeKicker_10 (by decide) ?_
    refine ab_ialdj (j := 0) dX7_placeKicker_11 (hL.sh 35 rfl (by decide) (by decide)) (vin (by decide)) (by decide) ?_
    refine ab_topi (fun x8 hx8 => ?_)
    have h := h x8 hx8
    refine ab_istore (lv1 := [(4, .int x8), (0, .ref 29), (1, .int a1), (2, .int a2), (3, .int a3)]) dX7_placeKicker_12 (by decide) rfl ?_
    refine ab_iload 0 dX7_placeKicker_14 rfl ?_
    refine ab_aload_n 1 dX7_placeKicker_16 rfl ?_
    refine ab_getI dX7_placeKicker_17 fs_7_25_7 rfl (hL.sh 29 rfl (by decide) (by decide)).1 (hL.sh 29 rfl (by decide) (by decide)).2 ?_
    refine ab_icmp_gt (tgt := 40) dX7_placeKicker_20 (by decide) (fun c9 => ?_) (fun c9 => ?_)
    · have h := h.1 c9
      refine ab_aload_n 1 dX7_placeKicker_40 rfl ?_
      refine ab_iload 0 dX7_placeKicker_41 rfl ?_
      refine ab_putI dX7_placeKicker_43 fs_7_25_7 rfl rfl (hL.sh 29 rfl (by decide) (by decide)).1 (hL.sh 29 rfl (by decide) (by decide)).2 ?_
      refine ab_nameM (fun M10 hM10 => ?_)
      have h := h M10 hM10
      have hs13 : Sm M M10 := hM10 ▸ (Sm.refl _).i
      have hm11 : Sm M M10 := (Sm.refl M).trans hs13
      have hl12 := hL.of hm11
      refine ab_aload_n 1 dX7_placeKicker_46 rfl ?_
      refine ab_iload_n 4 dX7_placeKicker_47 rfl ?_
      refine ab_putI dX7_placeKicker_48 fs_7_29_7 rfl rfl (hl12.sh 29 rfl (by decide) (by decide)).1 (hl12.sh 29 rfl (by decide) (by decide)).2 ?_
      refine ab_nameM (fun M14 hM14 => ?_)
      have h := h M14 hM14
      have hs17 : Sm M10 M14 := hM14 ▸ (Sm.refl _).i
      have hm15 : Sm M M14 := hm11.trans hs17
      have hl16 := hL.of hm15
      exact ab_vret dX7_placeKicker_51 rfl h
    · have h := h.2 c9
      refine ab_iload 0 dX7_placeKicker_23 rfl ?_
      refine ab_aload_n 1 dX7_placeKicker_25 rfl ?_
      refine ab_getI dX7_placeKicker_26 fs_7_25_7 rfl (hL.sh 29 rfl (by decide) (by decide)).1 (hL.sh 29 rfl (by decide) (by decide)).2 ?_
      refine ab_icmp_ne (tgt := 51) dX7_placeKicker_29 (by decide) (fun c18 => ?_) (fun c18 => ?_)
      · have h := h.1 c18
        exact ab_vret dX7_placeKicker_51 rfl h
      · have h := h.2 c18
        refine ab_iload_n 4 dX7_placeKicker_32 rfl ?_
        refine ab_aload_n 1 dX7_placeKicker_33 rfl ?_
        refine ab_getI dX7_placeKicker_34 fs_7_29_7 rfl (hL.sh 29 rfl (by decide) (by decide)).1 (hL.sh 29 rfl (by decide) (by decide)).2 ?_
        refine ab_icmp_ge (tgt := 51) dX7_placeKicker_37 (by decide) (fun c19 => ?_) (fun c19 => ?_)
        · have h := h.1 c19
          exact ab_vret dX7_placeKicker_51 rfl h
        · have h := h.2 c19
          refine ab_aload_n 1 dX7_placeKicker_40 rfl ?_
          refine ab_iload 0 dX7_placeKicker_41 rfl ?_
          refine ab_putI dX7_placeKicker_43 fs_7_25_7 rfl rfl (hL.sh 29 rfl (by decide) (by decide)).1 (hL.sh 29 rfl (by decide) (by decide)).2 ?_
          refine ab_nameM (fun M20 hM20 => ?_)
          have h := h M20 hM20
          have hs23 : Sm M M20 := hM20 ▸ (Sm.refl _).i
          have hm21 : Sm M M20 := (Sm.refl M).trans hs23
          have hl22 := hL.of hm21
          refine ab_aload_n 1 dX7_placeKicker_46 rfl ?_
          refine ab_iload_n 4 dX7_placeKicker_47 rfl ?_
          refine ab_putI dX7_placeKicker_48 fs_7_29_7 rfl rfl (hl22.sh 29 rfl (by decide) (by decide)).1 (hl22.sh 29 rfl (by decide) (by decide)).2 ?_
          refine ab_nameM (fun M24 hM24 => ?_)
          have h := h M24 hM24
          have hs27 : Sm M20 M24 := hM24 ▸ (Sm.refl _).i
          have hm25 : Sm M M24 := hm21.trans hs27
          have hl26 := hL.of hm25
          exact ab_vret dX7_placeKicker_51 rfl h
set_option maxRecDepth 20000 in
theorem rX7_placeKicker_65 (D : GD) (d : Nat)  (v1 : Int32) (v2 : Int32) (v3 : Int32) (v4 : Int32) (M : Mm) (post : Option Value → Mm → Prop) (hL : Lay 29 46 M) 
    (h : (((5 : Int32) ≤ v4 → post none M) ∧ (¬ (5 : Int32) ≤ v4 → ((¬ ((v2 >>> (v4 &&& 31)) &&& (1 : Int32)) = 0 → ∀ x3 : Int32, x3 = v4 + (1 : Int32) → LX7_placeKicker_65 D d v1 v2 v3 x3 M post) ∧ (((v2 >>> (v4 &&& 31)) &&& (1 : Int32)) = 0 → AMv D d mX7_stepBack [.ref 29, .int ((2 : Int32) * v1), .int v4] M (fun M4 => vp_in v1 5 ∧ AMv D d mX7_placeKicker [.ref 29, .int (v1 - (1 : Int32)), .int (v2 ||| ((1 : Int32) <<< (v4 &&& 31))), .int (v3 + (v4 * (tens.getD v1.toNatClampNeg 0)))] M4 (fun M11 => ∀ x17 : Int32, x17 = v4 + (1 : Int32) → LX7_placeKicker_65 D d v1 v2 v3 x17 M11 post))))))) :
    LX7_placeKicker_65 D d v1 v2 v3 v4 M post := by
  show AW D (d + 1) 0 0 mX7_placeKicker 0 0 65 [(0, .ref 29), (1, .int v1), (2, .int v2), (3, .int v3), (4, .int v4)] [] M post
  refine ab_iload 4 dX7_placeKicker_65 rfl ?_
  refine ab_iconst (v := 5) dX7_placeKicker_67 (by decide) ?_
  refine ab_icmp_ge (tgt := 118) dX7_placeKicker_68 (by decide) (fun c1 => ?_) (fun c1 => ?_)
  · have h := h.1 c1
    exact ab_vret dX7_placeKicker_118 rfl h
  · have h := h.2 c1
    refine ab_iload_n 2 dX7_placeKicker_71 rfl ?_
    refine ab_iload 4 dX7_placeKicker_72 rfl ?_
    refine ab_ishr dX7_placeKicker_74 ?_
    refine ab_iconst (v := 1) dX7_placeKicker_75 (by decide) ?_
    refine ab_iand dX7_placeKicker_76 ?_
    refine ab_if_ne (tgt := 112) dX7_placeKicker_77 (by decide) (fun c2 => ?_) (fun c2 => ?_)
    · have h := h.1 c2
      obtain ⟨x3, hx3⟩ : ∃ y : Int32, y = v4 + (1 : Int32) := ⟨_, rfl⟩
      have h := h x3 hx3
      refine ab_iinc (v := x3) 4 (lv1 := [(4, .int x3), (0, .ref 29), (1, .int v1), (2, .int v2), (3, .int v3)]) dX7_placeKicker_112 rfl (by rw [hx3]; rfl) (by decide) rfl ?_
      refine ab_goto (tgt := 65) dX7_placeKicker_115 (by decide) ?_
      exact ab_sub [1, 2, 3, 4, 0] rfl h
    · have h := h.2 c2
      refine ab_aload_n 0 dX7_placeKicker_80 rfl ?_
      refine ab_iconst (v := 2) dX7_placeKicker_81 (by decide) ?_
      refine ab_iload_n 1 dX7_placeKicker_82 rfl ?_
      refine ab_imul dX7_placeKicker_83 ?_
      refine ab_iload 4 dX7_placeKicker_84 rfl ?_
      refine ab_callV (a := 29) (c0 := 7) (d' := d) (mc' := 0) (ms' := 0) (vs := [.int ((2 : Int32) * v1), .int v4]) (st := []) dX7_placeKicker_86 ⟨cw_X7_stepBack, w_799⟩ w_801 w_20 (by decide) (hL.sh 29 rfl (by decide) (by decide)).1 (hL.sh 29 rfl (by decide) (by decide)).2 rfl rfl (Nat.le_of_ble_eq_true rfl) (Nat.le_refl _) (Nat.zero_le _) (Nat.zero_le _) (AM.mono h (fun r M4 ⟨hr6, hc7, h⟩ => ?_))
      subst hr6
      refine ab_rv ?_
      have hm8 : Sm M M4 := (Sm.refl M).trans hc7
      have hl9 := hL.of hm8
      refine ab_aload_n 0 dX7_placeKicker_89 rfl ?_
      refine ab_iload_n 1 dX7_placeKicker_90 rfl ?_
      refine ab_iconst (v := 1) dX7_placeKicker_91 (by decide) ?_
      refine ab_isub dX7_placeKicker_92 ?_
      refine ab_iload_n 2 dX7_placeKicker_93 rfl ?_
      refine ab_iconst (v := 1) dX7_placeKicker_94 (by decide) ?_
      refine ab_iload 4 dX7_placeKicker_95 rfl ?_
      refine ab_ishl dX7_placeKicker_97 ?_
      refine ab_ior dX7_placeKicker_98 ?_
      refine ab_iload_n 3 dX7_placeKicker_99 rfl ?_
      refine ab_iload 4 dX7_placeKicker_100 rfl ?_
      refine ab_tensr dX7_placeKicker_102 w_822 ?_
      refine ab_iload_n 1 dX7_placeKicker_105 rfl ?_
      have hb10 := h.1
      have h := h.2
      refine ab_tensl dX7_placeKicker_106 hb10 ?_
      refine ab_imul dX7_placeKicker_107 ?_
      refine ab_iadd dX7_placeKicker_108 ?_
      refine ab_callV (a := 29) (c0 := 7) (d' := d) (mc' := 0) (ms' := 0) (vs := [.int (v1 - (1 : Int32)), .int (v2 ||| ((1 : Int32) <<< (v4 &&& 31))), .int (v3 + (v4 * (tens.getD v1.toNatClampNeg 0)))]) (st := []) dX7_placeKicker_109 ⟨cw_X7_placeKicker, w_818⟩ w_820 w_21 (by decide) (hl9.sh 29 rfl (by decide) (by decide)).1 (hl9.sh 29 rfl (by decide) (by decide)).2 rfl rfl (Nat.le_of_ble_eq_true rfl) (Nat.le_refl _) (Nat.zero_le _) (Nat.zero_le _) (AM.mono h (fun r M11 ⟨hr13, hc14, h⟩ => ?_))
      subst hr13
      refine ab_rv ?_
      have hm15 : Sm M M11 := hm8.trans hc14
      have hl16 := hL.of hm15
      obtain ⟨x17, hx17⟩ : ∃ y : Int32, y = v4 + (1 : Int32) := ⟨_, rfl⟩
      have h := h x17 hx17
      refine ab_iinc (v := x17) 4 (lv1 := [(4, .int x17), (0, .ref 29), (1, .int v1), (2, .int v2), (3, .int v3)]) dX7_placeKicker_112 rfl (by rw [hx17]; rfl) (by decide) rfl ?_
      refine ab_goto (tgt := 65) dX7_placeKicker_115 (by decide) ?_
      exact ab_sub [1, 2, 3, 4, 0] rfl h
theorem dX7_judged_0 : decode cX7_judged 0 = .ok (.iload_n 2, 1) := by decide +kernel
theorem dX7_judged_1 : decode cX7_judged 1 = .ok (.ifCond .lt 14, 3) := by decide +kernel
theorem dX7_judged_4 : decode cX7_judged 4 = .ok (.iload_n 2, 1) := by decide +kernel
theorem dX7_judged_5 : decode cX7_judged 5 = .ok (.iload_n 1, 1) := by decide +kernel
theorem dX7_judged_6 : decode cX7_judged 6 = .ok (.if_icmp .ge 9, 3) := by decide +kernel
theorem dX7_judged_9 : decode cX7_judged 9 = .ok (.iload_n 1, 1) := by decide +kernel
theorem dX7_judged_10 : decode cX7_judged 10 = .ok (.aload_n 0, 1) := by decide +kernel
theorem dX7_judged_11 : decode cX7_judged 11 = .ok (.arraylength, 1) := by decide +kernel
theorem dX7_judged_12 : decode cX7_judged 12 = .ok (.if_icmp .le 7, 3) := by decide +kernel
theorem dX7_judged_15 : decode cX7_judged 15 = .ok (.sipush 1000, 3) := by decide +kernel
theorem dX7_judged_18 : decode cX7_judged 18 = .ok (.ireturn, 1) := by decide +kernel
theorem dX7_judged_19 : decode cX7_judged 19 = .ok (.lconst 0, 1) := by decide +kernel
theorem dX7_judged_20 : decode cX7_judged 20 = .ok (.lstore_n 3, 1) := by decide +kernel
theorem dX7_judged_21 : decode cX7_judged 21 = .ok (.lconst 0, 1) := by decide +kernel
theorem dX7_judged_22 : decode cX7_judged 22 = .ok (.lstore 5, 2) := by decide +kernel
theorem dX7_judged_24 : decode cX7_judged 24 = .ok (.iconst 0, 1) := by decide +kernel
theorem dX7_judged_25 : decode cX7_judged 25 = .ok (.istore 7, 2) := by decide +kernel
theorem dX7_judged_27 : decode cX7_judged 27 = .ok (.iload 7, 2) := by decide +kernel
theorem dX7_judged_29 : decode cX7_judged 29 = .ok (.bipush 10, 2) := by decide +kernel
theorem dX7_judged_31 : decode cX7_judged 31 = .ok (.if_icmp .ge 128, 3) := by decide +kernel
theorem dX7_judged_34 : decode cX7_judged 34 = .ok (.iload 7, 2) := by decide +kernel
theorem dX7_judged_36 : decode cX7_judged 36 = .ok (.iload_n 1, 1) := by decide +kernel
theorem dX7_judged_37 : decode cX7_judged 37 = .ok (.iload_n 2, 1) := by decide +kernel
theorem dX7_judged_38 : decode cX7_judged 38 = .ok (.isub, 1) := by decide +kernel
theorem dX7_judged_39 : decode cX7_judged 39 = .ok (.if_icmp .lt 10, 3) := by decide +kernel
theorem dX7_judged_42 : decode cX7_judged 42 = .ok (.sipush 1000, 3) := by decide +kernel
theorem dX7_judged_45 : decode cX7_judged 45 = .ok (.iload 7, 2) := by decide +kernel
theorem dX7_judged_47 : decode cX7_judged 47 = .ok (.iadd, 1) := by decide +kernel
theorem dX7_judged_48 : decode cX7_judged 48 = .ok (.ireturn, 1) := by decide +kernel
theorem dX7_judged_49 : decode cX7_judged 49 = .ok (.aload_n 0, 1) := by decide +kernel
theorem dX7_judged_50 : decode cX7_judged 50 = .ok (.iload_n 2, 1) := by decide +kernel
theorem dX7_judged_51 : decode cX7_judged 51 = .ok (.iload 7, 2) := by decide +kernel
theorem dX7_judged_53 : decode cX7_judged 53 = .ok (.iadd, 1) := by decide +kernel
theorem dX7_judged_54 : decode cX7_judged 54 = .ok (.laload, 1) := by decide +kernel
theorem dX7_judged_55 : decode cX7_judged 55 = .ok (.lstore 8, 2) := by decide +kernel
theorem dX7_judged_57 : decode cX7_judged 57 = .ok (.lload 8, 2) := by decide +kernel
theorem dX7_judged_59 : decode cX7_judged 59 = .ok (.lconst 0, 1) := by decide +kernel
theorem dX7_judged_60 : decode cX7_judged 60 = .ok (.lcmp, 1) := by decide +kernel
theorem dX7_judged_61 : decode cX7_judged 61 = .ok (.ifCond .eq 16, 3) := by decide +kernel
theorem dX7_judged_64 : decode cX7_judged 64 = .ok (.lload 8, 2) := by decide +kernel
theorem dX7_judged_66 : decode cX7_judged 66 = .ok (.lconst 1, 1) := by decide +kernel
theorem dX7_judged_67 : decode cX7_judged 67 = .ok (.lcmp, 1) := by decide +kernel
theorem dX7_judged_68 : decode cX7_judged 68 = .ok (.ifCond .eq 9, 3) := by decide +kernel
theorem dX7_judged_71 : decode cX7_judged 71 = .ok (.bipush (-10), 2) := by decide +kernel
theorem dX7_judged_73 : decode cX7_judged 73 = .ok (.iload 7, 2) := by decide +kernel
theorem dX7_judged_75 : decode cX7_judged 75 = .ok (.isub, 1) := by decide +kernel
theorem dX7_judged_76 : decode cX7_judged 76 = .ok (.ireturn, 1) := by decide +kernel
theorem dX7_judged_77 : decode cX7_judged 77 = .ok (.lload_n 3, 1) := by decide +kernel
theorem dX7_judged_78 : decode cX7_judged 78 = .ok (.iload 7, 2) := by decide +kernel
theorem dX7_judged_80 : decode cX7_judged 80 = .ok (.iconst 2, 1) := by decide +kernel
theorem dX7_judged_81 : decode cX7_judged 81 = .ok (.irem, 1) := by decide +kernel
theorem dX7_judged_82 : decode cX7_judged 82 = .ok (.ifCond .ne 8, 3) := by decide +kernel
theorem dX7_judged_85 : decode cX7_judged 85 = .ok (.lload 8, 2) := by decide +kernel
theorem dX7_judged_87 : decode cX7_judged 87 = .ok (.goto 4, 3) := by decide +kernel
theorem dX7_judged_90 : decode cX7_judged 90 = .ok (.lconst 0, 1) := by decide +kernel
theorem dX7_judged_91 : decode cX7_judged 91 = .ok (.ladd, 1) := by decide +kernel
theorem dX7_judged_92 : decode cX7_judged 92 = .ok (.lstore_n 3, 1) := by decide +kernel
theorem dX7_judged_93 : decode cX7_judged 93 = .ok (.lload 5, 2) := by decide +kernel
theorem dX7_judged_95 : decode cX7_judged 95 = .ok (.iload 7, 2) := by decide +kernel
theorem dX7_judged_97 : decode cX7_judged 97 = .ok (.iconst 2, 1) := by decide +kernel
theorem dX7_judged_98 : decode cX7_judged 98 = .ok (.irem, 1) := by decide +kernel
theorem dX7_judged_99 : decode cX7_judged 99 = .ok (.ifCond .ne 7, 3) := by decide +kernel
theorem dX7_judged_102 : decode cX7_judged 102 = .ok (.lconst 0, 1) := by decide +kernel
theorem dX7_judged_103 : decode cX7_judged 103 = .ok (.goto 5, 3) := by decide +kernel
theorem dX7_judged_106 : decode cX7_judged 106 = .ok (.lload 8, 2) := by decide +kernel
theorem dX7_judged_108 : decode cX7_judged 108 = .ok (.ladd, 1) := by decide +kernel
theorem dX7_judged_109 : decode cX7_judged 109 = .ok (.lstore 5, 2) := by decide +kernel
theorem dX7_judged_111 : decode cX7_judged 111 = .ok (.lload_n 3, 1) := by decide +kernel
theorem dX7_judged_112 : decode cX7_judged 112 = .ok (.lload 5, 2) := by decide +kernel
theorem dX7_judged_114 : decode cX7_judged 114 = .ok (.ldc2_w 74, 3) := by decide +kernel
theorem dX7_judged_117 : decode cX7_judged 117 = .ok (.ladd, 1) := by decide +kernel
theorem dX7_judged_118 : decode cX7_judged 118 = .ok (.iload 7, 2) := by decide +kernel
theorem dX7_judged_120 : decode cX7_judged 120 = .ok (.iconst 1, 1) := by decide +kernel
theorem dX7_judged_121 : decode cX7_judged 121 = .ok (.iadd, 1) := by decide +kernel
theorem dX7_judged_122 : decode cX7_judged 122 = .ok (.iconst 2, 1) := by decide +kernel
theorem dX7_judged_123 : decode cX7_judged 123 = .ok (.idiv, 1) := by decide +kernel
theorem dX7_judged_124 : decode cX7_judged 124 = .ok (.i2l, 1) := by decide +kernel
theorem dX7_judged_125 : decode cX7_judged 125 = .ok (.lsub, 1) := by decide +kernel
theorem dX7_judged_126 : decode cX7_judged 126 = .ok (.lcmp, 1) := by decide +kernel
theorem dX7_judged_127 : decode cX7_judged 127 = .ok (.ifCond .le 5, 3) := by decide +kernel
theorem dX7_judged_130 : decode cX7_judged 130 = .ok (.iconst 1, 1) := by decide +kernel
theorem dX7_judged_131 : decode cX7_judged 131 = .ok (.ireturn, 1) := by decide +kernel
theorem dX7_judged_132 : decode cX7_judged 132 = .ok (.lload 5, 2) := by decide +kernel
theorem dX7_judged_134 : decode cX7_judged 134 = .ok (.lload_n 3, 1) := by decide +kernel
theorem dX7_judged_135 : decode cX7_judged 135 = .ok (.ldc2_w 74, 3) := by decide +kernel
theorem dX7_judged_138 : decode cX7_judged 138 = .ok (.ladd, 1) := by decide +kernel
theorem dX7_judged_139 : decode cX7_judged 139 = .ok (.lconst 1, 1) := by decide +kernel
theorem dX7_judged_140 : decode cX7_judged 140 = .ok (.lsub, 1) := by decide +kernel
theorem dX7_judged_141 : decode cX7_judged 141 = .ok (.iload 7, 2) := by decide +kernel
theorem dX7_judged_143 : decode cX7_judged 143 = .ok (.iconst 2, 1) := by decide +kernel
theorem dX7_judged_144 : decode cX7_judged 144 = .ok (.idiv, 1) := by decide +kernel
theorem dX7_judged_145 : decode cX7_judged 145 = .ok (.i2l, 1) := by decide +kernel
theorem dX7_judged_146 : decode cX7_judged 146 = .ok (.lsub, 1) := by decide +kernel
theorem dX7_judged_147 : decode cX7_judged 147 = .ok (.lcmp, 1) := by decide +kernel
theorem dX7_judged_148 : decode cX7_judged 148 = .ok (.ifCond .le 5, 3) := by decide +kernel
theorem dX7_judged_151 : decode cX7_judged 151 = .ok (.iconst 2, 1) := by decide +kernel
theorem dX7_judged_152 : decode cX7_judged 152 = .ok (.ireturn, 1) := by decide +kernel
theorem dX7_judged_153 : decode cX7_judged 153 = .ok (.iinc 7 1, 3) := by decide +kernel
theorem dX7_judged_156 : decode cX7_judged 156 = .ok (.goto (-129), 3) := by decide +kernel
theorem dX7_judged_159 : decode cX7_judged 159 = .ok (.iconst 3, 1) := by decide +kernel
theorem dX7_judged_160 : decode cX7_judged 160 = .ok (.ireturn, 1) := by decide +kernel
def LX7_judged_27 (D : GD) (d : Nat) (v0 : Nat) (v1 : Int32) (v2 : Int32) (v3 : Int64) (v5 : Int64) (v7 : Int32) (M : Mm) (post : Option Value → Mm → Prop) : Prop := AW D d 0 0 mX7_judged 0 0 27 [(0, .ref v0), (1, .int v1), (2, .int v2), (3, .long v3), (5, .long v5), (7, .int v7)] [] M post
set_option maxRecDepth 20000 in
theorem rX7_judged (D : GD) (d : Nat) (a1 : Nat) (a2 : Int32) (a3 : Int32) (M : Mm) (post : Option Value → Mm → Prop) (hL : Lay 0 0 M) (sa1 : Sh M a1 (2, 60))
    (h : ((a3 < 0 → post (some (.int (1000 : Int32))) M) ∧ (¬ a3 < 0 → ((a2 ≤ a3 → post (some (.int (1000 : Int32))) M) ∧ (¬ a2 ≤ a3 → ((a2 ≤ (60 : Int32) → LX7_judged_27 D d a1 a2 a3 (0 : Int64) (0 : Int64) (0 : Int32) M post) ∧ (¬ a2 ≤ (60 : Int32) → post (some (.int (1000 : Int32))) M))))))) :
    AM D d 0 0 mX7_judged [.ref a1, .int a2, .int a3] M post := by
  refine AM.of (by decide) (Nat.le_of_ble_eq_true rfl) ?_
  show AW D d 0 0 mX7_judged 0 0 0 [(0, .ref a1), (1, .int a2), (2, .int a3)] [] M post
  refine ab_iload_n 2 dX7_judged_0 rfl ?_
  refine ab_if_lt (tgt := 15) dX7_judged_1 (by decide) (fun c1 => ?_) (fun c1 => ?_)
  · have h := h.1 c1
    refine ab_sipush (v := 1000) dX7_judged_15 (by decide) ?_
    exact ab_iret dX7_judged_18 rfl h
  · have h := h.2 c1
    refine ab_iload_n 2 dX7_judged_4 rfl ?_
    refine ab_iload_n 1 dX7_judged_5 rfl ?_
    refine ab_icmp_ge (tgt := 15) dX7_judged_6 (by decide) (fun c2 => ?_) (fun c2 => ?_)
    · have h := h.1 c2
      refine ab_sipush (v := 1000) dX7_judged_15 (by decide) ?_
      exact ab_iret dX7_judged_18 rfl h
    · have h := h.2 c2
      refine ab_iload_n 1 dX7_judged_9 rfl ?_
      refine ab_aload_n 0 dX7_judged_10 rfl ?_
      refine ab_alenv (t := 2) (n := 60) (v := 60) dX7_judged_11 (sa1.of (Sm.refl M)) (by decide) (by decide) rfl ?_
      refine ab_icmp_le (tgt := 19) dX7_judged_12 (by decide) (fun c3 => ?_) (fun c3 => ?_)
      · have h := h.1 c3
        refine ab_lconst (v := 0) dX7_judged_19 (by decide) ?_
        refine ab_lstore_n (lv1 := [(3, .long (0 : Int64)), (0, .ref a1), (1, .int a2), (2, .int a3)]) dX7_judged_20 (by decide) rfl ?_
        refine ab_lconst (v := 0) dX7_judged_21 (by decide) ?_
        refine ab_lstore (lv1 := [(5, .long (0 : Int64)), (3, .long (0 : Int64)), (0, .ref a1), (1, .int a2), (2, .int a3)]) dX7_judged_22 (by decide) rfl ?_
        refine ab_iconst (v := 0) dX7_judged_24 (by decide) ?_
        refine ab_istore (lv1 := [(7, .int (0 : Int32)), (5, .long (0 : Int64)), (3, .long (0 : Int64)), (0, .ref a1), (1, .int a2), (2, .int a3)]) dX7_judged_25 (by decide) rfl ?_
        exact ab_sub [3, 4, 5, 2, 1, 0] rfl h
      · have h := h.2 c3
        refine ab_sipush (v := 1000) dX7_judged_15 (by decide) ?_
        exact ab_iret dX7_judged_18 rfl h
set_option maxRecDepth 20000 in
theorem rX7_judged_27 (D : GD) (d : Nat)  (v0 : Nat) (v1 : Int32) (v2 : Int32) (v3 : Int64) (v5 : Int64) (v7 : Int32) (M : Mm) (post : Option Value → Mm → Prop) (hL : Lay 0 0 M) (sv0 : Sh M v0 (2, 60))
    (h : (((10 : Int32) ≤ v7 → post (some (.int (3 : Int32))) M) ∧ (¬ (10 : Int32) ≤ v7 → ((v7 < (v1 - v2) → vp_in (v2 + v7) 60 ∧ ∀ x4 : Int64, x4 = (gL M v0 ((v2 + v7).toNatClampNeg)) → (((lg_cmp x4 (0 : Int64)) = 0 → ((¬ (v7 - v7 / (2 : Int32) * (2 : Int32)) = 0 → ∀ x7 : Int64, x7 = (v3 + (0 : Int64)) → ((¬ (v7 - v7 / (2 : Int32) * (2 : Int32)) = 0 → ∀ x9 : Int64, x9 = (v5 + x4) → (((lg_cmp x7 ((x9 + (5 : Int64)) - (((v7 + (1 : Int32)) / (2 : Int32))).toInt64)) ≤ 0 → (((lg_cmp x9 (((x7 + (5 : Int64)) - (1 : Int64)) - ((v7 / (2 : Int32))).toInt64)) ≤ 0 → ∀ x12 : Int32, x12 = v7 + (1 : Int32) → LX7_judged_27 D d v0 v1 v2 x7 x9 x12 M post) ∧ (¬ (lg_cmp x9 (((x7 + (5 : Int64)) - (1 : Int64)) - ((v7 / (2 : Int32))).toInt64)) ≤ 0 → post (some (.int (2 : Int32))) M))) ∧ (¬ (lg_cmp x7 ((x9 + (5 : Int64)) - (((v7 + (1 : Int32)) / (2 : Int32))).toInt64)) ≤ 0 → post (some (.int (1 : Int32))) M))) ∧ ((v7 - v7 / (2 : Int32) * (2 : Int32)) = 0 → ∀ x13 : Int64, x13 = (v5 + (0 : Int64)) → (((lg_cmp x7 ((x13 + (5 : Int64)) - (((v7 + (1 : Int32)) / (2 : Int32))).toInt64)) ≤ 0 → (((lg_cmp x13 (((x7 + (5 : Int64)) - (1 : Int64)) - ((v7 / (2 : Int32))).toInt64)) ≤ 0 → ∀ x16 : Int32, x16 = v7 + (1 : Int32) → LX7_judged_27 D d v0 v1 v2 x7 x13 x16 M post) ∧ (¬ (lg_cmp x13 (((x7 + (5 : Int64)) - (1 : Int64)) - ((v7 / (2 : Int32))).toInt64)) ≤ 0 → post (some (.int (2 : Int32))) M))) ∧ (¬ (lg_cmp x7 ((x13 + (5 : Int64)) - (((v7 + (1 : Int32)) / (2 : Int32))).toInt64)) ≤ 0 → post (some (.int (1 : Int32))) M))))) ∧ ((v7 - v7 / (2 : Int32) * (2 : Int32)) = 0 → ∀ x17 : Int64, x17 = (v3 + x4) → ((¬ (v7 - v7 / (2 : Int32) * (2 : Int32)) = 0 → ∀ x19 : Int64, x19 = (v5 + x4) → (((lg_cmp x17 ((x19 + (5 : Int64)) - (((v7 + (1 : Int32)) / (2 : Int32))).toInt64)) ≤ 0 → (((lg_cmp x19 (((x17 + (5 : Int64)) - (1 : Int64)) - ((v7 / (2 : Int32))).toInt64)) ≤ 0 → ∀ x22 : Int32, x22 = v7 + (1 : Int32) → LX7_judged_27 D d v0 v1 v2 x17 x19 x22 M post) ∧ (¬ (lg_cmp x19 (((x17 + (5 : Int64)) - (1 : Int64)) - ((v7 / (2 : Int32))).toInt64)) ≤ 0 → post (some (.int (2 : Int32))) M))) ∧ (¬ (lg_cmp x17 ((x19 + (5 : Int64)) - (((v7 + (1 : Int32)) / (2 : Int32))).toInt64)) ≤ 0 → post (some (.int (1 : Int32))) M))) ∧ ((v7 - v7 / (2 : Int32) * (2 : Int32)) = 0 → ∀ x23 : Int64, x23 = (v5 + (0 : Int64)) → (((lg_cmp x17 ((x23 + (5 : Int64)) - (((v7 + (1 : Int32)) / (2 : Int32))).toInt64)) ≤ 0 → (((lg_cmp x23 (((x17 + (5 : Int64)) - (1 : Int64)) - ((v7 / (2 : Int32))).toInt64)) ≤ 0 → ∀ x26 : Int32, x26 = v7 + (1 : Int32) → LX7_judged_27 D d v0 v1 v2 x17 x23 x26 M post) ∧ (¬ (lg_cmp x23 (((x17 + (5 : Int64)) - (1 : Int64)) - ((v7 / (2 : Int32))).toInt64)) ≤ 0 → post (some (.int (2 : Int32))) M))) ∧ (¬ (lg_cmp x17 ((x23 + (5 : Int64)) - (((v7 + (1 : Int32)) / (2 : Int32))).toInt64)) ≤ 0 → post (some (.int (1 : Int32))) M))))))) ∧ (¬ (lg_cmp x4 (0 : Int64)) = 0 → (((lg_cmp x4 (1 : Int64)) = 0 → ((¬ (v7 - v7 / (2 : Int32) * (2 : Int32)) = 0 → ∀ x29 : Int64, x29 = (v3 + (0 : Int64)) → ((¬ (v7 - v7 / (2 : Int32) * (2 : Int32)) = 0 → ∀ x31 : Int64, x31 = (v5 + x4) → (((lg_cmp x29 ((x31 + (5 : Int64)) - (((v7 + (1 : Int32)) / (2 : Int32))).toInt64)) ≤ 0 → (((lg_cmp x31 (((x29 + (5 : Int64)) - (1 : Int64)) - ((v7 / (2 : Int32))).toInt64)) ≤ 0 → ∀ x34 : Int32, x34 = v7 + (1 : Int32) → LX7_judged_27 D d v0 v1 v2 x29 x31 x34 M post) ∧ (¬ (lg_cmp x31 (((x29 + (5 : Int64)) - (1 : Int64)) - ((v7 / (2 : Int32))).toInt64)) ≤ 0 → post (some (.int (2 : Int32))) M))) ∧ (¬ (lg_cmp x29 ((x31 + (5 : Int64)) - (((v7 + (1 : Int32)) / (2 : Int32))).toInt64)) ≤ 0 → post (some (.int (1 : Int32))) M))) ∧ ((v7 - v7 / (2 : Int32) * (2 : Int32)) = 0 → ∀ x35 : Int64, x35 = (v5 + (0 : Int64)) → (((lg_cmp x29 ((x35 + (5 : Int64)) - (((v7 + (1 : Int32)) / (2 : Int32))).toInt64)) ≤ 0 → (((lg_cmp x35 (((x29 + (5 : Int64)) - (1 : Int64)) - ((v7 / (2 : Int32))).toInt64)) ≤ 0 → ∀ x38 : Int32, x38 = v7 + (1 : Int32) → LX7_judged_27 D d v0 v1 v2 x29 x35 x38 M post) ∧ (¬ (lg_cmp x35 (((x29 + (5 : Int64)) - (1 : Int64)) - ((v7 / (2 : Int32))).toInt64)) ≤ 0 → post (some (.int (2 : Int32))) M))) ∧ (¬ (lg_cmp x29 ((x35 + (5 : Int64)) - (((v7 + (1 : Int32)) / (2 : Int32))).toInt64)) ≤ 0 → post (some (.int (1 : Int32))) M))))) ∧ ((v7 - v7 / (2 : Int32) * (2 : Int32)) = 0 → ∀ x39 : Int64, x39 = (v3 + x4) → ((¬ (v7 - v7 / (2 : Int32) * (2 : Int32)) = 0 → ∀ x41 : Int64, x41 = (v5 + x4) → (((lg_cmp x39 ((x41 + (5 : Int64)) - (((v7 + (1 : Int32)) / (2 : Int32))).toInt64)) ≤ 0 → (((lg_cmp x41 (((x39 + (5 : Int64)) - (1 : Int64)) - ((v7 / (2 : Int32))).toInt64)) ≤ 0 → ∀ x44 : Int32, x44 = v7 + (1 : Int32) → LX7_judged_27 D d v0 v1 v2 x39 x41 x44 M post) ∧ (¬ (lg_cmp x41 (((x39 + (5 : Int64)) - (1 : Int64)) - ((v7 / (2 : Int32))).toInt64)) ≤ 0 → post (some (.int (2 : Int32))) M))) ∧ (¬ (lg_cmp x39 ((x41 + (5 : Int64)) - (((v7 + (1 : Int32)) / (2 : Int32))).toInt64)) ≤ 0 → post (some (.int (1 : Int32))) M))) ∧ ((v7 - v7 / (2 : Int32) * (2 : Int32)) = 0 → ∀ x45 : Int64, x45 = (v5 + (0 : Int64)) → (((lg_cmp x39 ((x45 + (5 : Int64)) - (((v7 + (1 : Int32)) / (2 : Int32))).toInt64)) ≤ 0 → (((lg_cmp x45 (((x39 + (5 : Int64)) - (1 : Int64)) - ((v7 / (2 : Int32))).toInt64)) ≤ 0 → ∀ x48 : Int32, x48 = v7 + (1 : Int32) → LX7_judged_27 D d v0 v1 v2 x39 x45 x48 M post) ∧ (¬ (lg_cmp x45 (((x39 + (5 : Int64)) - (1 : Int64)) - ((v7 / (2 : Int32))).toInt64)) ≤ 0 → post (some (.int (2 : Int32))) M))) ∧ (¬ (lg_cmp x39 ((x45 + (5 : Int64)) - (((v7 + (1 : Int32)) / (2 : Int32))).toInt64)) ≤ 0 → post (some (.int (1 : Int32))) M))))))) ∧ (¬ (lg_cmp x4 (1 : Int64)) = 0 → post (some (.int ((-10 : Int32) - v7))) M))))) ∧ (¬ v7 < (v1 - v2) → post (some (.int ((1000 : Int32) + v7))) M))))) :
    LX7_judged_27 D d v0 v1 v2 v3 v5 v7 M post := by
  show AW D d 0 0 mX7_judged 0 0 27 [(0, .ref v0), (1, .int v1), (2, .int v2), (3, .long v3), (5, .long v5), (7, .int v7)] [] M post
  refine ab_iload 5 dX7_judged_27 rfl ?_
  refine ab_bipush (v := 10) dX7_judged_29 (by decide) ?_
  refine ab_icmp_ge (tgt := 159) dX7_judged_31 (by decide) (fun c1 => ?_) (fun c1 => ?_)
  · have h := h.1 c1
    refine ab_iconst (v := 3) dX7_judged_159 (by decide) ?_
    exact ab_iret dX7_judged_160 rfl h
  · have h := h.2 c1
    refine ab_iload 5 dX7_judged_34 rfl ?_
    refine ab_iload_n 1 dX7_judged_36 rfl ?_
    refine ab_iload_n 2 dX7_judged_37 rfl ?_
    refine ab_isub dX7_judged_38 ?_
    refine ab_icmp_lt (tgt := 49) dX7_judged_39 (by decide) (fun c2 => ?_) (fun c2 => ?_)
    · have h := h.1 c2
      refine ab_aload_n 0 dX7_judged_49 rfl ?_
      refine ab_iload_n 2 dX7_judged_50 rfl ?_
      refine ab_iload 5 dX7_judged_51 rfl ?_
      refine ab_iadd dX7_judged_53 ?_
      have hb3 := h.1
      have h := h.2
      refine ab_laldj (j := (v2 + v7).toNatClampNeg) dX7_judged_54 (sv0.of (Sm.refl M)) hb3 rfl ?_
      refine ab_topl (fun x4 hx4 => ?_)
      have h := h x4 hx4
      refine ab_lstore (lv1 := [(8, .long x4), (0, .ref v0), (1, .int v1), (2, .int v2), (3, .long v3), (5, .long v5), (7, .int v7)]) dX7_judged_55 (by decide) rfl ?_
      refine ab_lload 0 dX7_judged_57 rfl ?_
      refine ab_lconst (v := 0) dX7_judged_59 (by decide) ?_
      refine ab_lcmp dX7_judged_60 ?_
      refine ab_if_eq (tgt := 77) dX7_judged_61 (by decide) (fun c5 => ?_) (fun c5 => ?_)
      · have h := h.1 c5
        refine ab_lload_n 4 dX7_judged_77 rfl ?_
        refine ab_iload 6 dX7_judged_78 rfl ?_
        refine ab_iconst (v := 2) dX7_judged_80 (by decide) ?_
        refine ab_irem dX7_judged_81 (by decide) ?_
        refine ab_if_ne (tgt := 90) dX7_judged_82 (by decide) (fun c6 => ?_) (fun c6 => ?_)
        · have h := h.1 c6
          refine ab_lconst (v := 0) dX7_judged_90 (by decide) ?_
          refine ab_ladd dX7_judged_91 ?_
          refine ab_topl (fun x7 hx7 => ?_)
          have h := h x7 hx7
          refine ab_lstore_n (lv1 := [(3, .long x7), (8, .long x4), (0, .ref v0), (1, .int v1), (2, .int v2), (5, .long v5), (7, .int v7)]) dX7_judged_92 (by decide) rfl ?_
          refine ab_lload 5 dX7_judged_93 rfl ?_
          refine ab_iload 6 dX7_judged_95 rfl ?_
          refine ab_iconst (v := 2) dX7_judged_97 (by decide) ?_
          refine ab_irem dX7_judged_98 (by decide) ?_
          refine ab_if_ne (tgt := 106) dX7_judged_99 (by decide) (fun c8 => ?_) (fun c8 => ?_)
          · have h := h.1 c8
            refine ab_lload 1 dX7_judged_106 rfl ?_
            refine ab_ladd dX7_judged_108 ?_
            refine ab_topl (fun x9 hx9 => ?_)
            have h := h x9 hx9
            refine ab_lstore (lv1 := [(5, .long x9), (3, .long x7), (8, .long x4), (0, .ref v0), (1, .int v1), (2, .int v2), (7, .int v7)]) dX7_judged_109 (by decide) rfl ?_
            refine ab_lload_n 1 dX7_judged_111 rfl ?_
            refine ab_lload 0 dX7_judged_112 rfl ?_
            refine ab_ldc2 dX7_judged_114 w_835 ?_
            refine ab_ladd dX7_judged_117 ?_
            refine ab_iload 6 dX7_judged_118 rfl ?_
            refine ab_iconst (v := 1) dX7_judged_120 (by decide) ?_
            refine ab_iadd dX7_judged_121 ?_
            refine ab_iconst (v := 2) dX7_judged_122 (by decide) ?_
            refine ab_idiv dX7_judged_123 (by decide) ?_
            refine ab_i2l dX7_judged_124 ?_
            refine ab_lsub dX7_judged_125 ?_
            refine ab_lcmp dX7_judged_126 ?_
            refine ab_if_le (tgt := 132) dX7_judged_127 (by decide) (fun c10 => ?_) (fun c10 => ?_)
            · have h := h.1 c10
              refine ab_lload 0 dX7_judged_132 rfl ?_
              refine ab_lload_n 1 dX7_judged_134 rfl ?_
              refine ab_ldc2 dX7_judged_135 w_835 ?_
              refine ab_ladd dX7_judged_138 ?_
              refine ab_lconst (v := 1) dX7_judged_139 (by decide) ?_
              refine ab_lsub dX7_judged_140 ?_
              refine ab_iload 6 dX7_judged_141 rfl ?_
              refine ab_iconst (v := 2) dX7_judged_143 (by decide) ?_
              refine ab_idiv dX7_judged_144 (by decide) ?_
              refine ab_i2l dX7_judged_145 ?_
              refine ab_lsub dX7_judged_146 ?_
              refine ab_lcmp dX7_judged_147 ?_
              refine ab_if_le (tgt := 153) dX7_judged_148 (by decide) (fun c11 => ?_) (fun c11 => ?_)
              · have h := h.1 c11
                obtain ⟨x12, hx12⟩ : ∃ y : Int32, y = v7 + (1 : Int32) := ⟨_, rfl⟩
                have h := h x12 hx12
                refine ab_iinc (v := x12) 6 (lv1 := [(7, .int x12), (5, .long x9), (3, .long x7), (8, .long x4), (0, .ref v0), (1, .int v1), (2, .int v2)]) dX7_judged_153 rfl (by rw [hx12]; rfl) (by decide) rfl ?_
                refine ab_goto (tgt := 27) dX7_judged_156 (by decide) ?_
                exact ab_sub [4, 5, 6, 2, 1, 0] rfl h
              · have h := h.2 c11
                refine ab_iconst (v := 2) dX7_judged_151 (by decide) ?_
                exact ab_iret dX7_judged_152 rfl h
            · have h := h.2 c10
              refine ab_iconst (v := 1) dX7_judged_130 (by decide) ?_
              exact ab_iret dX7_judged_131 rfl h
          · have h := h.2 c8
            refine ab_lconst (v := 0) dX7_judged_102 (by decide) ?_
            refine ab_goto (tgt := 108) dX7_judged_103 (by decide) ?_
            refine ab_ladd dX7_judged_108 ?_
            refine ab_topl (fun x13 hx13 => ?_)
            have h := h x13 hx13
            refine ab_lstore (lv1 := [(5, .long x13), (3, .long x7), (8, .long x4), (0, .ref v0), (1, .int v1), (2, .int v2), (7, .int v7)]) dX7_judged_109 (by decide) rfl ?_
            refine ab_lload_n 1 dX7_judged_111 rfl ?_
            refine ab_lload 0 dX7_judged_112 rfl ?_
            refine ab_ldc2 dX7_judged_114 w_835 ?_
            refine ab_ladd dX7_judged_117 ?_
            refine ab_iload 6 dX7_judged_118 rfl ?_
            refine ab_iconst (v := 1) dX7_judged_120 (by decide) ?_
            refine ab_iadd dX7_judged_121 ?_
            refine ab_iconst (v := 2) dX7_judged_122 (by decide) ?_
            refine ab_idiv dX7_judged_123 (by decide) ?_
            refine ab_i2l dX7_judged_124 ?_
            refine ab_lsub dX7_judged_125 ?_
            refine ab_lcmp dX7_judged_126 ?_
            refine ab_if_le (tgt := 132) dX7_judged_127 (by decide) (fun c14 => ?_) (fun c14 => ?_)
            · have h := h.1 c14
              refine ab_lload 0 dX7_judged_132 rfl ?_
              refine ab_lload_n 1 dX7_judged_134 rfl ?_
              refine ab_ldc2 dX7_judged_135 w_835 ?_
              refine ab_ladd dX7_judged_138 ?_
              refine ab_lconst (v := 1) dX7_judged_139 (by decide) ?_
              refine ab_lsub dX7_judged_140 ?_
              refine ab_iload 6 dX7_judged_141 rfl ?_
              refine ab_iconst (v := 2) dX7_judged_143 (by decide) ?_
              refine ab_idiv dX7_judged_144 (by decide) ?_
              refine ab_i2l dX7_judged_145 ?_
              refine ab_lsub dX7_judged_146 ?_
              refine ab_lcmp dX7_judged_147 ?_
              refine ab_if_le (tgt := 153) dX7_judged_148 (by decide) (fun c15 => ?_) (fun c15 => ?_)
              · have h := h.1 c15
                obtain ⟨x16, hx16⟩ : ∃ y : Int32, y = v7 + (1 : Int32) := ⟨_, rfl⟩
                have h := h x16 hx16
                refine ab_iinc (v := x16) 6 (lv1 := [(7, .int x16), (5, .long x13), (3, .long x7), (8, .long x4), (0, .ref v0), (1, .int v1), (2, .int v2)]) dX7_judged_153 rfl (by rw [hx16]; rfl) (by decide) rfl ?_
                refine ab_goto (tgt := 27) dX7_judged_156 (by decide) ?_
                exact ab_sub [4, 5, 6, 2, 1, 0] rfl h
              · have h := h.2 c15
                refine ab_iconst (v := 2) dX7_judged_151 (by decide) ?_
                exact ab_iret dX7_judged_152 rfl h
            · have h := h.2 c14
              refine ab_iconst (v := 1) dX7_judged_130 (by decide) ?_
              exact ab_iret dX7_judged_131 rfl h
        · have h := h.2 c6
          refine ab_lload 0 dX7_judged_85 rfl ?_
          refine ab_goto (tgt := 91) dX7_judged_87 (by decide) ?_
          refine ab_ladd dX7_judged_91 ?_
          refine ab_topl (fun x17 hx17 => ?_)
          have h := h x17 hx17
          refine ab_lstore_n (lv1 := [(3, .long x17), (8, .long x4), (0, .ref v0), (1, .int v1), (2, .int v2), (5, .long v5), (7, .int v7)]) dX7_judged_92 (by decide) rfl ?_
          refine ab_lload 5 dX7_judged_93 rfl ?_
          refine ab_iload 6 dX7_judged_95 rfl ?_
          refine ab_iconst (v := 2) dX7_judged_97 (by decide) ?_
          refine ab_irem dX7_judged_98 (by decide) ?_
          refine ab_if_ne (tgt := 106) dX7_judged_99 (by decide) (fun c18 => ?_) (fun c18 => ?_)
          · have h := h.1 c18
            refine ab_lload 1 dX7_judged_106 rfl ?_
            refine ab_ladd dX7_judged_108 ?_
            refine ab_topl (fun x19 hx19 => ?_)
            have h := h x19 hx19
            refine ab_lstore (lv1 := [(5, .long x19), (3, .long x17), (8, .long x4), (0, .ref v0), (1, .int v1), (2, .int v2), (7, .int v7)]) dX7_judged_109 (by decide) rfl ?_
            refine ab_lload_n 1 dX7_judged_111 rfl ?_
            refine ab_lload 0 dX7_judged_112 rfl ?_
            refine ab_ldc2 dX7_judged_114 w_835 ?_
            refine ab_ladd dX7_judged_117 ?_
            refine ab_iload 6 dX7_judged_118 rfl ?_
            refine ab_iconst (v := 1) dX7_judged_120 (by decide) ?_
            refine ab_iadd dX7_judged_121 ?_
            refine ab_iconst (v := 2) dX7_judged_122 (by decide) ?_
            refine ab_idiv dX7_judged_123 (by decide) ?_
            refine ab_i2l dX7_judged_124 ?_
            refine ab_lsub dX7_judged_125 ?_
            refine ab_lcmp dX7_judged_126 ?_
            refine ab_if_le (tgt := 132) dX7_judged_127 (by decide) (fun c20 => ?_) (fun c20 => ?_)
            · have h := h.1 c20
              refine ab_lload 0 dX7_judged_132 rfl ?_
              refine ab_lload_n 1 dX7_judged_134 rfl ?_
              refine ab_ldc2 dX7_judged_135 w_835 ?_
              refine ab_ladd dX7_judged_138 ?_
              refine ab_lconst (v := 1) dX7_judged_139 (by decide) ?_
              refine ab_lsub dX7_judged_140 ?_
              refine ab_iload 6 dX7_judged_141 rfl ?_
              refine ab_iconst (v := 2) dX7_judged_143 (by decide) ?_
              refine ab_idiv dX7_judged_144 (by decide) ?_
              refine ab_i2l dX7_judged_145 ?_
              refine ab_lsub dX7_judged_146 ?_
              refine ab_lcmp dX7_judged_147 ?_
              refine ab_if_le (tgt := 153) dX7_judged_148 (by decide) (fun c21 => ?_) (fun c21 => ?_)
              · have h := h.1 c21
                obtain ⟨x22, hx22⟩ : ∃ y : Int32, y = v7 + (1 : Int32) := ⟨_, rfl⟩
                have h := h x22 hx22
                refine ab_iinc (v := x22) 6 (lv1 := [(7, .int x22), (5, .long x19), (3, .long x17), (8, .long x4), (0, .ref v0), (1, .int v1), (2, .int v2)]) dX7_judged_153 rfl (by rw [hx22]; rfl) (by decide) rfl ?_
                refine ab_goto (tgt := 27) dX7_judged_156 (by decide) ?_
                exact ab_sub [4, 5, 6, 2, 1, 0] rfl h
              · have h := h.2 c21
                refine ab_iconst (v := 2) dX7_judged_151 (by decide) ?_
                exact ab_iret dX7_judged_152 rfl h
            · have h := h.2 c20
              refine ab_iconst (v := 1) dX7_judged_130 (by decide) ?_
              exact ab_iret dX7_judged_131 rfl h
          · have h := h.2 c18
            refine ab_lconst (v := 0) dX7_judged_102 (by decide) ?_
            refine ab_goto (tgt := 108) dX7_judged_103 (by decide) ?_
            refine ab_ladd dX7_judged_108 ?_
            refine ab_topl (fun x23 hx23 => ?_)
            have h := h x23 hx23
            refine ab_lstore (lv1 := [(5, .long x23), (3, .long x17), (8, .long x4), (0, .ref v0), (1, .int v1), (2, .int v2), (7, .int v7)]) dX7_judged_109 (by decide) rfl ?_
            refine ab_lload_n 1 dX7_judged_111 rfl ?_
            refine ab_lload 0 dX7_judged_112 rfl ?_
            refine ab_ldc2 dX7_judged_114 w_835 ?_
            refine ab_ladd dX7_judged_117 ?_
            refine ab_iload 6 dX7_judged_118 rfl ?_
            refine ab_iconst (v := 1) dX7_judged_120 (by decide) ?_
            refine ab_iadd dX7_judged_121 ?_
            refine ab_iconst (v := 2) dX7_judged_122 (by decide) ?_
            refine ab_idiv dX7_judged_123 (by decide) ?_
            refine ab_i2l dX7_judged_124 ?_
            refine ab_lsub dX7_judged_125 ?_
            refine ab_lcmp dX7_judged_126 ?_
            refine ab_if_le (tgt := 132) dX7_judged_127 (by decide) (fun c24 => ?_) (fun c24 => ?_)
            · have h := h.1 c24
              refine ab_lload 0 dX7_judged_132 rfl ?_
              refine ab_lload_n 1 dX7_judged_134 rfl ?_
              refine ab_ldc2 dX7_judged_135 w_835 ?_
              refine ab_ladd dX7_judged_138 ?_
              refine ab_lconst (v := 1) dX7_judged_139 (by decide) ?_
              refine ab_lsub dX7_judged_140 ?_
              refine ab_iload 6 dX7_judged_141 rfl ?_
              refine ab_iconst (v := 2) dX7_judged_143 (by decide) ?_
              refine ab_idiv dX7_judged_144 (by decide) ?_
              refine ab_i2l dX7_judged_145 ?_
              refine ab_lsub dX7_judged_146 ?_
              refine ab_lcmp dX7_judged_147 ?_
              refine ab_if_le (tgt := 153) dX7_judged_148 (by decide) (fun c25 => ?_) (fun c25 => ?_)
              · have h := h.1 c25
                obtain ⟨x26, hx26⟩ : ∃ y : Int32, y = v7 + (1 : Int32) := ⟨_, rfl⟩
                have h := h x26 hx26
                refine ab_iinc (v := x26) 6 (lv1 := [(7, .int x26), (5, .long x23), (3, .long x17), (8, .long x4), (0, .ref v0), (1, .int v1), (2, .int v2)]) dX7_judged_153 rfl (by rw [hx26]; rfl) (by decide) rfl ?_
                refine ab_goto (tgt := 27) dX7_judged_156 (by decide) ?_
                exact ab_sub [4, 5, 6, 2, 1, 0] rfl h
              · have h := h.2 c25
                refine ab_iconst (v := 2) dX7_judged_151 (by decide) ?_
                exact ab_iret dX7_judged_152 rfl h
            · have h := h.2 c24
              refine ab_iconst (v := 1) dX7_judged_130 (by decide) ?_
              exact ab_iret dX7_judged_131 rfl h
      · have h := h.2 c5
        refine ab_lload 0 dX7_judged_64 rfl ?_
        refine ab_lconst (v := 1) dX7_judged_66 (by decide) ?_
        refine ab_lcmp dX7_judged_67 ?_
        refine ab_if_eq (tgt := 77) dX7_judged_68 (by decide) (fun c27 => ?_) (fun c27 => ?_)
        · have h := h.1 c27
          refine ab_lload_n 4 dX7_judged_77 rfl ?_
          refine ab_iload 6 dX7_judged_78 rfl ?_
          refine ab_iconst (v := 2) dX7_judged_80 (by decide) ?_
          refine ab_irem dX7_judged_81 (by decide) ?_
          refine ab_if_ne (tgt := 90) dX7_judged_82 (by decide) (fun c28 => ?_) (fun c28 => ?_)
          · have h := h.1 c28
            refine ab_lconst (v := 0) dX7_judged_90 (by decide) ?_
            refine ab_ladd dX7_judged_91 ?_
            refine ab_topl (fun x29 hx29 => ?_)
            have h := h x29 hx29
            refine ab_lstore_n (lv1 := [(3, .long x29), (8, .long x4), (0, .ref v0), (1, .int v1), (2, .int v2), (5, .long v5), (7, .int v7)]) dX7_judged_92 (by decide) rfl ?_
            refine ab_lload 5 dX7_judged_93 rfl ?_
            refine ab_iload 6 dX7_judged_95 rfl ?_
            refine ab_iconst (v := 2) dX7_judged_97 (by decide) ?_
            refine ab_irem dX7_judged_98 (by decide) ?_
            refine ab_if_ne (tgt := 106) dX7_judged_99 (by decide) (fun c30 => ?_) (fun c30 => ?_)
            · have h := h.1 c30
              refine ab_lload 1 dX7_judged_106 rfl ?_
              refine ab_ladd dX7_judged_108 ?_
              refine ab_topl (fun x31 hx31 => ?_)
              have h := h x31 hx31
              refine ab_lstore (lv1 := [(5, .long x31), (3, .long x29), (8, .long x4), (0, .ref v0), (1, .int v1), (2, .int v2), (7, .int v7)]) dX7_judged_109 (by decide) rfl ?_
              refine ab_lload_n 1 dX7_judged_111 rfl ?_
              refine ab_lload 0 dX7_judged_112 rfl ?_
              refine ab_ldc2 dX7_judged_114 w_835 ?_
              refine ab_ladd dX7_judged_117 ?_
              refine ab_iload 6 dX7_judged_118 rfl ?_
              refine ab_iconst (v := 1) dX7_judged_120 (by decide) ?_
              refine ab_iadd dX7_judged_121 ?_
              refine ab_iconst (v := 2) dX7_judged_122 (by decide) ?_
              refine ab_idiv dX7_judged_123 (by decide) ?_
              refine ab_i2l dX7_judged_124 ?_
              refine ab_lsub dX7_judged_125 ?_
              refine ab_lcmp dX7_judged_126 ?_
              refine ab_if_le (tgt := 132) dX7_judged_127 (by decide) (fun c32 => ?_) (fun c32 => ?_)
              · have h := h.1 c32
                refine ab_lload 0 dX7_judged_132 rfl ?_
                refine ab_lload_n 1 dX7_judged_134 rfl ?_
                refine ab_ldc2 dX7_judged_135 w_835 ?_
                refine ab_ladd dX7_judged_138 ?_
                refine ab_lconst (v := 1) dX7_judged_139 (by decide) ?_
                refine ab_lsub dX7_judged_140 ?_
                refine ab_iload 6 dX7_judged_141 rfl ?_
                refine ab_iconst (v := 2) dX7_judged_143 (by decide) ?_
                refine ab_idiv dX7_judged_144 (by decide) ?_
                refine ab_i2l dX7_judged_145 ?_
                refine ab_lsub dX7_judged_146 ?_
                refine ab_lcmp dX7_judged_147 ?_
                refine ab_if_le (tgt := 153) dX7_judged_148 (by decide) (fun c33 => ?_) (fun c33 => ?_)
                · have h := h.1 c33
                  obtain ⟨x34, hx34⟩ : ∃ y : Int32, y = v7 + (1 : Int32) := ⟨_, rfl⟩
                  have h := h x34 hx34
                  refine ab_iinc (v := x34) 6 (lv1 := [(7, .int x34), (5, .long x31), (3, .long x29), (8, .long x4), (0, .ref v0), (1, .int v1), (2, .int v2)]) dX7_judged_153 rfl (by rw [hx34]; rfl) (by decide) rfl ?_
                  refine ab_goto (tgt := 27) dX7_judged_156 (by decide) ?_
                  exact ab_sub [4, 5, 6, 2, 1, 0] rfl h
                · have h := h.2 c33
                  refine ab_iconst (v := 2) dX7_judged_151 (by decide) ?_
                  exact ab_iret dX7_judged_152 rfl h
              · have h := h.2 c32
                refine ab_iconst (v := 1) dX7_judged_130 (by decide) ?_
                exact ab_iret dX7_judged_131 rfl h
            · have h := h.2 c30
              refine ab_lconst (v := 0) dX7_judged_102 (by decide) ?_
              refine ab_goto (tgt := 108) dX7_judged_103 (by decide) ?_
              refine ab_ladd dX7_judged_108 ?_
              refine ab_topl (fun x35 hx35 => ?_)
              have h := h x35 hx35
              refine ab_lstore (lv1 := [(5, .long x35), (3, .long x29), (8, .long x4), (0, .ref v0), (1, .int v1), (2, .int v2), (7, .int v7)]) dX7_judged_109 (by decide) rfl ?_
              refine ab_lload_n 1 dX7_judged_111 rfl ?_
              refine ab_lload 0 dX7_judged_112 rfl ?_
              refine ab_ldc2 dX7_judged_114 w_835 ?_
              refine ab_ladd dX7_judged_117 ?_
              refine ab_iload 6 dX7_judged_118 rfl ?_
              refine ab_iconst (v := 1) dX7_judged_120 (by decide) ?_
              refine ab_iadd dX7_judged_121 ?_
              refine ab_iconst (v := 2) dX7_judged_122 (by decide) ?_
              refine ab_idiv dX7_judged_123 (by decide) ?_
              refine ab_i2l dX7_judged_124 ?_
              refine ab_lsub dX7_judged_125 ?_
              refine ab_lcmp dX7_judged_126 ?_
              refine ab_if_le (tgt := 132) dX7_judged_127 (by decide) (fun c36 => ?_) (fun c36 => ?_)
              · have h := h.1 c36
                refine ab_lload 0 dX7_judged_132 rfl ?_
                refine ab_lload_n 1 dX7_judged_134 rfl ?_
                refine ab_ldc2 dX7_judged_135 w_835 ?_
                refine ab_ladd dX7_judged_138 ?_
                refine ab_lconst (v := 1) dX7_judged_139 (by decide) ?_
                refine ab_lsub dX7_judged_140 ?_
                refine ab_iload 6 dX7_judged_141 rfl ?_
                refine ab_iconst (v := 2) dX7_judged_143 (by decide) ?_
                refine ab_idiv dX7_judged_144 (by decide) ?_
                refine ab_i2l dX7_judged_145 ?_
                refine ab_lsub dX7_judged_146 ?_
                refine ab_lcmp dX7_judged_147 ?_
                refine ab_if_le (tgt := 153) dX7_judged_148 (by decide) (fun c37 => ?_) (fun c37 => ?_)
                · have h := h.1 c37
                  obtain ⟨x38, hx38⟩ : ∃ y : Int32, y = v7 + (1 : Int32) := ⟨_, rfl⟩
                  have h := h x38 hx38
                  refine ab_iinc (v := x38) 6 (lv1 := [(7, .int x38), (5, .long x35), (3, .long x29), (8, .long x4), (0, .ref v0), (1, .int v1), (2, .int v2)]) dX7_judged_153 rfl (by rw [hx38]; rfl) (by decide) rfl ?_
                  refine ab_goto (tgt := 27) dX7_judged_156 (by decide) ?_
                  exact ab_sub [4, 5, 6, 2, 1, 0] rfl h
                · have h := h.2 c37
                  refine ab_iconst (v := 2) dX7_judged_151 (by decide) ?_
                  exact ab_iret dX7_judged_152 rfl h
              · have h := h.2 c36
                refine ab_iconst (v := 1) dX7_judged_130 (by decide) ?_
                exact ab_iret dX7_judged_131 rfl h
          · have h := h.2 c28
            refine ab_lload 0 dX7_judged_85 rfl ?_
            refine ab_goto (tgt := 91) dX7_judged_87 (by decide) ?_
            refine ab_ladd dX7_judged_91 ?_
            refine ab_topl (fun x39 hx39 => ?_)
            have h := h x39 hx39
            refine ab_lstore_n (lv1 := [(3, .long x39), (8, .long x4), (0, .ref v0), (1, .int v1), (2, .int v2), (5, .long v5), (7, .int v7)]) dX7_judged_92 (by decide) rfl ?_
            refine ab_lload 5 dX7_judged_93 rfl ?_
            refine ab_iload 6 dX7_judged_95 rfl ?_
            refine ab_iconst (v := 2) dX7_judged_97 (by decide) ?_
            refine ab_irem dX7_judged_98 (by decide) ?_
            refine ab_if_ne (tgt := 106) dX7_judged_99 (by decide) (fun c40 => ?_) (fun c40 => ?_)
            · have h := h.1 c40
              refine ab_lload 1 dX7_judged_106 rfl ?_
              refine ab_ladd dX7_judged_108 ?_
              refine ab_topl (fun x41 hx41 => ?_)
              have h := h x41 hx41
              refine ab_lstore (lv1 := [(5, .long x41), (3, .long x39), (8, .long x4), (0, .ref v0), (1, .int v1), (2, .int v2), (7, .int v7)]) dX7_judged_109 (by decide) rfl ?_
              refine ab_lload_n 1 dX7_judged_111 rfl ?_
              refine ab_lload 0 dX7_judged_112 rfl ?_
              refine ab_ldc2 dX7_judged_114 w_835 ?_
              refine ab_ladd dX7_judged_117 ?_
              refine ab_iload 6 dX7_judged_118 rfl ?_
              refine ab_iconst (v := 1) dX7_judged_120 (by decide) ?_
              refine ab_iadd dX7_judged_121 ?_
              refine ab_iconst (v := 2) dX7_judged_122 (by decide) ?_
              refine ab_idiv dX7_judged_123 (by decide) ?_
              refine ab_i2l dX7_judged_124 ?_
              refine ab_lsub dX7_judged_125 ?_
              refine ab_lcmp dX7_judged_126 ?_
              refine ab_if_le (tgt := 132) dX7_judged_127 (by decide) (fun c42 => ?_) (fun c42 => ?_)
              · have h := h.1 c42
                refine ab_lload 0 dX7_judged_132 rfl ?_
                refine ab_lload_n 1 dX7_judged_134 rfl ?_
                refine ab_ldc2 dX7_judged_135 w_835 ?_
                refine ab_ladd dX7_judged_138 ?_
                refine ab_lconst (v := 1) dX7_judged_139 (by decide) ?_
                refine ab_lsub dX7_judged_140 ?_
                refine ab_iload 6 dX7_judged_141 rfl ?_
                refine ab_iconst (v := 2) dX7_judged_143 (by decide) ?_
                refine ab_idiv dX7_judged_144 (by decide) ?_
                refine ab_i2l dX7_judged_145 ?_
                refine ab_lsub dX7_judged_146 ?_
                refine ab_lcmp dX7_judged_147 ?_
                refine ab_if_le (tgt := 153) dX7_judged_148 (by decide) (fun c43 => ?_) (fun c43 => ?_)
                · have h := h.1 c43
                  obtain ⟨x44, hx44⟩ : ∃ y : Int32, y = v7 + (1 : Int32) := ⟨_, rfl⟩
                  have h := h x44 hx44
                  refine ab_iinc (v := x44) 6 (lv1 := [(7, .int x44), (5, .long x41), (3, .long x39), (8, .long x4), (0, .ref v0), (1, .int v1), (2, .int v2)]) dX7_judged_153 rfl (by rw [hx44]; rfl) (by decide) rfl ?_
                  refine ab_goto (tgt := 27) dX7_judged_156 (by decide) ?_
                  exact ab_sub [4, 5, 6, 2, 1, 0] rfl h
                · have h := h.2 c43
                  refine ab_iconst (v := 2) dX7_judged_151 (by decide) ?_
                  exact ab_iret dX7_judged_152 rfl h
              · have h := h.2 c42
                refine ab_iconst (v := 1) dX7_judged_130 (by decide) ?_
                exact ab_iret dX7_judged_131 rfl h
            · have h := h.2 c40
              refine ab_lconst (v := 0) dX7_judged_102 (by decide) ?_
              refine ab_goto (tgt := 108) dX7_judged_103 (by decide) ?_
              refine ab_ladd dX7_judged_108 ?_
              refine ab_topl (fun x45 hx45 => ?_)
              have h := h x45 hx45
              refine ab_lstore (lv1 := [(5, .long x45), (3, .long x39), (8, .long x4), (0, .ref v0), (1, .int v1), (2, .int v2), (7, .int v7)]) dX7_judged_109 (by decide) rfl ?_
              refine ab_lload_n 1 dX7_judged_111 rfl ?_
              refine ab_lload 0 dX7_judged_112 rfl ?_
              refine ab_ldc2 dX7_judged_114 w_835 ?_
              refine ab_ladd dX7_judged_117 ?_
              refine ab_iload 6 dX7_judged_118 rfl ?_
              refine ab_iconst (v := 1) dX7_judged_120 (by decide) ?_
              refine ab_iadd dX7_judged_121 ?_
              refine ab_iconst (v := 2) dX7_judged_122 (by decide) ?_
              refine ab_idiv dX7_judged_123 (by decide) ?_
              refine ab_i2l dX7_judged_124 ?_
              refine ab_lsub dX7_judged_125 ?_
              refine ab_lcmp dX7_judged_126 ?_
              refine ab_if_le (tgt := 132) dX7_judged_127 (by decide) (fun c46 => ?_) (fun c46 => ?_)
              · have h := h.1 c46
                refine ab_lload 0 dX7_judged_132 rfl ?_
                refine ab_lload_n 1 dX7_judged_134 rfl ?_
                refine ab_ldc2 dX7_judged_135 w_835 ?_
                refine ab_ladd dX7_judged_138 ?_
                refine ab_lconst (v := 1) dX7_judged_139 (by decide) ?_
                refine ab_lsub dX7_judged_140 ?_
                refine ab_iload 6 dX7_judged_141 rfl ?_
                refine ab_iconst (v := 2) dX7_judged_143 (by decide) ?_
                refine ab_idiv dX7_judged_144 (by decide) ?_
                refine ab_i2l dX7_judged_145 ?_
                refine ab_lsub dX7_judged_146 ?_
                refine ab_lcmp dX7_judged_147 ?_
                refine ab_if_le (tgt := 153) dX7_judged_148 (by decide) (fun c47 => ?_) (fun c47 => ?_)
                · have h := h.1 c47
                  obtain ⟨x48, hx48⟩ : ∃ y : Int32, y = v7 + (1 : Int32) := ⟨_, rfl⟩
                  have h := h x48 hx48
                  refine ab_iinc (v := x48) 6 (lv1 := [(7, .int x48), (5, .long x45), (3, .long x39), (8, .long x4), (0, .ref v0), (1, .int v1), (2, .int v2)]) dX7_judged_153 rfl (by rw [hx48]; rfl) (by decide) rfl ?_
                  refine ab_goto (tgt := 27) dX7_judged_156 (by decide) ?_
                  exact ab_sub [4, 5, 6, 2, 1, 0] rfl h
                · have h := h.2 c47
                  refine ab_iconst (v := 2) dX7_judged_151 (by decide) ?_
                  exact ab_iret dX7_judged_152 rfl h
              · have h := h.2 c46
                refine ab_iconst (v := 1) dX7_judged_130 (by decide) ?_
                exact ab_iret dX7_judged_131 rfl h
        · have h := h.2 c27
          refine ab_bipush (v := (-10)) dX7_judged_71 (by decide) ?_
          refine ab_iload 6 dX7_judged_73 rfl ?_
          refine ab_isub dX7_judged_75 ?_
          exact ab_iret dX7_judged_76 rfl h
    · have h := h.2 c2
      refine ab_sipush (v := 1000) dX7_judged_42 (by decide) ?_
      refine ab_iload 5 dX7_judged_45 rfl ?_
      refine ab_iadd dX7_judged_47 ?_
      exact ab_iret dX7_judged_48 rfl h
theorem dX11_rule_0 : decode cX11_rule 0 = .ok (.aload_n 0, 1) := by decide +kernel
theorem dX11_rule_1 : decode cX11_rule 1 = .ok (.getfield 23, 3) := by decide +kernel
theorem dX11_rule_4 : decode cX11_rule 4 = .ok (.bipush 7, 2) := by decide +kernel
theorem dX11_rule_6 : decode cX11_rule 6 = .ok (.if_icmp .lt 6, 3) := by decide +kernel
theorem dX11_rule_9 : decode cX11_rule 9 = .ok (.bipush (-4), 2) := by decide +kernel
theorem dX11_rule_11 : decode cX11_rule 11 = .ok (.ireturn, 1) := by decide +kernel
theorem dX11_rule_12 : decode cX11_rule 12 = .ok (.aload_n 0, 1) := by decide +kernel
theorem dX11_rule_13 : decode cX11_rule 13 = .ok (.getfield 12, 3) := by decide +kernel
theorem dX11_rule_16 : decode cX11_rule 16 = .ok (.invokevirtual 108, 3) := by decide +kernel
theorem dX11_rule_19 : decode cX11_rule 19 = .ok (.istore_n 1, 1) := by decide +kernel
theorem dX11_rule_20 : decode cX11_rule 20 = .ok (.aload_n 0, 1) := by decide +kernel
theorem dX11_rule_21 : decode cX11_rule 21 = .ok (.getfield 12, 3) := by decide +kernel
theorem dX11_rule_24 : decode cX11_rule 24 = .ok (.iconst 0, 1) := by decide +kernel
theorem dX11_rule_25 : decode cX11_rule 25 = .ok (.putfield 101, 3) := by decide +kernel
theorem dX11_rule_28 : decode cX11_rule 28 = .ok (.iload_n 1, 1) := by decide +kernel
theorem dX11_rule_29 : decode cX11_rule 29 = .ok (.ifCond .ne 14, 3) := by decide +kernel
theorem dX11_rule_32 : decode cX11_rule 32 = .ok (.bipush (-10), 2) := by decide +kernel
theorem dX11_rule_34 : decode cX11_rule 34 = .ok (.aload_n 0, 1) := by decide +kernel
theorem dX11_rule_35 : decode cX11_rule 35 = .ok (.getfield 12, 3) := by decide +kernel
theorem dX11_rule_38 : decode cX11_rule 38 = .ok (.getfield 112, 3) := by decide +kernel
theorem dX11_rule_41 : decode cX11_rule 41 = .ok (.isub, 1) := by decide +kernel
theorem dX11_rule_42 : decode cX11_rule 42 = .ok (.ireturn, 1) := by decide +kernel
theorem dX11_rule_43 : decode cX11_rule 43 = .ok (.aload_n 0, 1) := by decide +kernel
theorem dX11_rule_44 : decode cX11_rule 44 = .ok (.getfield 12, 3) := by decide +kernel
theorem dX11_rule_47 : decode cX11_rule 47 = .ok (.getfield 115, 3) := by decide +kernel
theorem dX11_rule_50 : decode cX11_rule 50 = .ok (.iconst 0, 1) := by decide +kernel
theorem dX11_rule_51 : decode cX11_rule 51 = .ok (.aload_n 0, 1) := by decide +kernel
theorem dX11_rule_52 : decode cX11_rule 52 = .ok (.getfield 20, 3) := by decide +kernel
theorem dX11_rule_55 : decode cX11_rule 55 = .ok (.aload_n 0, 1) := by decide +kernel
theorem dX11_rule_56 : decode cX11_rule 56 = .ok (.getfield 23, 3) := by decide +kernel
theorem dX11_rule_59 : decode cX11_rule 59 = .ok (.aaload, 1) := by decide +kernel
theorem dX11_rule_60 : decode cX11_rule 60 = .ok (.iconst 0, 1) := by decide +kernel
theorem dX11_rule_61 : decode cX11_rule 61 = .ok (.aload_n 0, 1) := by decide +kernel
theorem dX11_rule_62 : decode cX11_rule 62 = .ok (.getfield 12, 3) := by decide +kernel
theorem dX11_rule_65 : decode cX11_rule 65 = .ok (.getfield 118, 3) := by decide +kernel
theorem dX11_rule_68 : decode cX11_rule 68 = .ok (.invokestatic 121, 3) := by decide +kernel
theorem dX11_rule_71 : decode cX11_rule 71 = .ok (.aload_n 0, 1) := by decide +kernel
theorem dX11_rule_72 : decode cX11_rule 72 = .ok (.dup, 1) := by decide +kernel
theorem dX11_rule_73 : decode cX11_rule 73 = .ok (.getfield 23, 3) := by decide +kernel
theorem dX11_rule_76 : decode cX11_rule 76 = .ok (.iconst 1, 1) := by decide +kernel
theorem dX11_rule_77 : decode cX11_rule 77 = .ok (.iadd, 1) := by decide +kernel
theorem dX11_rule_78 : decode cX11_rule 78 = .ok (.putfield 23, 3) := by decide +kernel
theorem dX11_rule_81 : decode cX11_rule 81 = .ok (.aload_n 0, 1) := by decide +kernel
theorem dX11_rule_82 : decode cX11_rule 82 = .ok (.getfield 23, 3) := by decide +kernel
theorem dX11_rule_85 : decode cX11_rule 85 = .ok (.iconst 1, 1) := by decide +kernel
theorem dX11_rule_86 : decode cX11_rule 86 = .ok (.isub, 1) := by decide +kernel
theorem dX11_rule_87 : decode cX11_rule 87 = .ok (.ireturn, 1) := by decide +kernel
set_option maxRecDepth 20000 in
theorem rX11_rule (D : GD) (d : Nat)  (M : Mm) (post : Option Value → Mm → Prop) (hL : Lay 0 62 M) 
    (h : (((gI M 0 2) < (7 : Int32) → AMi D d mX6_parses [.ref 1] M (fun x3 M2 => ∀ M8 : Mm, M8 = sI M2 1 2 (0 : Int32) → ((¬ x3 = 0 → vp_in (gI M8 0 2) 7 ∧ (¬ (gI M8 1 3) < 0) ∧ (0 + (gI M8 1 3).toNatClampNeg ≤ 100) ∧ (0 + (gI M8 1 3).toNatClampNeg ≤ 100) ∧ ∀ M17 : Mm, M17 = rI M8 (5 + (gI M8 0 2).toNatClampNeg) (va_cpy (gI M8 3) (gI M8 (5 + (gI M8 0 2).toNatClampNeg)) 0 0 ((gI M8 1 3).toNatClampNeg)) → ∀ M21 : Mm, M21 = sI M17 0 2 ((gI M17 0 2) + (1 : Int32)) → post (some (.int ((gI M21 0 2) - (1 : Int32)))) M21) ∧ (x3 = 0 → post (some (.int ((-10 : Int32) - (gI M8 1 4)))) M8)))) ∧ (¬ (gI M 0 2) < (7 : Int32) → post (some (.int (-4 : Int32))) M))) :
    AM D (d + 1) 0 0 mX11_rule [.ref 0] M post := by
  refine AM.of (by decide) (Nat.le_of_ble_eq_true rfl) ?_
  show AW D (d + 1) 0 0 mX11_rule 0 0 0 [(0, .ref 0)] [] M post
  refine ab_aload_n 0 dX11_rule_0 rfl ?_
  refine ab_getI dX11_rule_1 fs_11_23_11 rfl (hL.sh 0 rfl (by decide) (by decide)).1 (hL.sh 0 rfl (by decide) (by decide)).2 ?_
  refine ab_bipush (v := 7) dX11_rule_4 (by decide) ?_
  refine ab_icmp_lt (tgt := 12) dX11_rule_6 (by decide) (fun c1 => ?_) (fun c1 => ?_)
  · have h := h.1 c1
    refine ab_aload_n 0 dX11_rule_12 rfl ?_
    refine ab_getP (r := 1) dX11_rule_13 fs_11_12_11 rfl (hL.sh 0 rfl (by decide) (by decide)).1 (hL.sh 0 rfl (by decide) (by decide)).2 (hL.pt 0 rfl (by decide) (by decide)) ?_
    refine ab_callV (a := 1) (c0 := 6) (d' := d) (mc' := 0) (ms' := 0) (vs := []) (st := []) dX11_rule_16 ⟨cw_X6_parses, w_338⟩ w_339 w_340 (by decide) (hL.sh 1 rfl (by decide) (by decide)).1 (hL.sh 1 rfl (by decide) (by decide)).2 rfl rfl (Nat.le_of_ble_eq_true rfl) (Nat.le_refl _) (Nat.zero_le _) (Nat.zero_le _) (AM.mono h (fun r M2 ⟨x3, hr4, hc5, h⟩ => ?_))
    subst hr4
    refine ab_rs ?_
    have hm6 : Sm M M2 := (Sm.refl M).trans hc5
    have hl7 := hL.of hm6
    refine ab_istore_n (lv1 := [(1, .int x3), (0, .ref 0)]) dX11_rule_19 (by decide) rfl ?_
    refine ab_aload_n 1 dX11_rule_20 rfl ?_
    refine ab_getP (r := 1) dX11_rule_21 fs_11_12_11 rfl (hl7.sh 0 rfl (by decide) (by decide)).1 (hl7.sh 0 rfl (by decide) (by decide)).2 (hl7.pt 0 rfl (by decide) (by decide)) ?_
    refine ab_iconst (v := 0) dX11_rule_24 (by decide) ?_
    refine ab_putI dX11_rule_25 fs_11_101_6 rfl rfl (hl7.sh 1 rfl (by decide) (by decide)).1 (hl7.sh 1 rfl (by decide) (by decide)).2 ?_
    refine ab_nameM (fun M8 hM8 => ?_)
    have h := h M8 hM8
    have hs11 : Sm M2 M8 := hM8 ▸ (Sm.refl _).i
    have hm9 : Sm M M8 := hm6.trans hs11
    have hl10 := hL.of hm9
    refine ab_iload_n 0 dX11_rule_28 rfl ?_
    refine ab_if_ne (tgt := 43) dX11_rule_29 (by decide) (fun c12 => ?_) (fun c12 => ?_)
    · have h := h.1 c12
      refine ab_aload_n 1 dX11_rule_43 rfl ?_
      refine ab_getP (r := 1) dX11_rule_44 fs_11_12_11 rfl (hl10.sh 0 rfl (by decide) (by decide)).1 (hl10.sh 0 rfl (by decide) (by decide)).2 (hl10.pt 0 rfl (by decide) (by decide)) ?_
      refine ab_getP (r := 3) dX11_rule_47 fs_11_115_6 rfl (hl10.sh 1 rfl (by decide) (by decide)).1 (hl10.sh 1 rfl (by decide) (by decide)).2 (hl10.pt 14 rfl (by decide) (by decide)) ?_
      refine ab_iconst (v := 0) dX11_rule_50 (by decide) ?_
      refine ab_aload_n 1 dX11_rule_51 rfl ?_
      refine ab_getP (r := 4) dX11_rule_52 fs_11_20_11 rfl (hl10.sh 0 rfl (by decide) (by decide)).1 (hl10.sh 0 rfl (by decide) (by decide)).2 (hl10.pt 1 rfl (by decide) (by decide)) ?_
      refine ab_aload_n 1 dX11_rule_55 rfl ?_
      refine ab_getI dX11_rule_56 fs_11_23_11 rfl (hl10.sh 0 rfl (by decide) (by decide)).1 (hl10.sh 0 rfl (by decide) (by decide)).2 ?_
      have hb13 := h.1
      have h := h.2
      refine ab_aald4j (j := (gI M8 0 2).toNatClampNeg) (r := 5 + (gI M8 0 2).toNatClampNeg) dX11_rule_59 (hl10.sh 4 rfl (by decide) (by decide)) hb13 rfl (row_4 hl10 (by decide) (by decide) (vin_lt hb13)).1 ?_
      refine ab_iconst (v := 0) dX11_rule_60 (by decide) ?_
      refine ab_aload_n 1 dX11_rule_61 rfl ?_
      refine ab_getP (r := 1) dX11_rule_62 fs_11_12_11 rfl (hl10.sh 0 rfl (by decide) (by decide)).1 (hl10.sh 0 rfl (by decide) (by decide)).2 (hl10.pt 0 rfl (by decide) (by decide)) ?_
      refine ab_getI dX11_rule_65 fs_11_118_6 rfl (hl10.sh 1 rfl (by decide) (by decide)).1 (hl10.sh 1 rfl (by decide) (by decide)).2 ?_
      have hg14 := h.1
      have h := h.2
      have hg15 := h.1
      have h := h.2
      have hg16 := h.1
      have h := h.2
      refine ab_acopyI (st := []) dX11_rule_68 w_437 w_439 w_438 w_91 (hl10.sh 3 rfl (by decide) (by decide)) (row_4 hl10 (by decide) (by decide) (vin_lt hb13)).2 (by decide) (by decide) hg14 hg15 hg16 (Nat.le_of_ble_eq_true rfl) (Nat.succ_le_succ (Nat.zero_le _)) ?_
      refine ab_nameM (fun M17 hM17 => ?_)
      have h := h M17 hM17
      have hs20 : Sm M8 M17 := hM17 ▸ (Sm.refl _).ri
      have hm18 : Sm M M17 := hm9.trans hs20
      have hl19 := hL.of hm18
      refine ab_aload_n 1 dX11_rule_71 rfl ?_
      refine ab_dup dX11_rule_72 rfl ?_
      refine ab_getI dX11_rule_73 fs_11_23_11 rfl (hl19.sh 0 rfl (by decide) (by decide)).1 (hl19.sh 0 rfl (by decide) (by decide)).2 ?_
      refine ab_iconst (v := 1) dX11_rule_76 (by decide) ?_
      refine ab_iadd dX11_rule_77 ?_
      refine ab_putI dX11_rule_78 fs_11_23_11 rfl rfl (hl19.sh 0 rfl (by decide) (by decide)).1 (hl19.sh 0 rfl (by decide) (by decide)).2 ?_
      refine ab_nameM (fun M21 hM21 => ?_)
      have h := h M21 hM21
      have hs24 : Sm M17 M21 := hM21 ▸ (Sm.refl _).i
      have hm22 : Sm M M21 := hm18.trans hs24
      have hl23 := hL.of hm22
      refine ab_aload_n 1 dX11_rule_81 rfl ?_
      refine ab_getI dX11_rule_82 fs_11_23_11 rfl (hl23.sh 0 rfl (by decide) (by decide)).1 (hl23.sh 0 rfl (by decide) (by decide)).2 ?_
      refine ab_iconst (v := 1) dX11_rule_85 (by decide) ?_
      refine ab_isub dX11_rule_86 ?_
      exact ab_iret dX11_rule_87 rfl h
    · have h := h.2 c12
      refine ab_bipush (v := (-10)) dX11_rule_32 (by decide) ?_
      refine ab_aload_n 1 dX11_rule_34 rfl ?_
      refine ab_getP (r := 1) dX11_rule_35 fs_11_12_11 rfl (hl10.sh 0 rfl (by decide) (by decide)).1 (hl10.sh 0 rfl (by decide) (by decide)).2 (hl10.pt 0 rfl (by decide) (by decide)) ?_
      refine ab_getI dX11_rule_38 fs_11_112_6 rfl (hl10.sh 1 rfl (by decide) (by decide)).1 (hl10.sh 1 rfl (by decide) (by decide)).2 ?_
      refine ab_isub dX11_rule_41 ?_
      exact ab_iret dX11_rule_42 rfl h
  · have h := h.2 c1
    refine ab_bipush (v := (-4)) dX11_rule_9 (by decide) ?_
    exact ab_iret dX11_rule_11 rfl h
