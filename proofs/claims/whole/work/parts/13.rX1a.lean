theorem dX1_addKick_0 : decode cX1_addKick 0 = .ok (.aload_n 0, 1) := by decide +kernel
theorem dX1_addKick_1 : decode cX1_addKick 1 = .ok (.getfield 18, 3) := by decide +kernel
theorem dX1_addKick_4 : decode cX1_addKick 4 = .ok (.bipush 30, 2) := by decide +kernel
theorem dX1_addKick_6 : decode cX1_addKick 6 = .ok (.if_icmp .ge 41, 3) := by decide +kernel
theorem dX1_addKick_9 : decode cX1_addKick 9 = .ok (.aload_n 0, 1) := by decide +kernel
theorem dX1_addKick_10 : decode cX1_addKick 10 = .ok (.getfield 9, 3) := by decide +kernel
theorem dX1_addKick_13 : decode cX1_addKick 13 = .ok (.aload_n 0, 1) := by decide +kernel
theorem dX1_addKick_14 : decode cX1_addKick 14 = .ok (.getfield 18, 3) := by decide +kernel
theorem dX1_addKick_17 : decode cX1_addKick 17 = .ok (.iload_n 1, 1) := by decide +kernel
theorem dX1_addKick_18 : decode cX1_addKick 18 = .ok (.iastore, 1) := by decide +kernel
theorem dX1_addKick_19 : decode cX1_addKick 19 = .ok (.aload_n 0, 1) := by decide +kernel
theorem dX1_addKick_20 : decode cX1_addKick 20 = .ok (.getfield 15, 3) := by decide +kernel
theorem dX1_addKick_23 : decode cX1_addKick 23 = .ok (.aload_n 0, 1) := by decide +kernel
theorem dX1_addKick_24 : decode cX1_addKick 24 = .ok (.getfield 18, 3) := by decide +kernel
theorem dX1_addKick_27 : decode cX1_addKick 27 = .ok (.iload_n 2, 1) := by decide +kernel
theorem dX1_addKick_28 : decode cX1_addKick 28 = .ok (.ifCond .eq 7, 3) := by decide +kernel
theorem dX1_addKick_31 : decode cX1_addKick 31 = .ok (.iconst 1, 1) := by decide +kernel
theorem dX1_addKick_32 : decode cX1_addKick 32 = .ok (.goto 4, 3) := by decide +kernel
theorem dX1_addKick_35 : decode cX1_addKick 35 = .ok (.iconst 0, 1) := by decide +kernel
theorem dX1_addKick_36 : decode cX1_addKick 36 = .ok (.iastore, 1) := by decide +kernel
theorem dX1_addKick_37 : decode cX1_addKick 37 = .ok (.aload_n 0, 1) := by decide +kernel
theorem dX1_addKick_38 : decode cX1_addKick 38 = .ok (.dup, 1) := by decide +kernel
theorem dX1_addKick_39 : decode cX1_addKick 39 = .ok (.getfield 18, 3) := by decide +kernel
theorem dX1_addKick_42 : decode cX1_addKick 42 = .ok (.iconst 1, 1) := by decide +kernel
theorem dX1_addKick_43 : decode cX1_addKick 43 = .ok (.iadd, 1) := by decide +kernel
theorem dX1_addKick_44 : decode cX1_addKick 44 = .ok (.putfield 18, 3) := by decide +kernel
theorem dX1_addKick_47 : decode cX1_addKick 47 = .ok (.return_, 1) := by decide +kernel
set_option maxRecDepth 20000 in
theorem rX1_addKick (D : GD) (d : Nat) (a1 : Int32) (a2 : Int32) (M : Mm) (post : Option Value → Mm → Prop) (hL : Lay 25 29 M) 
    (h : (((30 : Int32) ≤ (gI M 25 2) → post none M) ∧ (¬ (30 : Int32) ≤ (gI M 25 2) → vp_in (gI M 25 2) 30 ∧ ∀ M3 : Mm, M3 = sI M 26 ((gI M 25 2).toNatClampNeg) a1 → ((a2 = 0 → vp_in (gI M3 25 2) 30 ∧ ∀ M9 : Mm, M9 = sI M3 27 ((gI M3 25 2).toNatClampNeg) (0 : Int32) → ∀ M13 : Mm, M13 = sI M9 25 2 ((gI M9 25 2) + (1 : Int32)) → post none M13) ∧ (¬ a2 = 0 → vp_in (gI M3 25 2) 30 ∧ ∀ M18 : Mm, M18 = sI M3 27 ((gI M3 25 2).toNatClampNeg) (1 : Int32) → ∀ M22 : Mm, M22 = sI M18 25 2 ((gI M18 25 2) + (1 : Int32)) → post none M22))))) :
    AM D d 0 0 mX1_addKick [.ref 25, .int a1, .int a2] M post := by
  refine AM.of (by decide) (Nat.le_of_ble_eq_true rfl) ?_
  show AW D d 0 0 mX1_addKick 0 0 0 [(0, .ref 25), (1, .int a1), (2, .int a2)] [] M post
  refine ab_aload_n 0 dX1_addKick_0 rfl ?_
  refine ab_getI dX1_addKick_1 fs_1_18_1 rfl (hL.sh 25 rfl (by decide) (by decide)).1 (hL.sh 25 rfl (by decide) (by decide)).2 ?_
  refine ab_bipush (v := 30) dX1_addKick_4 (by decide) ?_
  refine ab_icmp_ge (tgt := 47) dX1_addKick_6 (by decide) (fun c1 => ?_) (fun c1 => ?_)
  · have h := h.1 c1
    exact ab_vret dX1_addKick_47 rfl h
  · have h := h.2 c1
    refine ab_aload_n 0 dX1_addKick_9 rfl ?_
    refine ab_getP (r := 26) dX1_addKick_10 fs_1_9_1 rfl (hL.sh 25 rfl (by decide) (by decide)).1 (hL.sh 25 rfl (by decide) (by decide)).2 (hL.pt 33 rfl (by decide) (by decide)) ?_
    refine ab_aload_n 0 dX1_addKick_13 rfl ?_
    refine ab_getI dX1_addKick_14 fs_1_18_1 rfl (hL.sh 25 rfl (by decide) (by decide)).1 (hL.sh 25 rfl (by decide) (by decide)).2 ?_
    refine ab_iload_n 1 dX1_addKick_17 rfl ?_
    have hb2 := h.1
    have h := h.2
    refine ab_iastj (j := (gI M 25 2).toNatClampNeg) dX1_addKick_18 (hL.sh 26 rfl (by decide) (by decide)) hb2 rfl ?_
    refine ab_nameM (fun M3 hM3 => ?_)
    have h := h M3 hM3
    have hs6 : Sm M M3 := hM3 ▸ (Sm.refl _).i
    have hm4 : Sm M M3 := (Sm.refl M).trans hs6
    have hl5 := hL.of hm4
    refine ab_aload_n 0 dX1_addKick_19 rfl ?_
    refine ab_getP (r := 27) dX1_addKick_20 fs_1_15_1 rfl (hl5.sh 25 rfl (by decide) (by decide)).1 (hl5.sh 25 rfl (by decide) (by decide)).2 (hl5.pt 34 rfl (by decide) (by decide)) ?_
    refine ab_aload_n 0 dX1_addKick_23 rfl ?_
    refine ab_getI dX1_addKick_24 fs_1_18_1 rfl (hl5.sh 25 rfl (by decide) (by decide)).1 (hl5.sh 25 rfl (by decide) (by decide)).2 ?_
    refine ab_iload_n 2 dX1_addKick_27 rfl ?_
    refine ab_if_eq (tgt := 35) dX1_addKick_28 (by decide) (fun c7 => ?_) (fun c7 => ?_)
    · have h := h.1 c7
      refine ab_iconst (v := 0) dX1_addKick_35 (by decide) ?_
      have hb8 := h.1
      have h := h.2
      refine ab_iastj (j := (gI M3 25 2).toNatClampNeg) dX1_addKick_36 (hl5.sh 27 rfl (by decide) (by decide)) hb8 rfl ?_
      refine ab_nameM (fun M9 hM9 => ?_)
      have h := h M9 hM9
      have hs12 : Sm M3 M9 := hM9 ▸ (Sm.refl _).i
      have hm10 : Sm M M9 := hm4.trans hs12
      have hl11 := hL.of hm10
      refine ab_aload_n 0 dX1_addKick_37 rfl ?_
      refine ab_dup dX1_addKick_38 rfl ?_
      refine ab_getI dX1_addKick_39 fs_1_18_1 rfl (hl11.sh 25 rfl (by decide) (by decide)).1 (hl11.sh 25 rfl (by decide) (by decide)).2 ?_
      refine ab_iconst (v := 1) dX1_addKick_42 (by decide) ?_
      refine ab_iadd dX1_addKick_43 ?_
      refine ab_putI dX1_addKick_44 fs_1_18_1 rfl rfl (hl11.sh 25 rfl (by decide) (by decide)).1 (hl11.sh 25 rfl (by decide) (by decide)).2 ?_
      refine ab_nameM (fun M13 hM13 => ?_)
      have h := h M13 hM13
      have hs16 : Sm M9 M13 := hM13 ▸ (Sm.refl _).i
      have hm14 : Sm M M13 := hm10.trans hs16
      have hl15 := hL.of hm14
      exact ab_vret dX1_addKick_47 rfl h
    · have h := h.2 c7
      refine ab_iconst (v := 1) dX1_addKick_31 (by decide) ?_
      refine ab_goto (tgt := 36) dX1_addKick_32 (by decide) ?_
      have hb17 := h.1
      have h := h.2
      refine ab_iastj (j := (gI M3 25 2).toNatClampNeg) dX1_addKick_36 (hl5.sh 27 rfl (by decide) (by decide)) hb17 rfl ?_
      refine ab_nameM (fun M18 hM18 => ?_)
      have h := h M18 hM18
      have hs21 : Sm M3 M18 := hM18 ▸ (Sm.refl _).i
      have hm19 : Sm M M18 := hm4.trans hs21
      have hl20 := hL.of hm19
      refine ab_aload_n 0 dX1_addKick_37 rfl ?_
      refine ab_dup dX1_addKick_38 rfl ?_
      refine ab_getI dX1_addKick_39 fs_1_18_1 rfl (hl20.sh 25 rfl (by decide) (by decide)).1 (hl20.sh 25 rfl (by decide) (by decide)).2 ?_
      refine ab_iconst (v := 1) dX1_addKick_42 (by decide) ?_
      refine ab_iadd dX1_addKick_43 ?_
      refine ab_putI dX1_addKick_44 fs_1_18_1 rfl rfl (hl20.sh 25 rfl (by decide) (by decide)).1 (hl20.sh 25 rfl (by decide) (by decide)).2 ?_
      refine ab_nameM (fun M22 hM22 => ?_)
      have h := h M22 hM22
      have hs25 : Sm M18 M22 := hM22 ▸ (Sm.refl _).i
      have hm23 : Sm M M22 := hm19.trans hs25
      have hl24 := hL.of hm23
      exact ab_vret dX1_addKick_47 rfl h
theorem dX1_goalsOfThousand_0 : decode cX1_goalsOfThousand 0 = .ok (.iconst 0, 1) := by decide +kernel
theorem dX1_goalsOfThousand_1 : decode cX1_goalsOfThousand 1 = .ok (.istore_n 2, 1) := by decide +kernel
theorem dX1_goalsOfThousand_2 : decode cX1_goalsOfThousand 2 = .ok (.iconst 0, 1) := by decide +kernel
theorem dX1_goalsOfThousand_3 : decode cX1_goalsOfThousand 3 = .ok (.istore_n 3, 1) := by decide +kernel
theorem dX1_goalsOfThousand_4 : decode cX1_goalsOfThousand 4 = .ok (.iconst 0, 1) := by decide +kernel
theorem dX1_goalsOfThousand_5 : decode cX1_goalsOfThousand 5 = .ok (.istore 4, 2) := by decide +kernel
theorem dX1_goalsOfThousand_7 : decode cX1_goalsOfThousand 7 = .ok (.iload 4, 2) := by decide +kernel
theorem dX1_goalsOfThousand_9 : decode cX1_goalsOfThousand 9 = .ok (.aload_n 0, 1) := by decide +kernel
theorem dX1_goalsOfThousand_10 : decode cX1_goalsOfThousand 10 = .ok (.getfield 18, 3) := by decide +kernel
theorem dX1_goalsOfThousand_13 : decode cX1_goalsOfThousand 13 = .ok (.if_icmp .ge 33, 3) := by decide +kernel
theorem dX1_goalsOfThousand_16 : decode cX1_goalsOfThousand 16 = .ok (.aload_n 0, 1) := by decide +kernel
theorem dX1_goalsOfThousand_17 : decode cX1_goalsOfThousand 17 = .ok (.getfield 9, 3) := by decide +kernel
theorem dX1_goalsOfThousand_20 : decode cX1_goalsOfThousand 20 = .ok (.iload 4, 2) := by decide +kernel
theorem dX1_goalsOfThousand_22 : decode cX1_goalsOfThousand 22 = .ok (.iaload, 1) := by decide +kernel
theorem dX1_goalsOfThousand_23 : decode cX1_goalsOfThousand 23 = .ok (.iload_n 1, 1) := by decide +kernel
theorem dX1_goalsOfThousand_24 : decode cX1_goalsOfThousand 24 = .ok (.if_icmp .ne 16, 3) := by decide +kernel
theorem dX1_goalsOfThousand_27 : decode cX1_goalsOfThousand 27 = .ok (.iinc 2 1, 3) := by decide +kernel
theorem dX1_goalsOfThousand_30 : decode cX1_goalsOfThousand 30 = .ok (.iload_n 3, 1) := by decide +kernel
theorem dX1_goalsOfThousand_31 : decode cX1_goalsOfThousand 31 = .ok (.aload_n 0, 1) := by decide +kernel
theorem dX1_goalsOfThousand_32 : decode cX1_goalsOfThousand 32 = .ok (.getfield 15, 3) := by decide +kernel
theorem dX1_goalsOfThousand_35 : decode cX1_goalsOfThousand 35 = .ok (.iload 4, 2) := by decide +kernel
theorem dX1_goalsOfThousand_37 : decode cX1_goalsOfThousand 37 = .ok (.iaload, 1) := by decide +kernel
theorem dX1_goalsOfThousand_38 : decode cX1_goalsOfThousand 38 = .ok (.iadd, 1) := by decide +kernel
theorem dX1_goalsOfThousand_39 : decode cX1_goalsOfThousand 39 = .ok (.istore_n 3, 1) := by decide +kernel
theorem dX1_goalsOfThousand_40 : decode cX1_goalsOfThousand 40 = .ok (.iinc 4 1, 3) := by decide +kernel
theorem dX1_goalsOfThousand_43 : decode cX1_goalsOfThousand 43 = .ok (.goto (-36), 3) := by decide +kernel
theorem dX1_goalsOfThousand_46 : decode cX1_goalsOfThousand 46 = .ok (.iload_n 2, 1) := by decide +kernel
theorem dX1_goalsOfThousand_47 : decode cX1_goalsOfThousand 47 = .ok (.ifCond .ne 8, 3) := by decide +kernel
theorem dX1_goalsOfThousand_50 : decode cX1_goalsOfThousand 50 = .ok (.bipush (-5), 2) := by decide +kernel
theorem dX1_goalsOfThousand_52 : decode cX1_goalsOfThousand 52 = .ok (.goto 10, 3) := by decide +kernel
theorem dX1_goalsOfThousand_55 : decode cX1_goalsOfThousand 55 = .ok (.iload_n 3, 1) := by decide +kernel
theorem dX1_goalsOfThousand_56 : decode cX1_goalsOfThousand 56 = .ok (.sipush 1000, 3) := by decide +kernel
theorem dX1_goalsOfThousand_59 : decode cX1_goalsOfThousand 59 = .ok (.imul, 1) := by decide +kernel
theorem dX1_goalsOfThousand_60 : decode cX1_goalsOfThousand 60 = .ok (.iload_n 2, 1) := by decide +kernel
theorem dX1_goalsOfThousand_61 : decode cX1_goalsOfThousand 61 = .ok (.idiv, 1) := by decide +kernel
theorem dX1_goalsOfThousand_62 : decode cX1_goalsOfThousand 62 = .ok (.ireturn, 1) := by decide +kernel
def LX1_goalsOfThousand_7 (D : GD) (d : Nat) (v1 : Int32) (v2 : Int32) (v3 : Int32) (v4 : Int32) (M : Mm) (post : Option Value → Mm → Prop) : Prop := AW D d 0 0 mX1_goalsOfThousand 0 0 7 [(0, .ref 25), (1, .int v1), (2, .int v2), (3, .int v3), (4, .int v4)] [] M post
set_option maxRecDepth 20000 in
theorem rX1_goalsOfThousand (D : GD) (d : Nat) (a1 : Int32) (M : Mm) (post : Option Value → Mm → Prop) (hL : Lay 25 29 M) 
    (h : LX1_goalsOfThousand_7 D d a1 (0 : Int32) (0 : Int32) (0 : Int32) M post) :
    AM D d 0 0 mX1_goalsOfThousand [.ref 25, .int a1] M post := by
  refine AM.of (by decide) (Nat.le_of_ble_eq_true rfl) ?_
  show AW D d 0 0 mX1_goalsOfThousand 0 0 0 [(0, .ref 25), (1, .int a1)] [] M post
  refine ab_iconst (v := 0) dX1_goalsOfThousand_0 (by decide) ?_
  refine ab_istore_n (lv1 := [(2, .int (0 : Int32)), (0, .ref 25), (1, .int a1)]) dX1_goalsOfThousand_1 (by decide) rfl ?_
  refine ab_iconst (v := 0) dX1_goalsOfThousand_2 (by decide) ?_
  refine ab_istore_n (lv1 := [(3, .int (0 : Int32)), (2, .int (0 : Int32)), (0, .ref 25), (1, .int a1)]) dX1_goalsOfThousand_3 (by decide) rfl ?_
  refine ab_iconst (v := 0) dX1_goalsOfThousand_4 (by decide) ?_
  refine ab_istore (lv1 := [(4, .int (0 : Int32)), (3, .int (0 : Int32)), (2, .int (0 : Int32)), (0, .ref 25), (1, .int a1)]) dX1_goalsOfThousand_5 (by decide) rfl ?_
  exact ab_sub [3, 4, 2, 1, 0] rfl h
set_option maxRecDepth 20000 in
theorem rX1_goalsOfThousand_7 (D : GD) (d : Nat)  (v1 : Int32) (v2 : Int32) (v3 : Int32) (v4 : Int32) (M : Mm) (post : Option Value → Mm → Prop) (hL : Lay 25 29 M) 
    (h : (((gI M 25 2) ≤ v4 → ((¬ v2 = 0 → (¬ v2 = 0) ∧ post (some (.int ((v3 * (1000 : Int32)) / v2))) M) ∧ (v2 = 0 → post (some (.int (-5 : Int32))) M))) ∧ (¬ (gI M 25 2) ≤ v4 → vp_in v4 30 ∧ ((¬ (gI M 26 v4.toNatClampNeg) = v1 → ∀ x6 : Int32, x6 = v4 + (1 : Int32) → LX1_goalsOfThousand_7 D d v1 v2 v3 x6 M post) ∧ ((gI M 26 v4.toNatClampNeg) = v1 → ∀ x7 : Int32, x7 = v2 + (1 : Int32) → ∀ x8 : Int32, x8 = (v3 + (gI M 27 v4.toNatClampNeg)) → ∀ x9 : Int32, x9 = v4 + (1 : Int32) → LX1_goalsOfThousand_7 D d v1 x7 x8 x9 M post))))) :
    LX1_goalsOfThousand_7 D d v1 v2 v3 v4 M post := by
  show AW D d 0 0 mX1_goalsOfThousand 0 0 7 [(0, .ref 25), (1, .int v1), (2, .int v2), (3, .int v3), (4, .int v4)] [] M post
  refine ab_iload 4 dX1_goalsOfThousand_7 rfl ?_
  refine ab_aload_n 0 dX1_goalsOfThousand_9 rfl ?_
  refine ab_getI dX1_goalsOfThousand_10 fs_1_18_1 rfl (hL.sh 25 rfl (by decide) (by decide)).1 (hL.sh 25 rfl (by decide) (by decide)).2 ?_
  refine ab_icmp_ge (tgt := 46) dX1_goalsOfThousand_13 (by decide) (fun c1 => ?_) (fun c1 => ?_)
  · have h := h.1 c1
    refine ab_iload_n 2 dX1_goalsOfThousand_46 rfl ?_
    refine ab_if_ne (tgt := 55) dX1_goalsOfThousand_47 (by decide) (fun c2 => ?_) (fun c2 => ?_)
    · have h := h.1 c2
      refine ab_iload_n 3 dX1_goalsOfThousand_55 rfl ?_
      refine ab_sipush (v := 1000) dX1_goalsOfThousand_56 (by decide) ?_
      refine ab_imul dX1_goalsOfThousand_59 ?_
      refine ab_iload_n 2 dX1_goalsOfThousand_60 rfl ?_
      have hn3 := h.1
      have h := h.2
      refine ab_idiv dX1_goalsOfThousand_61 hn3 ?_
      exact ab_iret dX1_goalsOfThousand_62 rfl h
    · have h := h.2 c2
      refine ab_bipush (v := (-5)) dX1_goalsOfThousand_50 (by decide) ?_
      refine ab_goto (tgt := 62) dX1_goalsOfThousand_52 (by decide) ?_
      exact ab_iret dX1_goalsOfThousand_62 rfl h
  · have h := h.2 c1
    refine ab_aload_n 0 dX1_goalsOfThousand_16 rfl ?_
    refine ab_getP (r := 26) dX1_goalsOfThousand_17 fs_1_9_1 rfl (hL.sh 25 rfl (by decide) (by decide)).1 (hL.sh 25 rfl (by decide) (by decide)).2 (hL.pt 33 rfl (by decide) (by decide)) ?_
    refine ab_iload 4 dX1_goalsOfThousand_20 rfl ?_
    have hb4 := h.1
    have h := h.2
    refine ab_ialdj (j := v4.toNatClampNeg) dX1_goalsOfThousand_22 (hL.sh 26 rfl (by decide) (by decide)) hb4 rfl ?_
    refine ab_iload_n 1 dX1_goalsOfThousand_23 rfl ?_
    refine ab_icmp_ne (tgt := 40) dX1_goalsOfThousand_24 (by decide) (fun c5 => ?_) (fun c5 => ?_)
    · have h := h.1 c5
      obtain ⟨x6, hx6⟩ : ∃ y : Int32, y = v4 + (1 : Int32) := ⟨_, rfl⟩
      have h := h x6 hx6
      refine ab_iinc (v := x6) 4 (lv1 := [(4, .int x6), (0, .ref 25), (1, .int v1), (2, .int v2), (3, .int v3)]) dX1_goalsOfThousand_40 rfl (by rw [hx6]; rfl) (by decide) rfl ?_
      refine ab_goto (tgt := 7) dX1_goalsOfThousand_43 (by decide) ?_
      exact ab_sub [1, 2, 3, 4, 0] rfl h
    · have h := h.2 c5
      obtain ⟨x7, hx7⟩ : ∃ y : Int32, y = v2 + (1 : Int32) := ⟨_, rfl⟩
      have h := h x7 hx7
      refine ab_iinc (v := x7) 2 (lv1 := [(2, .int x7), (0, .ref 25), (1, .int v1), (3, .int v3), (4, .int v4)]) dX1_goalsOfThousand_27 rfl (by rw [hx7]; rfl) (by decide) rfl ?_
      refine ab_iload_n 3 dX1_goalsOfThousand_30 rfl ?_
      refine ab_aload_n 1 dX1_goalsOfThousand_31 rfl ?_
      refine ab_getP (r := 27) dX1_goalsOfThousand_32 fs_1_15_1 rfl (hL.sh 25 rfl (by decide) (by decide)).1 (hL.sh 25 rfl (by decide) (by decide)).2 (hL.pt 34 rfl (by decide) (by decide)) ?_
      refine ab_iload 4 dX1_goalsOfThousand_35 rfl ?_
      refine ab_ialdj (j := v4.toNatClampNeg) dX1_goalsOfThousand_37 (hL.sh 27 rfl (by decide) (by decide)) hb4 rfl ?_
      refine ab_iadd dX1_goalsOfThousand_38 ?_
      refine ab_topi (fun x8 hx8 => ?_)
      have h := h x8 hx8
      refine ab_istore_n (lv1 := [(3, .int x8), (2, .int x7), (0, .ref 25), (1, .int v1), (4, .int v4)]) dX1_goalsOfThousand_39 (by decide) rfl ?_
      obtain ⟨x9, hx9⟩ : ∃ y : Int32, y = v4 + (1 : Int32) := ⟨_, rfl⟩
      have h := h x9 hx9
      refine ab_iinc (v := x9) 4 (lv1 := [(4, .int x9), (3, .int x8), (2, .int x7), (0, .ref 25), (1, .int v1)]) dX1_goalsOfThousand_40 rfl (by rw [hx9]; rfl) (by decide) rfl ?_
      refine ab_goto (tgt := 7) dX1_goalsOfThousand_43 (by decide) ?_
      exact ab_sub [3, 4, 2, 1, 0] rfl h
theorem dX1_farApart_0 : decode cX1_farApart 0 = .ok (.iconst (-1), 1) := by decide +kernel
theorem dX1_farApart_1 : decode cX1_farApart 1 = .ok (.istore_n 1, 1) := by decide +kernel
theorem dX1_farApart_2 : decode cX1_farApart 2 = .ok (.sipush 1001, 3) := by decide +kernel
theorem dX1_farApart_5 : decode cX1_farApart 5 = .ok (.istore_n 2, 1) := by decide +kernel
theorem dX1_farApart_6 : decode cX1_farApart 6 = .ok (.iconst 0, 1) := by decide +kernel
theorem dX1_farApart_7 : decode cX1_farApart 7 = .ok (.istore_n 3, 1) := by decide +kernel
theorem dX1_farApart_8 : decode cX1_farApart 8 = .ok (.iload_n 3, 1) := by decide +kernel
theorem dX1_farApart_9 : decode cX1_farApart 9 = .ok (.iconst 3, 1) := by decide +kernel
theorem dX1_farApart_10 : decode cX1_farApart 10 = .ok (.if_icmp .ge 37, 3) := by decide +kernel
theorem dX1_farApart_13 : decode cX1_farApart 13 = .ok (.aload_n 0, 1) := by decide +kernel
theorem dX1_farApart_14 : decode cX1_farApart 14 = .ok (.iload_n 3, 1) := by decide +kernel
theorem dX1_farApart_15 : decode cX1_farApart 15 = .ok (.invokevirtual 37, 3) := by decide +kernel
theorem dX1_farApart_18 : decode cX1_farApart 18 = .ok (.istore 4, 2) := by decide +kernel
theorem dX1_farApart_20 : decode cX1_farApart 20 = .ok (.iload 4, 2) := by decide +kernel
theorem dX1_farApart_22 : decode cX1_farApart 22 = .ok (.bipush (-5), 2) := by decide +kernel
theorem dX1_farApart_24 : decode cX1_farApart 24 = .ok (.if_icmp .eq 17, 3) := by decide +kernel
theorem dX1_farApart_27 : decode cX1_farApart 27 = .ok (.iload_n 1, 1) := by decide +kernel
theorem dX1_farApart_28 : decode cX1_farApart 28 = .ok (.iload 4, 2) := by decide +kernel
theorem dX1_farApart_30 : decode cX1_farApart 30 = .ok (.invokestatic 41, 3) := by decide +kernel
theorem dX1_farApart_33 : decode cX1_farApart 33 = .ok (.istore_n 1, 1) := by decide +kernel
theorem dX1_farApart_34 : decode cX1_farApart 34 = .ok (.iload_n 2, 1) := by decide +kernel
theorem dX1_farApart_35 : decode cX1_farApart 35 = .ok (.iload 4, 2) := by decide +kernel
theorem dX1_farApart_37 : decode cX1_farApart 37 = .ok (.invokestatic 47, 3) := by decide +kernel
theorem dX1_farApart_40 : decode cX1_farApart 40 = .ok (.istore_n 2, 1) := by decide +kernel
theorem dX1_farApart_41 : decode cX1_farApart 41 = .ok (.iinc 3 1, 3) := by decide +kernel
theorem dX1_farApart_44 : decode cX1_farApart 44 = .ok (.goto (-36), 3) := by decide +kernel
theorem dX1_farApart_47 : decode cX1_farApart 47 = .ok (.iconst 0, 1) := by decide +kernel
theorem dX1_farApart_48 : decode cX1_farApart 48 = .ok (.iload_n 1, 1) := by decide +kernel
theorem dX1_farApart_49 : decode cX1_farApart 49 = .ok (.iload_n 2, 1) := by decide +kernel
theorem dX1_farApart_50 : decode cX1_farApart 50 = .ok (.isub, 1) := by decide +kernel
theorem dX1_farApart_51 : decode cX1_farApart 51 = .ok (.invokestatic 41, 3) := by decide +kernel
theorem dX1_farApart_54 : decode cX1_farApart 54 = .ok (.ireturn, 1) := by decide +kernel
def LX1_farApart_8 (D : GD) (d : Nat) (v1 : Int32) (v2 : Int32) (v3 : Int32) (M : Mm) (post : Option Value → Mm → Prop) : Prop := AW D (d + 1) 0 0 mX1_farApart 0 0 8 [(0, .ref 25), (1, .int v1), (2, .int v2), (3, .int v3)] [] M post
set_option maxRecDepth 20000 in
theorem rX1_farApart (D : GD) (d : Nat)  (M : Mm) (post : Option Value → Mm → Prop) (hL : Lay 25 29 M) 
    (h : LX1_farApart_8 D d (-1 : Int32) (1001 : Int32) (0 : Int32) M post) :
    AM D (d + 1) 0 0 mX1_farApart [.ref 25] M post := by
  refine AM.of (by decide) (Nat.le_of_ble_eq_true rfl) ?_
  show AW D (d + 1) 0 0 mX1_farApart 0 0 0 [(0, .ref 25)] [] M post
  refine ab_iconst (v := (-1)) dX1_farApart_0 (by decide) ?_
  refine ab_istore_n (lv1 := [(1, .int (-1 : Int32)), (0, .ref 25)]) dX1_farApart_1 (by decide) rfl ?_
  refine ab_sipush (v := 1001) dX1_farApart_2 (by decide) ?_
  refine ab_istore_n (lv1 := [(2, .int (1001 : Int32)), (1, .int (-1 : Int32)), (0, .ref 25)]) dX1_farApart_5 (by decide) rfl ?_
  refine ab_iconst (v := 0) dX1_farApart_6 (by decide) ?_
  refine ab_istore_n (lv1 := [(3, .int (0 : Int32)), (2, .int (1001 : Int32)), (1, .int (-1 : Int32)), (0, .ref 25)]) dX1_farApart_7 (by decide) rfl ?_
  exact ab_sub [3, 2, 1, 0] rfl h
set_option maxRecDepth 20000 in
theorem rX1_farApart_8 (D : GD) (d : Nat)  (v1 : Int32) (v2 : Int32) (v3 : Int32) (M : Mm) (post : Option Value → Mm → Prop) (hL : Lay 25 29 M) 
    (h : (((3 : Int32) ≤ v3 → post (some (.int (if (0 : Int32) < (v1 - v2) then (v1 - v2) else (0 : Int32)))) M) ∧ (¬ (3 : Int32) ≤ v3 → AMi D d mX1_goalsOfThousand [.ref 25, .int v3] M (fun x3 M2 => ((x3 = (-5 : Int32) → ∀ x9 : Int32, x9 = v3 + (1 : Int32) → LX1_farApart_8 D d v1 v2 x9 M2 post) ∧ (¬ x3 = (-5 : Int32) → ∀ x10 : Int32, x10 = (if v1 < x3 then x3 else v1) → ∀ x11 : Int32, x11 = (if x3 < v2 then x3 else v2) → ∀ x12 : Int32, x12 = v3 + (1 : Int32) → LX1_farApart_8 D d x10 x11 x12 M2 post)))))) :
    LX1_farApart_8 D d v1 v2 v3 M post := by
  show AW D (d + 1) 0 0 mX1_farApart 0 0 8 [(0, .ref 25), (1, .int v1), (2, .int v2), (3, .int v3)] [] M post
  refine ab_iload_n 3 dX1_farApart_8 rfl ?_
  refine ab_iconst (v := 3) dX1_farApart_9 (by decide) ?_
  refine ab_icmp_ge (tgt := 47) dX1_farApart_10 (by decide) (fun c1 => ?_) (fun c1 => ?_)
  · have h := h.1 c1
    refine ab_iconst (v := 0) dX1_farApart_47 (by decide) ?_
    refine ab_iload_n 1 dX1_farApart_48 rfl ?_
    refine ab_iload_n 2 dX1_farApart_49 rfl ?_
    refine ab_isub dX1_farApart_50 ?_
    refine ab_mmax (st := []) dX1_farApart_51 w_743 (Nat.le_of_ble_eq_true rfl) (Nat.succ_le_succ (Nat.zero_le _)) ?_
    exact ab_iret dX1_farApart_54 rfl h
  · have h := h.2 c1
    refine ab_aload_n 0 dX1_farApart_13 rfl ?_
    refine ab_iload_n 3 dX1_farApart_14 rfl ?_
    refine ab_callV (a := 25) (c0 := 1) (d' := d) (mc' := 0) (ms' := 0) (vs := [.int v3]) (st := []) dX1_farApart_15 ⟨cw_X1_goalsOfThousand, w_742⟩ w_731 w_732 (by decide) (hL.sh 25 rfl (by decide) (by decide)).1 (hL.sh 25 rfl (by decide) (by decide)).2 rfl rfl (Nat.le_of_ble_eq_true rfl) (Nat.le_refl _) (Nat.zero_le _) (Nat.zero_le _) (AM.mono h (fun r M2 ⟨x3, hr4, hc5, h⟩ => ?_))
    subst hr4
    refine ab_rs ?_
    have hm6 : Sm M M2 := (Sm.refl M).trans hc5
    have hl7 := hL.of hm6
    refine ab_istore (lv1 := [(4, .int x3), (0, .ref 25), (1, .int v1), (2, .int v2), (3, .int v3)]) dX1_farApart_18 (by decide) rfl ?_
    refine ab_iload 0 dX1_farApart_20 rfl ?_
    refine ab_bipush (v := (-5)) dX1_farApart_22 (by decide) ?_
    refine ab_icmp_eq (tgt := 41) dX1_farApart_24 (by decide) (fun c8 => ?_) (fun c8 => ?_)
    · have h := h.1 c8
      obtain ⟨x9, hx9⟩ : ∃ y : Int32, y = v3 + (1 : Int32) := ⟨_, rfl⟩
      have h := h x9 hx9
      refine ab_iinc (v := x9) 4 (lv1 := [(3, .int x9), (4, .int x3), (0, .ref 25), (1, .int v1), (2, .int v2)]) dX1_farApart_41 rfl (by rw [hx9]; rfl) (by decide) rfl ?_
      refine ab_goto (tgt := 8) dX1_farApart_44 (by decide) ?_
      exact ab_sub [2, 3, 4, 0] rfl h
    · have h := h.2 c8
      refine ab_iload_n 2 dX1_farApart_27 rfl ?_
      refine ab_iload 0 dX1_farApart_28 rfl ?_
      refine ab_mmax (st := []) dX1_farApart_30 w_743 (Nat.le_of_ble_eq_true rfl) (Nat.succ_le_succ (Nat.zero_le _)) ?_
      refine ab_topi (fun x10 hx10 => ?_)
      have h := h x10 hx10
      refine ab_istore_n (lv1 := [(1, .int x10), (4, .int x3), (0, .ref 25), (2, .int v2), (3, .int v3)]) dX1_farApart_33 (by decide) rfl ?_
      refine ab_iload_n 3 dX1_farApart_34 rfl ?_
      refine ab_iload 1 dX1_farApart_35 rfl ?_
      refine ab_mmin (st := []) dX1_farApart_37 w_746 (Nat.le_of_ble_eq_true rfl) (Nat.succ_le_succ (Nat.zero_le _)) ?_
      refine ab_topi (fun x11 hx11 => ?_)
      have h := h x11 hx11
      refine ab_istore_n (lv1 := [(2, .int x11), (1, .int x10), (4, .int x3), (0, .ref 25), (3, .int v3)]) dX1_farApart_40 (by decide) rfl ?_
      obtain ⟨x12, hx12⟩ : ∃ y : Int32, y = v3 + (1 : Int32) := ⟨_, rfl⟩
      have h := h x12 hx12
      refine ab_iinc (v := x12) 4 (lv1 := [(3, .int x12), (2, .int x11), (1, .int x10), (4, .int x3), (0, .ref 25)]) dX1_farApart_41 rfl (by rw [hx12]; rfl) (by decide) rfl ?_
      refine ab_goto (tgt := 8) dX1_farApart_44 (by decide) ?_
      exact ab_sub [4, 2, 1, 0] rfl h
theorem dX1_runs_0 : decode cX1_runs 0 = .ok (.iconst 0, 1) := by decide +kernel
theorem dX1_runs_1 : decode cX1_runs 1 = .ok (.istore_n 1, 1) := by decide +kernel
theorem dX1_runs_2 : decode cX1_runs 2 = .ok (.iconst 0, 1) := by decide +kernel
theorem dX1_runs_3 : decode cX1_runs 3 = .ok (.istore_n 2, 1) := by decide +kernel
theorem dX1_runs_4 : decode cX1_runs 4 = .ok (.iload_n 2, 1) := by decide +kernel
theorem dX1_runs_5 : decode cX1_runs 5 = .ok (.aload_n 0, 1) := by decide +kernel
theorem dX1_runs_6 : decode cX1_runs 6 = .ok (.getfield 18, 3) := by decide +kernel
theorem dX1_runs_9 : decode cX1_runs 9 = .ok (.if_icmp .ge 33, 3) := by decide +kernel
theorem dX1_runs_12 : decode cX1_runs 12 = .ok (.iload_n 2, 1) := by decide +kernel
theorem dX1_runs_13 : decode cX1_runs 13 = .ok (.ifCond .eq 20, 3) := by decide +kernel
theorem dX1_runs_16 : decode cX1_runs 16 = .ok (.aload_n 0, 1) := by decide +kernel
theorem dX1_runs_17 : decode cX1_runs 17 = .ok (.getfield 9, 3) := by decide +kernel
theorem dX1_runs_20 : decode cX1_runs 20 = .ok (.iload_n 2, 1) := by decide +kernel
theorem dX1_runs_21 : decode cX1_runs 21 = .ok (.iaload, 1) := by decide +kernel
theorem dX1_runs_22 : decode cX1_runs 22 = .ok (.aload_n 0, 1) := by decide +kernel
theorem dX1_runs_23 : decode cX1_runs 23 = .ok (.getfield 9, 3) := by decide +kernel
theorem dX1_runs_26 : decode cX1_runs 26 = .ok (.iload_n 2, 1) := by decide +kernel
theorem dX1_runs_27 : decode cX1_runs 27 = .ok (.iconst 1, 1) := by decide +kernel
theorem dX1_runs_28 : decode cX1_runs 28 = .ok (.isub, 1) := by decide +kernel
theorem dX1_runs_29 : decode cX1_runs 29 = .ok (.iaload, 1) := by decide +kernel
theorem dX1_runs_30 : decode cX1_runs 30 = .ok (.if_icmp .eq 6, 3) := by decide +kernel
theorem dX1_runs_33 : decode cX1_runs 33 = .ok (.iinc 1 1, 3) := by decide +kernel
theorem dX1_runs_36 : decode cX1_runs 36 = .ok (.iinc 2 1, 3) := by decide +kernel
theorem dX1_runs_39 : decode cX1_runs 39 = .ok (.goto (-35), 3) := by decide +kernel
theorem dX1_runs_42 : decode cX1_runs 42 = .ok (.iload_n 1, 1) := by decide +kernel
theorem dX1_runs_43 : decode cX1_runs 43 = .ok (.ireturn, 1) := by decide +kernel
def LX1_runs_4 (D : GD) (d : Nat) (v1 : Int32) (v2 : Int32) (M : Mm) (post : Option Value → Mm → Prop) : Prop := AW D d 0 0 mX1_runs 0 0 4 [(0, .ref 25), (1, .int v1), (2, .int v2)] [] M post
set_option maxRecDepth 20000 in
theorem rX1_runs (D : GD) (d : Nat)  (M : Mm) (post : Option Value → Mm → Prop) (hL : Lay 25 29 M) 
    (h : LX1_runs_4 D d (0 : Int32) (0 : Int32) M post) :
    AM D d 0 0 mX1_runs [.ref 25] M post := by
  refine AM.of (by decide) (Nat.le_of_ble_eq_true rfl) ?_
  show AW D d 0 0 mX1_runs 0 0 0 [(0, .ref 25)] [] M post
  refine ab_iconst (v := 0) dX1_runs_0 (by decide) ?_
  refine ab_istore_n (lv1 := [(1, .int (0 : Int32)), (0, .ref 25)]) dX1_runs_1 (by decide) rfl ?_
  refine ab_iconst (v := 0) dX1_runs_2 (by decide) ?_
  refine ab_istore_n (lv1 := [(2, .int (0 : Int32)), (1, .int (0 : Int32)), (0, .ref 25)]) dX1_runs_3 (by decide) rfl ?_
  exact ab_sub [2, 1, 0] rfl h
set_option maxRecDepth 20000 in
theorem rX1_runs_4 (D : GD) (d : Nat)  (v1 : Int32) (v2 : Int32) (M : Mm) (post : Option Value → Mm → Prop) (hL : Lay 25 29 M) 
    (h : (((gI M 25 2) ≤ v2 → post (some (.int v1)) M) ∧ (¬ (gI M 25 2) ≤ v2 → ((v2 = 0 → ∀ x3 : Int32, x3 = v1 + (1 : Int32) → ∀ x4 : Int32, x4 = v2 + (1 : Int32) → LX1_runs_4 D d x3 x4 M post) ∧ (¬ v2 = 0 → vp_in v2 30 ∧ vp_in (v2 - (1 : Int32)) 30 ∧ (((gI M 26 v2.toNatClampNeg) = (gI M 26 ((v2 - (1 : Int32)).toNatClampNeg)) → ∀ x8 : Int32, x8 = v2 + (1 : Int32) → LX1_runs_4 D d v1 x8 M post) ∧ (¬ (gI M 26 v2.toNatClampNeg) = (gI M 26 ((v2 - (1 : Int32)).toNatClampNeg)) → ∀ x9 : Int32, x9 = v1 + (1 : Int32) → ∀ x10 : Int32, x10 = v2 + (1 : Int32) → LX1_runs_4 D d x9 x10 M post))))))) :
    LX1_runs_4 D d v1 v2 M post := by
  show AW D d 0 0 mX1_runs 0 0 4 [(0, .ref 25), (1, .int v1), (2, .int v2)] [] M post
  refine ab_iload_n 2 dX1_runs_4 rfl ?_
  refine ab_aload_n 0 dX1_runs_5 rfl ?_
  refine ab_getI dX1_runs_6 fs_1_18_1 rfl (hL.sh 25 rfl (by decide) (by decide)).1 (hL.sh 25 rfl (by decide) (by decide)).2 ?_
  refine ab_icmp_ge (tgt := 42) dX1_runs_9 (by decide) (fun c1 => ?_) (fun c1 => ?_)
  · have h := h.1 c1
    refine ab_iload_n 1 dX1_runs_42 rfl ?_
    exact ab_iret dX1_runs_43 rfl h
  · have h := h.2 c1
    refine ab_iload_n 2 dX1_runs_12 rfl ?_
    refine ab_if_eq (tgt := 33) dX1_runs_13 (by decide) (fun c2 => ?_) (fun c2 => ?_)
    · have h := h.1 c2
      obtain ⟨x3, hx3⟩ : ∃ y : Int32, y = v1 + (1 : Int32) := ⟨_, rfl⟩
      have h := h x3 hx3
      refine ab_iinc (v := x3) 1 (lv1 := [(1, .int x3), (0, .ref 25), (2, .int v2)]) dX1_runs_33 rfl (by rw [hx3]; rfl) (by decide) rfl ?_
      obtain ⟨x4, hx4⟩ : ∃ y : Int32, y = v2 + (1 : Int32) := ⟨_, rfl⟩
      have h := h x4 hx4
      refine ab_iinc (v := x4) 2 (lv1 := [(2, .int x4), (1, .int x3), (0, .ref 25)]) dX1_runs_36 rfl (by rw [hx4]; rfl) (by decide) rfl ?_
      refine ab_goto (tgt := 4) dX1_runs_39 (by decide) ?_
      exact ab_sub [2, 1, 0] rfl h
    · have h := h.2 c2
      refine ab_aload_n 0 dX1_runs_16 rfl ?_
      refine ab_getP (r := 26) dX1_runs_17 fs_1_9_1 rfl (hL.sh 25 rfl (by decide) (by decide)).1 (hL.sh 25 rfl (by decide) (by decide)).2 (hL.pt 33 rfl (by decide) (by decide)) ?_
      refine ab_iload_n 2 dX1_runs_20 rfl ?_
      have hb5 := h.1
      have h := h.2
      refine ab_ialdj (j := v2.toNatClampNeg) dX1_runs_21 (hL.sh 26 rfl (by decide) (by decide)) hb5 rfl ?_
      refine ab_aload_n 0 dX1_runs_22 rfl ?_
      refine ab_getP (r := 26) dX1_runs_23 fs_1_9_1 rfl (hL.sh 25 rfl (by decide) (by decide)).1 (hL.sh 25 rfl (by decide) (by decide)).2 (hL.pt 33 rfl (by decide) (by decide)) ?_
      refine ab_iload_n 2 dX1_runs_26 rfl ?_
      refine ab_iconst (v := 1) dX1_runs_27 (by decide) ?_
      refine ab_isub dX1_runs_28 ?_
      have hb6 := h.1
      have h := h.2
      refine ab_ialdj (j := (v2 - (1 : Int32)).toNatClampNeg) dX1_runs_29 (hL.sh 26 rfl (by decide) (by decide)) hb6 rfl ?_
      refine ab_icmp_eq (tgt := 36) dX1_runs_30 (by decide) (fun c7 => ?_) (fun c7 => ?_)
      · have h := h.1 c7
        obtain ⟨x8, hx8⟩ : ∃ y : Int32, y = v2 + (1 : Int32) := ⟨_, rfl⟩
        have h := h x8 hx8
        refine ab_iinc (v := x8) 2 (lv1 := [(2, .int x8), (0, .ref 25), (1, .int v1)]) dX1_runs_36 rfl (by rw [hx8]; rfl) (by decide) rfl ?_
        refine ab_goto (tgt := 4) dX1_runs_39 (by decide) ?_
        exact ab_sub [1, 2, 0] rfl h
      · have h := h.2 c7
        obtain ⟨x9, hx9⟩ : ∃ y : Int32, y = v1 + (1 : Int32) := ⟨_, rfl⟩
        have h := h x9 hx9
        refine ab_iinc (v := x9) 1 (lv1 := [(1, .int x9), (0, .ref 25), (2, .int v2)]) dX1_runs_33 rfl (by rw [hx9]; rfl) (by decide) rfl ?_
        obtain ⟨x10, hx10⟩ : ∃ y : Int32, y = v2 + (1 : Int32) := ⟨_, rfl⟩
        have h := h x10 hx10
        refine ab_iinc (v := x10) 2 (lv1 := [(2, .int x10), (1, .int x9), (0, .ref 25)]) dX1_runs_36 rfl (by rw [hx10]; rfl) (by decide) rfl ?_
        refine ab_goto (tgt := 4) dX1_runs_39 (by decide) ?_
        exact ab_sub [2, 1, 0] rfl h
theorem dX1_runsShare_0 : decode cX1_runsShare 0 = .ok (.aload_n 0, 1) := by decide +kernel
theorem dX1_runsShare_1 : decode cX1_runsShare 1 = .ok (.getfield 22, 3) := by decide +kernel
theorem dX1_runsShare_4 : decode cX1_runsShare 4 = .ok (.iconst 0, 1) := by decide +kernel
theorem dX1_runsShare_5 : decode cX1_runsShare 5 = .ok (.invokestatic 50, 3) := by decide +kernel
theorem dX1_runsShare_8 : decode cX1_runsShare 8 = .ok (.iconst 0, 1) := by decide +kernel
theorem dX1_runsShare_9 : decode cX1_runsShare 9 = .ok (.istore_n 2, 1) := by decide +kernel
theorem dX1_runsShare_10 : decode cX1_runsShare 10 = .ok (.iload_n 2, 1) := by decide +kernel
theorem dX1_runsShare_11 : decode cX1_runsShare 11 = .ok (.aload_n 0, 1) := by decide +kernel
theorem dX1_runsShare_12 : decode cX1_runsShare 12 = .ok (.getfield 18, 3) := by decide +kernel
theorem dX1_runsShare_15 : decode cX1_runsShare 15 = .ok (.if_icmp .ge 24, 3) := by decide +kernel
theorem dX1_runsShare_18 : decode cX1_runsShare 18 = .ok (.aload_n 0, 1) := by decide +kernel
theorem dX1_runsShare_19 : decode cX1_runsShare 19 = .ok (.getfield 22, 3) := by decide +kernel
theorem dX1_runsShare_22 : decode cX1_runsShare 22 = .ok (.aload_n 0, 1) := by decide +kernel
theorem dX1_runsShare_23 : decode cX1_runsShare 23 = .ok (.getfield 9, 3) := by decide +kernel
theorem dX1_runsShare_26 : decode cX1_runsShare 26 = .ok (.iload_n 2, 1) := by decide +kernel
theorem dX1_runsShare_27 : decode cX1_runsShare 27 = .ok (.iaload, 1) := by decide +kernel
theorem dX1_runsShare_28 : decode cX1_runsShare 28 = .ok (.dup2, 1) := by decide +kernel
theorem dX1_runsShare_29 : decode cX1_runsShare 29 = .ok (.iaload, 1) := by decide +kernel
theorem dX1_runsShare_30 : decode cX1_runsShare 30 = .ok (.iconst 1, 1) := by decide +kernel
theorem dX1_runsShare_31 : decode cX1_runsShare 31 = .ok (.iadd, 1) := by decide +kernel
theorem dX1_runsShare_32 : decode cX1_runsShare 32 = .ok (.iastore, 1) := by decide +kernel
theorem dX1_runsShare_33 : decode cX1_runsShare 33 = .ok (.iinc 2 1, 3) := by decide +kernel
theorem dX1_runsShare_36 : decode cX1_runsShare 36 = .ok (.goto (-26), 3) := by decide +kernel
theorem dX1_runsShare_39 : decode cX1_runsShare 39 = .ok (.aload_n 0, 1) := by decide +kernel
theorem dX1_runsShare_40 : decode cX1_runsShare 40 = .ok (.iconst 0, 1) := by decide +kernel
theorem dX1_runsShare_41 : decode cX1_runsShare 41 = .ok (.putfield 25, 3) := by decide +kernel
theorem dX1_runsShare_44 : decode cX1_runsShare 44 = .ok (.aload_n 0, 1) := by decide +kernel
theorem dX1_runsShare_45 : decode cX1_runsShare 45 = .ok (.iconst 0, 1) := by decide +kernel
theorem dX1_runsShare_46 : decode cX1_runsShare 46 = .ok (.putfield 28, 3) := by decide +kernel
theorem dX1_runsShare_49 : decode cX1_runsShare 49 = .ok (.aload_n 0, 1) := by decide +kernel
theorem dX1_runsShare_50 : decode cX1_runsShare 50 = .ok (.aload_n 0, 1) := by decide +kernel
theorem dX1_runsShare_51 : decode cX1_runsShare 51 = .ok (.getfield 18, 3) := by decide +kernel
theorem dX1_runsShare_54 : decode cX1_runsShare 54 = .ok (.bipush 9, 2) := by decide +kernel
theorem dX1_runsShare_56 : decode cX1_runsShare 56 = .ok (.invokestatic 47, 3) := by decide +kernel
theorem dX1_runsShare_59 : decode cX1_runsShare 59 = .ok (.iconst (-1), 1) := by decide +kernel
theorem dX1_runsShare_60 : decode cX1_runsShare 60 = .ok (.aload_n 0, 1) := by decide +kernel
theorem dX1_runsShare_61 : decode cX1_runsShare 61 = .ok (.invokevirtual 56, 3) := by decide +kernel
theorem dX1_runsShare_64 : decode cX1_runsShare 64 = .ok (.ineg, 1) := by decide +kernel
theorem dX1_runsShare_65 : decode cX1_runsShare 65 = .ok (.invokevirtual 60, 3) := by decide +kernel
theorem dX1_runsShare_68 : decode cX1_runsShare 68 = .ok (.aload_n 0, 1) := by decide +kernel
theorem dX1_runsShare_69 : decode cX1_runsShare 69 = .ok (.getfield 25, 3) := by decide +kernel
theorem dX1_runsShare_72 : decode cX1_runsShare 72 = .ok (.aload_n 0, 1) := by decide +kernel
theorem dX1_runsShare_73 : decode cX1_runsShare 73 = .ok (.getfield 28, 3) := by decide +kernel
theorem dX1_runsShare_76 : decode cX1_runsShare 76 = .ok (.invokestatic 64, 3) := by decide +kernel
theorem dX1_runsShare_79 : decode cX1_runsShare 79 = .ok (.istore_n 2, 1) := by decide +kernel
theorem dX1_runsShare_80 : decode cX1_runsShare 80 = .ok (.iload_n 1, 1) := by decide +kernel
theorem dX1_runsShare_81 : decode cX1_runsShare 81 = .ok (.ifCond .ne 10, 3) := by decide +kernel
theorem dX1_runsShare_84 : decode cX1_runsShare 84 = .ok (.aload_n 0, 1) := by decide +kernel
theorem dX1_runsShare_85 : decode cX1_runsShare 85 = .ok (.getfield 28, 3) := by decide +kernel
theorem dX1_runsShare_88 : decode cX1_runsShare 88 = .ok (.goto 7, 3) := by decide +kernel
theorem dX1_runsShare_91 : decode cX1_runsShare 91 = .ok (.aload_n 0, 1) := by decide +kernel
theorem dX1_runsShare_92 : decode cX1_runsShare 92 = .ok (.getfield 25, 3) := by decide +kernel
theorem dX1_runsShare_95 : decode cX1_runsShare 95 = .ok (.iconst 1, 1) := by decide +kernel
theorem dX1_runsShare_96 : decode cX1_runsShare 96 = .ok (.iload_n 2, 1) := by decide +kernel
theorem dX1_runsShare_97 : decode cX1_runsShare 97 = .ok (.invokestatic 41, 3) := by decide +kernel
theorem dX1_runsShare_100 : decode cX1_runsShare 100 = .ok (.idiv, 1) := by decide +kernel
theorem dX1_runsShare_101 : decode cX1_runsShare 101 = .ok (.ireturn, 1) := by decide +kernel
def LX1_runsShare_10 (D : GD) (d : Nat) (v1 : Int32) (v2 : Int32) (M : Mm) (post : Option Value → Mm → Prop) : Prop := AW D (d + 1) 0 0 mX1_runsShare 0 0 10 [(0, .ref 25), (1, .int v1), (2, .int v2)] [] M post
set_option maxRecDepth 20000 in
theorem rX1_runsShare (D : GD) (d : Nat) (a1 : Int32) (M : Mm) (post : Option Value → Mm → Prop) (hL : Lay 25 29 M) 
    (h : AMv D d mJ7_fill_53178 [.ref 28, .int (0 : Int32)] M (fun M1 => LX1_runsShare_10 D d a1 (0 : Int32) M1 post)) :
    AM D (d + 1) 0 0 mX1_runsShare [.ref 25, .int a1] M post := by
  refine AM.of (by decide) (Nat.le_of_ble_eq_true rfl) ?_
  show AW D (d + 1) 0 0 mX1_runsShare 0 0 0 [(0, .ref 25), (1, .int a1)] [] M post
  refine ab_aload_n 0 dX1_runsShare_0 rfl ?_
  refine ab_getP (r := 28) dX1_runsShare_1 fs_1_22_1 rfl (hL.sh 25 rfl (by decide) (by decide)).1 (hL.sh 25 rfl (by decide) (by decide)).2 (hL.pt 35 rfl (by decide) (by decide)) ?_
  refine ab_iconst (v := 0) dX1_runsShare_4 (by decide) ?_
  refine ab_callS (d' := d) (mc' := 0) (ms' := 0) (vs := [.ref 28, .int (0 : Int32)]) (st := []) dX1_runsShare_5 ⟨cw_J7_fill_53178, w_759⟩ w_150 rfl rfl (Nat.le_of_ble_eq_true rfl) (Nat.le_refl _) (Nat.zero_le _) (Nat.zero_le _) (AM.mono h (fun r M1 ⟨hr3, hc4, h⟩ => ?_))
  subst hr3
  refine ab_rv ?_
  have hm5 : Sm M M1 := (Sm.refl M).trans hc4
  have hl6 := hL.of hm5
  refine ab_iconst (v := 0) dX1_runsShare_8 (by decide) ?_
  refine ab_istore_n (lv1 := [(2, .int (0 : Int32)), (0, .ref 25), (1, .int a1)]) dX1_runsShare_9 (by decide) rfl ?_
  exact ab_sub [1, 2, 0] rfl h
set_option maxRecDepth 20000 in
theorem rX1_runsShare_10 (D : GD) (d : Nat)  (v1 : Int32) (v2 : Int32) (M : Mm) (post : Option Value → Mm → Prop) (hL : Lay 25 29 M) 
    (h : (((gI M 25 2) ≤ v2 → ∀ M2 : Mm, M2 = sI M 25 4 (0 : Int32) → ∀ M6 : Mm, M6 = sI M2 25 5 (0 : Int32) → AMi D d mX1_runs [.ref 25] M6 (fun x11 M10 => AMv D d mX1_placeNext [.ref 25, .int (if (9 : Int32) < (gI M6 25 2) then (9 : Int32) else (gI M6 25 2)), .int (-1 : Int32), .int (-x11)] M10 (fun M16 => AMi D d mX1_commonDivisor [.int (gI M16 25 4), .int (gI M16 25 5)] M16 (fun x23 M22 => ((¬ v1 = 0 → (¬ (if (1 : Int32) < x23 then x23 else (1 : Int32)) = 0) ∧ post (some (.int ((gI M22 25 4) / (if (1 : Int32) < x23 then x23 else (1 : Int32))))) M22) ∧ (v1 = 0 → (¬ (if (1 : Int32) < x23 then x23 else (1 : Int32)) = 0) ∧ post (some (.int ((gI M22 25 5) / (if (1 : Int32) < x23 then x23 else (1 : Int32))))) M22)))))) ∧ (¬ (gI M 25 2) ≤ v2 → vp_in v2 30 ∧ vp_in (gI M 26 v2.toNatClampNeg) 3 ∧ ∀ M33 : Mm, M33 = sI M 28 ((gI M 26 v2.toNatClampNeg).toNatClampNeg) ((gI M 28 ((gI M 26 v2.toNatClampNeg).toNatClampNeg)) + (1 : Int32)) → ∀ x37 : Int32, x37 = v2 + (1 : Int32) → LX1_runsShare_10 D d v1 x37 M33 post))) :
    LX1_runsShare_10 D d v1 v2 M post := by
  show AW D (d + 1) 0 0 mX1_runsShare 0 0 10 [(0, .ref 25), (1, .int v1), (2, .int v2)] [] M post
  refine ab_iload_n 2 dX1_runsShare_10 rfl ?_
  refine ab_aload_n 0 dX1_runsShare_11 rfl ?_
  refine ab_getI dX1_runsShare_12 fs_1_18_1 rfl (hL.sh 25 rfl (by decide) (by decide)).1 (hL.sh 25 rfl (by decide) (by decide)).2 ?_
  refine ab_icmp_ge (tgt := 39) dX1_runsShare_15 (by decide) (fun c1 => ?_) (fun c1 => ?_)
  · have h := h.1 c1
    refine ab_aload_n 0 dX1_runsShare_39 rfl ?_
    refine ab_iconst (v := 0) dX1_runsShare_40 (by decide) ?_
    refine ab_putI dX1_runsShare_41 fs_1_25_1 rfl rfl (hL.sh 25 rfl (by decide) (by decide)).1 (hL.sh 25 rfl (by decide) (by decide)).2 ?_
    refine ab_nameM (fun M2 hM2 => ?_)
    have h := h M2 hM2
    have hs5 : Sm M M2 := hM2 ▸ (Sm.refl _).i
    have hm3 : Sm M M2 := (Sm.refl M).trans hs5
    have hl4 := hL.of hm3
    refine ab_aload_n 0 dX1_runsShare_44 rfl ?_
    refine ab_iconst (v := 0) dX1_runsShare_45 (by decide) ?_
    refine ab_putI dX1_runsShare_46 fs_1_28_1 rfl rfl (hl4.sh 25 rfl (by decide) (by decide)).1 (hl4.sh 25 rfl (by decide) (by decide)).2 ?_
    refine ab_nameM (fun M6 hM6 => ?_)
    have h := h M6 hM6
    have hs9 : Sm M2 M6 := hM6 ▸ (Sm.refl _).i
    have hm7 : Sm M M6 := hm3.trans hs9
    have hl8 := hL.of hm7
    refine ab_aload_n 0 dX1_runsShare_49 rfl ?_
    refine ab_aload_n 0 dX1_runsShare_50 rfl ?_
    refine ab_getI dX1_runsShare_51 fs_1_18_1 rfl (hl8.sh 25 rfl (by decide) (by decide)).1 (hl8.sh 25 rfl (by decide) (by decide)).2 ?_
    refine ab_bipush (v := 9) dX1_runsShare_54 (by decide) ?_
    refine ab_mmin (st := [.ref 25]) dX1_runsShare_56 w_746 (Nat.le_of_ble_eq_true rfl) (Nat.succ_le_succ (Nat.zero_le _)) ?_
    refine ab_iconst (v := (-1)) dX1_runsShare_59 (by decide) ?_
    refine ab_aload_n 0 dX1_runsShare_60 rfl ?_
    refine ab_callV (a := 25) (c0 := 1) (d' := d) (mc' := 0) (ms' := 0) (vs := []) (st := [.int (-1 : Int32), .int (if (9 : Int32) < (gI M6 25 2) then (9 : Int32) else (gI M6 25 2)), .ref 25]) dX1_runsShare_61 ⟨cw_X1_runs, w_760⟩ w_748 w_749 (by decide) (hl8.sh 25 rfl (by decide) (by decide)).1 (hl8.sh 25 rfl (by decide) (by decide)).2 rfl rfl (Nat.le_of_ble_eq_true rfl) (Nat.le_refl _) (Nat.zero_le _) (Nat.zero_le _) (AM.mono h (fun r M10 ⟨x11, hr12, hc13, h⟩ => ?_))
    subst hr12
    refine ab_rs ?_
    have hm14 : Sm M M10 := hm7.trans hc13
    have hl15 := hL.of hm14
    refine ab_ineg dX1_runsShare_64 ?_
    refine ab_callV (a := 25) (c0 := 1) (d' := d) (mc' := 0) (ms' := 0) (vs := [.int (if (9 : Int32) < (gI M6 25 2) then (9 : Int32) else (gI M6 25 2)), .int (-1 : Int32), .int (-x11)]) (st := []) dX1_runsShare_65 ⟨cw_X1_placeNext, w_761⟩ w_763 w_18 (by decide) (hl15.sh 25 rfl (by decide) (by decide)).1 (hl15.sh 25 rfl (by decide) (by decide)).2 rfl rfl (Nat.le_of_ble_eq_true rfl) (Nat.le_refl _) (Nat.zero_le _) (Nat.zero_le _) (AM.mono h (fun r M16 ⟨hr18, hc19, h⟩ => ?_))
    subst hr18
    refine ab_rv ?_
    have hm20 : Sm M M16 := hm14.trans hc19
    have hl21 := hL.of hm20
    refine ab_aload_n 0 dX1_runsShare_68 rfl ?_
    refine ab_getI dX1_runsShare_69 fs_1_25_1 rfl (hl21.sh 25 rfl (by decide) (by decide)).1 (hl21.sh 25 rfl (by decide) (by decide)).2 ?_
    refine ab_aload_n 0 dX1_runsShare_72 rfl ?_
    refine ab_getI dX1_runsShare_73 fs_1_28_1 rfl (hl21.sh 25 rfl (by decide) (by decide)).1 (hl21.sh 25 rfl (by decide) (by decide)).2 ?_
    refine ab_callS (d' := d) (mc' := 0) (ms' := 0) (vs := [.int (gI M16 25 4), .int (gI M16 25 5)]) (st := []) dX1_runsShare_76 ⟨cw_X1_commonDivisor, w_765⟩ w_766 rfl rfl (Nat.le_of_ble_eq_true rfl) (Nat.le_refl _) (Nat.zero_le _) (Nat.zero_le _) (AM.mono h (fun r M22 ⟨x23, hr24, hc25, h⟩ => ?_))
    subst hr24
    refine ab_rs ?_
    have hm26 : Sm M M22 := hm20.trans hc25
    have hl27 := hL.of hm26
    refine ab_istore_n (lv1 := [(2, .int x23), (0, .ref 25), (1, .int v1)]) dX1_runsShare_79 (by decide) rfl ?_
    refine ab_iload_n 2 dX1_runsShare_80 rfl ?_
    refine ab_if_ne (tgt := 91) dX1_runsShare_81 (by decide) (fun c28 => ?_) (fun c28 => ?_)
    · have h := h.1 c28
      refine ab_aload_n 1 dX1_runsShare_91 rfl ?_
      refine ab_getI dX1_runsShare_92 fs_1_25_1 rfl (hl27.sh 25 rfl (by decide) (by decide)).1 (hl27.sh 25 rfl (by decide) (by decide)).2 ?_
      refine ab_iconst (v := 1) dX1_runsShare_95 (by decide) ?_
      refine ab_iload_n 0 dX1_runsShare_96 rfl ?_
      refine ab_mmax (st := [.int (gI M22 25 4)]) dX1_runsShare_97 w_743 (Nat.le_of_ble_eq_true rfl) (Nat.succ_le_succ (Nat.zero_le _)) ?_
      have hn29 := h.1
      have h := h.2
      refine ab_idiv dX1_runsShare_100 hn29 ?_
      exact ab_iret dX1_runsShare_101 rfl h
    · have h := h.2 c28
      refine ab_aload_n 1 dX1_runsShare_84 rfl ?_
      refine ab_getI dX1_runsShare_85 fs_1_28_1 rfl (hl27.sh 25 rfl (by decide) (by decide)).1 (hl27.sh 25 rfl (by decide) (by decide)).2 ?_
      refine ab_goto (tgt := 95) dX1_runsShare_88 (by decide) ?_
      refine ab_iconst (v := 1) dX1_runsShare_95 (by decide) ?_
      refine ab_iload_n 0 dX1_runsShare_96 rfl ?_
      refine ab_mmax (st := [.int (gI M22 25 5)]) dX1_runsShare_97 w_743 (Nat.le_of_ble_eq_true rfl) (Nat.succ_le_succ (Nat.zero_le _)) ?_
      have hn30 := h.1
      have h := h.2
      refine ab_idiv dX1_runsShare_100 hn30 ?_
      exact ab_iret dX1_runsShare_101 rfl h
  · have h := h.2 c1
    refine ab_aload_n 0 dX1_runsShare_18 rfl ?_
    refine ab_getP (r := 28) dX1_runsShare_19 fs_1_22_1 rfl (hL.sh 25 rfl (by decide) (by decide)).1 (hL.sh 25 rfl (by decide) (by decide)).2 (hL.pt 35 rfl (by decide) (by decide)) ?_
    refine ab_aload_n 0 dX1_runsShare_22 rfl ?_
    refine ab_getP (r := 26) dX1_runsShare_23 fs_1_9_1 rfl (hL.sh 25 rfl (by decide) (by decide)).1 (hL.sh 25 rfl (by decide) (by decide)).2 (hL.pt 33 rfl (by decide) (by decide)) ?_
    refine ab_iload_n 2 dX1_runsShare_26 rfl ?_
    have hb31 := h.1
    have h := h.2
    refine ab_ialdj (j := v2.toNatClampNeg) dX1_runsShare_27 (hL.sh 26 rfl (by decide) (by decide)) hb31 rfl ?_
    refine ab_dup2 dX1_runsShare_28 rfl rfl ?_
    have hb32 := h.1
    have h := h.2
    refine ab_ialdj (j := (gI M 26 v2.toNatClampNeg).toNatClampNeg) dX1_runsShare_29 (hL.sh 28 rfl (by decide) (by decide)) hb32 rfl ?_
    refine ab_iconst (v := 1) dX1_runsShare_30 (by decide) ?_
    refine ab_iadd dX1_runsShare_31 ?_
    refine ab_iastj (j := (gI M 26 v2.toNatClampNeg).toNatClampNeg) dX1_runsShare_32 (hL.sh 28 rfl (by decide) (by decide)) hb32 rfl ?_
    refine ab_nameM (fun M33 hM33 => ?_)
    have h := h M33 hM33
    have hs36 : Sm M M33 := hM33 ▸ (Sm.refl _).i
    have hm34 : Sm M M33 := (Sm.refl M).trans hs36
    have hl35 := hL.of hm34
    obtain ⟨x37, hx37⟩ : ∃ y : Int32, y = v2 + (1 : Int32) := ⟨_, rfl⟩
    have h := h x37 hx37
    refine ab_iinc (v := x37) 2 (lv1 := [(2, .int x37), (0, .ref 25), (1, .int v1)]) dX1_runsShare_33 rfl (by rw [hx37]; rfl) (by decide) rfl ?_
    refine ab_goto (tgt := 10) dX1_runsShare_36 (by decide) ?_
    exact ab_sub [1, 2, 0] rfl h
theorem dX1_placeNext_0 : decode cX1_placeNext 0 = .ok (.iload_n 1, 1) := by decide +kernel
theorem dX1_placeNext_1 : decode cX1_placeNext 1 = .ok (.ifCond .gt 32, 3) := by decide +kernel
theorem dX1_placeNext_4 : decode cX1_placeNext 4 = .ok (.aload_n 0, 1) := by decide +kernel
theorem dX1_placeNext_5 : decode cX1_placeNext 5 = .ok (.dup, 1) := by decide +kernel
theorem dX1_placeNext_6 : decode cX1_placeNext 6 = .ok (.getfield 25, 3) := by decide +kernel
theorem dX1_placeNext_9 : decode cX1_placeNext 9 = .ok (.iconst 1, 1) := by decide +kernel
theorem dX1_placeNext_10 : decode cX1_placeNext 10 = .ok (.iadd, 1) := by decide +kernel
theorem dX1_placeNext_11 : decode cX1_placeNext 11 = .ok (.putfield 25, 3) := by decide +kernel
theorem dX1_placeNext_14 : decode cX1_placeNext 14 = .ok (.aload_n 0, 1) := by decide +kernel
theorem dX1_placeNext_15 : decode cX1_placeNext 15 = .ok (.dup, 1) := by decide +kernel
theorem dX1_placeNext_16 : decode cX1_placeNext 16 = .ok (.getfield 28, 3) := by decide +kernel
theorem dX1_placeNext_19 : decode cX1_placeNext 19 = .ok (.iload_n 3, 1) := by decide +kernel
theorem dX1_placeNext_20 : decode cX1_placeNext 20 = .ok (.ifCond .lt 7, 3) := by decide +kernel
theorem dX1_placeNext_23 : decode cX1_placeNext 23 = .ok (.iconst 1, 1) := by decide +kernel
theorem dX1_placeNext_24 : decode cX1_placeNext 24 = .ok (.goto 4, 3) := by decide +kernel
theorem dX1_placeNext_27 : decode cX1_placeNext 27 = .ok (.iconst 0, 1) := by decide +kernel
theorem dX1_placeNext_28 : decode cX1_placeNext 28 = .ok (.iadd, 1) := by decide +kernel
theorem dX1_placeNext_29 : decode cX1_placeNext 29 = .ok (.putfield 28, 3) := by decide +kernel
theorem dX1_placeNext_32 : decode cX1_placeNext 32 = .ok (.return_, 1) := by decide +kernel
theorem dX1_placeNext_33 : decode cX1_placeNext 33 = .ok (.iconst 0, 1) := by decide +kernel
theorem dX1_placeNext_34 : decode cX1_placeNext 34 = .ok (.istore 4, 2) := by decide +kernel
theorem dX1_placeNext_36 : decode cX1_placeNext 36 = .ok (.iload 4, 2) := by decide +kernel
theorem dX1_placeNext_38 : decode cX1_placeNext 38 = .ok (.iconst 3, 1) := by decide +kernel
theorem dX1_placeNext_39 : decode cX1_placeNext 39 = .ok (.if_icmp .ge 63, 3) := by decide +kernel
theorem dX1_placeNext_42 : decode cX1_placeNext 42 = .ok (.aload_n 0, 1) := by decide +kernel
theorem dX1_placeNext_43 : decode cX1_placeNext 43 = .ok (.getfield 22, 3) := by decide +kernel
theorem dX1_placeNext_46 : decode cX1_placeNext 46 = .ok (.iload 4, 2) := by decide +kernel
theorem dX1_placeNext_48 : decode cX1_placeNext 48 = .ok (.iaload, 1) := by decide +kernel
theorem dX1_placeNext_49 : decode cX1_placeNext 49 = .ok (.ifCond .le 47, 3) := by decide +kernel
theorem dX1_placeNext_52 : decode cX1_placeNext 52 = .ok (.aload_n 0, 1) := by decide +kernel
theorem dX1_placeNext_53 : decode cX1_placeNext 53 = .ok (.getfield 22, 3) := by decide +kernel
theorem dX1_placeNext_56 : decode cX1_placeNext 56 = .ok (.iload 4, 2) := by decide +kernel
theorem dX1_placeNext_58 : decode cX1_placeNext 58 = .ok (.dup2, 1) := by decide +kernel
theorem dX1_placeNext_59 : decode cX1_placeNext 59 = .ok (.iaload, 1) := by decide +kernel
theorem dX1_placeNext_60 : decode cX1_placeNext 60 = .ok (.iconst 1, 1) := by decide +kernel
theorem dX1_placeNext_61 : decode cX1_placeNext 61 = .ok (.isub, 1) := by decide +kernel
theorem dX1_placeNext_62 : decode cX1_placeNext 62 = .ok (.iastore, 1) := by decide +kernel
theorem dX1_placeNext_63 : decode cX1_placeNext 63 = .ok (.aload_n 0, 1) := by decide +kernel
theorem dX1_placeNext_64 : decode cX1_placeNext 64 = .ok (.iload_n 1, 1) := by decide +kernel
theorem dX1_placeNext_65 : decode cX1_placeNext 65 = .ok (.iconst 1, 1) := by decide +kernel
theorem dX1_placeNext_66 : decode cX1_placeNext 66 = .ok (.isub, 1) := by decide +kernel
theorem dX1_placeNext_67 : decode cX1_placeNext 67 = .ok (.iload 4, 2) := by decide +kernel
theorem dX1_placeNext_69 : decode cX1_placeNext 69 = .ok (.iload 4, 2) := by decide +kernel
theorem dX1_placeNext_71 : decode cX1_placeNext 71 = .ok (.iload_n 2, 1) := by decide +kernel
theorem dX1_placeNext_72 : decode cX1_placeNext 72 = .ok (.if_icmp .ne 7, 3) := by decide +kernel
theorem dX1_placeNext_75 : decode cX1_placeNext 75 = .ok (.iload_n 3, 1) := by decide +kernel
theorem dX1_placeNext_76 : decode cX1_placeNext 76 = .ok (.goto 6, 3) := by decide +kernel
theorem dX1_placeNext_79 : decode cX1_placeNext 79 = .ok (.iload_n 3, 1) := by decide +kernel
theorem dX1_placeNext_80 : decode cX1_placeNext 80 = .ok (.iconst 1, 1) := by decide +kernel
theorem dX1_placeNext_81 : decode cX1_placeNext 81 = .ok (.iadd, 1) := by decide +kernel
theorem dX1_placeNext_82 : decode cX1_placeNext 82 = .ok (.invokevirtual 60, 3) := by decide +kernel
theorem dX1_placeNext_85 : decode cX1_placeNext 85 = .ok (.aload_n 0, 1) := by decide +kernel
theorem dX1_placeNext_86 : decode cX1_placeNext 86 = .ok (.getfield 22, 3) := by decide +kernel
theorem dX1_placeNext_89 : decode cX1_placeNext 89 = .ok (.iload 4, 2) := by decide +kernel
theorem dX1_placeNext_91 : decode cX1_placeNext 91 = .ok (.dup2, 1) := by decide +kernel
theorem dX1_placeNext_92 : decode cX1_placeNext 92 = .ok (.iaload, 1) := by decide +kernel
theorem dX1_placeNext_93 : decode cX1_placeNext 93 = .ok (.iconst 1, 1) := by decide +kernel
theorem dX1_placeNext_94 : decode cX1_placeNext 94 = .ok (.iadd, 1) := by decide +kernel
theorem dX1_placeNext_95 : decode cX1_placeNext 95 = .ok (.iastore, 1) := by decide +kernel
theorem dX1_placeNext_96 : decode cX1_placeNext 96 = .ok (.iinc 4 1, 3) := by decide +kernel
theorem dX1_placeNext_99 : decode cX1_placeNext 99 = .ok (.goto (-63), 3) := by decide +kernel
theorem dX1_placeNext_102 : decode cX1_placeNext 102 = .ok (.return_, 1) := by decide +kernel
def LX1_placeNext_36 (D : GD) (d : Nat) (v1 : Int32) (v2 : Int32) (v3 : Int32) (v4 : Int32) (M : Mm) (post : Option Value → Mm → Prop) : Prop := AW D (d + 1) 0 0 mX1_placeNext 0 0 36 [(0, .ref 25), (1, .int v1), (2, .int v2), (3, .int v3), (4, .int v4)] [] M post
set_option maxRecDepth 20000 in
theorem rX1_placeNext (D : GD) (d : Nat) (a1 : Int32) (a2 : Int32) (a3 : Int32) (M : Mm) (post : Option Value → Mm → Prop) (hL : Lay 25 29 M) 
    (h : ((0 < a1 → LX1_placeNext_36 D d a1 a2 a3 (0 : Int32) M post) ∧ (¬ 0 < a1 → ∀ M2 : Mm, M2 = sI M 25 4 ((gI M 25 4) + (1 : Int32)) → ((a3 < 0 → ∀ M7 : Mm, M7 = sI M2 25 5 ((gI M2 25 5) + (0 : Int32)) → post none M7) ∧ (¬ a3 < 0 → ∀ M11 : Mm, M11 = sI M2 25 5 ((gI M2 25 5) + (1 : Int32)) → post none M11))))) :
    AM D (d + 1) 0 0 mX1_placeNext [.ref 25, .int a1, .int a2, .int a3] M post := by
  refine AM.of (by decide) (Nat.le_of_ble_eq_true rfl) ?_
  show AW D (d + 1) 0 0 mX1_placeNext 0 0 0 [(0, .ref 25), (1, .int a1), (2, .int a2), (3, .int a3)] [] M post
  refine ab_iload_n 1 dX1_placeNext_0 rfl ?_
  refine ab_if_gt (tgt := 33) dX1_placeNext_1 (by decide) (fun c1 => ?_) (fun c1 => ?_)
  · have h := h.1 c1
    refine ab_iconst (v := 0) dX1_placeNext_33 (by decide) ?_
    refine ab_istore (lv1 := [(4, .int (0 : Int32)), (0, .ref 25), (1, .int a1), (2, .int a2), (3, .int a3)]) dX1_placeNext_34 (by decide) rfl ?_
    exact ab_sub [1, 2, 3, 4, 0] rfl h
  · have h := h.2 c1
    refine ab_aload_n 0 dX1_placeNext_4 rfl ?_
    refine ab_dup dX1_placeNext_5 rfl ?_
    refine ab_getI dX1_placeNext_6 fs_1_25_1 rfl (hL.sh 25 rfl (by decide) (by decide)).1 (hL.sh 25 rfl (by decide) (by decide)).2 ?_
    refine ab_iconst (v := 1) dX1_placeNext_9 (by decide) ?_
    refine ab_iadd dX1_placeNext_10 ?_
    refine ab_putI dX1_placeNext_11 fs_1_25_1 rfl rfl (hL.sh 25 rfl (by decide) (by decide)).1 (hL.sh 25 rfl (by decide) (by decide)).2 ?_
    refine ab_nameM (fun M2 hM2 => ?_)
    have h := h M2 hM2
    have hs5 : Sm M M2 := hM2 ▸ (Sm.refl _).i
    have hm3 : Sm M M2 := (Sm.refl M).trans hs5
    have hl4 := hL.of hm3
    refine ab_aload_n 0 dX1_placeNext_14 rfl ?_
    refine ab_dup dX1_placeNext_15 rfl ?_
    refine ab_getI dX1_placeNext_16 fs_1_28_1 rfl (hl4.sh 25 rfl (by decide) (by decide)).1 (hl4.sh 25 rfl (by decide) (by decide)).2 ?_
    refine ab_iload_n 3 dX1_placeNext_19 rfl ?_
    refine ab_if_lt (tgt := 27) dX1_placeNext_20 (by decide) (fun c6 => ?_) (fun c6 => ?_)
    · have h := h.1 c6
      refine ab_iconst (v := 0) dX1_placeNext_27 (by decide) ?_
      refine ab_iadd dX1_placeNext_28 ?_
      refine ab_putI dX1_placeNext_29 fs_1_28_1 rfl rfl (hl4.sh 25 rfl (by decide) (by decide)).1 (hl4.sh 25 rfl (by decide) (by decide)).2 ?_
      refine ab_nameM (fun M7 hM7 => ?_)
      have h := h M7 hM7
      have hs10 : Sm M2 M7 := hM7 ▸ (Sm.refl _).i
      have hm8 : Sm M M7 := hm3.trans hs10
      have hl9 := hL.of hm8
      exact ab_vret dX1_placeNext_32 rfl h
    · have h := h.2 c6
      refine ab_iconst (v := 1) dX1_placeNext_23 (by decide) ?_
      refine ab_goto (tgt := 28) dX1_placeNext_24 (by decide) ?_
      refine ab_iadd dX1_placeNext_28 ?_
      refine ab_putI dX1_placeNext_29 fs_1_28_1 rfl rfl (hl4.sh 25 rfl (by decide) (by decide)).1 (hl4.sh 25 rfl (by decide) (by decide)).2 ?_
      refine ab_nameM (fun M11 hM11 => ?_)
      have h := h M11 hM11
      have hs14 : Sm M2 M11 := hM11 ▸ (Sm.refl _).i
      have hm12 : Sm M M11 := hm3.trans hs14
      have hl13 := hL.of hm12
      exact ab_vret dX1_placeNext_32 rfl h
set_option maxRecDepth 20000 in
theorem rX1_placeNext_36 (D : GD) (d : Nat)  (v1 : Int32) (v2 : Int32) (v3 : Int32) (v4 : Int32) (M : Mm) (post : Option Value → Mm → Prop) (hL : Lay 25 29 M) 
    (h : (((3 : Int32) ≤ v4 → post none M) ∧ (¬ (3 : Int32) ≤ v4 → vp_in v4 3 ∧ (((gI M 28 v4.toNatClampNeg) ≤ 0 → ∀ x4 : Int32, x4 = v4 + (1 : Int32) → LX1_placeNext_36 D d v1 v2 v3 x4 M post) ∧ (¬ (gI M 28 v4.toNatClampNeg) ≤ 0 → ∀ M5 : Mm, M5 = sI M 28 v4.toNatClampNeg ((gI M 28 v4.toNatClampNeg) - (1 : Int32)) → ((¬ v4 = v2 → AMv D d mX1_placeNext [.ref 25, .int (v1 - (1 : Int32)), .int v4, .int (v3 + (1 : Int32))] M5 (fun M10 => ∀ M16 : Mm, M16 = sI M10 28 v4.toNatClampNeg ((gI M10 28 v4.toNatClampNeg) + (1 : Int32)) → ∀ x20 : Int32, x20 = v4 + (1 : Int32) → LX1_placeNext_36 D d v1 v2 v3 x20 M16 post)) ∧ (v4 = v2 → AMv D d mX1_placeNext [.ref 25, .int (v1 - (1 : Int32)), .int v4, .int v3] M5 (fun M21 => ∀ M27 : Mm, M27 = sI M21 28 v4.toNatClampNeg ((gI M21 28 v4.toNatClampNeg) + (1 : Int32)) → ∀ x31 : Int32, x31 = v4 + (1 : Int32) → LX1_placeNext_36 D d v1 v2 v3 x31 M27 post)))))))) :
    LX1_placeNext_36 D d v1 v2 v3 v4 M post := by
  show AW D (d + 1) 0 0 mX1_placeNext 0 0 36 [(0, .ref 25), (1, .int v1), (2, .int v2), (3, .int v3), (4, .int v4)] [] M post
  refine ab_iload 4 dX1_placeNext_36 rfl ?_
  refine ab_iconst (v := 3) dX1_placeNext_38 (by decide) ?_
  refine ab_icmp_ge (tgt := 102) dX1_placeNext_39 (by decide) (fun c1 => ?_) (fun c1 => ?_)
  · have h := h.1 c1
    exact ab_vret dX1_placeNext_102 rfl h
  · have h := h.2 c1
    refine ab_aload_n 0 dX1_placeNext_42 rfl ?_
    refine ab_getP (r := 28) dX1_placeNext_43 fs_1_22_1 rfl (hL.sh 25 rfl (by decide) (by decide)).1 (hL.sh 25 rfl (by decide) (by decide)).2 (hL.pt 35 rfl (by decide) (by decide)) ?_
    refine ab_iload 4 dX1_placeNext_46 rfl ?_
    have hb2 := h.1
    have h := h.2
    refine ab_ialdj (j := v4.toNatClampNeg) dX1_placeNext_48 (hL.sh 28 rfl (by decide) (by decide)) hb2 rfl ?_
    refine ab_if_le (tgt := 96) dX1_placeNext_49 (by decide) (fun c3 => ?_) (fun c3 => ?_)
    · have h := h.1 c3
      obtain ⟨x4, hx4⟩ : ∃ y : Int32, y = v4 + (1 : Int32) := ⟨_, rfl⟩
      have h := h x4 hx4
      refine ab_iinc (v := x4) 4 (lv1 := [(4, .int x4), (0, .ref 25), (1, .int v1), (2, .int v2), (3, .int v3)]) dX1_placeNext_96 rfl (by rw [hx4]; rfl) (by decide) rfl ?_
      refine ab_goto (tgt := 36) dX1_placeNext_99 (by decide) ?_
      exact ab_sub [1, 2, 3, 4, 0] rfl h
    · have h := h.2 c3
      refine ab_aload_n 0 dX1_placeNext_52 rfl ?_
      refine ab_getP (r := 28) dX1_placeNext_53 fs_1_22_1 rfl (hL.sh 25 rfl (by decide) (by decide)).1 (hL.sh 25 rfl (by decide) (by decide)).2 (hL.pt 35 rfl (by decide) (by decide)) ?_
      refine ab_iload 4 dX1_placeNext_56 rfl ?_
      refine ab_dup2 dX1_placeNext_58 rfl rfl ?_
      refine ab_ialdj (j := v4.toNatClampNeg) dX1_placeNext_59 (hL.sh 28 rfl (by decide) (by decide)) hb2 rfl ?_
      refine ab_iconst (v := 1) dX1_placeNext_60 (by decide) ?_
      refine ab_isub dX1_placeNext_61 ?_
      refine ab_iastj (j := v4.toNatClampNeg) dX1_placeNext_62 (hL.sh 28 rfl (by decide) (by decide)) hb2 rfl ?_
      refine ab_nameM (fun M5 hM5 => ?_)
      have h := h M5 hM5
      have hs8 : Sm M M5 := hM5 ▸ (Sm.refl _).i
      have hm6 : Sm M M5 := (Sm.refl M).trans hs8
      have hl7 := hL.of hm6
      refine ab_aload_n 0 dX1_placeNext_63 rfl ?_
      refine ab_iload_n 1 dX1_placeNext_64 rfl ?_
      refine ab_iconst (v := 1) dX1_placeNext_65 (by decide) ?_
      refine ab_isub dX1_placeNext_66 ?_
      refine ab_iload 4 dX1_placeNext_67 rfl ?_
      refine ab_iload 4 dX1_placeNext_69 rfl ?_
      refine ab_iload_n 2 dX1_placeNext_71 rfl ?_
      refine ab_icmp_ne (tgt := 79) dX1_placeNext_72 (by decide) (fun c9 => ?_) (fun c9 => ?_)
      · have h := h.1 c9
        refine ab_iload_n 3 dX1_placeNext_79 rfl ?_
        refine ab_iconst (v := 1) dX1_placeNext_80 (by decide) ?_
        refine ab_iadd dX1_placeNext_81 ?_
        refine ab_callV (a := 25) (c0 := 1) (d' := d) (mc' := 0) (ms' := 0) (vs := [.int (v1 - (1 : Int32)), .int v4, .int (v3 + (1 : Int32))]) (st := []) dX1_placeNext_82 ⟨cw_X1_placeNext, w_761⟩ w_763 w_18 (by decide) (hl7.sh 25 rfl (by decide) (by decide)).1 (hl7.sh 25 rfl (by decide) (by decide)).2 rfl rfl (Nat.le_of_ble_eq_true rfl) (Nat.le_refl _) (Nat.zero_le _) (Nat.zero_le _) (AM.mono h (fun r M10 ⟨hr12, hc13, h⟩ => ?_))
        subst hr12
        refine ab_rv ?_
        have hm14 : Sm M M10 := hm6.trans hc13
        have hl15 := hL.of hm14
        refine ab_aload_n 0 dX1_placeNext_85 rfl ?_
        refine ab_getP (r := 28) dX1_placeNext_86 fs_1_22_1 rfl (hl15.sh 25 rfl (by decide) (by decide)).1 (hl15.sh 25 rfl (by decide) (by decide)).2 (hl15.pt 35 rfl (by decide) (by decide)) ?_
        refine ab_iload 4 dX1_placeNext_89 rfl ?_
        refine ab_dup2 dX1_placeNext_91 rfl rfl ?_
        refine ab_ialdj (j := v4.toNatClampNeg) dX1_placeNext_92 (hl15.sh 28 rfl (by decide) (by decide)) hb2 rfl ?_
        refine ab_iconst (v := 1) dX1_placeNext_93 (by decide) ?_
        refine ab_iadd dX1_placeNext_94 ?_
        refine ab_iastj (j := v4.toNatClampNeg) dX1_placeNext_95 (hl15.sh 28 rfl (by decide) (by decide)) hb2 rfl ?_
        refine ab_nameM (fun M16 hM16 => ?_)
        have h := h M16 hM16
        have hs19 : Sm M10 M16 := hM16 ▸ (Sm.refl _).i
        have hm17 : Sm M M16 := hm14.trans hs19
        have hl18 := hL.of hm17
        obtain ⟨x20, hx20⟩ : ∃ y : Int32, y = v4 + (1 : Int32) := ⟨_, rfl⟩
        have h := h x20 hx20
        refine ab_iinc (v := x20) 4 (lv1 := [(4, .int x20), (0, .ref 25), (1, .int v1), (2, .int v2), (3, .int v3)]) dX1_placeNext_96 rfl (by rw [hx20]; rfl) (by decide) rfl ?_
        refine ab_goto (tgt := 36) dX1_placeNext_99 (by decide) ?_
        exact ab_sub [1, 2, 3, 4, 0] rfl h
      · have h := h.2 c9
        refine ab_iload_n 3 dX1_placeNext_75 rfl ?_
        refine ab_goto (tgt := 82) dX1_placeNext_76 (by decide) ?_
        refine ab_callV (a := 25) (c0 := 1) (d' := d) (mc' := 0) (ms' := 0) (vs := [.int (v1 - (1 : Int32)), .int v4, .int v3]) (st := []) dX1_placeNext_82 ⟨cw_X1_placeNext, w_761⟩ w_763 w_18 (by decide) (hl7.sh 25 rfl (by decide) (by decide)).1 (hl7.sh 25 rfl (by decide) (by decide)).2 rfl rfl (Nat.le_of_ble_eq_true rfl) (Nat.le_refl _) (Nat.zero_le _) (Nat.zero_le _) (AM.mono h (fun r M21 ⟨hr23, hc24, h⟩ => ?_))
        subst hr23
        refine ab_rv ?_
        have hm25 : Sm M M21 := hm6.trans hc24
        have hl26 := hL.of hm25
        refine ab_aload_n 0 dX1_placeNext_85 rfl ?_
        refine ab_getP (r := 28) dX1_placeNext_86 fs_1_22_1 rfl (hl26.sh 25 rfl (by decide) (by decide)).1 (hl26.sh 25 rfl (by decide) (by decide)).2 (hl26.pt 35 rfl (by decide) (by decide)) ?_
        refine ab_iload 4 dX1_placeNext_89 rfl ?_
        refine ab_dup2 dX1_placeNext_91 rfl rfl ?_
        refine ab_ialdj (j := v4.toNatClampNeg) dX1_placeNext_92 (hl26.sh 28 rfl (by decide) (by decide)) hb2 rfl ?_
        refine ab_iconst (v := 1) dX1_placeNext_93 (by decide) ?_
        refine ab_iadd dX1_placeNext_94 ?_
        refine ab_iastj (j := v4.toNatClampNeg) dX1_placeNext_95 (hl26.sh 28 rfl (by decide) (by decide)) hb2 rfl ?_
        refine ab_nameM (fun M27 hM27 => ?_)
        have h := h M27 hM27
        have hs30 : Sm M21 M27 := hM27 ▸ (Sm.refl _).i
        have hm28 : Sm M M27 := hm25.trans hs30
        have hl29 := hL.of hm28
        obtain ⟨x31, hx31⟩ : ∃ y : Int32, y = v4 + (1 : Int32) := ⟨_, rfl⟩
        have h := h x31 hx31
        refine ab_iinc (v := x31) 4 (lv1 := [(4, .int x31), (0, .ref 25), (1, .int v1), (2, .int v2), (3, .int v3)]) dX1_placeNext_96 rfl (by rw [hx31]; rfl) (by decide) rfl ?_
        refine ab_goto (tgt := 36) dX1_placeNext_99 (by decide) ?_
        exact ab_sub [1, 2, 3, 4, 0] rfl h
theorem dX1_commonDivisor_0 : decode cX1_commonDivisor 0 = .ok (.iconst 0, 1) := by decide +kernel
theorem dX1_commonDivisor_1 : decode cX1_commonDivisor 1 = .ok (.istore_n 2, 1) := by decide +kernel
theorem dX1_commonDivisor_2 : decode cX1_commonDivisor 2 = .ok (.iload_n 2, 1) := by decide +kernel
theorem dX1_commonDivisor_3 : decode cX1_commonDivisor 3 = .ok (.bipush 50, 2) := by decide +kernel
theorem dX1_commonDivisor_5 : decode cX1_commonDivisor 5 = .ok (.if_icmp .ge 21, 3) := by decide +kernel
theorem dX1_commonDivisor_8 : decode cX1_commonDivisor 8 = .ok (.iload_n 1, 1) := by decide +kernel
theorem dX1_commonDivisor_9 : decode cX1_commonDivisor 9 = .ok (.ifCond .eq 17, 3) := by decide +kernel
theorem dX1_commonDivisor_12 : decode cX1_commonDivisor 12 = .ok (.iload_n 0, 1) := by decide +kernel
theorem dX1_commonDivisor_13 : decode cX1_commonDivisor 13 = .ok (.iload_n 1, 1) := by decide +kernel
theorem dX1_commonDivisor_14 : decode cX1_commonDivisor 14 = .ok (.irem, 1) := by decide +kernel
theorem dX1_commonDivisor_15 : decode cX1_commonDivisor 15 = .ok (.istore_n 3, 1) := by decide +kernel
theorem dX1_commonDivisor_16 : decode cX1_commonDivisor 16 = .ok (.iload_n 1, 1) := by decide +kernel
theorem dX1_commonDivisor_17 : decode cX1_commonDivisor 17 = .ok (.istore_n 0, 1) := by decide +kernel
theorem dX1_commonDivisor_18 : decode cX1_commonDivisor 18 = .ok (.iload_n 3, 1) := by decide +kernel
theorem dX1_commonDivisor_19 : decode cX1_commonDivisor 19 = .ok (.istore_n 1, 1) := by decide +kernel
theorem dX1_commonDivisor_20 : decode cX1_commonDivisor 20 = .ok (.iinc 2 1, 3) := by decide +kernel
theorem dX1_commonDivisor_23 : decode cX1_commonDivisor 23 = .ok (.goto (-21), 3) := by decide +kernel
theorem dX1_commonDivisor_26 : decode cX1_commonDivisor 26 = .ok (.iload_n 0, 1) := by decide +kernel
theorem dX1_commonDivisor_27 : decode cX1_commonDivisor 27 = .ok (.ireturn, 1) := by decide +kernel
def LX1_commonDivisor_2 (D : GD) (d : Nat) (v0 : Int32) (v1 : Int32) (v2 : Int32) (M : Mm) (post : Option Value → Mm → Prop) : Prop := AW D d 0 0 mX1_commonDivisor 0 0 2 [(0, .int v0), (1, .int v1), (2, .int v2)] [] M post
set_option maxRecDepth 20000 in
theorem rX1_commonDivisor (D : GD) (d : Nat) (a1 : Int32) (a2 : Int32) (M : Mm) (post : Option Value → Mm → Prop) (hL : Lay 25 29 M) 
    (h : LX1_commonDivisor_2 D d a1 a2 (0 : Int32) M post) :
    AM D d 0 0 mX1_commonDivisor [.int a1, .int a2] M post := by
  refine AM.of (by decide) (Nat.le_of_ble_eq_true rfl) ?_
  show AW D d 0 0 mX1_commonDivisor 0 0 0 [(0, .int a1), (1, .int a2)] [] M post
  refine ab_iconst (v := 0) dX1_commonDivisor_0 (by decide) ?_
  refine ab_istore_n (lv1 := [(2, .int (0 : Int32)), (0, .int a1), (1, .int a2)]) dX1_commonDivisor_1 (by decide) rfl ?_
  exact ab_sub [1, 2, 0] rfl h
set_option maxRecDepth 20000 in
theorem rX1_commonDivisor_2 (D : GD) (d : Nat)  (v0 : Int32) (v1 : Int32) (v2 : Int32) (M : Mm) (post : Option Value → Mm → Prop) (hL : Lay 25 29 M) 
    (h : (((50 : Int32) ≤ v2 → post (some (.int v0)) M) ∧ (¬ (50 : Int32) ≤ v2 → ((v1 = 0 → post (some (.int v0)) M) ∧ (¬ v1 = 0 → (¬ v1 = 0) ∧ ∀ x4 : Int32, x4 = (v0 - v0 / v1 * v1) → ∀ x5 : Int32, x5 = v2 + (1 : Int32) → LX1_commonDivisor_2 D d v1 x4 x5 M post))))) :
    LX1_commonDivisor_2 D d v0 v1 v2 M post := by
  show AW D d 0 0 mX1_commonDivisor 0 0 2 [(0, .int v0), (1, .int v1), (2, .int v2)] [] M post
  refine ab_iload_n 2 dX1_commonDivisor_2 rfl ?_
  refine ab_bipush (v := 50) dX1_commonDivisor_3 (by decide) ?_
  refine ab_icmp_ge (tgt := 26) dX1_commonDivisor_5 (by decide) (fun c1 => ?_) (fun c1 => ?_)
  · have h := h.1 c1
    refine ab_iload_n 0 dX1_commonDivisor_26 rfl ?_
    exact ab_iret dX1_commonDivisor_27 rfl h
  · have h := h.2 c1
    refine ab_iload_n 1 dX1_commonDivisor_8 rfl ?_
    refine ab_if_eq (tgt := 26) dX1_commonDivisor_9 (by decide) (fun c2 => ?_) (fun c2 => ?_)
    · have h := h.1 c2
      refine ab_iload_n 0 dX1_commonDivisor_26 rfl ?_
      exact ab_iret dX1_commonDivisor_27 rfl h
    · have h := h.2 c2
      refine ab_iload_n 0 dX1_commonDivisor_12 rfl ?_
      refine ab_iload_n 1 dX1_commonDivisor_13 rfl ?_
      have hn3 := h.1
      have h := h.2
      refine ab_irem dX1_commonDivisor_14 hn3 ?_
      refine ab_topi (fun x4 hx4 => ?_)
      have h := h x4 hx4
      refine ab_istore_n (lv1 := [(3, .int x4), (0, .int v0), (1, .int v1), (2, .int v2)]) dX1_commonDivisor_15 (by decide) rfl ?_
      refine ab_iload_n 2 dX1_commonDivisor_16 rfl ?_
      refine ab_istore_n (lv1 := [(0, .int v1), (3, .int x4), (1, .int v1), (2, .int v2)]) dX1_commonDivisor_17 (by decide) rfl ?_
      refine ab_iload_n 1 dX1_commonDivisor_18 rfl ?_
      refine ab_istore_n (lv1 := [(1, .int x4), (0, .int v1), (3, .int x4), (2, .int v2)]) dX1_commonDivisor_19 (by decide) rfl ?_
      obtain ⟨x5, hx5⟩ : ∃ y : Int32, y = v2 + (1 : Int32) := ⟨_, rfl⟩
      have h := h x5 hx5
      refine ab_iinc (v := x5) 3 (lv1 := [(2, .int x5), (1, .int x4), (0, .int v1), (3, .int x4)]) dX1_commonDivisor_20 rfl (by rw [hx5]; rfl) (by decide) rfl ?_
      refine ab_goto (tgt := 2) dX1_commonDivisor_23 (by decide) ?_
      exact ab_sub [2, 1, 0] rfl h
