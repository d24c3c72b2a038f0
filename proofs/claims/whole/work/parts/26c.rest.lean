theorem dX11_of_0 : decode cX11_of 0 = .ok (.aload_n 0, 1) := by decide +kernel
theorem dX11_of_1 : decode cX11_of 1 = .ok (.iload_n 1, 1) := by decide +kernel
theorem dX11_of_2 : decode cX11_of 2 = .ok (.invokevirtual 131, 3) := by decide +kernel
theorem dX11_of_5 : decode cX11_of 5 = .ok (.astore_n 3, 1) := by decide +kernel
theorem dX11_of_6 : decode cX11_of 6 = .ok (.aload_n 3, 1) := by decide +kernel
theorem dX11_of_7 : decode cX11_of 7 = .ok (.ifnonnull 5, 3) := by decide +kernel
theorem dX11_of_10 : decode cX11_of 10 = .ok (.iconst (-1), 1) := by decide +kernel
theorem dX11_of_11 : decode cX11_of 11 = .ok (.ireturn, 1) := by decide +kernel
theorem dX11_of_12 : decode cX11_of 12 = .ok (.iload_n 2, 1) := by decide +kernel
theorem dX11_of_13 : decode cX11_of 13 = .ok (.tableswitch 42 0 2 #[27, 32, 37], 27) := by decide +kernel
theorem dX11_of_40 : decode cX11_of 40 = .ok (.aload_n 3, 1) := by decide +kernel
theorem dX11_of_41 : decode cX11_of 41 = .ok (.getfield 135, 3) := by decide +kernel
theorem dX11_of_44 : decode cX11_of 44 = .ok (.ireturn, 1) := by decide +kernel
theorem dX11_of_45 : decode cX11_of 45 = .ok (.aload_n 3, 1) := by decide +kernel
theorem dX11_of_46 : decode cX11_of 46 = .ok (.getfield 138, 3) := by decide +kernel
theorem dX11_of_49 : decode cX11_of 49 = .ok (.ireturn, 1) := by decide +kernel
theorem dX11_of_50 : decode cX11_of 50 = .ok (.aload_n 3, 1) := by decide +kernel
theorem dX11_of_51 : decode cX11_of 51 = .ok (.getfield 141, 3) := by decide +kernel
theorem dX11_of_54 : decode cX11_of 54 = .ok (.ireturn, 1) := by decide +kernel
theorem dX11_of_55 : decode cX11_of 55 = .ok (.iconst (-1), 1) := by decide +kernel
theorem dX11_of_56 : decode cX11_of 56 = .ok (.ireturn, 1) := by decide +kernel
set_option maxRecDepth 20000 in
theorem rX11_of (D : GD) (d : Nat) (a1 : Int32) (a2 : Int32) (M : Mm) (post : Option Value → Mm → Prop) (hL : Lay 0 62 M) 
    (h : AMq D d mX11_playerOrNull [.ref 0, .int a1] M (fun x2 M1 => ((∀ p8 : Nat, x2 = some p8 → ((a2 = (0 : Int32) → ∃ k10 j11 : Nat, Pl M1 p8 k10 j11 ∧ post (some (.int (gI M1 p8 0))) M1) ∧ ((a2 = (1 : Int32) → ∃ k14 j15 : Nat, Pl M1 p8 k14 j15 ∧ post (some (.int (gI M1 p8 2))) M1) ∧ ((a2 = (2 : Int32) → ∃ k18 j19 : Nat, Pl M1 p8 k18 j19 ∧ post (some (.int (gI M1 p8 3))) M1) ∧ ((¬ a2 = (0 : Int32) → ¬ a2 = (1 : Int32) → ¬ a2 = (2 : Int32) → post (some (.int (-1 : Int32))) M1)))))) ∧ (x2 = none → post (some (.int (-1 : Int32))) M1)))) :
    AM D (d + 1) 0 0 mX11_of [.ref 0, .int a1, .int a2] M post := by
  refine AM.of (by decide) (Nat.le_of_ble_eq_true rfl) ?_
  show AW D (d + 1) 0 0 mX11_of 0 0 0 [(0, .ref 0), (1, .int a1), (2, .int a2)] [] M post
  refine ab_aload_n 0 dX11_of_0 rfl ?_
  refine ab_iload_n 1 dX11_of_1 rfl ?_
  refine ab_callV (a := 0) (c0 := 11) (d' := d) (mc' := 0) (ms' := 0) (vs := [.int a1]) (st := []) dX11_of_2 ⟨cw_X11_playerOrNull, w_570⟩ w_572 w_14 (by decide) (hL.sh 0 rfl (by decide) (by decide)).1 (hL.sh 0 rfl (by decide) (by decide)).2 rfl rfl (Nat.le_of_ble_eq_true rfl) (Nat.le_refl _) (Nat.zero_le _) (Nat.zero_le _) (AM.mono h (fun r M1 ⟨x2, hr3, hc4, h⟩ => ?_))
  subst hr3
  refine ab_rs ?_
  have hm5 : Sm M M1 := (Sm.refl M).trans hc4
  have hl6 := hL.of hm5
  refine ab_astoreq_n (lv1 := [(3, va_rf x2), (0, .ref 0), (1, .int a1), (2, .int a2)]) dX11_of_5 (by decide) rfl ?_
  refine ab_aloadq_n 0 dX11_of_6 rfl ?_
  refine ab_ifnonnull (tgt := 12) dX11_of_7 (by decide) (fun p8 c7 => ?_) (fun c7 => ?_)
  · have h := h.1 p8 c7
    rw [c7]
    refine ab_iload_n 3 dX11_of_12 rfl ?_
    by_cases c9 : a2 = (0 : Int32)
    · have h := h.1 c9
      refine ab_tableIn (off := (27)) (tgt := 40) dX11_of_13 (by rw [c9]; decide) (by rw [c9]; decide) (by rw [c9]; decide) (by decide) ?_
      refine ab_aload_n 0 dX11_of_40 rfl ?_
      obtain ⟨k10, j11, hp12, h⟩ := h
      refine ab_getI dX11_of_41 (pf_11_135 hp12.2.1).1 (pf_11_135 hp12.2.1).2 hp12.1.1 hp12.1.2 ?_
      exact ab_iret dX11_of_44 rfl h
    · have h := h.2
      by_cases c13 : a2 = (1 : Int32)
      · have h := h.1 c13
        refine ab_tableIn (off := (32)) (tgt := 45) dX11_of_13 (by rw [c13]; decide) (by rw [c13]; decide) (by rw [c13]; decide) (by decide) ?_
        refine ab_aload_n 0 dX11_of_45 rfl ?_
        obtain ⟨k14, j15, hp16, h⟩ := h
        refine ab_getI dX11_of_46 (pf_11_138 hp16.2.1).1 (pf_11_138 hp16.2.1).2 hp16.1.1 hp16.1.2 ?_
        exact ab_iret dX11_of_49 rfl h
      · have h := h.2
        by_cases c17 : a2 = (2 : Int32)
        · have h := h.1 c17
          refine ab_tableIn (off := (37)) (tgt := 50) dX11_of_13 (by rw [c17]; decide) (by rw [c17]; decide) (by rw [c17]; decide) (by decide) ?_
          refine ab_aload_n 0 dX11_of_50 rfl ?_
          obtain ⟨k18, j19, hp20, h⟩ := h
          refine ab_getI dX11_of_51 (pf_11_141 hp20.2.1).1 (pf_11_141 hp20.2.1).2 hp20.1.1 hp20.1.2 ?_
          exact ab_iret dX11_of_54 rfl h
        · have h := h.2
          have h := h c9 c13 c17
          refine ab_tableOut (tgt := 55) dX11_of_13 (by have e0 := lv_neT (a := 0) c9 (by decide); have e1 := lv_neT (a := 1) c13 (by decide); have e2 := lv_neT (a := 2) c17 (by decide); omega) (by decide) ?_
          refine ab_iconst (v := (-1)) dX11_of_55 (by decide) ?_
          exact ab_iret dX11_of_56 rfl h
  · have h := h.2 c7
    refine ab_iconst (v := (-1)) dX11_of_10 (by decide) ?_
    exact ab_iret dX11_of_11 rfl h
theorem dX11_team_0 : decode cX11_team 0 = .ok (.aload_n 0, 1) := by decide +kernel
theorem dX11_team_1 : decode cX11_team 1 = .ok (.iload_n 3, 1) := by decide +kernel
theorem dX11_team_2 : decode cX11_team 2 = .ok (.invokevirtual 131, 3) := by decide +kernel
theorem dX11_team_5 : decode cX11_team 5 = .ok (.astore 4, 2) := by decide +kernel
theorem dX11_team_7 : decode cX11_team 7 = .ok (.iload_n 1, 1) := by decide +kernel
theorem dX11_team_8 : decode cX11_team 8 = .ok (.ifCond .lt 23, 3) := by decide +kernel
theorem dX11_team_11 : decode cX11_team 11 = .ok (.iload_n 1, 1) := by decide +kernel
theorem dX11_team_12 : decode cX11_team 12 = .ok (.iconst 1, 1) := by decide +kernel
theorem dX11_team_13 : decode cX11_team 13 = .ok (.if_icmp .gt 18, 3) := by decide +kernel
theorem dX11_team_16 : decode cX11_team 16 = .ok (.iload_n 2, 1) := by decide +kernel
theorem dX11_team_17 : decode cX11_team 17 = .ok (.ifCond .lt 14, 3) := by decide +kernel
theorem dX11_team_20 : decode cX11_team 20 = .ok (.iload_n 2, 1) := by decide +kernel
theorem dX11_team_21 : decode cX11_team 21 = .ok (.bipush 6, 2) := by decide +kernel
theorem dX11_team_23 : decode cX11_team 23 = .ok (.if_icmp .ge 8, 3) := by decide +kernel
theorem dX11_team_26 : decode cX11_team 26 = .ok (.aload 4, 2) := by decide +kernel
theorem dX11_team_28 : decode cX11_team 28 = .ok (.ifnonnull 5, 3) := by decide +kernel
theorem dX11_team_31 : decode cX11_team 31 = .ok (.iconst (-1), 1) := by decide +kernel
theorem dX11_team_32 : decode cX11_team 32 = .ok (.ireturn, 1) := by decide +kernel
theorem dX11_team_33 : decode cX11_team 33 = .ok (.aload_n 0, 1) := by decide +kernel
theorem dX11_team_34 : decode cX11_team 34 = .ok (.getfield 53, 3) := by decide +kernel
theorem dX11_team_37 : decode cX11_team 37 = .ok (.getfield 232, 3) := by decide +kernel
theorem dX11_team_40 : decode cX11_team 40 = .ok (.iload_n 1, 1) := by decide +kernel
theorem dX11_team_41 : decode cX11_team 41 = .ok (.bipush 6, 2) := by decide +kernel
theorem dX11_team_43 : decode cX11_team 43 = .ok (.imul, 1) := by decide +kernel
theorem dX11_team_44 : decode cX11_team 44 = .ok (.iload_n 2, 1) := by decide +kernel
theorem dX11_team_45 : decode cX11_team 45 = .ok (.iadd, 1) := by decide +kernel
theorem dX11_team_46 : decode cX11_team 46 = .ok (.aaload, 1) := by decide +kernel
theorem dX11_team_47 : decode cX11_team 47 = .ok (.astore 5, 2) := by decide +kernel
theorem dX11_team_49 : decode cX11_team 49 = .ok (.aload_n 0, 1) := by decide +kernel
theorem dX11_team_50 : decode cX11_team 50 = .ok (.getfield 53, 3) := by decide +kernel
theorem dX11_team_53 : decode cX11_team 53 = .ok (.getfield 232, 3) := by decide +kernel
theorem dX11_team_56 : decode cX11_team 56 = .ok (.iload_n 1, 1) := by decide +kernel
theorem dX11_team_57 : decode cX11_team 57 = .ok (.bipush 6, 2) := by decide +kernel
theorem dX11_team_59 : decode cX11_team 59 = .ok (.imul, 1) := by decide +kernel
theorem dX11_team_60 : decode cX11_team 60 = .ok (.iload_n 2, 1) := by decide +kernel
theorem dX11_team_61 : decode cX11_team 61 = .ok (.iadd, 1) := by decide +kernel
theorem dX11_team_62 : decode cX11_team 62 = .ok (.aload 4, 2) := by decide +kernel
theorem dX11_team_64 : decode cX11_team 64 = .ok (.aastore, 1) := by decide +kernel
theorem dX11_team_65 : decode cX11_team 65 = .ok (.aload 5, 2) := by decide +kernel
theorem dX11_team_67 : decode cX11_team 67 = .ok (.ifnonnull 8, 3) := by decide +kernel
theorem dX11_team_70 : decode cX11_team 70 = .ok (.bipush (-5), 2) := by decide +kernel
theorem dX11_team_72 : decode cX11_team 72 = .ok (.goto 8, 3) := by decide +kernel
theorem dX11_team_75 : decode cX11_team 75 = .ok (.aload 5, 2) := by decide +kernel
theorem dX11_team_77 : decode cX11_team 77 = .ok (.getfield 235, 3) := by decide +kernel
theorem dX11_team_80 : decode cX11_team 80 = .ok (.ireturn, 1) := by decide +kernel
set_option maxRecDepth 20000 in
theorem rX11_team (D : GD) (d : Nat) (a1 : Int32) (a2 : Int32) (a3 : Int32) (M : Mm) (post : Option Value → Mm → Prop) (hL : Lay 0 62 M) 
    (h : AMq D d mX11_playerOrNull [.ref 0, .int a3] M (fun x2 M1 => ((a1 < 0 → post (some (.int (-1 : Int32))) M1) ∧ (¬ a1 < 0 → (((1 : Int32) < a1 → post (some (.int (-1 : Int32))) M1) ∧ (¬ (1 : Int32) < a1 → ((a2 < 0 → post (some (.int (-1 : Int32))) M1) ∧ (¬ a2 < 0 → (((6 : Int32) ≤ a2 → post (some (.int (-1 : Int32))) M1) ∧ (¬ (6 : Int32) ≤ a2 → ((∀ p12 : Nat, x2 = some p12 → vp_in ((a1 * (6 : Int32)) + a2) 12 ∧ ∃ k14 j15 : Nat, Pl M1 p12 k14 j15 ∧ ∀ M17 : Mm, M17 = sP M1 30 (((a1 * (6 : Int32)) + a2).toNatClampNeg) (some p12) → ((∀ p23 : Nat, (gP M1 30 (((a1 * (6 : Int32)) + a2).toNatClampNeg)) = some p23 → ∃ k24 j25 : Nat, Pl M17 p23 k24 j25 ∧ post (some (.int (gI M17 p23 1))) M17) ∧ ((gP M1 30 (((a1 * (6 : Int32)) + a2).toNatClampNeg)) = none → post (some (.int (-5 : Int32))) M17))) ∧ (x2 = none → post (some (.int (-1 : Int32))) M1)))))))))))) :
    AM D (d + 1) 0 0 mX11_team [.ref 0, .int a1, .int a2, .int a3] M post := by
  refine AM.of (by decide) (Nat.le_of_ble_eq_true rfl) ?_
  show AW D (d + 1) 0 0 mX11_team 0 0 0 [(0, .ref 0), (1, .int a1), (2, .int a2), (3, .int a3)] [] M post
  refine ab_aload_n 0 dX11_team_0 rfl ?_
  refine ab_iload_n 3 dX11_team_1 rfl ?_
  refine ab_callV (a := 0) (c0 := 11) (d' := d) (mc' := 0) (ms' := 0) (vs := [.int a3]) (st := []) dX11_team_2 ⟨cw_X11_playerOrNull, w_570⟩ w_572 w_14 (by decide) (hL.sh 0 rfl (by decide) (by decide)).1 (hL.sh 0 rfl (by decide) (by decide)).2 rfl rfl (Nat.le_of_ble_eq_true rfl) (Nat.le_refl _) (Nat.zero_le _) (Nat.zero_le _) (AM.mono h (fun r M1 ⟨x2, hr3, hc4, h⟩ => ?_))
  subst hr3
  refine ab_rs ?_
  have hm5 : Sm M M1 := (Sm.refl M).trans hc4
  have hl6 := hL.of hm5
  refine ab_astoreq (lv1 := [(4, va_rf x2), (0, .ref 0), (1, .int a1), (2, .int a2), (3, .int a3)]) dX11_team_5 (by decide) rfl ?_
  refine ab_iload_n 2 dX11_team_7 rfl ?_
  refine ab_if_lt (tgt := 31) dX11_team_8 (by decide) (fun c7 => ?_) (fun c7 => ?_)
  · have h := h.1 c7
    refine ab_iconst (v := (-1)) dX11_team_31 (by decide) ?_
    exact ab_iret dX11_team_32 rfl h
  · have h := h.2 c7
    refine ab_iload_n 2 dX11_team_11 rfl ?_
    refine ab_iconst (v := 1) dX11_team_12 (by decide) ?_
    refine ab_icmp_gt (tgt := 31) dX11_team_13 (by decide) (fun c8 => ?_) (fun c8 => ?_)
    · have h := h.1 c8
      refine ab_iconst (v := (-1)) dX11_team_31 (by decide) ?_
      exact ab_iret dX11_team_32 rfl h
    · have h := h.2 c8
      refine ab_iload_n 3 dX11_team_16 rfl ?_
      refine ab_if_lt (tgt := 31) dX11_team_17 (by decide) (fun c9 => ?_) (fun c9 => ?_)
      · have h := h.1 c9
        refine ab_iconst (v := (-1)) dX11_team_31 (by decide) ?_
        exact ab_iret dX11_team_32 rfl h
      · have h := h.2 c9
        refine ab_iload_n 3 dX11_team_20 rfl ?_
        refine ab_bipush (v := 6) dX11_team_21 (by decide) ?_
        refine ab_icmp_ge (tgt := 31) dX11_team_23 (by decide) (fun c10 => ?_) (fun c10 => ?_)
        · have h := h.1 c10
          refine ab_iconst (v := (-1)) dX11_team_31 (by decide) ?_
          exact ab_iret dX11_team_32 rfl h
        · have h := h.2 c10
          refine ab_aloadq 0 dX11_team_26 rfl ?_
          refine ab_ifnonnull (tgt := 33) dX11_team_28 (by decide) (fun p12 c11 => ?_) (fun c11 => ?_)
          · have h := h.1 p12 c11
            rw [c11]
            refine ab_aload_n 1 dX11_team_33 rfl ?_
            refine ab_getP (r := 29) dX11_team_34 fs_11_53_11 rfl (hl6.sh 0 rfl (by decide) (by decide)).1 (hl6.sh 0 rfl (by decide) (by decide)).2 (hl6.pt 5 rfl (by decide) (by decide)) ?_
            refine ab_getP (r := 30) dX11_team_37 fs_11_232_7 rfl (hl6.sh 29 rfl (by decide) (by decide)).1 (hl6.sh 29 rfl (by decide) (by decide)).2 (hl6.pt 36 rfl (by decide) (by decide)) ?_
            refine ab_iload_n 2 dX11_team_40 rfl ?_
            refine ab_bipush (v := 6) dX11_team_41 (by decide) ?_
            refine ab_imul dX11_team_43 ?_
            refine ab_iload_n 3 dX11_team_44 rfl ?_
            refine ab_iadd dX11_team_45 ?_
            have hb13 := h.1
            have h := h.2
            refine ab_aald6j (j := ((a1 * (6 : Int32)) + a2).toNatClampNeg) dX11_team_46 (hl6.sh 30 rfl (by decide) (by decide)) hb13 rfl ?_
            refine ab_astoreq (lv1 := [(5, va_rf (gP M1 30 (((a1 * (6 : Int32)) + a2).toNatClampNeg))), (4, .ref p12), (0, .ref 0), (1, .int a1), (2, .int a2), (3, .int a3)]) dX11_team_47 (by decide) rfl ?_
            refine ab_aload_n 2 dX11_team_49 rfl ?_
            refine ab_getP (r := 29) dX11_team_50 fs_11_53_11 rfl (hl6.sh 0 rfl (by decide) (by decide)).1 (hl6.sh 0 rfl (by decide) (by decide)).2 (hl6.pt 5 rfl (by decide) (by decide)) ?_
            refine ab_getP (r := 30) dX11_team_53 fs_11_232_7 rfl (hl6.sh 29 rfl (by decide) (by decide)).1 (hl6.sh 29 rfl (by decide) (by decide)).2 (hl6.pt 36 rfl (by decide) (by decide)) ?_
            refine ab_iload_n 3 dX11_team_56 rfl ?_
            refine ab_bipush (v := 6) dX11_team_57 (by decide) ?_
            refine ab_imul dX11_team_59 ?_
            refine ab_iload_n 4 dX11_team_60 rfl ?_
            refine ab_iadd dX11_team_61 ?_
            refine ab_aload 1 dX11_team_62 rfl ?_
            obtain ⟨k14, j15, hp16, h⟩ := h
            refine ab_aast6 (o := some p12) (j := ((a1 * (6 : Int32)) + a2).toNatClampNeg) dX11_team_64 (hl6.sh 30 rfl (by decide) (by decide)) hb13 rfl (fun p hq => by cases hq; exact ⟨_, hp16.2.1, hp16.1⟩) ?_
            refine ab_nameM (fun M17 hM17 => ?_)
            have h := h M17 hM17
            have hs20 : Sm M1 M17 := hM17 ▸ ((Sm.refl _).p (by rw [(hl6.sh 30 rfl (by decide) (by decide)).2] <;> rfl))
            have hm18 : Sm M M17 := hm5.trans hs20
            have hl19 := hL.of hm18
            have hp21 := hp16.of hs20
            refine ab_aloadq 0 dX11_team_65 rfl ?_
            refine ab_ifnonnull (tgt := 75) dX11_team_67 (by decide) (fun p23 c22 => ?_) (fun c22 => ?_)
            · have h := h.1 p23 c22
              rw [c22]
              refine ab_aload 0 dX11_team_75 rfl ?_
              obtain ⟨k24, j25, hp26, h⟩ := h
              refine ab_getI dX11_team_77 (pf_11_235 hp26.2.1).1 (pf_11_235 hp26.2.1).2 hp26.1.1 hp26.1.2 ?_
              exact ab_iret dX11_team_80 rfl h
            · have h := h.2 c22
              refine ab_bipush (v := (-5)) dX11_team_70 (by decide) ?_
              refine ab_goto (tgt := 80) dX11_team_72 (by decide) ?_
              exact ab_iret dX11_team_80 rfl h
          · have h := h.2 c11
            refine ab_iconst (v := (-1)) dX11_team_31 (by decide) ?_
            exact ab_iret dX11_team_32 rfl h
theorem dX11_order_0 : decode cX11_order 0 = .ok (.iload_n 1, 1) := by decide +kernel
theorem dX11_order_1 : decode cX11_order 1 = .ok (.iconst (-1), 1) := by decide +kernel
theorem dX11_order_2 : decode cX11_order 2 = .ok (.if_icmp .lt 8, 3) := by decide +kernel
theorem dX11_order_5 : decode cX11_order 5 = .ok (.iload_n 1, 1) := by decide +kernel
theorem dX11_order_6 : decode cX11_order 6 = .ok (.iconst 5, 1) := by decide +kernel
theorem dX11_order_7 : decode cX11_order 7 = .ok (.if_icmp .lt 6, 3) := by decide +kernel
theorem dX11_order_10 : decode cX11_order 10 = .ok (.ldc 238, 2) := by decide +kernel
theorem dX11_order_12 : decode cX11_order 12 = .ok (.ireturn, 1) := by decide +kernel
theorem dX11_order_13 : decode cX11_order 13 = .ok (.aload_n 0, 1) := by decide +kernel
theorem dX11_order_14 : decode cX11_order 14 = .ok (.getfield 53, 3) := by decide +kernel
theorem dX11_order_17 : decode cX11_order 17 = .ok (.invokevirtual 239, 3) := by decide +kernel
theorem dX11_order_20 : decode cX11_order 20 = .ok (.ifCond .ne 6, 3) := by decide +kernel
theorem dX11_order_23 : decode cX11_order 23 = .ok (.ldc 242, 2) := by decide +kernel
theorem dX11_order_25 : decode cX11_order 25 = .ok (.ireturn, 1) := by decide +kernel
theorem dX11_order_26 : decode cX11_order 26 = .ok (.aload_n 0, 1) := by decide +kernel
theorem dX11_order_27 : decode cX11_order 27 = .ok (.getfield 53, 3) := by decide +kernel
theorem dX11_order_30 : decode cX11_order 30 = .ok (.aload_n 0, 1) := by decide +kernel
theorem dX11_order_31 : decode cX11_order 31 = .ok (.getfield 39, 3) := by decide +kernel
theorem dX11_order_34 : decode cX11_order 34 = .ok (.invokevirtual 255, 3) := by decide +kernel
theorem dX11_order_37 : decode cX11_order 37 = .ok (.iload_n 1, 1) := by decide +kernel
theorem dX11_order_38 : decode cX11_order 38 = .ok (.ifCond .ge 13, 3) := by decide +kernel
theorem dX11_order_41 : decode cX11_order 41 = .ok (.aload_n 0, 1) := by decide +kernel
theorem dX11_order_42 : decode cX11_order 42 = .ok (.getfield 53, 3) := by decide +kernel
theorem dX11_order_45 : decode cX11_order 45 = .ok (.getfield 259, 3) := by decide +kernel
theorem dX11_order_48 : decode cX11_order 48 = .ok (.goto 19, 3) := by decide +kernel
theorem dX11_order_51 : decode cX11_order 51 = .ok (.aload_n 0, 1) := by decide +kernel
theorem dX11_order_52 : decode cX11_order 52 = .ok (.getfield 53, 3) := by decide +kernel
theorem dX11_order_55 : decode cX11_order 55 = .ok (.getfield 262, 3) := by decide +kernel
theorem dX11_order_58 : decode cX11_order 58 = .ok (.getstatic 265, 3) := by decide +kernel
theorem dX11_order_61 : decode cX11_order 61 = .ok (.iload_n 1, 1) := by decide +kernel
theorem dX11_order_62 : decode cX11_order 62 = .ok (.iaload, 1) := by decide +kernel
theorem dX11_order_63 : decode cX11_order 63 = .ok (.idiv, 1) := by decide +kernel
theorem dX11_order_64 : decode cX11_order 64 = .ok (.bipush 10, 2) := by decide +kernel
theorem dX11_order_66 : decode cX11_order 66 = .ok (.irem, 1) := by decide +kernel
theorem dX11_order_67 : decode cX11_order 67 = .ok (.ireturn, 1) := by decide +kernel
set_option maxRecDepth 20000 in
theorem rX11_order (D : GD) (d : Nat) (a1 : Int32) (M : Mm) (post : Option Value → Mm → Prop) (hL : Lay 0 62 M) 
    (h : ((a1 < (-1 : Int32) → post (some (.int (-1000001 : Int32))) M) ∧ (¬ a1 < (-1 : Int32) → ((a1 < (5 : Int32) → AMi D d mX7_isManned [.ref 29] M (fun x4 M3 => ((¬ x4 = 0 → AMv D d mX7_seekOrder [.ref 29, .ref 13] M3 (fun M10 => ((0 ≤ a1 → vp_in a1 5 ∧ (¬ (tens.getD a1.toNatClampNeg 0) = 0) ∧ post (some (.int (((gI M10 29 4) / (tens.getD a1.toNatClampNeg 0)) - ((gI M10 29 4) / (tens.getD a1.toNatClampNeg 0)) / (10 : Int32) * (10 : Int32)))) M10) ∧ (¬ 0 ≤ a1 → post (some (.int (gI M10 29 3))) M10)))) ∧ (x4 = 0 → post (some (.int (-1000002 : Int32))) M3)))) ∧ (¬ a1 < (5 : Int32) → post (some (.int (-1000001 : Int32))) M))))) :
    AM D (d + 1) 0 0 mX11_order [.ref 0, .int a1] M post := by
  refine AM.of (by decide) (Nat.le_of_ble_eq_true rfl) ?_
  show AW D (d + 1) 0 0 mX11_order 0 0 0 [(0, .ref 0), (1, .int a1)] [] M post
  refine ab_iload_n 1 dX11_order_0 rfl ?_
  refine ab_iconst (v := (-1)) dX11_order_1 (by decide) ?_
  refine ab_icmp_lt (tgt := 10) dX11_order_2 (by decide) (fun c1 => ?_) (fun c1 => ?_)
  · have h := h.1 c1
    refine ab_ldc dX11_order_10 w_776 ?_
    exact ab_iret dX11_order_12 rfl h
  · have h := h.2 c1
    refine ab_iload_n 1 dX11_order_5 rfl ?_
    refine ab_iconst (v := 5) dX11_order_6 (by decide) ?_
    refine ab_icmp_lt (tgt := 13) dX11_order_7 (by decide) (fun c2 => ?_) (fun c2 => ?_)
    · have h := h.1 c2
      refine ab_aload_n 0 dX11_order_13 rfl ?_
      refine ab_getP (r := 29) dX11_order_14 fs_11_53_11 rfl (hL.sh 0 rfl (by decide) (by decide)).1 (hL.sh 0 rfl (by decide) (by decide)).2 (hL.pt 5 rfl (by decide) (by decide)) ?_
      refine ab_callV (a := 29) (c0 := 7) (d' := d) (mc' := 0) (ms' := 0) (vs := []) (st := []) dX11_order_17 ⟨cw_X7_isManned, w_777⟩ w_778 w_779 (by decide) (hL.sh 29 rfl (by decide) (by decide)).1 (hL.sh 29 rfl (by decide) (by decide)).2 rfl rfl (Nat.le_of_ble_eq_true rfl) (Nat.le_refl _) (Nat.zero_le _) (Nat.zero_le _) (AM.mono h (fun r M3 ⟨x4, hr5, hc6, h⟩ => ?_))
      subst hr5
      refine ab_rs ?_
      have hm7 : Sm M M3 := (Sm.refl M).trans hc6
      have hl8 := hL.of hm7
      refine ab_if_ne (tgt := 26) dX11_order_20 (by decide) (fun c9 => ?_) (fun c9 => ?_)
      · have h := h.1 c9
        refine ab_aload_n 0 dX11_order_26 rfl ?_
        refine ab_getP (r := 29) dX11_order_27 fs_11_53_11 rfl (hl8.sh 0 rfl (by decide) (by decide)).1 (hl8.sh 0 rfl (by decide) (by decide)).2 (hl8.pt 5 rfl (by decide) (by decide)) ?_
        refine ab_aload_n 0 dX11_order_30 rfl ?_
        refine ab_getP (r := 13) dX11_order_31 fs_11_39_11 rfl (hl8.sh 0 rfl (by decide) (by decide)).1 (hl8.sh 0 rfl (by decide) (by decide)).2 (hl8.pt 3 rfl (by decide) (by decide)) ?_
        refine ab_callV (a := 29) (c0 := 7) (d' := d) (mc' := 0) (ms' := 0) (vs := [.ref 13]) (st := []) dX11_order_34 ⟨cw_X7_seekOrder, w_814⟩ w_815 w_816 (by decide) (hl8.sh 29 rfl (by decide) (by decide)).1 (hl8.sh 29 rfl (by decide) (by decide)).2 rfl rfl (Nat.le_of_ble_eq_true rfl) (Nat.le_refl _) (Nat.zero_le _) (Nat.zero_le _) (AM.mono h (fun r M10 ⟨hr12, hc13, h⟩ => ?_))
        subst hr12
        refine ab_rv ?_
        have hm14 : Sm M M10 := hm7.trans hc13
        have hl15 := hL.of hm14
        refine ab_iload_n 1 dX11_order_37 rfl ?_
        refine ab_if_ge (tgt := 51) dX11_order_38 (by decide) (fun c16 => ?_) (fun c16 => ?_)
        · have h := h.1 c16
          refine ab_aload_n 0 dX11_order_51 rfl ?_
          refine ab_getP (r := 29) dX11_order_52 fs_11_53_11 rfl (hl15.sh 0 rfl (by decide) (by decide)).1 (hl15.sh 0 rfl (by decide) (by decide)).2 (hl15.pt 5 rfl (by decide) (by decide)) ?_
          refine ab_getI dX11_order_55 fs_11_262_7 rfl (hl15.sh 29 rfl (by decide) (by decide)).1 (hl15.sh 29 rfl (by decide) (by decide)).2 ?_
          refine ab_tensr dX11_order_58 w_824 ?_
          refine ab_iload_n 1 dX11_order_61 rfl ?_
          have hb17 := h.1
          have h := h.2
          refine ab_tensl dX11_order_62 hb17 ?_
          have hn18 := h.1
          have h := h.2
          refine ab_idiv dX11_order_63 hn18 ?_
          refine ab_bipush (v := 10) dX11_order_64 (by decide) ?_
          refine ab_irem dX11_order_66 (by decide) ?_
          exact ab_iret dX11_order_67 rfl h
        · have h := h.2 c16
          refine ab_aload_n 0 dX11_order_41 rfl ?_
          refine ab_getP (r := 29) dX11_order_42 fs_11_53_11 rfl (hl15.sh 0 rfl (by decide) (by decide)).1 (hl15.sh 0 rfl (by decide) (by decide)).2 (hl15.pt 5 rfl (by decide) (by decide)) ?_
          refine ab_getI dX11_order_45 fs_11_259_7 rfl (hl15.sh 29 rfl (by decide) (by decide)).1 (hl15.sh 29 rfl (by decide) (by decide)).2 ?_
          refine ab_goto (tgt := 67) dX11_order_48 (by decide) ?_
          exact ab_iret dX11_order_67 rfl h
      · have h := h.2 c9
        refine ab_ldc dX11_order_23 w_781 ?_
        exact ab_iret dX11_order_25 rfl h
    · have h := h.2 c2
      refine ab_ldc dX11_order_10 w_776 ?_
      exact ab_iret dX11_order_12 rfl h
theorem dX11_image_0 : decode cX11_image 0 = .ok (.aload_n 0, 1) := by decide +kernel
theorem dX11_image_1 : decode cX11_image 1 = .ok (.iconst 1, 1) := by decide +kernel
theorem dX11_image_2 : decode cX11_image 2 = .ok (.putfield 61, 3) := by decide +kernel
theorem dX11_image_5 : decode cX11_image 5 = .ok (.aload_n 0, 1) := by decide +kernel
theorem dX11_image_6 : decode cX11_image 6 = .ok (.getfield 39, 3) := by decide +kernel
theorem dX11_image_9 : decode cX11_image 9 = .ok (.getfield 95, 3) := by decide +kernel
theorem dX11_image_12 : decode cX11_image 12 = .ok (.iconst 0, 1) := by decide +kernel
theorem dX11_image_13 : decode cX11_image 13 = .ok (.aload_n 0, 1) := by decide +kernel
theorem dX11_image_14 : decode cX11_image 14 = .ok (.getfield 65, 3) := by decide +kernel
theorem dX11_image_17 : decode cX11_image 17 = .ok (.iconst 0, 1) := by decide +kernel
theorem dX11_image_18 : decode cX11_image 18 = .ok (.aload_n 0, 1) := by decide +kernel
theorem dX11_image_19 : decode cX11_image 19 = .ok (.getfield 65, 3) := by decide +kernel
theorem dX11_image_22 : decode cX11_image 22 = .ok (.arraylength, 1) := by decide +kernel
theorem dX11_image_23 : decode cX11_image 23 = .ok (.invokestatic 121, 3) := by decide +kernel
theorem dX11_image_26 : decode cX11_image 26 = .ok (.aload_n 0, 1) := by decide +kernel
theorem dX11_image_27 : decode cX11_image 27 = .ok (.getfield 53, 3) := by decide +kernel
theorem dX11_image_30 : decode cX11_image 30 = .ok (.getfield 232, 3) := by decide +kernel
theorem dX11_image_33 : decode cX11_image 33 = .ok (.aload_n 0, 1) := by decide +kernel
theorem dX11_image_34 : decode cX11_image 34 = .ok (.getfield 71, 3) := by decide +kernel
theorem dX11_image_37 : decode cX11_image 37 = .ok (.invokestatic 275, 3) := by decide +kernel
theorem dX11_image_40 : decode cX11_image 40 = .ok (.aload_n 0, 1) := by decide +kernel
theorem dX11_image_41 : decode cX11_image 41 = .ok (.getfield 68, 3) := by decide +kernel
theorem dX11_image_44 : decode cX11_image 44 = .ok (.aload_n 0, 1) := by decide +kernel
theorem dX11_image_45 : decode cX11_image 45 = .ok (.getfield 46, 3) := by decide +kernel
theorem dX11_image_48 : decode cX11_image 48 = .ok (.invokevirtual 279, 3) := by decide +kernel
theorem dX11_image_51 : decode cX11_image 51 = .ok (.aload_n 0, 1) := by decide +kernel
theorem dX11_image_52 : decode cX11_image 52 = .ok (.getfield 46, 3) := by decide +kernel
theorem dX11_image_55 : decode cX11_image 55 = .ok (.getfield 212, 3) := by decide +kernel
theorem dX11_image_58 : decode cX11_image 58 = .ok (.ireturn, 1) := by decide +kernel
set_option maxRecDepth 20000 in
theorem rX11_image (D : GD) (d : Nat)  (M : Mm) (post : Option Value → Mm → Prop) (hL : Lay 0 62 M) 
    (h : ∀ M1 : Mm, M1 = sI M 0 9 (1 : Int32) → ∀ M5 : Mm, M5 = rI M1 47 (va_cpy (gI M1 14) (gI M1 47) 0 0 9) → AMv D d mX11_copyMembers [.ref 30, .ref 52] M5 (fun M9 => AMv D d mX1_copyFrom [.ref 48, .ref 25] M9 (fun M15 => post (some (.int (gI M15 25 2))) M15))) :
    AM D (d + 1) 0 0 mX11_image [.ref 0] M post := by
  refine AM.of (by decide) (Nat.le_of_ble_eq_true rfl) ?_
  show AW D (d + 1) 0 0 mX11_image 0 0 0 [(0, .ref 0)] [] M post
  refine ab_aload_n 0 dX11_image_0 rfl ?_
  refine ab_iconst (v := 1) dX11_image_1 (by decide) ?_
  refine ab_putZ dX11_image_2 fs_11_61_11 rfl rfl (hL.sh 0 rfl (by decide) (by decide)).1 (hL.sh 0 rfl (by decide) (by decide)).2 (by decide) ?_
  refine ab_nameM (fun M1 hM1 => ?_)
  have h := h M1 hM1
  have hs4 : Sm M M1 := hM1 ▸ (Sm.refl _).i
  have hm2 : Sm M M1 := (Sm.refl M).trans hs4
  have hl3 := hL.of hm2
  refine ab_aload_n 0 dX11_image_5 rfl ?_
  refine ab_getP (r := 13) dX11_image_6 fs_11_39_11 rfl (hl3.sh 0 rfl (by decide) (by decide)).1 (hl3.sh 0 rfl (by decide) (by decide)).2 (hl3.pt 3 rfl (by decide) (by decide)) ?_
  refine ab_getP (r := 14) dX11_image_9 fs_11_95_0 rfl (hl3.sh 13 rfl (by decide) (by decide)).1 (hl3.sh 13 rfl (by decide) (by decide)).2 (hl3.pt 22 rfl (by decide) (by decide)) ?_
  refine ab_iconst (v := 0) dX11_image_12 (by decide) ?_
  refine ab_aload_n 0 dX11_image_13 rfl ?_
  refine ab_getP (r := 47) dX11_image_14 fs_11_65_11 rfl (hl3.sh 0 rfl (by decide) (by decide)).1 (hl3.sh 0 rfl (by decide) (by decide)).2 (hl3.pt 7 rfl (by decide) (by decide)) ?_
  refine ab_iconst (v := 0) dX11_image_17 (by decide) ?_
  refine ab_aload_n 0 dX11_image_18 rfl ?_
  refine ab_getP (r := 47) dX11_image_19 fs_11_65_11 rfl (hl3.sh 0 rfl (by decide) (by decide)).1 (hl3.sh 0 rfl (by decide) (by decide)).2 (hl3.pt 7 rfl (by decide) (by decide)) ?_
  refine ab_alenv (t := 1) (n := 9) (v := 9) dX11_image_22 (hl3.sh 47 rfl (by decide) (by decide)) (by decide) (by decide) rfl ?_
  refine ab_acopyI (st := []) dX11_image_23 w_437 w_439 w_438 w_91 (hl3.sh 14 rfl (by decide) (by decide)) (hl3.sh 47 rfl (by decide) (by decide)) (by decide) (by decide) (by decide) (by decide) (by decide) (Nat.le_of_ble_eq_true rfl) (Nat.succ_le_succ (Nat.zero_le _)) ?_
  refine ab_nameM (fun M5 hM5 => ?_)
  have h := h M5 hM5
  have hs8 : Sm M1 M5 := hM5 ▸ (Sm.refl _).ri
  have hm6 : Sm M M5 := hm2.trans hs8
  have hl7 := hL.of hm6
  refine ab_aload_n 0 dX11_image_26 rfl ?_
  refine ab_getP (r := 29) dX11_image_27 fs_11_53_11 rfl (hl7.sh 0 rfl (by decide) (by decide)).1 (hl7.sh 0 rfl (by decide) (by decide)).2 (hl7.pt 5 rfl (by decide) (by decide)) ?_
  refine ab_getP (r := 30) dX11_image_30 fs_11_232_7 rfl (hl7.sh 29 rfl (by decide) (by decide)).1 (hl7.sh 29 rfl (by decide) (by decide)).2 (hl7.pt 36 rfl (by decide) (by decide)) ?_
  refine ab_aload_n 0 dX11_image_33 rfl ?_
  refine ab_getP (r := 52) dX11_image_34 fs_11_71_11 rfl (hl7.sh 0 rfl (by decide) (by decide)).1 (hl7.sh 0 rfl (by decide) (by decide)).2 (hl7.pt 9 rfl (by decide) (by decide)) ?_
  refine ab_callS (d' := d) (mc' := 0) (ms' := 0) (vs := [.ref 30, .ref 52]) (st := []) dX11_image_37 ⟨cw_X11_copyMembers, w_840⟩ w_841 rfl rfl (Nat.le_of_ble_eq_true rfl) (Nat.le_refl _) (Nat.zero_le _) (Nat.zero_le _) (AM.mono h (fun r M9 ⟨hr11, hc12, h⟩ => ?_))
  subst hr11
  refine ab_rv ?_
  have hm13 : Sm M M9 := hm6.trans hc12
  have hl14 := hL.of hm13
  refine ab_aload_n 0 dX11_image_40 rfl ?_
  refine ab_getP (r := 48) dX11_image_41 fs_11_68_11 rfl (hl14.sh 0 rfl (by decide) (by decide)).1 (hl14.sh 0 rfl (by decide) (by decide)).2 (hl14.pt 8 rfl (by decide) (by decide)) ?_
  refine ab_aload_n 0 dX11_image_44 rfl ?_
  refine ab_getP (r := 25) dX11_image_45 fs_11_46_11 rfl (hl14.sh 0 rfl (by decide) (by decide)).1 (hl14.sh 0 rfl (by decide) (by decide)).2 (hl14.pt 4 rfl (by decide) (by decide)) ?_
  refine ab_callV (a := 48) (c0 := 1) (d' := d) (mc' := 0) (ms' := 0) (vs := [.ref 25]) (st := []) dX11_image_48 ⟨cw_X1_copyFrom, w_843⟩ w_844 w_845 (by decide) (hl14.sh 48 rfl (by decide) (by decide)).1 (hl14.sh 48 rfl (by decide) (by decide)).2 rfl rfl (Nat.le_of_ble_eq_true rfl) (Nat.le_refl _) (Nat.zero_le _) (Nat.zero_le _) (AM.mono h (fun r M15 ⟨hr17, hc18, h⟩ => ?_))
  subst hr17
  refine ab_rv ?_
  have hm19 : Sm M M15 := hm13.trans hc18
  have hl20 := hL.of hm19
  refine ab_aload_n 0 dX11_image_51 rfl ?_
  refine ab_getP (r := 25) dX11_image_52 fs_11_46_11 rfl (hl20.sh 0 rfl (by decide) (by decide)).1 (hl20.sh 0 rfl (by decide) (by decide)).2 (hl20.pt 4 rfl (by decide) (by decide)) ?_
  refine ab_getI dX11_image_55 fs_11_212_1 rfl (hl20.sh 25 rfl (by decide) (by decide)).1 (hl20.sh 25 rfl (by decide) (by decide)).2 ?_
  exact ab_iret dX11_image_58 rfl h
theorem dX11_undo_0 : decode cX11_undo 0 = .ok (.aload_n 0, 1) := by decide +kernel
theorem dX11_undo_1 : decode cX11_undo 1 = .ok (.getfield 61, 3) := by decide +kernel
theorem dX11_undo_4 : decode cX11_undo 4 = .ok (.ifCond .ne 6, 3) := by decide +kernel
theorem dX11_undo_7 : decode cX11_undo 7 = .ok (.bipush (-3), 2) := by decide +kernel
theorem dX11_undo_9 : decode cX11_undo 9 = .ok (.ireturn, 1) := by decide +kernel
theorem dX11_undo_10 : decode cX11_undo 10 = .ok (.aload_n 0, 1) := by decide +kernel
theorem dX11_undo_11 : decode cX11_undo 11 = .ok (.getfield 65, 3) := by decide +kernel
theorem dX11_undo_14 : decode cX11_undo 14 = .ok (.iconst 0, 1) := by decide +kernel
theorem dX11_undo_15 : decode cX11_undo 15 = .ok (.aload_n 0, 1) := by decide +kernel
theorem dX11_undo_16 : decode cX11_undo 16 = .ok (.getfield 39, 3) := by decide +kernel
theorem dX11_undo_19 : decode cX11_undo 19 = .ok (.getfield 95, 3) := by decide +kernel
theorem dX11_undo_22 : decode cX11_undo 22 = .ok (.iconst 0, 1) := by decide +kernel
theorem dX11_undo_23 : decode cX11_undo 23 = .ok (.aload_n 0, 1) := by decide +kernel
theorem dX11_undo_24 : decode cX11_undo 24 = .ok (.getfield 65, 3) := by decide +kernel
theorem dX11_undo_27 : decode cX11_undo 27 = .ok (.arraylength, 1) := by decide +kernel
theorem dX11_undo_28 : decode cX11_undo 28 = .ok (.invokestatic 121, 3) := by decide +kernel
theorem dX11_undo_31 : decode cX11_undo 31 = .ok (.aload_n 0, 1) := by decide +kernel
theorem dX11_undo_32 : decode cX11_undo 32 = .ok (.getfield 39, 3) := by decide +kernel
theorem dX11_undo_35 : decode cX11_undo 35 = .ok (.invokevirtual 98, 3) := by decide +kernel
theorem dX11_undo_38 : decode cX11_undo 38 = .ok (.aload_n 0, 1) := by decide +kernel
theorem dX11_undo_39 : decode cX11_undo 39 = .ok (.getfield 71, 3) := by decide +kernel
theorem dX11_undo_42 : decode cX11_undo 42 = .ok (.aload_n 0, 1) := by decide +kernel
theorem dX11_undo_43 : decode cX11_undo 43 = .ok (.getfield 53, 3) := by decide +kernel
theorem dX11_undo_46 : decode cX11_undo 46 = .ok (.getfield 232, 3) := by decide +kernel
theorem dX11_undo_49 : decode cX11_undo 49 = .ok (.invokestatic 275, 3) := by decide +kernel
theorem dX11_undo_52 : decode cX11_undo 52 = .ok (.aload_n 0, 1) := by decide +kernel
theorem dX11_undo_53 : decode cX11_undo 53 = .ok (.getfield 46, 3) := by decide +kernel
theorem dX11_undo_56 : decode cX11_undo 56 = .ok (.aload_n 0, 1) := by decide +kernel
theorem dX11_undo_57 : decode cX11_undo 57 = .ok (.getfield 68, 3) := by decide +kernel
theorem dX11_undo_60 : decode cX11_undo 60 = .ok (.invokevirtual 279, 3) := by decide +kernel
theorem dX11_undo_63 : decode cX11_undo 63 = .ok (.aload_n 0, 1) := by decide +kernel
theorem dX11_undo_64 : decode cX11_undo 64 = .ok (.getfield 46, 3) := by decide +kernel
theorem dX11_undo_67 : decode cX11_undo 67 = .ok (.getfield 212, 3) := by decide +kernel
theorem dX11_undo_70 : decode cX11_undo 70 = .ok (.ireturn, 1) := by decide +kernel
set_option maxRecDepth 20000 in
theorem rX11_undo (D : GD) (d : Nat)  (M : Mm) (post : Option Value → Mm → Prop) (hL : Lay 0 62 M) 
    (h : ((¬ (gI M 0 9) = 0 → ∀ M2 : Mm, M2 = rI M 14 (va_cpy (gI M 47) (gI M 14) 0 0 9) → AMv D d mX0_settleMixes [.ref 13] M2 (fun M6 => AMv D d mX11_copyMembers [.ref 52, .ref 30] M6 (fun M12 => AMv D d mX1_copyFrom [.ref 25, .ref 48] M12 (fun M18 => post (some (.int (gI M18 25 2))) M18)))) ∧ ((gI M 0 9) = 0 → post (some (.int (-3 : Int32))) M))) :
    AM D (d + 1) 0 0 mX11_undo [.ref 0] M post := by
  refine AM.of (by decide) (Nat.le_of_ble_eq_true rfl) ?_
  show AW D (d + 1) 0 0 mX11_undo 0 0 0 [(0, .ref 0)] [] M post
  refine ab_aload_n 0 dX11_undo_0 rfl ?_
  refine ab_getI dX11_undo_1 fs_11_61_11 rfl (hL.sh 0 rfl (by decide) (by decide)).1 (hL.sh 0 rfl (by decide) (by decide)).2 ?_
  refine ab_if_ne (tgt := 10) dX11_undo_4 (by decide) (fun c1 => ?_) (fun c1 => ?_)
  · have h := h.1 c1
    refine ab_aload_n 0 dX11_undo_10 rfl ?_
    refine ab_getP (r := 47) dX11_undo_11 fs_11_65_11 rfl (hL.sh 0 rfl (by decide) (by decide)).1 (hL.sh 0 rfl (by decide) (by decide)).2 (hL.pt 7 rfl (by decide) (by decide)) ?_
    refine ab_iconst (v := 0) dX11_undo_14 (by decide) ?_
    refine ab_aload_n 0 dX11_undo_15 rfl ?_
    refine ab_getP (r := 13) dX11_undo_16 fs_11_39_11 rfl (hL.sh 0 rfl (by decide) (by decide)).1 (hL.sh 0 rfl (by decide) (by decide)).2 (hL.pt 3 rfl (by decide) (by decide)) ?_
    refine ab_getP (r := 14) dX11_undo_19 fs_11_95_0 rfl (hL.sh 13 rfl (by decide) (by decide)).1 (hL.sh 13 rfl (by decide) (by decide)).2 (hL.pt 22 rfl (by decide) (by decide)) ?_
    refine ab_iconst (v := 0) dX11_undo_22 (by decide) ?_
    refine ab_aload_n 0 dX11_undo_23 rfl ?_
    refine ab_getP (r := 47) dX11_undo_24 fs_11_65_11 rfl (hL.sh 0 rfl (by decide) (by decide)).1 (hL.sh 0 rfl (by decide) (by decide)).2 (hL.pt 7 rfl (by decide) (by decide)) ?_
    refine ab_alenv (t := 1) (n := 9) (v := 9) dX11_undo_27 (hL.sh 47 rfl (by decide) (by decide)) (by decide) (by decide) rfl ?_
    refine ab_acopyI (st := []) dX11_undo_28 w_437 w_439 w_438 w_91 (hL.sh 47 rfl (by decide) (by decide)) (hL.sh 14 rfl (by decide) (by decide)) (by decide) (by decide) (by decide) (by decide) (by decide) (Nat.le_of_ble_eq_true rfl) (Nat.succ_le_succ (Nat.zero_le _)) ?_
    refine ab_nameM (fun M2 hM2 => ?_)
    have h := h M2 hM2
    have hs5 : Sm M M2 := hM2 ▸ (Sm.refl _).ri
    have hm3 : Sm M M2 := (Sm.refl M).trans hs5
    have hl4 := hL.of hm3
    refine ab_aload_n 0 dX11_undo_31 rfl ?_
    refine ab_getP (r := 13) dX11_undo_32 fs_11_39_11 rfl (hl4.sh 0 rfl (by decide) (by decide)).1 (hl4.sh 0 rfl (by decide) (by decide)).2 (hl4.pt 3 rfl (by decide) (by decide)) ?_
    refine ab_callV (a := 13) (c0 := 0) (d' := d) (mc' := 0) (ms' := 0) (vs := []) (st := []) dX11_undo_35 ⟨cw_X0_settleMixes, w_321⟩ w_153 w_154 (by decide) (hl4.sh 13 rfl (by decide) (by decide)).1 (hl4.sh 13 rfl (by decide) (by decide)).2 rfl rfl (Nat.le_of_ble_eq_true rfl) (Nat.le_refl _) (Nat.zero_le _) (Nat.zero_le _) (AM.mono h (fun r M6 ⟨hr8, hc9, h⟩ => ?_))
    subst hr8
    refine ab_rv ?_
    have hm10 : Sm M M6 := hm3.trans hc9
    have hl11 := hL.of hm10
    refine ab_aload_n 0 dX11_undo_38 rfl ?_
    refine ab_getP (r := 52) dX11_undo_39 fs_11_71_11 rfl (hl11.sh 0 rfl (by decide) (by decide)).1 (hl11.sh 0 rfl (by decide) (by decide)).2 (hl11.pt 9 rfl (by decide) (by decide)) ?_
    refine ab_aload_n 0 dX11_undo_42 rfl ?_
    refine ab_getP (r := 29) dX11_undo_43 fs_11_53_11 rfl (hl11.sh 0 rfl (by decide) (by decide)).1 (hl11.sh 0 rfl (by decide) (by decide)).2 (hl11.pt 5 rfl (by decide) (by decide)) ?_
    refine ab_getP (r := 30) dX11_undo_46 fs_11_232_7 rfl (hl11.sh 29 rfl (by decide) (by decide)).1 (hl11.sh 29 rfl (by decide) (by decide)).2 (hl11.pt 36 rfl (by decide) (by decide)) ?_
    refine ab_callS (d' := d) (mc' := 0) (ms' := 0) (vs := [.ref 52, .ref 30]) (st := []) dX11_undo_49 ⟨cw_X11_copyMembers, w_840⟩ w_841 rfl rfl (Nat.le_of_ble_eq_true rfl) (Nat.le_refl _) (Nat.zero_le _) (Nat.zero_le _) (AM.mono h (fun r M12 ⟨hr14, hc15, h⟩ => ?_))
    subst hr14
    refine ab_rv ?_
    have hm16 : Sm M M12 := hm10.trans hc15
    have hl17 := hL.of hm16
    refine ab_aload_n 0 dX11_undo_52 rfl ?_
    refine ab_getP (r := 25) dX11_undo_53 fs_11_46_11 rfl (hl17.sh 0 rfl (by decide) (by decide)).1 (hl17.sh 0 rfl (by decide) (by decide)).2 (hl17.pt 4 rfl (by decide) (by decide)) ?_
    refine ab_aload_n 0 dX11_undo_56 rfl ?_
    refine ab_getP (r := 48) dX11_undo_57 fs_11_68_11 rfl (hl17.sh 0 rfl (by decide) (by decide)).1 (hl17.sh 0 rfl (by decide) (by decide)).2 (hl17.pt 8 rfl (by decide) (by decide)) ?_
    refine ab_callV (a := 25) (c0 := 1) (d' := d) (mc' := 0) (ms' := 0) (vs := [.ref 48]) (st := []) dX11_undo_60 ⟨cw_X1_copyFrom, w_843⟩ w_844 w_845 (by decide) (hl17.sh 25 rfl (by decide) (by decide)).1 (hl17.sh 25 rfl (by decide) (by decide)).2 rfl rfl (Nat.le_of_ble_eq_true rfl) (Nat.le_refl _) (Nat.zero_le _) (Nat.zero_le _) (AM.mono h (fun r M18 ⟨hr20, hc21, h⟩ => ?_))
    subst hr20
    refine ab_rv ?_
    have hm22 : Sm M M18 := hm16.trans hc21
    have hl23 := hL.of hm22
    refine ab_aload_n 0 dX11_undo_63 rfl ?_
    refine ab_getP (r := 25) dX11_undo_64 fs_11_46_11 rfl (hl23.sh 0 rfl (by decide) (by decide)).1 (hl23.sh 0 rfl (by decide) (by decide)).2 (hl23.pt 4 rfl (by decide) (by decide)) ?_
    refine ab_getI dX11_undo_67 fs_11_212_1 rfl (hl23.sh 25 rfl (by decide) (by decide)).1 (hl23.sh 25 rfl (by decide) (by decide)).2 ?_
    exact ab_iret dX11_undo_70 rfl h
  · have h := h.2 c1
    refine ab_bipush (v := (-3)) dX11_undo_7 (by decide) ?_
    exact ab_iret dX11_undo_9 rfl h
theorem dX11_act_0 : decode cX11_act 0 = .ok (.aload_n 0, 1) := by decide +kernel
theorem dX11_act_1 : decode cX11_act 1 = .ok (.getfield 57, 3) := by decide +kernel
theorem dX11_act_4 : decode cX11_act 4 = .ok (.iconst 0, 1) := by decide +kernel
theorem dX11_act_5 : decode cX11_act 5 = .ok (.iconst 0, 1) := by decide +kernel
theorem dX11_act_6 : decode cX11_act 6 = .ok (.iastore, 1) := by decide +kernel
theorem dX11_act_7 : decode cX11_act 7 = .ok (.aload_n 0, 1) := by decide +kernel
theorem dX11_act_8 : decode cX11_act 8 = .ok (.iload_n 1, 1) := by decide +kernel
theorem dX11_act_9 : decode cX11_act 9 = .ok (.invokevirtual 131, 3) := by decide +kernel
theorem dX11_act_12 : decode cX11_act 12 = .ok (.astore 4, 2) := by decide +kernel
theorem dX11_act_14 : decode cX11_act 14 = .ok (.aload 4, 2) := by decide +kernel
theorem dX11_act_16 : decode cX11_act 16 = .ok (.ifnonnull 5, 3) := by decide +kernel
theorem dX11_act_19 : decode cX11_act 19 = .ok (.iconst 0, 1) := by decide +kernel
theorem dX11_act_20 : decode cX11_act 20 = .ok (.ireturn, 1) := by decide +kernel
theorem dX11_act_21 : decode cX11_act 21 = .ok (.iload_n 2, 1) := by decide +kernel
theorem dX11_act_22 : decode cX11_act 22 = .ok (.tableswitch 47 0 2 #[26, 33, 40], 26) := by decide +kernel
theorem dX11_act_48 : decode cX11_act 48 = .ok (.aload 4, 2) := by decide +kernel
theorem dX11_act_50 : decode cX11_act 50 = .ok (.iload_n 3, 1) := by decide +kernel
theorem dX11_act_51 : decode cX11_act 51 = .ok (.invokevirtual 283, 3) := by decide +kernel
theorem dX11_act_54 : decode cX11_act 54 = .ok (.ireturn, 1) := by decide +kernel
theorem dX11_act_55 : decode cX11_act 55 = .ok (.aload 4, 2) := by decide +kernel
theorem dX11_act_57 : decode cX11_act 57 = .ok (.iload_n 3, 1) := by decide +kernel
theorem dX11_act_58 : decode cX11_act 58 = .ok (.invokevirtual 286, 3) := by decide +kernel
theorem dX11_act_61 : decode cX11_act 61 = .ok (.ireturn, 1) := by decide +kernel
theorem dX11_act_62 : decode cX11_act 62 = .ok (.aload 4, 2) := by decide +kernel
theorem dX11_act_64 : decode cX11_act 64 = .ok (.iload_n 3, 1) := by decide +kernel
theorem dX11_act_65 : decode cX11_act 65 = .ok (.invokevirtual 289, 3) := by decide +kernel
theorem dX11_act_68 : decode cX11_act 68 = .ok (.ireturn, 1) := by decide +kernel
theorem dX11_act_69 : decode cX11_act 69 = .ok (.iconst 0, 1) := by decide +kernel
theorem dX11_act_70 : decode cX11_act 70 = .ok (.ireturn, 1) := by decide +kernel
set_option maxRecDepth 20000 in
theorem rX11_act (D : GD) (d : Nat) (a1 : Int32) (a2 : Int32) (a3 : Int32) (M : Mm) (post : Option Value → Mm → Prop) (hL : Lay 0 62 M) 
    (h : ∀ M1 : Mm, M1 = sI M 46 0 (0 : Int32) → AMq D d mX11_playerOrNull [.ref 0, .int a1] M1 (fun x6 M5 => ((∀ p12 : Nat, x6 = some p12 → ((a2 = (0 : Int32) → ∃ k14 j15 : Nat, Pl M5 p12 k14 j15 ∧ AMi D d (vm_looks k14) [.ref p12, .int a3] M5 (fun x18 M17 => post (some (.int x18)) M17)) ∧ ((a2 = (1 : Int32) → ∃ k25 j26 : Nat, Pl M5 p12 k25 j26 ∧ AMi D d (vm_goes k25) [.ref p12, .int a3] M5 (fun x29 M28 => post (some (.int x29)) M28)) ∧ ((a2 = (2 : Int32) → ∃ k36 j37 : Nat, Pl M5 p12 k36 j37 ∧ AMi D d (vm_tells k36) [.ref p12, .int a3] M5 (fun x40 M39 => post (some (.int x40)) M39)) ∧ ((¬ a2 = (0 : Int32) → ¬ a2 = (1 : Int32) → ¬ a2 = (2 : Int32) → post (some (.int (0 : Int32))) M5)))))) ∧ (x6 = none → post (some (.int (0 : Int32))) M5)))) :
    AM D (d + 1) 0 0 mX11_act [.ref 0, .int a1, .int a2, .int a3] M post := by
  refine AM.of (by decide) (Nat.le_of_ble_eq_true rfl) ?_
  show AW D (d + 1) 0 0 mX11_act 0 0 0 [(0, .ref 0), (1, .int a1), (2, .int a2), (3, .int a3)] [] M post
  refine ab_aload_n 0 dX11_act_0 rfl ?_
  refine ab_getP (r := 46) dX11_act_1 fs_11_57_11 rfl (hL.sh 0 rfl (by decide) (by decide)).1 (hL.sh 0 rfl (by decide) (by decide)).2 (hL.pt 6 rfl (by decide) (by decide)) ?_
  refine ab_iconst (v := 0) dX11_act_4 (by decide) ?_
  refine ab_iconst (v := 0) dX11_act_5 (by decide) ?_
  refine ab_iastj (j := 0) dX11_act_6 (hL.sh 46 rfl (by decide) (by decide)) (vin (by decide)) (by decide) ?_
  refine ab_nameM (fun M1 hM1 => ?_)
  have h := h M1 hM1
  have hs4 : Sm M M1 := hM1 ▸ (Sm.refl _).i
  have hm2 : Sm M M1 := (Sm.refl M).trans hs4
  have hl3 := hL.of hm2
  refine ab_aload_n 0 dX11_act_7 rfl ?_
  refine ab_iload_n 1 dX11_act_8 rfl ?_
  refine ab_callV (a := 0) (c0 := 11) (d' := d) (mc' := 0) (ms' := 0) (vs := [.int a1]) (st := []) dX11_act_9 ⟨cw_X11_playerOrNull, w_570⟩ w_572 w_14 (by decide) (hl3.sh 0 rfl (by decide) (by decide)).1 (hl3.sh 0 rfl (by decide) (by decide)).2 rfl rfl (Nat.le_of_ble_eq_true rfl) (Nat.le_refl _) (Nat.zero_le _) (Nat.zero_le _) (AM.mono h (fun r M5 ⟨x6, hr7, hc8, h⟩ => ?_))
  subst hr7
  refine ab_rs ?_
  have hm9 : Sm M M5 := hm2.trans hc8
  have hl10 := hL.of hm9
  refine ab_astoreq (lv1 := [(4, va_rf x6), (0, .ref 0), (1, .int a1), (2, .int a2), (3, .int a3)]) dX11_act_12 (by decide) rfl ?_
  refine ab_aloadq 0 dX11_act_14 rfl ?_
  refine ab_ifnonnull (tgt := 21) dX11_act_16 (by decide) (fun p12 c11 => ?_) (fun c11 => ?_)
  · have h := h.1 p12 c11
    rw [c11]
    refine ab_iload_n 3 dX11_act_21 rfl ?_
    by_cases c13 : a2 = (0 : Int32)
    · have h := h.1 c13
      refine ab_tableIn (off := (26)) (tgt := 48) dX11_act_22 (by rw [c13]; decide) (by rw [c13]; decide) (by rw [c13]; decide) (by decide) ?_
      refine ab_aload 0 dX11_act_48 rfl ?_
      refine ab_iload_n 4 dX11_act_50 rfl ?_
      obtain ⟨k14, j15, hp16, h⟩ := h
      refine vc_11_283 (d' := d) (vs := [.int a3]) (st := []) rfl hp16.2.1 dX11_act_51 hp16.1 rfl rfl (Nat.le_of_ble_eq_true rfl) (Nat.le_refl _) (AM.mono h (fun r M17 ⟨x18, hr19, hc20, h⟩ => ?_))
      subst hr19
      refine ab_rs ?_
      have hm21 : Sm M M17 := hm9.trans hc20
      have hl22 := hL.of hm21
      have hp23 := hp16.of hc20
      exact ab_iret dX11_act_54 rfl h
    · have h := h.2
      by_cases c24 : a2 = (1 : Int32)
      · have h := h.1 c24
        refine ab_tableIn (off := (33)) (tgt := 55) dX11_act_22 (by rw [c24]; decide) (by rw [c24]; decide) (by rw [c24]; decide) (by decide) ?_
        refine ab_aload 0 dX11_act_55 rfl ?_
        refine ab_iload_n 4 dX11_act_57 rfl ?_
        obtain ⟨k25, j26, hp27, h⟩ := h
        refine vc_11_286 (d' := d) (vs := [.int a3]) (st := []) rfl hp27.2.1 dX11_act_58 hp27.1 rfl rfl (Nat.le_of_ble_eq_true rfl) (Nat.le_refl _) (AM.mono h (fun r M28 ⟨x29, hr30, hc31, h⟩ => ?_))
        subst hr30
        refine ab_rs ?_
        have hm32 : Sm M M28 := hm9.trans hc31
        have hl33 := hL.of hm32
        have hp34 := hp27.of hc31
        exact ab_iret dX11_act_61 rfl h
      · have h := h.2
        by_cases c35 : a2 = (2 : Int32)
        · have h := h.1 c35
          refine ab_tableIn (off := (40)) (tgt := 62) dX11_act_22 (by rw [c35]; decide) (by rw [c35]; decide) (by rw [c35]; decide) (by decide) ?_
          refine ab_aload 0 dX11_act_62 rfl ?_
          refine ab_iload_n 4 dX11_act_64 rfl ?_
          obtain ⟨k36, j37, hp38, h⟩ := h
          refine vc_11_289 (d' := d) (vs := [.int a3]) (st := []) rfl hp38.2.1 dX11_act_65 hp38.1 rfl rfl (Nat.le_of_ble_eq_true rfl) (Nat.le_refl _) (AM.mono h (fun r M39 ⟨x40, hr41, hc42, h⟩ => ?_))
          subst hr41
          refine ab_rs ?_
          have hm43 : Sm M M39 := hm9.trans hc42
          have hl44 := hL.of hm43
          have hp45 := hp38.of hc42
          exact ab_iret dX11_act_68 rfl h
        · have h := h.2
          have h := h c13 c24 c35
          refine ab_tableOut (tgt := 69) dX11_act_22 (by have e0 := lv_neT (a := 0) c13 (by decide); have e1 := lv_neT (a := 1) c24 (by decide); have e2 := lv_neT (a := 2) c35 (by decide); omega) (by decide) ?_
          refine ab_iconst (v := 0) dX11_act_69 (by decide) ?_
          exact ab_iret dX11_act_70 rfl h
  · have h := h.2 c11
    refine ab_iconst (v := 0) dX11_act_19 (by decide) ?_
    exact ab_iret dX11_act_20 rfl h
theorem dX11_taken_0 : decode cX11_taken 0 = .ok (.iload_n 2, 1) := by decide +kernel
theorem dX11_taken_1 : decode cX11_taken 1 = .ok (.ifCond .lt 9, 3) := by decide +kernel
theorem dX11_taken_4 : decode cX11_taken 4 = .ok (.iload_n 2, 1) := by decide +kernel
theorem dX11_taken_5 : decode cX11_taken 5 = .ok (.bipush 7, 2) := by decide +kernel
theorem dX11_taken_7 : decode cX11_taken 7 = .ok (.if_icmp .lt 6, 3) := by decide +kernel
theorem dX11_taken_10 : decode cX11_taken 10 = .ok (.bipush (-2), 2) := by decide +kernel
theorem dX11_taken_12 : decode cX11_taken 12 = .ok (.ireturn, 1) := by decide +kernel
theorem dX11_taken_13 : decode cX11_taken 13 = .ok (.aload_n 0, 1) := by decide +kernel
theorem dX11_taken_14 : decode cX11_taken 14 = .ok (.iload_n 1, 1) := by decide +kernel
theorem dX11_taken_15 : decode cX11_taken 15 = .ok (.invokevirtual 131, 3) := by decide +kernel
theorem dX11_taken_18 : decode cX11_taken 18 = .ok (.astore_n 3, 1) := by decide +kernel
theorem dX11_taken_19 : decode cX11_taken 19 = .ok (.aload_n 3, 1) := by decide +kernel
theorem dX11_taken_20 : decode cX11_taken 20 = .ok (.ifnonnull 6, 3) := by decide +kernel
theorem dX11_taken_23 : decode cX11_taken 23 = .ok (.bipush (-11), 2) := by decide +kernel
theorem dX11_taken_25 : decode cX11_taken 25 = .ok (.ireturn, 1) := by decide +kernel
theorem dX11_taken_26 : decode cX11_taken 26 = .ok (.aload_n 3, 1) := by decide +kernel
theorem dX11_taken_27 : decode cX11_taken 27 = .ok (.iload_n 2, 1) := by decide +kernel
theorem dX11_taken_28 : decode cX11_taken 28 = .ok (.invokestatic 292, 3) := by decide +kernel
theorem dX11_taken_31 : decode cX11_taken 31 = .ok (.ifCond .eq 10, 3) := by decide +kernel
theorem dX11_taken_34 : decode cX11_taken 34 = .ok (.aload_n 3, 1) := by decide +kernel
theorem dX11_taken_35 : decode cX11_taken 35 = .ok (.getfield 135, 3) := by decide +kernel
theorem dX11_taken_38 : decode cX11_taken 38 = .ok (.goto 5, 3) := by decide +kernel
theorem dX11_taken_41 : decode cX11_taken 41 = .ok (.bipush (-12), 2) := by decide +kernel
theorem dX11_taken_43 : decode cX11_taken 43 = .ok (.ireturn, 1) := by decide +kernel
set_option maxRecDepth 20000 in
theorem rX11_taken (D : GD) (d : Nat) (a1 : Int32) (a2 : Int32) (M : Mm) (post : Option Value → Mm → Prop) (hL : Lay 0 62 M) 
    (h : ((a2 < 0 → post (some (.int (-2 : Int32))) M) ∧ (¬ a2 < 0 → ((a2 < (7 : Int32) → AMq D d mX11_playerOrNull [.ref 0, .int a1] M (fun x4 M3 => ((∀ p10 : Nat, x4 = some p10 → AMi D d mX11_isOfKind [.ref p10, .int a2] M3 (fun x12 M11 => ((x12 = 0 → post (some (.int (-12 : Int32))) M11) ∧ (¬ x12 = 0 → ∃ k18 j19 : Nat, Pl M11 p10 k18 j19 ∧ post (some (.int (gI M11 p10 0))) M11)))) ∧ (x4 = none → post (some (.int (-11 : Int32))) M3)))) ∧ (¬ a2 < (7 : Int32) → post (some (.int (-2 : Int32))) M))))) :
    AM D (d + 1) 0 0 mX11_taken [.ref 0, .int a1, .int a2] M post := by
  refine AM.of (by decide) (Nat.le_of_ble_eq_true rfl) ?_
  show AW D (d + 1) 0 0 mX11_taken 0 0 0 [(0, .ref 0), (1, .int a1), (2, .int a2)] [] M post
  refine ab_iload_n 2 dX11_taken_0 rfl ?_
  refine ab_if_lt (tgt := 10) dX11_taken_1 (by decide) (fun c1 => ?_) (fun c1 => ?_)
  · have h := h.1 c1
    refine ab_bipush (v := (-2)) dX11_taken_10 (by decide) ?_
    exact ab_iret dX11_taken_12 rfl h
  · have h := h.2 c1
    refine ab_iload_n 2 dX11_taken_4 rfl ?_
    refine ab_bipush (v := 7) dX11_taken_5 (by decide) ?_
    refine ab_icmp_lt (tgt := 13) dX11_taken_7 (by decide) (fun c2 => ?_) (fun c2 => ?_)
    · have h := h.1 c2
      refine ab_aload_n 0 dX11_taken_13 rfl ?_
      refine ab_iload_n 1 dX11_taken_14 rfl ?_
      refine ab_callV (a := 0) (c0 := 11) (d' := d) (mc' := 0) (ms' := 0) (vs := [.int a1]) (st := []) dX11_taken_15 ⟨cw_X11_playerOrNull, w_570⟩ w_572 w_14 (by decide) (hL.sh 0 rfl (by decide) (by decide)).1 (hL.sh 0 rfl (by decide) (by decide)).2 rfl rfl (Nat.le_of_ble_eq_true rfl) (Nat.le_refl _) (Nat.zero_le _) (Nat.zero_le _) (AM.mono h (fun r M3 ⟨x4, hr5, hc6, h⟩ => ?_))
      subst hr5
      refine ab_rs ?_
      have hm7 : Sm M M3 := (Sm.refl M).trans hc6
      have hl8 := hL.of hm7
      refine ab_astoreq_n (lv1 := [(3, va_rf x4), (0, .ref 0), (1, .int a1), (2, .int a2)]) dX11_taken_18 (by decide) rfl ?_
      refine ab_aloadq_n 0 dX11_taken_19 rfl ?_
      refine ab_ifnonnull (tgt := 26) dX11_taken_20 (by decide) (fun p10 c9 => ?_) (fun c9 => ?_)
      · have h := h.1 p10 c9
        rw [c9]
        refine ab_aload_n 0 dX11_taken_26 rfl ?_
        refine ab_iload_n 3 dX11_taken_27 rfl ?_
        refine ab_callS (d' := d) (mc' := 0) (ms' := 0) (vs := [.ref p10, .int a2]) (st := []) dX11_taken_28 ⟨cw_X11_isOfKind, w_957⟩ w_958 rfl rfl (Nat.le_of_ble_eq_true rfl) (Nat.le_refl _) (Nat.zero_le _) (Nat.zero_le _) (AM.mono h (fun r M11 ⟨x12, hr13, hc14, h⟩ => ?_))
        subst hr13
        refine ab_rs ?_
        have hm15 : Sm M M11 := hm7.trans hc14
        have hl16 := hL.of hm15
        refine ab_if_eq (tgt := 41) dX11_taken_31 (by decide) (fun c17 => ?_) (fun c17 => ?_)
        · have h := h.1 c17
          refine ab_bipush (v := (-12)) dX11_taken_41 (by decide) ?_
          exact ab_iret dX11_taken_43 rfl h
        · have h := h.2 c17
          refine ab_aload_n 0 dX11_taken_34 rfl ?_
          obtain ⟨k18, j19, hp20, h⟩ := h
          refine ab_getI dX11_taken_35 (pf_11_135 hp20.2.1).1 (pf_11_135 hp20.2.1).2 hp20.1.1 hp20.1.2 ?_
          refine ab_goto (tgt := 43) dX11_taken_38 (by decide) ?_
          exact ab_iret dX11_taken_43 rfl h
      · have h := h.2 c9
        refine ab_bipush (v := (-11)) dX11_taken_23 (by decide) ?_
        exact ab_iret dX11_taken_25 rfl h
    · have h := h.2 c2
      refine ab_bipush (v := (-2)) dX11_taken_10 (by decide) ?_
      exact ab_iret dX11_taken_12 rfl h
theorem dX11_shift_0 : decode cX11_shift 0 = .ok (.iload_n 1, 1) := by decide +kernel
theorem dX11_shift_1 : decode cX11_shift 1 = .ok (.invokestatic 268, 3) := by decide +kernel
theorem dX11_shift_4 : decode cX11_shift 4 = .ok (.ifCond .eq 10, 3) := by decide +kernel
theorem dX11_shift_7 : decode cX11_shift 7 = .ok (.iload_n 3, 1) := by decide +kernel
theorem dX11_shift_8 : decode cX11_shift 8 = .ok (.invokestatic 268, 3) := by decide +kernel
theorem dX11_shift_11 : decode cX11_shift 11 = .ok (.ifCond .ne 5, 3) := by decide +kernel
theorem dX11_shift_14 : decode cX11_shift 14 = .ok (.iconst (-1), 1) := by decide +kernel
theorem dX11_shift_15 : decode cX11_shift 15 = .ok (.ireturn, 1) := by decide +kernel
theorem dX11_shift_16 : decode cX11_shift 16 = .ok (.aload_n 0, 1) := by decide +kernel
theorem dX11_shift_17 : decode cX11_shift 17 = .ok (.getfield 74, 3) := by decide +kernel
theorem dX11_shift_20 : decode cX11_shift 20 = .ok (.iload_n 1, 1) := by decide +kernel
theorem dX11_shift_21 : decode cX11_shift 21 = .ok (.iaload, 1) := by decide +kernel
theorem dX11_shift_22 : decode cX11_shift 22 = .ok (.iconst (-1), 1) := by decide +kernel
theorem dX11_shift_23 : decode cX11_shift 23 = .ok (.if_icmp .eq 13, 3) := by decide +kernel
theorem dX11_shift_26 : decode cX11_shift 26 = .ok (.aload_n 0, 1) := by decide +kernel
theorem dX11_shift_27 : decode cX11_shift 27 = .ok (.getfield 74, 3) := by decide +kernel
theorem dX11_shift_30 : decode cX11_shift 30 = .ok (.iload_n 3, 1) := by decide +kernel
theorem dX11_shift_31 : decode cX11_shift 31 = .ok (.iaload, 1) := by decide +kernel
theorem dX11_shift_32 : decode cX11_shift 32 = .ok (.iconst (-1), 1) := by decide +kernel
theorem dX11_shift_33 : decode cX11_shift 33 = .ok (.if_icmp .ne 6, 3) := by decide +kernel
theorem dX11_shift_36 : decode cX11_shift 36 = .ok (.bipush (-11), 2) := by decide +kernel
theorem dX11_shift_38 : decode cX11_shift 38 = .ok (.ireturn, 1) := by decide +kernel
theorem dX11_shift_39 : decode cX11_shift 39 = .ok (.aload_n 0, 1) := by decide +kernel
theorem dX11_shift_40 : decode cX11_shift 40 = .ok (.getfield 74, 3) := by decide +kernel
theorem dX11_shift_43 : decode cX11_shift 43 = .ok (.iload_n 1, 1) := by decide +kernel
theorem dX11_shift_44 : decode cX11_shift 44 = .ok (.iaload, 1) := by decide +kernel
theorem dX11_shift_45 : decode cX11_shift 45 = .ok (.aload_n 0, 1) := by decide +kernel
theorem dX11_shift_46 : decode cX11_shift 46 = .ok (.getfield 74, 3) := by decide +kernel
theorem dX11_shift_49 : decode cX11_shift 49 = .ok (.iload_n 3, 1) := by decide +kernel
theorem dX11_shift_50 : decode cX11_shift 50 = .ok (.iaload, 1) := by decide +kernel
theorem dX11_shift_51 : decode cX11_shift 51 = .ok (.if_icmp .eq 6, 3) := by decide +kernel
theorem dX11_shift_54 : decode cX11_shift 54 = .ok (.bipush (-12), 2) := by decide +kernel
theorem dX11_shift_56 : decode cX11_shift 56 = .ok (.ireturn, 1) := by decide +kernel
theorem dX11_shift_57 : decode cX11_shift 57 = .ok (.iload_n 2, 1) := by decide +kernel
theorem dX11_shift_58 : decode cX11_shift 58 = .ok (.iload 5, 2) := by decide +kernel
theorem dX11_shift_60 : decode cX11_shift 60 = .ok (.aload_n 0, 1) := by decide +kernel
theorem dX11_shift_61 : decode cX11_shift 61 = .ok (.getfield 77, 3) := by decide +kernel
theorem dX11_shift_64 : decode cX11_shift 64 = .ok (.iload_n 1, 1) := by decide +kernel
theorem dX11_shift_65 : decode cX11_shift 65 = .ok (.iaload, 1) := by decide +kernel
theorem dX11_shift_66 : decode cX11_shift 66 = .ok (.invokestatic 303, 3) := by decide +kernel
theorem dX11_shift_69 : decode cX11_shift 69 = .ok (.ifCond .eq 19, 3) := by decide +kernel
theorem dX11_shift_72 : decode cX11_shift 72 = .ok (.iload 4, 2) := by decide +kernel
theorem dX11_shift_74 : decode cX11_shift 74 = .ok (.iload 5, 2) := by decide +kernel
theorem dX11_shift_76 : decode cX11_shift 76 = .ok (.aload_n 0, 1) := by decide +kernel
theorem dX11_shift_77 : decode cX11_shift 77 = .ok (.getfield 77, 3) := by decide +kernel
theorem dX11_shift_80 : decode cX11_shift 80 = .ok (.iload_n 3, 1) := by decide +kernel
theorem dX11_shift_81 : decode cX11_shift 81 = .ok (.iaload, 1) := by decide +kernel
theorem dX11_shift_82 : decode cX11_shift 82 = .ok (.invokestatic 303, 3) := by decide +kernel
theorem dX11_shift_85 : decode cX11_shift 85 = .ok (.ifCond .ne 6, 3) := by decide +kernel
theorem dX11_shift_88 : decode cX11_shift 88 = .ok (.bipush (-13), 2) := by decide +kernel
theorem dX11_shift_90 : decode cX11_shift 90 = .ok (.ireturn, 1) := by decide +kernel
theorem dX11_shift_91 : decode cX11_shift 91 = .ok (.aload_n 0, 1) := by decide +kernel
theorem dX11_shift_92 : decode cX11_shift 92 = .ok (.getfield 82, 3) := by decide +kernel
theorem dX11_shift_95 : decode cX11_shift 95 = .ok (.iload_n 1, 1) := by decide +kernel
theorem dX11_shift_96 : decode cX11_shift 96 = .ok (.aaload, 1) := by decide +kernel
theorem dX11_shift_97 : decode cX11_shift 97 = .ok (.iload_n 2, 1) := by decide +kernel
theorem dX11_shift_98 : decode cX11_shift 98 = .ok (.aload_n 0, 1) := by decide +kernel
theorem dX11_shift_99 : decode cX11_shift 99 = .ok (.getfield 82, 3) := by decide +kernel
theorem dX11_shift_102 : decode cX11_shift 102 = .ok (.iload_n 3, 1) := by decide +kernel
theorem dX11_shift_103 : decode cX11_shift 103 = .ok (.aaload, 1) := by decide +kernel
theorem dX11_shift_104 : decode cX11_shift 104 = .ok (.iload 4, 2) := by decide +kernel
theorem dX11_shift_106 : decode cX11_shift 106 = .ok (.iload 5, 2) := by decide +kernel
theorem dX11_shift_108 : decode cX11_shift 108 = .ok (.invokestatic 121, 3) := by decide +kernel
theorem dX11_shift_111 : decode cX11_shift 111 = .ok (.iload 5, 2) := by decide +kernel
theorem dX11_shift_113 : decode cX11_shift 113 = .ok (.ireturn, 1) := by decide +kernel
set_option maxRecDepth 20000 in
theorem rX11_shift (D : GD) (d : Nat) (a1 : Int32) (a2 : Int32) (a3 : Int32) (a4 : Int32) (a5 : Int32) (M : Mm) (post : Option Value → Mm → Prop) (hL : Lay 0 62 M) 
    (h : AMi D d mX11_isTape [.int a1] M (fun x2 M1 => ((x2 = 0 → post (some (.int (-1 : Int32))) M1) ∧ (¬ x2 = 0 → AMi D d mX11_isTape [.int a3] M1 (fun x9 M8 => ((¬ x9 = 0 → vp_in a1 6 ∧ (((gI M8 53 a1.toNatClampNeg) = (-1 : Int32) → post (some (.int (-11 : Int32))) M8) ∧ (¬ (gI M8 53 a1.toNatClampNeg) = (-1 : Int32) → vp_in a3 6 ∧ ((¬ (gI M8 53 a3.toNatClampNeg) = (-1 : Int32) → (((gI M8 53 a1.toNatClampNeg) = (gI M8 53 a3.toNatClampNeg) → AMi D d mX11_isStretch [.int a2, .int a5, .int (gI M8 54 a1.toNatClampNeg)] M8 (fun x21 M20 => ((x21 = 0 → post (some (.int (-13 : Int32))) M20) ∧ (¬ x21 = 0 → AMi D d mX11_isStretch [.int a4, .int a5, .int (gI M20 54 a3.toNatClampNeg)] M20 (fun x28 M27 => ((¬ x28 = 0 → (¬ a2 < 0) ∧ (¬ a4 < 0) ∧ (¬ a5 < 0) ∧ (a2.toNatClampNeg + a5.toNatClampNeg ≤ 60) ∧ (a4.toNatClampNeg + a5.toNatClampNeg ≤ 60) ∧ ∀ M39 : Mm, M39 = rL M27 (56 + a3.toNatClampNeg) (va_cpy (gL M27 (56 + a1.toNatClampNeg)) (gL M27 (56 + a3.toNatClampNeg)) a2.toNatClampNeg a4.toNatClampNeg a5.toNatClampNeg) → post (some (.int a5)) M39) ∧ (x28 = 0 → post (some (.int (-13 : Int32))) M27))))))) ∧ (¬ (gI M8 53 a1.toNatClampNeg) = (gI M8 53 a3.toNatClampNeg) → post (some (.int (-12 : Int32))) M8))) ∧ ((gI M8 53 a3.toNatClampNeg) = (-1 : Int32) → post (some (.int (-11 : Int32))) M8))))) ∧ (x9 = 0 → post (some (.int (-1 : Int32))) M8))))))) :
    AM D (d + 1) 0 0 mX11_shift [.ref 0, .int a1, .int a2, .int a3, .int a4, .int a5] M post := by
  refine AM.of (by decide) (Nat.le_of_ble_eq_true rfl) ?_
  show AW D (d + 1) 0 0 mX11_shift 0 0 0 [(0, .ref 0), (1, .int a1), (2, .int a2), (3, .int a3), (4, .int a4), (5, .int a5)] [] M post
  refine ab_iload_n 1 dX11_shift_0 rfl ?_
  refine ab_callS (d' := d) (mc' := 0) (ms' := 0) (vs := [.int a1]) (st := []) dX11_shift_1 ⟨cw_X11_isTape, w_829⟩ w_830 rfl rfl (Nat.le_of_ble_eq_true rfl) (Nat.le_refl _) (Nat.zero_le _) (Nat.zero_le _) (AM.mono h (fun r M1 ⟨x2, hr3, hc4, h⟩ => ?_))
  subst hr3
  refine ab_rs ?_
  have hm5 : Sm M M1 := (Sm.refl M).trans hc4
  have hl6 := hL.of hm5
  refine ab_if_eq (tgt := 14) dX11_shift_4 (by decide) (fun c7 => ?_) (fun c7 => ?_)
  · have h := h.1 c7
    refine ab_iconst (v := (-1)) dX11_shift_14 (by decide) ?_
    exact ab_iret dX11_shift_15 rfl h
  · have h := h.2 c7
    refine ab_iload_n 3 dX11_shift_7 rfl ?_
    refine ab_callS (d' := d) (mc' := 0) (ms' := 0) (vs := [.int a3]) (st := []) dX11_shift_8 ⟨cw_X11_isTape, w_829⟩ w_830 rfl rfl (Nat.le_of_ble_eq_true rfl) (Nat.le_refl _) (Nat.zero_le _) (Nat.zero_le _) (AM.mono h (fun r M8 ⟨x9, hr10, hc11, h⟩ => ?_))
    subst hr10
    refine ab_rs ?_
    have hm12 : Sm M M8 := hm5.trans hc11
    have hl13 := hL.of hm12
    refine ab_if_ne (tgt := 16) dX11_shift_11 (by decide) (fun c14 => ?_) (fun c14 => ?_)
    · have h := h.1 c14
      refine ab_aload_n 0 dX11_shift_16 rfl ?_
      refine ab_getP (r := 53) dX11_shift_17 fs_11_74_11 rfl (hl13.sh 0 rfl (by decide) (by decide)).1 (hl13.sh 0 rfl (by decide) (by decide)).2 (hl13.pt 10 rfl (by decide) (by decide)) ?_
      refine ab_iload_n 1 dX11_shift_20 rfl ?_
      have hb15 := h.1
      have h := h.2
      refine ab_ialdj (j := a1.toNatClampNeg) dX11_shift_21 (hl13.sh 53 rfl (by decide) (by decide)) hb15 rfl ?_
      refine ab_iconst (v := (-1)) dX11_shift_22 (by decide) ?_
      refine ab_icmp_eq (tgt := 36) dX11_shift_23 (by decide) (fun c16 => ?_) (fun c16 => ?_)
      · have h := h.1 c16
        refine ab_bipush (v := (-11)) dX11_shift_36 (by decide) ?_
        exact ab_iret dX11_shift_38 rfl h
      · have h := h.2 c16
        refine ab_aload_n 0 dX11_shift_26 rfl ?_
        refine ab_getP (r := 53) dX11_shift_27 fs_11_74_11 rfl (hl13.sh 0 rfl (by decide) (by decide)).1 (hl13.sh 0 rfl (by decide) (by decide)).2 (hl13.pt 10 rfl (by decide) (by decide)) ?_
        refine ab_iload_n 3 dX11_shift_30 rfl ?_
        have hb17 := h.1
        have h := h.2
        refine ab_ialdj (j := a3.toNatClampNeg) dX11_shift_31 (hl13.sh 53 rfl (by decide) (by decide)) hb17 rfl ?_
        refine ab_iconst (v := (-1)) dX11_shift_32 (by decide) ?_
        refine ab_icmp_ne (tgt := 39) dX11_shift_33 (by decide) (fun c18 => ?_) (fun c18 => ?_)
        · have h := h.1 c18
          refine ab_aload_n 0 dX11_shift_39 rfl ?_
          refine ab_getP (r := 53) dX11_shift_40 fs_11_74_11 rfl (hl13.sh 0 rfl (by decide) (by decide)).1 (hl13.sh 0 rfl (by decide) (by decide)).2 (hl13.pt 10 rfl (by decide) (by decide)) ?_
          refine ab_iload_n 1 dX11_shift_43 rfl ?_
          refine ab_ialdj (j := a1.toNatClampNeg) dX11_shift_44 (hl13.sh 53 rfl (by decide) (by decide)) hb15 rfl ?_
          refine ab_aload_n 0 dX11_shift_45 rfl ?_
          refine ab_getP (r := 53) dX11_shift_46 fs_11_74_11 rfl (hl13.sh 0 rfl (by decide) (by decide)).1 (hl13.sh 0 rfl (by decide) (by decide)).2 (hl13.pt 10 rfl (by decide) (by decide)) ?_
          refine ab_iload_n 3 dX11_shift_49 rfl ?_
          refine ab_ialdj (j := a3.toNatClampNeg) dX11_shift_50 (hl13.sh 53 rfl (by decide) (by decide)) hb17 rfl ?_
          refine ab_icmp_eq (tgt := 57) dX11_shift_51 (by decide) (fun c19 => ?_) (fun c19 => ?_)
          · have h := h.1 c19
            refine ab_iload_n 2 dX11_shift_57 rfl ?_
            refine ab_iload 5 dX11_shift_58 rfl ?_
            refine ab_aload_n 0 dX11_shift_60 rfl ?_
            refine ab_getP (r := 54) dX11_shift_61 fs_11_77_11 rfl (hl13.sh 0 rfl (by decide) (by decide)).1 (hl13.sh 0 rfl (by decide) (by decide)).2 (hl13.pt 11 rfl (by decide) (by decide)) ?_
            refine ab_iload_n 1 dX11_shift_64 rfl ?_
            refine ab_ialdj (j := a1.toNatClampNeg) dX11_shift_65 (hl13.sh 54 rfl (by decide) (by decide)) hb15 rfl ?_
            refine ab_callS (d' := d) (mc' := 0) (ms' := 0) (vs := [.int a2, .int a5, .int (gI M8 54 a1.toNatClampNeg)]) (st := []) dX11_shift_66 ⟨cw_X11_isStretch, w_986⟩ w_987 rfl rfl (Nat.le_of_ble_eq_true rfl) (Nat.le_refl _) (Nat.zero_le _) (Nat.zero_le _) (AM.mono h (fun r M20 ⟨x21, hr22, hc23, h⟩ => ?_))
            subst hr22
            refine ab_rs ?_
            have hm24 : Sm M M20 := hm12.trans hc23
            have hl25 := hL.of hm24
            refine ab_if_eq (tgt := 88) dX11_shift_69 (by decide) (fun c26 => ?_) (fun c26 => ?_)
            · have h := h.1 c26
              refine ab_bipush (v := (-13)) dX11_shift_88 (by decide) ?_
              exact ab_iret dX11_shift_90 rfl h
            · have h := h.2 c26
              refine ab_iload 4 dX11_shift_72 rfl ?_
              refine ab_iload 5 dX11_shift_74 rfl ?_
              refine ab_aload_n 0 dX11_shift_76 rfl ?_
              refine ab_getP (r := 54) dX11_shift_77 fs_11_77_11 rfl (hl25.sh 0 rfl (by decide) (by decide)).1 (hl25.sh 0 rfl (by decide) (by decide)).2 (hl25.pt 11 rfl (by decide) (by decide)) ?_
              refine ab_iload_n 3 dX11_shift_80 rfl ?_
              refine ab_ialdj (j := a3.toNatClampNeg) dX11_shift_81 (hl25.sh 54 rfl (by decide) (by decide)) hb17 rfl ?_
              refine ab_callS (d' := d) (mc' := 0) (ms' := 0) (vs := [.int a4, .int a5, .int (gI M20 54 a3.toNatClampNeg)]) (st := []) dX11_shift_82 ⟨cw_X11_isStretch, w_986⟩ w_987 rfl rfl (Nat.le_of_ble_eq_true rfl) (Nat.le_refl _) (Nat.zero_le _) (Nat.zero_le _) (AM.mono h (fun r M27 ⟨x28, hr29, hc30, h⟩ => ?_))
              subst hr29
              refine ab_rs ?_
              have hm31 : Sm M M27 := hm24.trans hc30
              have hl32 := hL.of hm31
              refine ab_if_ne (tgt := 91) dX11_shift_85 (by decide) (fun c33 => ?_) (fun c33 => ?_)
              · have h := h.1 c33
                refine ab_aload_n 0 dX11_shift_91 rfl ?_
                refine ab_getP (r := 55) dX11_shift_92 fs_11_82_11 rfl (hl32.sh 0 rfl (by decide) (by decide)).1 (hl32.sh 0 rfl (by decide) (by decide)).2 (hl32.pt 12 rfl (by decide) (by decide)) ?_
                refine ab_iload_n 1 dX11_shift_95 rfl ?_
                refine ab_aald5j (j := a1.toNatClampNeg) (r := 56 + a1.toNatClampNeg) dX11_shift_96 (hl32.sh 55 rfl (by decide) (by decide)) hb15 rfl (row_55 hl32 (by decide) (by decide) (vin_lt hb15)).1 ?_
                refine ab_iload_n 2 dX11_shift_97 rfl ?_
                refine ab_aload_n 0 dX11_shift_98 rfl ?_
                refine ab_getP (r := 55) dX11_shift_99 fs_11_82_11 rfl (hl32.sh 0 rfl (by decide) (by decide)).1 (hl32.sh 0 rfl (by decide) (by decide)).2 (hl32.pt 12 rfl (by decide) (by decide)) ?_
                refine ab_iload_n 3 dX11_shift_102 rfl ?_
                refine ab_aald5j (j := a3.toNatClampNeg) (r := 56 + a3.toNatClampNeg) dX11_shift_103 (hl32.sh 55 rfl (by decide) (by decide)) hb17 rfl (row_55 hl32 (by decide) (by decide) (vin_lt hb17)).1 ?_
                refine ab_iload 4 dX11_shift_104 rfl ?_
                refine ab_iload 5 dX11_shift_106 rfl ?_
                have hg34 := h.1
                have h := h.2
                have hg35 := h.1
                have h := h.2
                have hg36 := h.1
                have h := h.2
                have hg37 := h.1
                have h := h.2
                have hg38 := h.1
                have h := h.2
                refine ab_acopyL (st := []) dX11_shift_108 w_437 w_439 w_438 w_91 (row_55 hl32 (by decide) (by decide) (vin_lt hb15)).2 (row_55 hl32 (by decide) (by decide) (vin_lt hb17)).2 hg34 hg35 hg36 hg37 hg38 (Nat.le_of_ble_eq_true rfl) (Nat.succ_le_succ (Nat.zero_le _)) ?_
                refine ab_nameM (fun M39 hM39 => ?_)
                have h := h M39 hM39
                have hs42 : Sm M27 M39 := hM39 ▸ (Sm.refl _).rl
                have hm40 : Sm M M39 := hm31.trans hs42
                have hl41 := hL.of hm40
                refine ab_iload 5 dX11_shift_111 rfl ?_
                exact ab_iret dX11_shift_113 rfl h
              · have h := h.2 c33
                refine ab_bipush (v := (-13)) dX11_shift_88 (by decide) ?_
                exact ab_iret dX11_shift_90 rfl h
          · have h := h.2 c19
            refine ab_bipush (v := (-12)) dX11_shift_54 (by decide) ?_
            exact ab_iret dX11_shift_56 rfl h
        · have h := h.2 c18
          refine ab_bipush (v := (-11)) dX11_shift_36 (by decide) ?_
          exact ab_iret dX11_shift_38 rfl h
    · have h := h.2 c14
      refine ab_iconst (v := (-1)) dX11_shift_14 (by decide) ?_
      exact ab_iret dX11_shift_15 rfl h
theorem dX11_copyMembers_0 : decode cX11_copyMembers 0 = .ok (.iconst 0, 1) := by decide +kernel
theorem dX11_copyMembers_1 : decode cX11_copyMembers 1 = .ok (.istore_n 2, 1) := by decide +kernel
theorem dX11_copyMembers_2 : decode cX11_copyMembers 2 = .ok (.iload_n 2, 1) := by decide +kernel
theorem dX11_copyMembers_3 : decode cX11_copyMembers 3 = .ok (.aload_n 0, 1) := by decide +kernel
theorem dX11_copyMembers_4 : decode cX11_copyMembers 4 = .ok (.arraylength, 1) := by decide +kernel
theorem dX11_copyMembers_5 : decode cX11_copyMembers 5 = .ok (.if_icmp .ge 21, 3) := by decide +kernel
theorem dX11_copyMembers_8 : decode cX11_copyMembers 8 = .ok (.iload_n 2, 1) := by decide +kernel
theorem dX11_copyMembers_9 : decode cX11_copyMembers 9 = .ok (.aload_n 1, 1) := by decide +kernel
theorem dX11_copyMembers_10 : decode cX11_copyMembers 10 = .ok (.arraylength, 1) := by decide +kernel
theorem dX11_copyMembers_11 : decode cX11_copyMembers 11 = .ok (.if_icmp .ge 15, 3) := by decide +kernel
theorem dX11_copyMembers_14 : decode cX11_copyMembers 14 = .ok (.aload_n 1, 1) := by decide +kernel
theorem dX11_copyMembers_15 : decode cX11_copyMembers 15 = .ok (.iload_n 2, 1) := by decide +kernel
theorem dX11_copyMembers_16 : decode cX11_copyMembers 16 = .ok (.aload_n 0, 1) := by decide +kernel
theorem dX11_copyMembers_17 : decode cX11_copyMembers 17 = .ok (.iload_n 2, 1) := by decide +kernel
theorem dX11_copyMembers_18 : decode cX11_copyMembers 18 = .ok (.aaload, 1) := by decide +kernel
theorem dX11_copyMembers_19 : decode cX11_copyMembers 19 = .ok (.aastore, 1) := by decide +kernel
theorem dX11_copyMembers_20 : decode cX11_copyMembers 20 = .ok (.iinc 2 1, 3) := by decide +kernel
theorem dX11_copyMembers_23 : decode cX11_copyMembers 23 = .ok (.goto (-21), 3) := by decide +kernel
theorem dX11_copyMembers_26 : decode cX11_copyMembers 26 = .ok (.return_, 1) := by decide +kernel
def LX11_copyMembers_2 (D : GD) (d : Nat) (v0 : Nat) (v1 : Nat) (v2 : Int32) (M : Mm) (post : Option Value → Mm → Prop) : Prop := AW D d 0 0 mX11_copyMembers 0 0 2 [(0, .ref v0), (1, .ref v1), (2, .int v2)] [] M post
set_option maxRecDepth 20000 in
theorem rX11_copyMembers (D : GD) (d : Nat) (a1 : Nat) (a2 : Nat) (M : Mm) (post : Option Value → Mm → Prop) (hL : Lay 0 0 M) (sa1 : Sh M a1 (6, 12)) (sa2 : Sh M a2 (6, 12))
    (h : LX11_copyMembers_2 D d a1 a2 (0 : Int32) M post) :
    AM D d 0 0 mX11_copyMembers [.ref a1, .ref a2] M post := by
  refine AM.of (by decide) (Nat.le_of_ble_eq_true rfl) ?_
  show AW D d 0 0 mX11_copyMembers 0 0 0 [(0, .ref a1), (1, .ref a2)] [] M post
  refine ab_iconst (v := 0) dX11_copyMembers_0 (by decide) ?_
  refine ab_istore_n (lv1 := [(2, .int (0 : Int32)), (0, .ref a1), (1, .ref a2)]) dX11_copyMembers_1 (by decide) rfl ?_
  exact ab_sub [1, 2, 0] rfl h
set_option maxRecDepth 20000 in
theorem rX11_copyMembers_2 (D : GD) (d : Nat)  (v0 : Nat) (v1 : Nat) (v2 : Int32) (M : Mm) (post : Option Value → Mm → Prop) (hL : Lay 0 0 M) (sv0 : Sh M v0 (6, 12)) (sv1 : Sh M v1 (6, 12))
    (h : (((12 : Int32) ≤ v2 → post none M) ∧ (¬ (12 : Int32) ≤ v2 → (((12 : Int32) ≤ v2 → post none M) ∧ (¬ (12 : Int32) ≤ v2 → vp_in v2 12 ∧ (∀ p : Nat, (gP M v0 v2.toNatClampNeg) = some p → ∃ c, plc c ∧ Sh M p (0, c)) ∧ ∀ M5 : Mm, M5 = sP M v1 v2.toNatClampNeg (gP M v0 v2.toNatClampNeg) → ∀ x9 : Int32, x9 = v2 + (1 : Int32) → LX11_copyMembers_2 D d v0 v1 x9 M5 post))))) :
    LX11_copyMembers_2 D d v0 v1 v2 M post := by
  show AW D d 0 0 mX11_copyMembers 0 0 2 [(0, .ref v0), (1, .ref v1), (2, .int v2)] [] M post
  refine ab_iload_n 2 dX11_copyMembers_2 rfl ?_
  refine ab_aload_n 0 dX11_copyMembers_3 rfl ?_
  refine ab_alenv (t := 6) (n := 12) (v := 12) dX11_copyMembers_4 (sv0.of (Sm.refl M)) (by decide) (by decide) rfl ?_
  refine ab_icmp_ge (tgt := 26) dX11_copyMembers_5 (by decide) (fun c1 => ?_) (fun c1 => ?_)
  · have h := h.1 c1
    exact ab_vret dX11_copyMembers_26 rfl h
  · have h := h.2 c1
    refine ab_iload_n 2 dX11_copyMembers_8 rfl ?_
    refine ab_aload_n 1 dX11_copyMembers_9 rfl ?_
    refine ab_alenv (t := 6) (n := 12) (v := 12) dX11_copyMembers_10 (sv1.of (Sm.refl M)) (by decide) (by decide) rfl ?_
    refine ab_icmp_ge (tgt := 26) dX11_copyMembers_11 (by decide) (fun c2 => ?_) (fun c2 => ?_)
    · have h := h.1 c2
      exact ab_vret dX11_copyMembers_26 rfl h
    · have h := h.2 c2
      refine ab_aload_n 1 dX11_copyMembers_14 rfl ?_
      refine ab_iload_n 2 dX11_copyMembers_15 rfl ?_
      refine ab_aload_n 0 dX11_copyMembers_16 rfl ?_
      refine ab_iload_n 2 dX11_copyMembers_17 rfl ?_
      have hb3 := h.1
      have h := h.2
      refine ab_aald6j (j := v2.toNatClampNeg) dX11_copyMembers_18 (sv0.of (Sm.refl M)) hb3 rfl ?_
      have ho4 := h.1
      have h := h.2
      refine ab_aast6 (o := (gP M v0 v2.toNatClampNeg)) (j := v2.toNatClampNeg) dX11_copyMembers_19 (sv1.of (Sm.refl M)) hb3 rfl ho4 ?_
      refine ab_nameM (fun M5 hM5 => ?_)
      have h := h M5 hM5
      have hs8 : Sm M M5 := hM5 ▸ ((Sm.refl _).p (by rw [(sv1.of (Sm.refl M)).2] <;> rfl))
      have hm6 : Sm M M5 := (Sm.refl M).trans hs8
      have hl7 := hL.of hm6
      obtain ⟨x9, hx9⟩ : ∃ y : Int32, y = v2 + (1 : Int32) := ⟨_, rfl⟩
      have h := h x9 hx9
      refine ab_iinc (v := x9) 2 (lv1 := [(2, .int x9), (0, .ref v0), (1, .ref v1)]) dX11_copyMembers_20 rfl (by rw [hx9]; rfl) (by decide) rfl ?_
      refine ab_goto (tgt := 2) dX11_copyMembers_23 (by decide) ?_
      exact ab_sub [1, 2, 0] rfl h
theorem dX11_isOfKind_0 : decode cX11_isOfKind 0 = .ok (.iload_n 1, 1) := by decide +kernel
theorem dX11_isOfKind_1 : decode cX11_isOfKind 1 = .ok (.tableswitch 69 1 6 #[39, 44, 49, 54, 59, 64], 39) := by decide +kernel
theorem dX11_isOfKind_40 : decode cX11_isOfKind 40 = .ok (.aload_n 0, 1) := by decide +kernel
theorem dX11_isOfKind_41 : decode cX11_isOfKind 41 = .ok (.instanceof 144, 3) := by decide +kernel
theorem dX11_isOfKind_44 : decode cX11_isOfKind 44 = .ok (.ireturn, 1) := by decide +kernel
theorem dX11_isOfKind_45 : decode cX11_isOfKind 45 = .ok (.aload_n 0, 1) := by decide +kernel
theorem dX11_isOfKind_46 : decode cX11_isOfKind 46 = .ok (.instanceof 149, 3) := by decide +kernel
theorem dX11_isOfKind_49 : decode cX11_isOfKind 49 = .ok (.ireturn, 1) := by decide +kernel
theorem dX11_isOfKind_50 : decode cX11_isOfKind 50 = .ok (.aload_n 0, 1) := by decide +kernel
theorem dX11_isOfKind_51 : decode cX11_isOfKind 51 = .ok (.instanceof 152, 3) := by decide +kernel
theorem dX11_isOfKind_54 : decode cX11_isOfKind 54 = .ok (.ireturn, 1) := by decide +kernel
theorem dX11_isOfKind_55 : decode cX11_isOfKind 55 = .ok (.aload_n 0, 1) := by decide +kernel
theorem dX11_isOfKind_56 : decode cX11_isOfKind 56 = .ok (.instanceof 155, 3) := by decide +kernel
theorem dX11_isOfKind_59 : decode cX11_isOfKind 59 = .ok (.ireturn, 1) := by decide +kernel
theorem dX11_isOfKind_60 : decode cX11_isOfKind 60 = .ok (.aload_n 0, 1) := by decide +kernel
theorem dX11_isOfKind_61 : decode cX11_isOfKind 61 = .ok (.instanceof 158, 3) := by decide +kernel
theorem dX11_isOfKind_64 : decode cX11_isOfKind 64 = .ok (.ireturn, 1) := by decide +kernel
theorem dX11_isOfKind_65 : decode cX11_isOfKind 65 = .ok (.aload_n 0, 1) := by decide +kernel
theorem dX11_isOfKind_66 : decode cX11_isOfKind 66 = .ok (.instanceof 161, 3) := by decide +kernel
theorem dX11_isOfKind_69 : decode cX11_isOfKind 69 = .ok (.ireturn, 1) := by decide +kernel
theorem dX11_isOfKind_70 : decode cX11_isOfKind 70 = .ok (.iconst 1, 1) := by decide +kernel
theorem dX11_isOfKind_71 : decode cX11_isOfKind 71 = .ok (.ireturn, 1) := by decide +kernel
set_option maxRecDepth 20000 in
theorem rX11_isOfKind (D : GD) (d : Nat) (a1 ka1 ja1 : Nat) (a2 : Int32) (M : Mm) (post : Option Value → Mm → Prop) (hL : Lay 0 0 M) (hpa1 : Pl M a1 ka1 ja1)
    (h : ((a2 = (1 : Int32) → ((if isk ka1 4 then (1 : Int32) else 0) = 0 ∨ (if isk ka1 4 then (1 : Int32) else 0) = 1) ∧ post (some (.int (if isk ka1 4 then (1 : Int32) else 0))) M) ∧ ((a2 = (2 : Int32) → ((if isk ka1 2 then (1 : Int32) else 0) = 0 ∨ (if isk ka1 2 then (1 : Int32) else 0) = 1) ∧ post (some (.int (if isk ka1 2 then (1 : Int32) else 0))) M) ∧ ((a2 = (3 : Int32) → ((if isk ka1 9 then (1 : Int32) else 0) = 0 ∨ (if isk ka1 9 then (1 : Int32) else 0) = 1) ∧ post (some (.int (if isk ka1 9 then (1 : Int32) else 0))) M) ∧ ((a2 = (4 : Int32) → ((if isk ka1 10 then (1 : Int32) else 0) = 0 ∨ (if isk ka1 10 then (1 : Int32) else 0) = 1) ∧ post (some (.int (if isk ka1 10 then (1 : Int32) else 0))) M) ∧ ((a2 = (5 : Int32) → ((if isk ka1 3 then (1 : Int32) else 0) = 0 ∨ (if isk ka1 3 then (1 : Int32) else 0) = 1) ∧ post (some (.int (if isk ka1 3 then (1 : Int32) else 0))) M) ∧ ((a2 = (6 : Int32) → ((if isk ka1 8 then (1 : Int32) else 0) = 0 ∨ (if isk ka1 8 then (1 : Int32) else 0) = 1) ∧ post (some (.int (if isk ka1 8 then (1 : Int32) else 0))) M) ∧ ((¬ a2 = (1 : Int32) → ¬ a2 = (2 : Int32) → ¬ a2 = (3 : Int32) → ¬ a2 = (4 : Int32) → ¬ a2 = (5 : Int32) → ¬ a2 = (6 : Int32) → post (some (.int (1 : Int32))) M))))))))) :
    AM D d 0 0 mX11_isOfKind [.ref a1, .int a2] M post := by
  refine AM.of (by decide) (Nat.le_of_ble_eq_true rfl) ?_
  show AW D d 0 0 mX11_isOfKind 0 0 0 [(0, .ref a1), (1, .int a2)] [] M post
  refine ab_iload_n 1 dX11_isOfKind_0 rfl ?_
  by_cases c1 : a2 = (1 : Int32)
  · have h := h.1 c1
    refine ab_tableIn (off := (39)) (tgt := 40) dX11_isOfKind_1 (by rw [c1]; decide) (by rw [c1]; decide) (by rw [c1]; decide) (by decide) ?_
    refine ab_aload_n 0 dX11_isOfKind_40 rfl ?_
    refine io_11_144 rfl hpa1.2.1 dX11_isOfKind_41 hpa1.1 ?_
    exact ab_zret dX11_isOfKind_44 rfl (nar_z h.1) h.2
  · have h := h.2
    by_cases c2 : a2 = (2 : Int32)
    · have h := h.1 c2
      refine ab_tableIn (off := (44)) (tgt := 45) dX11_isOfKind_1 (by rw [c2]; decide) (by rw [c2]; decide) (by rw [c2]; decide) (by decide) ?_
      refine ab_aload_n 0 dX11_isOfKind_45 rfl ?_
      refine io_11_149 rfl hpa1.2.1 dX11_isOfKind_46 hpa1.1 ?_
      exact ab_zret dX11_isOfKind_49 rfl (nar_z h.1) h.2
    · have h := h.2
      by_cases c3 : a2 = (3 : Int32)
      · have h := h.1 c3
        refine ab_tableIn (off := (49)) (tgt := 50) dX11_isOfKind_1 (by rw [c3]; decide) (by rw [c3]; decide) (by rw [c3]; decide) (by decide) ?_
        refine ab_aload_n 0 dX11_isOfKind_50 rfl ?_
        refine io_11_152 rfl hpa1.2.1 dX11_isOfKind_51 hpa1.1 ?_
        exact ab_zret dX11_isOfKind_54 rfl (nar_z h.1) h.2
      · have h := h.2
        by_cases c4 : a2 = (4 : Int32)
        · have h := h.1 c4
          refine ab_tableIn (off := (54)) (tgt := 55) dX11_isOfKind_1 (by rw [c4]; decide) (by rw [c4]; decide) (by rw [c4]; decide) (by decide) ?_
          refine ab_aload_n 0 dX11_isOfKind_55 rfl ?_
          refine io_11_155 rfl hpa1.2.1 dX11_isOfKind_56 hpa1.1 ?_
          exact ab_zret dX11_isOfKind_59 rfl (nar_z h.1) h.2
        · have h := h.2
          by_cases c5 : a2 = (5 : Int32)
          · have h := h.1 c5
            refine ab_tableIn (off := (59)) (tgt := 60) dX11_isOfKind_1 (by rw [c5]; decide) (by rw [c5]; decide) (by rw [c5]; decide) (by decide) ?_
            refine ab_aload_n 0 dX11_isOfKind_60 rfl ?_
            refine io_11_158 rfl hpa1.2.1 dX11_isOfKind_61 hpa1.1 ?_
            exact ab_zret dX11_isOfKind_64 rfl (nar_z h.1) h.2
          · have h := h.2
            by_cases c6 : a2 = (6 : Int32)
            · have h := h.1 c6
              refine ab_tableIn (off := (64)) (tgt := 65) dX11_isOfKind_1 (by rw [c6]; decide) (by rw [c6]; decide) (by rw [c6]; decide) (by decide) ?_
              refine ab_aload_n 0 dX11_isOfKind_65 rfl ?_
              refine io_11_161 rfl hpa1.2.1 dX11_isOfKind_66 hpa1.1 ?_
              exact ab_zret dX11_isOfKind_69 rfl (nar_z h.1) h.2
            · have h := h.2
              have h := h c1 c2 c3 c4 c5 c6
              refine ab_tableOut (tgt := 70) dX11_isOfKind_1 (by have e0 := lv_neT (a := 1) c1 (by decide); have e1 := lv_neT (a := 2) c2 (by decide); have e2 := lv_neT (a := 3) c3 (by decide); have e3 := lv_neT (a := 4) c4 (by decide); have e4 := lv_neT (a := 5) c5 (by decide); have e5 := lv_neT (a := 6) c6 (by decide); omega) (by decide) ?_
              refine ab_iconst (v := 1) dX11_isOfKind_70 (by decide) ?_
              exact ab_zret dX11_isOfKind_71 rfl rfl h
theorem dX12_copy_0 : decode cX12_copy 0 = .ok (.iconst 0, 1) := by decide +kernel
theorem dX12_copy_1 : decode cX12_copy 1 = .ok (.istore_n 3, 1) := by decide +kernel
theorem dX12_copy_2 : decode cX12_copy 2 = .ok (.iload_n 3, 1) := by decide +kernel
theorem dX12_copy_3 : decode cX12_copy 3 = .ok (.aload_n 2, 1) := by decide +kernel
theorem dX12_copy_4 : decode cX12_copy 4 = .ok (.arraylength, 1) := by decide +kernel
theorem dX12_copy_5 : decode cX12_copy 5 = .ok (.if_icmp .ge 15, 3) := by decide +kernel
theorem dX12_copy_8 : decode cX12_copy 8 = .ok (.aload_n 2, 1) := by decide +kernel
theorem dX12_copy_9 : decode cX12_copy 9 = .ok (.iload_n 3, 1) := by decide +kernel
theorem dX12_copy_10 : decode cX12_copy 10 = .ok (.aload_n 1, 1) := by decide +kernel
theorem dX12_copy_11 : decode cX12_copy 11 = .ok (.iload_n 3, 1) := by decide +kernel
theorem dX12_copy_12 : decode cX12_copy 12 = .ok (.iaload, 1) := by decide +kernel
theorem dX12_copy_13 : decode cX12_copy 13 = .ok (.iastore, 1) := by decide +kernel
theorem dX12_copy_14 : decode cX12_copy 14 = .ok (.iinc 3 1, 3) := by decide +kernel
theorem dX12_copy_17 : decode cX12_copy 17 = .ok (.goto (-15), 3) := by decide +kernel
theorem dX12_copy_20 : decode cX12_copy 20 = .ok (.return_, 1) := by decide +kernel
def LX12_copy_2 (D : GD) (d : Nat) (v1 : Nat) (v2 : Nat) (v3 : Int32) (M : Mm) (post : Option Value → Mm → Prop) : Prop := AW D d 0 0 mX12_copy 0 0 2 [(1, .ref v1), (2, .ref v2), (3, .int v3)] [] M post
set_option maxRecDepth 20000 in
theorem rX12_copy (D : GD) (d : Nat) (n : Nat) (a1 : Nat) (a2 : Nat) (M : Mm) (post : Option Value → Mm → Prop) (hL : Lay 62 98 M) (sa1 : Sh M a1 (1, n)) (sa2 : Sh M a2 (1, n))
    (h : LX12_copy_2 D d a1 a2 (0 : Int32) M post) :
    AM D d 0 0 mX12_copy [.ref 62, .ref a1, .ref a2] M post := by
  refine AM.of (by decide) (Nat.le_of_ble_eq_true rfl) ?_
  show AW D d 0 0 mX12_copy 0 0 0 [(0, .ref 62), (1, .ref a1), (2, .ref a2)] [] M post
  refine ab_iconst (v := 0) dX12_copy_0 (by decide) ?_
  refine ab_istore_n (lv1 := [(3, .int (0 : Int32)), (0, .ref 62), (1, .ref a1), (2, .ref a2)]) dX12_copy_1 (by decide) rfl ?_
  exact ab_sub [2, 3, 0] rfl h
set_option maxRecDepth 20000 in
theorem rX12_copy_2 (D : GD) (d : Nat) (n : Nat) (v1 : Nat) (v2 : Nat) (v3 : Int32) (M : Mm) (post : Option Value → Mm → Prop) (hL : Lay 62 98 M) (sv1 : Sh M v1 (1, n)) (sv2 : Sh M v2 (1, n))
    (h : (((Int32.ofNat n) ≤ v3 → post none M) ∧ (¬ (Int32.ofNat n) ≤ v3 → vp_in v3 n ∧ ∀ M3 : Mm, M3 = sI M v2 v3.toNatClampNeg (gI M v1 v3.toNatClampNeg) → ∀ x7 : Int32, x7 = v3 + (1 : Int32) → LX12_copy_2 D d v1 v2 x7 M3 post))) :
    LX12_copy_2 D d v1 v2 v3 M post := by
  show AW D d 0 0 mX12_copy 0 0 2 [(1, .ref v1), (2, .ref v2), (3, .int v3)] [] M post
  refine ab_iload_n 2 dX12_copy_2 rfl ?_
  refine ab_aload_n 1 dX12_copy_3 rfl ?_
  refine ab_alenv (t := 1) (n := n) (v := Int32.ofNat n) dX12_copy_4 (sv2.of (Sm.refl M)) (by decide) (by decide) rfl ?_
  refine ab_icmp_ge (tgt := 20) dX12_copy_5 (by decide) (fun c1 => ?_) (fun c1 => ?_)
  · have h := h.1 c1
    exact ab_vret dX12_copy_20 rfl h
  · have h := h.2 c1
    refine ab_aload_n 1 dX12_copy_8 rfl ?_
    refine ab_iload_n 2 dX12_copy_9 rfl ?_
    refine ab_aload_n 0 dX12_copy_10 rfl ?_
    refine ab_iload_n 2 dX12_copy_11 rfl ?_
    have hb2 := h.1
    have h := h.2
    refine ab_ialdj (j := v3.toNatClampNeg) dX12_copy_12 (sv1.of (Sm.refl M)) hb2 rfl ?_
    refine ab_iastj (j := v3.toNatClampNeg) dX12_copy_13 (sv2.of (Sm.refl M)) hb2 rfl ?_
    refine ab_nameM (fun M3 hM3 => ?_)
    have h := h M3 hM3
    have hs6 : Sm M M3 := hM3 ▸ (Sm.refl _).i
    have hm4 : Sm M M3 := (Sm.refl M).trans hs6
    have hl5 := hL.of hm4
    obtain ⟨x7, hx7⟩ : ∃ y : Int32, y = v3 + (1 : Int32) := ⟨_, rfl⟩
    have h := h x7 hx7
    refine ab_iinc (v := x7) 2 (lv1 := [(3, .int x7), (1, .ref v1), (2, .ref v2)]) dX12_copy_14 rfl (by rw [hx7]; rfl) (by decide) rfl ?_
    refine ab_goto (tgt := 2) dX12_copy_17 (by decide) ?_
    exact ab_sub [1, 2, 0] rfl h
theorem dX2_weigh_0 : decode cX2_weigh 0 = .ok (.aload_n 2, 1) := by decide +kernel
theorem dX2_weigh_1 : decode cX2_weigh 1 = .ok (.iconst 0, 1) := by decide +kernel
theorem dX2_weigh_2 : decode cX2_weigh 2 = .ok (.aload_n 1, 1) := by decide +kernel
theorem dX2_weigh_3 : decode cX2_weigh 3 = .ok (.iconst 0, 1) := by decide +kernel
theorem dX2_weigh_4 : decode cX2_weigh 4 = .ok (.iconst 3, 1) := by decide +kernel
theorem dX2_weigh_5 : decode cX2_weigh 5 = .ok (.invokestatic 9, 3) := by decide +kernel
theorem dX2_weigh_8 : decode cX2_weigh 8 = .ok (.return_, 1) := by decide +kernel
set_option maxRecDepth 20000 in
theorem rX2_weigh (D : GD) (d : Nat) (a0 c j : Nat) (a1 : Nat) (a2 : Nat) (a3 : Int32) (a4 : Int32) (M : Mm) (post : Option Value → Mm → Prop) (hL : Lay 0 0 M) (hp : Pl M a0 c j) (hc : c = 2 ∨ c = 3 ∨ c = 8) (sa1 : Sh M a1 (1, 4)) (sa2 : Sh M a2 (1, 3))
    (h : ∀ M1 : Mm, M1 = rI M a1 (va_cpy (gI M a2) (gI M a1) 0 0 3) → post none M1) :
    AM D (d + 1) 0 0 mX2_weigh [.ref a0, .ref a1, .ref a2, .int a3, .int a4] M post := by
  refine AM.of (by decide) (Nat.le_of_ble_eq_true rfl) ?_
  show AW D (d + 1) 0 0 mX2_weigh 0 0 0 [(0, .ref a0), (1, .ref a1), (2, .ref a2), (3, .int a3), (4, .int a4)] [] M post
  refine ab_aload_n 2 dX2_weigh_0 rfl ?_
  refine ab_iconst (v := 0) dX2_weigh_1 (by decide) ?_
  refine ab_aload_n 1 dX2_weigh_2 rfl ?_
  refine ab_iconst (v := 0) dX2_weigh_3 (by decide) ?_
  refine ab_iconst (v := 3) dX2_weigh_4 (by decide) ?_
  refine ab_acopyI (st := []) dX2_weigh_5 w_642 w_439 w_438 w_91 (sa2.of (Sm.refl M)) (sa1.of (Sm.refl M)) (by decide) (by decide) (by decide) (by decide) (by decide) (Nat.le_of_ble_eq_true rfl) (Nat.succ_le_succ (Nat.zero_le _)) ?_
  refine ab_nameM (fun M1 hM1 => ?_)
  have h := h M1 hM1
  have hs4 : Sm M M1 := hM1 ▸ (Sm.refl _).ri
  have hm2 : Sm M M1 := (Sm.refl M).trans hs4
  have hl3 := hL.of hm2
  have hp5 := hp.of hs4
  exact ab_vret dX2_weigh_8 rfl h
theorem dX2_looks_0 : decode cX2_looks 0 = .ok (.aload_n 0, 1) := by decide +kernel
theorem dX2_looks_1 : decode cX2_looks 1 = .ok (.bipush 30, 2) := by decide +kernel
theorem dX2_looks_3 : decode cX2_looks 3 = .ok (.invokevirtual 15, 3) := by decide +kernel
theorem dX2_looks_6 : decode cX2_looks 6 = .ok (.aload_n 0, 1) := by decide +kernel
theorem dX2_looks_7 : decode cX2_looks 7 = .ok (.iload_n 1, 1) := by decide +kernel
theorem dX2_looks_8 : decode cX2_looks 8 = .ok (.iconst 3, 1) := by decide +kernel
theorem dX2_looks_9 : decode cX2_looks 9 = .ok (.imul, 1) := by decide +kernel
theorem dX2_looks_10 : decode cX2_looks 10 = .ok (.invokespecial 21, 3) := by decide +kernel
theorem dX2_looks_13 : decode cX2_looks 13 = .ok (.ireturn, 1) := by decide +kernel
set_option maxRecDepth 20000 in
theorem rX2_looks (D : GD) (d : Nat) (a0 c j : Nat) (a1 : Int32) (M : Mm) (post : Option Value → Mm → Prop) (hL : Lay 0 0 M) (hp : Pl M a0 c j) (hc : c = 2 ∨ c = 3 ∨ c = 8)
    (h : AMv D d (vm_begin c) [.ref a0, .int (30 : Int32)] M (fun M1 => AMi D d mX5_looks [.ref a0, .int (a1 * (3 : Int32))] M1 (fun x9 M8 => post (some (.int x9)) M8))) :
    AM D (d + 1) 0 0 mX2_looks [.ref a0, .int a1] M post := by
  refine AM.of (by decide) (Nat.le_of_ble_eq_true rfl) ?_
  show AW D (d + 1) 0 0 mX2_looks 0 0 0 [(0, .ref a0), (1, .int a1)] [] M post
  refine ab_aload_n 0 dX2_looks_0 rfl ?_
  refine ab_bipush (v := 30) dX2_looks_1 (by decide) ?_
  refine vc_2_15 (d' := d) (vs := [.int (30 : Int32)]) (st := []) rfl hc dX2_looks_3 hp.1 rfl rfl (Nat.le_of_ble_eq_true rfl) (Nat.le_refl _) (AM.mono h (fun r M1 ⟨hr3, hc4, h⟩ => ?_))
  subst hr3
  refine ab_rv ?_
  have hm5 : Sm M M1 := (Sm.refl M).trans hc4
  have hl6 := hL.of hm5
  have hp7 := hp.of hc4
  refine ab_aload_n 0 dX2_looks_6 rfl ?_
  refine ab_iload_n 1 dX2_looks_7 rfl ?_
  refine ab_iconst (v := 3) dX2_looks_8 (by decide) ?_
  refine ab_imul dX2_looks_9 ?_
  refine ab_callSU (c0 := c) (mc' := 0) (ms' := 0) (d' := d) (vs := [.int (a1 * (3 : Int32))]) (st := []) dX2_looks_10 ⟨cw_X5_looks, w_871⟩ w_859 w_504 w_857 (by decide) hp7.2.1.lt hp7.1.1 hp7.1.2 rfl rfl (Nat.le_of_ble_eq_true rfl) (Nat.le_refl _) (Nat.zero_le _) (Nat.zero_le _) (AM.mono h (fun r M8 ⟨x9, hr10, hc11, h⟩ => ?_))
  subst hr10
  refine ab_rs ?_
  have hm12 : Sm M M8 := hm5.trans hc11
  have hl13 := hL.of hm12
  have hp14 := hp7.of hc11
  exact ab_iret dX2_looks_13 rfl h
theorem dX3_heeds_0 : decode cX3_heeds 0 = .ok (.iconst 1, 1) := by decide +kernel
theorem dX3_heeds_1 : decode cX3_heeds 1 = .ok (.ireturn, 1) := by decide +kernel
set_option maxRecDepth 20000 in
theorem rX3_heeds (D : GD) (d : Nat) (a0 c j : Nat) (M : Mm) (post : Option Value → Mm → Prop) (hL : Lay 0 0 M) (hp : Pl M a0 c j) (hc : c = 3)
    (h : post (some (.int (1 : Int32))) M) :
    AM D d 0 0 mX3_heeds [.ref a0] M post := by
  refine AM.of (by decide) (Nat.le_of_ble_eq_true rfl) ?_
  show AW D d 0 0 mX3_heeds 0 0 0 [(0, .ref a0)] [] M post
  refine ab_iconst (v := 1) dX3_heeds_0 (by decide) ?_
  exact ab_zret dX3_heeds_1 rfl rfl h
theorem dX3_weigh_0 : decode cX3_weigh 0 = .ok (.iload 4, 2) := by decide +kernel
theorem dX3_weigh_2 : decode cX3_weigh 2 = .ok (.invokestatic 7, 3) := by decide +kernel
theorem dX3_weigh_5 : decode cX3_weigh 5 = .ok (.ifCond .eq 16, 3) := by decide +kernel
theorem dX3_weigh_8 : decode cX3_weigh 8 = .ok (.aload_n 1, 1) := by decide +kernel
theorem dX3_weigh_9 : decode cX3_weigh 9 = .ok (.iconst 0, 1) := by decide +kernel
theorem dX3_weigh_10 : decode cX3_weigh 10 = .ok (.invokestatic 13, 3) := by decide +kernel
theorem dX3_weigh_13 : decode cX3_weigh 13 = .ok (.aload_n 1, 1) := by decide +kernel
theorem dX3_weigh_14 : decode cX3_weigh 14 = .ok (.iload 4, 2) := by decide +kernel
theorem dX3_weigh_16 : decode cX3_weigh 16 = .ok (.iconst 1, 1) := by decide +kernel
theorem dX3_weigh_17 : decode cX3_weigh 17 = .ok (.iastore, 1) := by decide +kernel
theorem dX3_weigh_18 : decode cX3_weigh 18 = .ok (.goto 12, 3) := by decide +kernel
theorem dX3_weigh_21 : decode cX3_weigh 21 = .ok (.aload_n 0, 1) := by decide +kernel
theorem dX3_weigh_22 : decode cX3_weigh 22 = .ok (.aload_n 1, 1) := by decide +kernel
theorem dX3_weigh_23 : decode cX3_weigh 23 = .ok (.aload_n 2, 1) := by decide +kernel
theorem dX3_weigh_24 : decode cX3_weigh 24 = .ok (.iload_n 3, 1) := by decide +kernel
theorem dX3_weigh_25 : decode cX3_weigh 25 = .ok (.iload 4, 2) := by decide +kernel
theorem dX3_weigh_27 : decode cX3_weigh 27 = .ok (.invokespecial 19, 3) := by decide +kernel
theorem dX3_weigh_30 : decode cX3_weigh 30 = .ok (.return_, 1) := by decide +kernel
set_option maxRecDepth 20000 in
theorem rX3_weigh (D : GD) (d : Nat) (a0 c j : Nat) (a1 : Nat) (a2 : Nat) (a3 : Int32) (a4 : Int32) (M : Mm) (post : Option Value → Mm → Prop) (hL : Lay 0 0 M) (hp : Pl M a0 c j) (hc : c = 3) (sa1 : Sh M a1 (1, 4)) (sa2 : Sh M a2 (1, 3))
    (h : AMi D d mX11_isSide [.int a4] M (fun x2 M1 => ((x2 = 0 → AMv D d mX2_weigh [.ref a0, .ref a1, .ref a2, .int a3, .int a4] M1 (fun M9 => post none M9)) ∧ (¬ x2 = 0 → AMv D d mJ7_fill_53178 [.ref a1, .int (0 : Int32)] M1 (fun M16 => vp_in a4 4 ∧ ∀ M24 : Mm, M24 = sI M16 a1 a4.toNatClampNeg (1 : Int32) → post none M24))))) :
    AM D (d + 1) 0 0 mX3_weigh [.ref a0, .ref a1, .ref a2, .int a3, .int a4] M post := by
  refine AM.of (by decide) (Nat.le_of_ble_eq_true rfl) ?_
  show AW D (d + 1) 0 0 mX3_weigh 0 0 0 [(0, .ref a0), (1, .ref a1), (2, .ref a2), (3, .int a3), (4, .int a4)] [] M post
  refine ab_iload 4 dX3_weigh_0 rfl ?_
  refine ab_callSN (d' := d) (mc' := 0) (ms' := 0) (vs := [.int a4]) (st := []) dX3_weigh_2 cw_X11_isSide w_646 w_319 rfl rfl (Nat.le_of_ble_eq_true rfl) (Nat.le_refl _) (Nat.zero_le _) (Nat.zero_le _) (AM.mono h (fun r M1 ⟨x2, hr3, hc4, h⟩ => ?_))
  subst hr3
  refine ab_rs ?_
  have hm5 : Sm M M1 := (Sm.refl M).trans hc4
  have hl6 := hL.of hm5
  have hp7 := hp.of hc4
  refine ab_if_eq (tgt := 21) dX3_weigh_5 (by decide) (fun c8 => ?_) (fun c8 => ?_)
  · have h := h.1 c8
    refine ab_aload_n 0 dX3_weigh_21 rfl ?_
    refine ab_aload_n 1 dX3_weigh_22 rfl ?_
    refine ab_aload_n 2 dX3_weigh_23 rfl ?_
    refine ab_iload_n 3 dX3_weigh_24 rfl ?_
    refine ab_iload 4 dX3_weigh_25 rfl ?_
    refine ab_callSU (c0 := c) (mc' := 0) (ms' := 0) (d' := d) (vs := [.ref a1, .ref a2, .int a3, .int a4]) (st := []) dX3_weigh_27 ⟨cw_X2_weigh, w_648⟩ w_1528 w_543 w_640 (by decide) hp7.2.1.lt hp7.1.1 hp7.1.2 rfl rfl (Nat.le_of_ble_eq_true rfl) (Nat.le_refl _) (Nat.zero_le _) (Nat.zero_le _) (AM.mono h (fun r M9 ⟨hr11, hc12, h⟩ => ?_))
    subst hr11
    refine ab_rv ?_
    have hm13 : Sm M M9 := hm5.trans hc12
    have hl14 := hL.of hm13
    have hp15 := hp7.of hc12
    exact ab_vret dX3_weigh_30 rfl h
  · have h := h.2 c8
    refine ab_aload_n 1 dX3_weigh_8 rfl ?_
    refine ab_iconst (v := 0) dX3_weigh_9 (by decide) ?_
    refine ab_callS (d' := d) (mc' := 0) (ms' := 0) (vs := [.ref a1, .int (0 : Int32)]) (st := []) dX3_weigh_10 ⟨cw_J7_fill_53178, w_647⟩ w_150 rfl rfl (Nat.le_of_ble_eq_true rfl) (Nat.le_refl _) (Nat.zero_le _) (Nat.zero_le _) (AM.mono h (fun r M16 ⟨hr18, hc19, h⟩ => ?_))
    subst hr18
    refine ab_rv ?_
    have hm20 : Sm M M16 := hm5.trans hc19
    have hl21 := hL.of hm20
    have hp22 := hp7.of hc19
    refine ab_aload_n 1 dX3_weigh_13 rfl ?_
    refine ab_iload 4 dX3_weigh_14 rfl ?_
    refine ab_iconst (v := 1) dX3_weigh_16 (by decide) ?_
    have hb23 := h.1
    have h := h.2
    refine ab_iastj (j := a4.toNatClampNeg) dX3_weigh_17 (sa1.of hm20) hb23 rfl ?_
    refine ab_nameM (fun M24 hM24 => ?_)
    have h := h M24 hM24
    have hs27 : Sm M16 M24 := hM24 ▸ (Sm.refl _).i
    have hm25 : Sm M M24 := hm20.trans hs27
    have hl26 := hL.of hm25
    have hp28 := hp22.of hs27
    refine ab_goto (tgt := 30) dX3_weigh_18 (by decide) ?_
    exact ab_vret dX3_weigh_30 rfl h
theorem dX3_tells_0 : decode cX3_tells 0 = .ok (.aload_n 0, 1) := by decide +kernel
theorem dX3_tells_1 : decode cX3_tells 1 = .ok (.bipush 60, 2) := by decide +kernel
theorem dX3_tells_3 : decode cX3_tells 3 = .ok (.invokevirtual 23, 3) := by decide +kernel
theorem dX3_tells_6 : decode cX3_tells 6 = .ok (.aload_n 0, 1) := by decide +kernel
theorem dX3_tells_7 : decode cX3_tells 7 = .ok (.iload_n 1, 1) := by decide +kernel
theorem dX3_tells_8 : decode cX3_tells 8 = .ok (.aload_n 0, 1) := by decide +kernel
theorem dX3_tells_9 : decode cX3_tells 9 = .ok (.getfield 29, 3) := by decide +kernel
theorem dX3_tells_12 : decode cX3_tells 12 = .ok (.isub, 1) := by decide +kernel
theorem dX3_tells_13 : decode cX3_tells 13 = .ok (.invokespecial 33, 3) := by decide +kernel
theorem dX3_tells_16 : decode cX3_tells 16 = .ok (.ireturn, 1) := by decide +kernel
set_option maxRecDepth 20000 in
theorem rX3_tells (D : GD) (d : Nat) (a0 c j : Nat) (a1 : Int32) (M : Mm) (post : Option Value → Mm → Prop) (hL : Lay 0 0 M) (hp : Pl M a0 c j) (hc : c = 3)
    (h : AMv D d (vm_begin c) [.ref a0, .int (60 : Int32)] M (fun M1 => AMi D d mX5_tells [.ref a0, .int (a1 - (gI M1 a0 1))] M1 (fun x9 M8 => post (some (.int x9)) M8))) :
    AM D (d + 1) 0 0 mX3_tells [.ref a0, .int a1] M post := by
  refine AM.of (by decide) (Nat.le_of_ble_eq_true rfl) ?_
  show AW D (d + 1) 0 0 mX3_tells 0 0 0 [(0, .ref a0), (1, .int a1)] [] M post
  refine ab_aload_n 0 dX3_tells_0 rfl ?_
  refine ab_bipush (v := 60) dX3_tells_1 (by decide) ?_
  refine vc_3_23 (d' := d) (vs := [.int (60 : Int32)]) (st := []) rfl hc dX3_tells_3 hp.1 rfl rfl (Nat.le_of_ble_eq_true rfl) (Nat.le_refl _) (AM.mono h (fun r M1 ⟨hr3, hc4, h⟩ => ?_))
  subst hr3
  refine ab_rv ?_
  have hm5 : Sm M M1 := (Sm.refl M).trans hc4
  have hl6 := hL.of hm5
  have hp7 := hp.of hc4
  refine ab_aload_n 0 dX3_tells_6 rfl ?_
  refine ab_iload_n 1 dX3_tells_7 rfl ?_
  refine ab_aload_n 0 dX3_tells_8 rfl ?_
  refine ab_getI dX3_tells_9 (pf_3_29 hc).1 (pf_3_29 hc).2 hp7.1.1 hp7.1.2 ?_
  refine ab_isub dX3_tells_12 ?_
  refine ab_callSX (c0 := c) (x := ⟨RX2, "tells", "(I)I"⟩) (mc' := 0) (ms' := 0) (d' := d) (vs := [.int (a1 - (gI M1 a0 1))]) (st := []) dX3_tells_13 cw_X5_tells w_931 w_932 w_543 w_504 rfl w_921 (by decide) hp7.2.1.lt hp7.1.1 hp7.1.2 rfl rfl (Nat.le_of_ble_eq_true rfl) (Nat.le_refl _) (Nat.zero_le _) (Nat.zero_le _) (AM.mono h (fun r M8 ⟨x9, hr10, hc11, h⟩ => ?_))
  subst hr10
  refine ab_rs ?_
  have hm12 : Sm M M8 := hm5.trans hc11
  have hl13 := hL.of hm12
  have hp14 := hp7.of hc11
  exact ab_iret dX3_tells_16 rfl h
theorem dX4_weigh_0 : decode cX4_weigh 0 = .ok (.aload_n 0, 1) := by decide +kernel
theorem dX4_weigh_1 : decode cX4_weigh 1 = .ok (.getfield 9, 3) := by decide +kernel
theorem dX4_weigh_4 : decode cX4_weigh 4 = .ok (.ifCond .lt 22, 3) := by decide +kernel
theorem dX4_weigh_7 : decode cX4_weigh 7 = .ok (.aload_n 0, 1) := by decide +kernel
theorem dX4_weigh_8 : decode cX4_weigh 8 = .ok (.getfield 9, 3) := by decide +kernel
theorem dX4_weigh_11 : decode cX4_weigh 11 = .ok (.iconst 3, 1) := by decide +kernel
theorem dX4_weigh_12 : decode cX4_weigh 12 = .ok (.if_icmp .ge 14, 3) := by decide +kernel
theorem dX4_weigh_15 : decode cX4_weigh 15 = .ok (.aload_n 1, 1) := by decide +kernel
theorem dX4_weigh_16 : decode cX4_weigh 16 = .ok (.aload_n 0, 1) := by decide +kernel
theorem dX4_weigh_17 : decode cX4_weigh 17 = .ok (.getfield 9, 3) := by decide +kernel
theorem dX4_weigh_20 : decode cX4_weigh 20 = .ok (.dup2, 1) := by decide +kernel
theorem dX4_weigh_21 : decode cX4_weigh 21 = .ok (.iaload, 1) := by decide +kernel
theorem dX4_weigh_22 : decode cX4_weigh 22 = .ok (.bipush 30, 2) := by decide +kernel
theorem dX4_weigh_24 : decode cX4_weigh 24 = .ok (.iadd, 1) := by decide +kernel
theorem dX4_weigh_25 : decode cX4_weigh 25 = .ok (.iastore, 1) := by decide +kernel
theorem dX4_weigh_26 : decode cX4_weigh 26 = .ok (.return_, 1) := by decide +kernel
set_option maxRecDepth 20000 in
theorem rX4_weigh (D : GD) (d : Nat) (a0 c j : Nat) (a1 : Nat) (a2 : Nat) (a3 : Int32) (a4 : Int32) (M : Mm) (post : Option Value → Mm → Prop) (hL : Lay 0 0 M) (hp : Pl M a0 c j) (hc : c = 4 ∨ c = 10) (sa1 : Sh M a1 (1, 4)) (sa2 : Sh M a2 (1, 3))
    (h : (((gI M a0 2) < 0 → post none M) ∧ (¬ (gI M a0 2) < 0 → (((3 : Int32) ≤ (gI M a0 2) → post none M) ∧ (¬ (3 : Int32) ≤ (gI M a0 2) → vp_in (gI M a0 2) 4 ∧ ∀ M4 : Mm, M4 = sI M a1 ((gI M a0 2).toNatClampNeg) ((gI M a1 ((gI M a0 2).toNatClampNeg)) + (30 : Int32)) → post none M4))))) :
    AM D d 0 0 mX4_weigh [.ref a0, .ref a1, .ref a2, .int a3, .int a4] M post := by
  refine AM.of (by decide) (Nat.le_of_ble_eq_true rfl) ?_
  show AW D d 0 0 mX4_weigh 0 0 0 [(0, .ref a0), (1, .ref a1), (2, .ref a2), (3, .int a3), (4, .int a4)] [] M post
  refine ab_aload_n 0 dX4_weigh_0 rfl ?_
  refine ab_getI dX4_weigh_1 (pf_4_9 hc).1 (pf_4_9 hc).2 hp.1.1 hp.1.2 ?_
  refine ab_if_lt (tgt := 26) dX4_weigh_4 (by decide) (fun c1 => ?_) (fun c1 => ?_)
  · have h := h.1 c1
    exact ab_vret dX4_weigh_26 rfl h
  · have h := h.2 c1
    refine ab_aload_n 0 dX4_weigh_7 rfl ?_
    refine ab_getI dX4_weigh_8 (pf_4_9 hc).1 (pf_4_9 hc).2 hp.1.1 hp.1.2 ?_
    refine ab_iconst (v := 3) dX4_weigh_11 (by decide) ?_
    refine ab_icmp_ge (tgt := 26) dX4_weigh_12 (by decide) (fun c2 => ?_) (fun c2 => ?_)
    · have h := h.1 c2
      exact ab_vret dX4_weigh_26 rfl h
    · have h := h.2 c2
      refine ab_aload_n 1 dX4_weigh_15 rfl ?_
      refine ab_aload_n 0 dX4_weigh_16 rfl ?_
      refine ab_getI dX4_weigh_17 (pf_4_9 hc).1 (pf_4_9 hc).2 hp.1.1 hp.1.2 ?_
      refine ab_dup2 dX4_weigh_20 rfl rfl ?_
      have hb3 := h.1
      have h := h.2
      refine ab_ialdj (j := (gI M a0 2).toNatClampNeg) dX4_weigh_21 (sa1.of (Sm.refl M)) hb3 rfl ?_
      refine ab_bipush (v := 30) dX4_weigh_22 (by decide) ?_
      refine ab_iadd dX4_weigh_24 ?_
      refine ab_iastj (j := (gI M a0 2).toNatClampNeg) dX4_weigh_25 (sa1.of (Sm.refl M)) hb3 rfl ?_
      refine ab_nameM (fun M4 hM4 => ?_)
      have h := h M4 hM4
      have hs7 : Sm M M4 := hM4 ▸ (Sm.refl _).i
      have hm5 : Sm M M4 := (Sm.refl M).trans hs7
      have hl6 := hL.of hm5
      have hp8 := hp.of hs7
      exact ab_vret dX4_weigh_26 rfl h
theorem dX4_goes_0 : decode cX4_goes 0 = .ok (.aload_n 0, 1) := by decide +kernel
theorem dX4_goes_1 : decode cX4_goes 1 = .ok (.bipush 20, 2) := by decide +kernel
theorem dX4_goes_3 : decode cX4_goes 3 = .ok (.invokevirtual 15, 3) := by decide +kernel
theorem dX4_goes_6 : decode cX4_goes 6 = .ok (.aload_n 0, 1) := by decide +kernel
theorem dX4_goes_7 : decode cX4_goes 7 = .ok (.iload_n 1, 1) := by decide +kernel
theorem dX4_goes_8 : decode cX4_goes 8 = .ok (.invokespecial 19, 3) := by decide +kernel
theorem dX4_goes_11 : decode cX4_goes 11 = .ok (.bipush 6, 2) := by decide +kernel
theorem dX4_goes_13 : decode cX4_goes 13 = .ok (.ixor, 1) := by decide +kernel
theorem dX4_goes_14 : decode cX4_goes 14 = .ok (.ireturn, 1) := by decide +kernel
set_option maxRecDepth 20000 in
theorem rX4_goes (D : GD) (d : Nat) (a0 c j : Nat) (a1 : Int32) (M : Mm) (post : Option Value → Mm → Prop) (hL : Lay 0 0 M) (hp : Pl M a0 c j) (hc : c = 4 ∨ c = 10)
    (h : AMv D d (vm_begin c) [.ref a0, .int (20 : Int32)] M (fun M1 => AMi D d mX5_goes [.ref a0, .int a1] M1 (fun x9 M8 => post (some (.int (x9 ^^^ (6 : Int32)))) M8))) :
    AM D (d + 1) 0 0 mX4_goes [.ref a0, .int a1] M post := by
  refine AM.of (by decide) (Nat.le_of_ble_eq_true rfl) ?_
  show AW D (d + 1) 0 0 mX4_goes 0 0 0 [(0, .ref a0), (1, .int a1)] [] M post
  refine ab_aload_n 0 dX4_goes_0 rfl ?_
  refine ab_bipush (v := 20) dX4_goes_1 (by decide) ?_
  refine vc_4_15 (d' := d) (vs := [.int (20 : Int32)]) (st := []) rfl hc dX4_goes_3 hp.1 rfl rfl (Nat.le_of_ble_eq_true rfl) (Nat.le_refl _) (AM.mono h (fun r M1 ⟨hr3, hc4, h⟩ => ?_))
  subst hr3
  refine ab_rv ?_
  have hm5 : Sm M M1 := (Sm.refl M).trans hc4
  have hl6 := hL.of hm5
  have hp7 := hp.of hc4
  refine ab_aload_n 0 dX4_goes_6 rfl ?_
  refine ab_iload_n 1 dX4_goes_7 rfl ?_
  refine ab_callSU (c0 := c) (mc' := 0) (ms' := 0) (d' := d) (vs := [.int a1]) (st := []) dX4_goes_8 ⟨cw_X5_goes, w_906⟩ w_896 w_491 w_894 (by decide) hp7.2.1.lt hp7.1.1 hp7.1.2 rfl rfl (Nat.le_of_ble_eq_true rfl) (Nat.le_refl _) (Nat.zero_le _) (Nat.zero_le _) (AM.mono h (fun r M8 ⟨x9, hr10, hc11, h⟩ => ?_))
  subst hr10
  refine ab_rs ?_
  have hm12 : Sm M M8 := hm5.trans hc11
  have hl13 := hL.of hm12
  have hp14 := hp7.of hc11
  refine ab_bipush (v := 6) dX4_goes_11 (by decide) ?_
  refine ab_ixor dX4_goes_13 ?_
  exact ab_iret dX4_goes_14 rfl h
theorem dX5_heeds_0 : decode cX5_heeds 0 = .ok (.iconst 0, 1) := by decide +kernel
theorem dX5_heeds_1 : decode cX5_heeds 1 = .ok (.ireturn, 1) := by decide +kernel
set_option maxRecDepth 20000 in
theorem rX5_heeds (D : GD) (d : Nat) (a0 c j : Nat) (M : Mm) (post : Option Value → Mm → Prop) (hL : Lay 0 0 M) (hp : Pl M a0 c j)
    (h : post (some (.int (0 : Int32))) M) :
    AM D d 0 0 mX5_heeds [.ref a0] M post := by
  refine AM.of (by decide) (Nat.le_of_ble_eq_true rfl) ?_
  show AW D d 0 0 mX5_heeds 0 0 0 [(0, .ref a0)] [] M post
  refine ab_iconst (v := 0) dX5_heeds_0 (by decide) ?_
  exact ab_zret dX5_heeds_1 rfl rfl h
theorem dX5_weigh_0 : decode cX5_weigh 0 = .ok (.return_, 1) := by decide +kernel
set_option maxRecDepth 20000 in
theorem rX5_weigh (D : GD) (d : Nat) (a0 c j : Nat) (a1 : Nat) (a2 : Nat) (a3 : Int32) (a4 : Int32) (M : Mm) (post : Option Value → Mm → Prop) (hL : Lay 0 0 M) (hp : Pl M a0 c j) (sa1 : Sh M a1 (1, 4)) (sa2 : Sh M a2 (1, 3))
    (h : post none M) :
    AM D d 0 0 mX5_weigh [.ref a0, .ref a1, .ref a2, .int a3, .int a4] M post := by
  refine AM.of (by decide) (Nat.le_of_ble_eq_true rfl) ?_
  show AW D d 0 0 mX5_weigh 0 0 0 [(0, .ref a0), (1, .ref a1), (2, .ref a2), (3, .int a3), (4, .int a4)] [] M post
  exact ab_vret dX5_weigh_0 rfl h
theorem dX5_looks_0 : decode cX5_looks 0 = .ok (.aload_n 0, 1) := by decide +kernel
theorem dX5_looks_1 : decode cX5_looks 1 = .ok (.bipush 10, 2) := by decide +kernel
theorem dX5_looks_3 : decode cX5_looks 3 = .ok (.invokevirtual 31, 3) := by decide +kernel
theorem dX5_looks_6 : decode cX5_looks 6 = .ok (.iload_n 1, 1) := by decide +kernel
theorem dX5_looks_7 : decode cX5_looks 7 = .ok (.aload_n 0, 1) := by decide +kernel
theorem dX5_looks_8 : decode cX5_looks 8 = .ok (.getfield 15, 3) := by decide +kernel
theorem dX5_looks_11 : decode cX5_looks 11 = .ok (.iadd, 1) := by decide +kernel
theorem dX5_looks_12 : decode cX5_looks 12 = .ok (.ireturn, 1) := by decide +kernel
set_option maxRecDepth 20000 in
theorem rX5_looks (D : GD) (d : Nat) (a0 c j : Nat) (a1 : Int32) (M : Mm) (post : Option Value → Mm → Prop) (hL : Lay 0 0 M) (hp : Pl M a0 c j)
    (h : AMv D d (vm_begin c) [.ref a0, .int (10 : Int32)] M (fun M1 => post (some (.int (a1 + (gI M1 a0 1)))) M1)) :
    AM D (d + 1) 0 0 mX5_looks [.ref a0, .int a1] M post := by
  refine AM.of (by decide) (Nat.le_of_ble_eq_true rfl) ?_
  show AW D (d + 1) 0 0 mX5_looks 0 0 0 [(0, .ref a0), (1, .int a1)] [] M post
  refine ab_aload_n 0 dX5_looks_0 rfl ?_
  refine ab_bipush (v := 10) dX5_looks_1 (by decide) ?_
  refine vc_5_31 (d' := d) (vs := [.int (10 : Int32)]) (st := []) rfl hp.2.1 dX5_looks_3 hp.1 rfl rfl (Nat.le_of_ble_eq_true rfl) (Nat.le_refl _) (AM.mono h (fun r M1 ⟨hr3, hc4, h⟩ => ?_))
  subst hr3
  refine ab_rv ?_
  have hm5 : Sm M M1 := (Sm.refl M).trans hc4
  have hl6 := hL.of hm5
  have hp7 := hp.of hc4
  refine ab_iload_n 1 dX5_looks_6 rfl ?_
  refine ab_aload_n 0 dX5_looks_7 rfl ?_
  refine ab_getI dX5_looks_8 (pf_5_15 hp7.2.1).1 (pf_5_15 hp7.2.1).2 hp7.1.1 hp7.1.2 ?_
  refine ab_iadd dX5_looks_11 ?_
  exact ab_iret dX5_looks_12 rfl h
theorem dX5_goes_0 : decode cX5_goes 0 = .ok (.aload_n 0, 1) := by decide +kernel
theorem dX5_goes_1 : decode cX5_goes 1 = .ok (.bipush 11, 2) := by decide +kernel
theorem dX5_goes_3 : decode cX5_goes 3 = .ok (.invokevirtual 31, 3) := by decide +kernel
theorem dX5_goes_6 : decode cX5_goes 6 = .ok (.aload_n 0, 1) := by decide +kernel
theorem dX5_goes_7 : decode cX5_goes 7 = .ok (.iload_n 1, 1) := by decide +kernel
theorem dX5_goes_8 : decode cX5_goes 8 = .ok (.invokevirtual 35, 3) := by decide +kernel
theorem dX5_goes_11 : decode cX5_goes 11 = .ok (.aload_n 0, 1) := by decide +kernel
theorem dX5_goes_12 : decode cX5_goes 12 = .ok (.getfield 18, 3) := by decide +kernel
theorem dX5_goes_15 : decode cX5_goes 15 = .ok (.isub, 1) := by decide +kernel
theorem dX5_goes_16 : decode cX5_goes 16 = .ok (.ireturn, 1) := by decide +kernel
set_option maxRecDepth 20000 in
theorem rX5_goes (D : GD) (d : Nat) (a0 c j : Nat) (a1 : Int32) (M : Mm) (post : Option Value → Mm → Prop) (hL : Lay 0 0 M) (hp : Pl M a0 c j)
    (h : AMv D d (vm_begin c) [.ref a0, .int (11 : Int32)] M (fun M1 => AMi D d (vm_looks c) [.ref a0, .int a1] M1 (fun x9 M8 => post (some (.int (x9 - (gI M8 a0 2)))) M8))) :
    AM D (d + 1) 0 0 mX5_goes [.ref a0, .int a1] M post := by
  refine AM.of (by decide) (Nat.le_of_ble_eq_true rfl) ?_
  show AW D (d + 1) 0 0 mX5_goes 0 0 0 [(0, .ref a0), (1, .int a1)] [] M post
  refine ab_aload_n 0 dX5_goes_0 rfl ?_
  refine ab_bipush (v := 11) dX5_goes_1 (by decide) ?_
  refine vc_5_31 (d' := d) (vs := [.int (11 : Int32)]) (st := []) rfl hp.2.1 dX5_goes_3 hp.1 rfl rfl (Nat.le_of_ble_eq_true rfl) (Nat.le_refl _) (AM.mono h (fun r M1 ⟨hr3, hc4, h⟩ => ?_))
  subst hr3
  refine ab_rv ?_
  have hm5 : Sm M M1 := (Sm.refl M).trans hc4
  have hl6 := hL.of hm5
  have hp7 := hp.of hc4
  refine ab_aload_n 0 dX5_goes_6 rfl ?_
  refine ab_iload_n 1 dX5_goes_7 rfl ?_
  refine vc_5_35 (d' := d) (vs := [.int a1]) (st := []) rfl hp7.2.1 dX5_goes_8 hp7.1 rfl rfl (Nat.le_of_ble_eq_true rfl) (Nat.le_refl _) (AM.mono h (fun r M8 ⟨x9, hr10, hc11, h⟩ => ?_))
  subst hr10
  refine ab_rs ?_
  have hm12 : Sm M M8 := hm5.trans hc11
  have hl13 := hL.of hm12
  have hp14 := hp7.of hc11
  refine ab_aload_n 0 dX5_goes_11 rfl ?_
  refine ab_getI dX5_goes_12 (pf_5_18 hp14.2.1).1 (pf_5_18 hp14.2.1).2 hp14.1.1 hp14.1.2 ?_
  refine ab_isub dX5_goes_15 ?_
  exact ab_iret dX5_goes_16 rfl h
theorem dX5_tells_0 : decode cX5_tells 0 = .ok (.aload_n 0, 1) := by decide +kernel
theorem dX5_tells_1 : decode cX5_tells 1 = .ok (.bipush 12, 2) := by decide +kernel
theorem dX5_tells_3 : decode cX5_tells 3 = .ok (.invokevirtual 31, 3) := by decide +kernel
theorem dX5_tells_6 : decode cX5_tells 6 = .ok (.aload_n 0, 1) := by decide +kernel
theorem dX5_tells_7 : decode cX5_tells 7 = .ok (.iload_n 1, 1) := by decide +kernel
theorem dX5_tells_8 : decode cX5_tells 8 = .ok (.invokevirtual 39, 3) := by decide +kernel
theorem dX5_tells_11 : decode cX5_tells 11 = .ok (.iconst 2, 1) := by decide +kernel
theorem dX5_tells_12 : decode cX5_tells 12 = .ok (.imul, 1) := by decide +kernel
theorem dX5_tells_13 : decode cX5_tells 13 = .ok (.ireturn, 1) := by decide +kernel
set_option maxRecDepth 20000 in
theorem rX5_tells (D : GD) (d : Nat) (a0 c j : Nat) (a1 : Int32) (M : Mm) (post : Option Value → Mm → Prop) (hL : Lay 0 0 M) (hp : Pl M a0 c j)
    (h : AMv D d (vm_begin c) [.ref a0, .int (12 : Int32)] M (fun M1 => AMi D d (vm_goes c) [.ref a0, .int a1] M1 (fun x9 M8 => post (some (.int (x9 * (2 : Int32)))) M8))) :
    AM D (d + 1) 0 0 mX5_tells [.ref a0, .int a1] M post := by
  refine AM.of (by decide) (Nat.le_of_ble_eq_true rfl) ?_
  show AW D (d + 1) 0 0 mX5_tells 0 0 0 [(0, .ref a0), (1, .int a1)] [] M post
  refine ab_aload_n 0 dX5_tells_0 rfl ?_
  refine ab_bipush (v := 12) dX5_tells_1 (by decide) ?_
  refine vc_5_31 (d' := d) (vs := [.int (12 : Int32)]) (st := []) rfl hp.2.1 dX5_tells_3 hp.1 rfl rfl (Nat.le_of_ble_eq_true rfl) (Nat.le_refl _) (AM.mono h (fun r M1 ⟨hr3, hc4, h⟩ => ?_))
  subst hr3
  refine ab_rv ?_
  have hm5 : Sm M M1 := (Sm.refl M).trans hc4
  have hl6 := hL.of hm5
  have hp7 := hp.of hc4
  refine ab_aload_n 0 dX5_tells_6 rfl ?_
  refine ab_iload_n 1 dX5_tells_7 rfl ?_
  refine vc_5_39 (d' := d) (vs := [.int a1]) (st := []) rfl hp7.2.1 dX5_tells_8 hp7.1 rfl rfl (Nat.le_of_ble_eq_true rfl) (Nat.le_refl _) (AM.mono h (fun r M8 ⟨x9, hr10, hc11, h⟩ => ?_))
  subst hr10
  refine ab_rs ?_
  have hm12 : Sm M M8 := hm5.trans hc11
  have hl13 := hL.of hm12
  have hp14 := hp7.of hc11
  refine ab_iconst (v := 2) dX5_tells_11 (by decide) ?_
  refine ab_imul dX5_tells_12 ?_
  exact ab_iret dX5_tells_13 rfl h
theorem dX5_begin_0 : decode cX5_begin 0 = .ok (.aload_n 0, 1) := by decide +kernel
theorem dX5_begin_1 : decode cX5_begin 1 = .ok (.getfield 28, 3) := by decide +kernel
theorem dX5_begin_4 : decode cX5_begin 4 = .ok (.iconst 0, 1) := by decide +kernel
theorem dX5_begin_5 : decode cX5_begin 5 = .ok (.iaload, 1) := by decide +kernel
theorem dX5_begin_6 : decode cX5_begin 6 = .ok (.ifCond .lt 28, 3) := by decide +kernel
theorem dX5_begin_9 : decode cX5_begin 9 = .ok (.aload_n 0, 1) := by decide +kernel
theorem dX5_begin_10 : decode cX5_begin 10 = .ok (.getfield 28, 3) := by decide +kernel
theorem dX5_begin_13 : decode cX5_begin 13 = .ok (.iconst 0, 1) := by decide +kernel
theorem dX5_begin_14 : decode cX5_begin 14 = .ok (.iaload, 1) := by decide +kernel
theorem dX5_begin_15 : decode cX5_begin 15 = .ok (.bipush 20, 2) := by decide +kernel
theorem dX5_begin_17 : decode cX5_begin 17 = .ok (.if_icmp .ge 17, 3) := by decide +kernel
theorem dX5_begin_20 : decode cX5_begin 20 = .ok (.aload_n 0, 1) := by decide +kernel
theorem dX5_begin_21 : decode cX5_begin 21 = .ok (.getfield 28, 3) := by decide +kernel
theorem dX5_begin_24 : decode cX5_begin 24 = .ok (.iconst 1, 1) := by decide +kernel
theorem dX5_begin_25 : decode cX5_begin 25 = .ok (.aload_n 0, 1) := by decide +kernel
theorem dX5_begin_26 : decode cX5_begin 26 = .ok (.getfield 28, 3) := by decide +kernel
theorem dX5_begin_29 : decode cX5_begin 29 = .ok (.iconst 0, 1) := by decide +kernel
theorem dX5_begin_30 : decode cX5_begin 30 = .ok (.iaload, 1) := by decide +kernel
theorem dX5_begin_31 : decode cX5_begin 31 = .ok (.iadd, 1) := by decide +kernel
theorem dX5_begin_32 : decode cX5_begin 32 = .ok (.iload_n 1, 1) := by decide +kernel
theorem dX5_begin_33 : decode cX5_begin 33 = .ok (.iastore, 1) := by decide +kernel
theorem dX5_begin_34 : decode cX5_begin 34 = .ok (.aload_n 0, 1) := by decide +kernel
theorem dX5_begin_35 : decode cX5_begin 35 = .ok (.getfield 28, 3) := by decide +kernel
theorem dX5_begin_38 : decode cX5_begin 38 = .ok (.iconst 0, 1) := by decide +kernel
theorem dX5_begin_39 : decode cX5_begin 39 = .ok (.dup2, 1) := by decide +kernel
theorem dX5_begin_40 : decode cX5_begin 40 = .ok (.iaload, 1) := by decide +kernel
theorem dX5_begin_41 : decode cX5_begin 41 = .ok (.iconst 1, 1) := by decide +kernel
theorem dX5_begin_42 : decode cX5_begin 42 = .ok (.iadd, 1) := by decide +kernel
theorem dX5_begin_43 : decode cX5_begin 43 = .ok (.iastore, 1) := by decide +kernel
theorem dX5_begin_44 : decode cX5_begin 44 = .ok (.return_, 1) := by decide +kernel
set_option maxRecDepth 20000 in
theorem rX5_begin (D : GD) (d : Nat) (a0 c j : Nat) (a1 : Int32) (M : Mm) (post : Option Value → Mm → Prop) (hL : Lay 46 47 M) (hp : Pl M a0 c j)
    (h : (((gI M 46 0) < 0 → ∀ M2 : Mm, M2 = sI M 46 0 ((gI M 46 0) + (1 : Int32)) → post none M2) ∧ (¬ (gI M 46 0) < 0 → (((20 : Int32) ≤ (gI M 46 0) → ∀ M8 : Mm, M8 = sI M 46 0 ((gI M 46 0) + (1 : Int32)) → post none M8) ∧ (¬ (20 : Int32) ≤ (gI M 46 0) → vp_in ((1 : Int32) + (gI M 46 0)) 21 ∧ ∀ M14 : Mm, M14 = sI M 46 (((1 : Int32) + (gI M 46 0)).toNatClampNeg) a1 → ∀ M19 : Mm, M19 = sI M14 46 0 ((gI M14 46 0) + (1 : Int32)) → post none M19))))) :
    AM D d 0 0 mX5_begin [.ref a0, .int a1] M post := by
  refine AM.of (by decide) (Nat.le_of_ble_eq_true rfl) ?_
  show AW D d 0 0 mX5_begin 0 0 0 [(0, .ref a0), (1, .int a1)] [] M post
  refine ab_aload_n 0 dX5_begin_0 rfl ?_
  refine ab_getP (r := 46) dX5_begin_1 (pf_5_28 hp.2.1).1 (pf_5_28 hp.2.1).2 hp.1.1 hp.1.2 hp.2.2.1 ?_
  refine ab_iconst (v := 0) dX5_begin_4 (by decide) ?_
  refine ab_ialdj (j := 0) dX5_begin_5 (hL.sh 46 rfl (by decide) (by decide)) (vin (by decide)) (by decide) ?_
  refine ab_if_lt (tgt := 34) dX5_begin_6 (by decide) (fun c1 => ?_) (fun c1 => ?_)
  · have h := h.1 c1
    refine ab_aload_n 0 dX5_begin_34 rfl ?_
    refine ab_getP (r := 46) dX5_begin_35 (pf_5_28 hp.2.1).1 (pf_5_28 hp.2.1).2 hp.1.1 hp.1.2 hp.2.2.1 ?_
    refine ab_iconst (v := 0) dX5_begin_38 (by decide) ?_
    refine ab_dup2 dX5_begin_39 rfl rfl ?_
    refine ab_ialdj (j := 0) dX5_begin_40 (hL.sh 46 rfl (by decide) (by decide)) (vin (by decide)) (by decide) ?_
    refine ab_iconst (v := 1) dX5_begin_41 (by decide) ?_
    refine ab_iadd dX5_begin_42 ?_
    refine ab_iastj (j := 0) dX5_begin_43 (hL.sh 46 rfl (by decide) (by decide)) (vin (by decide)) (by decide) ?_
    refine ab_nameM (fun M2 hM2 => ?_)
    have h := h M2 hM2
    have hs5 : Sm M M2 := hM2 ▸ (Sm.refl _).i
    have hm3 : Sm M M2 := (Sm.refl M).trans hs5
    have hl4 := hL.of hm3
    have hp6 := hp.of hs5
    exact ab_vret dX5_begin_44 rfl h
  · have h := h.2 c1
    refine ab_aload_n 0 dX5_begin_9 rfl ?_
    refine ab_getP (r := 46) dX5_begin_10 (pf_5_28 hp.2.1).1 (pf_5_28 hp.2.1).2 hp.1.1 hp.1.2 hp.2.2.1 ?_
    refine ab_iconst (v := 0) dX5_begin_13 (by decide) ?_
    refine ab_ialdj (j := 0) dX5_begin_14 (hL.sh 46 rfl (by decide) (by decide)) (vin (by decide)) (by decide) ?_
    refine ab_bipush (v := 20) dX5_begin_15 (by decide) ?_
    refine ab_icmp_ge (tgt := 34) dX5_begin_17 (by decide) (fun c7 => ?_) (fun c7 => ?_)
    · have h := h.1 c7
      refine ab_aload_n 0 dX5_begin_34 rfl ?_
      refine ab_getP (r := 46) dX5_begin_35 (pf_5_28 hp.2.1).1 (pf_5_28 hp.2.1).2 hp.1.1 hp.1.2 hp.2.2.1 ?_
      refine ab_iconst (v := 0) dX5_begin_38 (by decide) ?_
      refine ab_dup2 dX5_begin_39 rfl rfl ?_
      refine ab_ialdj (j := 0) dX5_begin_40 (hL.sh 46 rfl (by decide) (by decide)) (vin (by decide)) (by decide) ?_
      refine ab_iconst (v := 1) dX5_begin_41 (by decide) ?_
      refine ab_iadd dX5_begin_42 ?_
      refine ab_iastj (j := 0) dX5_begin_43 (hL.sh 46 rfl (by decide) (by decide)) (vin (by decide)) (by decide) ?_
      refine ab_nameM (fun M8 hM8 => ?_)
      have h := h M8 hM8
      have hs11 : Sm M M8 := hM8 ▸ (Sm.refl _).i
      have hm9 : Sm M M8 := (Sm.refl M).trans hs11
      have hl10 := hL.of hm9
      have hp12 := hp.of hs11
      exact ab_vret dX5_begin_44 rfl h
    · have h := h.2 c7
      refine ab_aload_n 0 dX5_begin_20 rfl ?_
      refine ab_getP (r := 46) dX5_begin_21 (pf_5_28 hp.2.1).1 (pf_5_28 hp.2.1).2 hp.1.1 hp.1.2 hp.2.2.1 ?_
      refine ab_iconst (v := 1) dX5_begin_24 (by decide) ?_
      refine ab_aload_n 0 dX5_begin_25 rfl ?_
      refine ab_getP (r := 46) dX5_begin_26 (pf_5_28 hp.2.1).1 (pf_5_28 hp.2.1).2 hp.1.1 hp.1.2 hp.2.2.1 ?_
      refine ab_iconst (v := 0) dX5_begin_29 (by decide) ?_
      refine ab_ialdj (j := 0) dX5_begin_30 (hL.sh 46 rfl (by decide) (by decide)) (vin (by decide)) (by decide) ?_
      refine ab_iadd dX5_begin_31 ?_
      refine ab_iload_n 1 dX5_begin_32 rfl ?_
      have hb13 := h.1
      have h := h.2
      refine ab_iastj (j := ((1 : Int32) + (gI M 46 0)).toNatClampNeg) dX5_begin_33 (hL.sh 46 rfl (by decide) (by decide)) hb13 rfl ?_
      refine ab_nameM (fun M14 hM14 => ?_)
      have h := h M14 hM14
      have hs17 : Sm M M14 := hM14 ▸ (Sm.refl _).i
      have hm15 : Sm M M14 := (Sm.refl M).trans hs17
      have hl16 := hL.of hm15
      have hp18 := hp.of hs17
      refine ab_aload_n 0 dX5_begin_34 rfl ?_
      refine ab_getP (r := 46) dX5_begin_35 (pf_5_28 hp18.2.1).1 (pf_5_28 hp18.2.1).2 hp18.1.1 hp18.1.2 hp18.2.2.1 ?_
      refine ab_iconst (v := 0) dX5_begin_38 (by decide) ?_
      refine ab_dup2 dX5_begin_39 rfl rfl ?_
      refine ab_ialdj (j := 0) dX5_begin_40 (hl16.sh 46 rfl (by decide) (by decide)) (vin (by decide)) (by decide) ?_
      refine ab_iconst (v := 1) dX5_begin_41 (by decide) ?_
      refine ab_iadd dX5_begin_42 ?_
      refine ab_iastj (j := 0) dX5_begin_43 (hl16.sh 46 rfl (by decide) (by decide)) (vin (by decide)) (by decide) ?_
      refine ab_nameM (fun M19 hM19 => ?_)
      have h := h M19 hM19
      have hs22 : Sm M14 M19 := hM19 ▸ (Sm.refl _).i
      have hm20 : Sm M M19 := hm15.trans hs22
      have hl21 := hL.of hm20
      have hp23 := hp18.of hs22
      exact ab_vret dX5_begin_44 rfl h
theorem dX8_weigh_0 : decode cX8_weigh 0 = .ok (.aload_n 0, 1) := by decide +kernel
theorem dX8_weigh_1 : decode cX8_weigh 1 = .ok (.aload_n 1, 1) := by decide +kernel
theorem dX8_weigh_2 : decode cX8_weigh 2 = .ok (.aload_n 2, 1) := by decide +kernel
theorem dX8_weigh_3 : decode cX8_weigh 3 = .ok (.iload_n 3, 1) := by decide +kernel
theorem dX8_weigh_4 : decode cX8_weigh 4 = .ok (.iload 4, 2) := by decide +kernel
theorem dX8_weigh_6 : decode cX8_weigh 6 = .ok (.invokespecial 9, 3) := by decide +kernel
theorem dX8_weigh_9 : decode cX8_weigh 9 = .ok (.aload_n 1, 1) := by decide +kernel
theorem dX8_weigh_10 : decode cX8_weigh 10 = .ok (.iconst 1, 1) := by decide +kernel
theorem dX8_weigh_11 : decode cX8_weigh 11 = .ok (.dup2, 1) := by decide +kernel
theorem dX8_weigh_12 : decode cX8_weigh 12 = .ok (.iaload, 1) := by decide +kernel
theorem dX8_weigh_13 : decode cX8_weigh 13 = .ok (.aload_n 0, 1) := by decide +kernel
theorem dX8_weigh_14 : decode cX8_weigh 14 = .ok (.getfield 13, 3) := by decide +kernel
theorem dX8_weigh_17 : decode cX8_weigh 17 = .ok (.iconst 5, 1) := by decide +kernel
theorem dX8_weigh_18 : decode cX8_weigh 18 = .ok (.imul, 1) := by decide +kernel
theorem dX8_weigh_19 : decode cX8_weigh 19 = .ok (.iadd, 1) := by decide +kernel
theorem dX8_weigh_20 : decode cX8_weigh 20 = .ok (.iastore, 1) := by decide +kernel
theorem dX8_weigh_21 : decode cX8_weigh 21 = .ok (.return_, 1) := by decide +kernel
set_option maxRecDepth 20000 in
theorem rX8_weigh (D : GD) (d : Nat) (a0 c j : Nat) (a1 : Nat) (a2 : Nat) (a3 : Int32) (a4 : Int32) (M : Mm) (post : Option Value → Mm → Prop) (hL : Lay 0 0 M) (hp : Pl M a0 c j) (hc : c = 8) (sa1 : Sh M a1 (1, 4)) (sa2 : Sh M a2 (1, 3))
    (h : AMv D d mX2_weigh [.ref a0, .ref a1, .ref a2, .int a3, .int a4] M (fun M1 => ∀ M8 : Mm, M8 = sI M1 a1 1 ((gI M1 a1 1) + ((gI M1 a0 2) * (5 : Int32))) → post none M8)) :
    AM D (d + 1) 0 0 mX8_weigh [.ref a0, .ref a1, .ref a2, .int a3, .int a4] M post := by
  refine AM.of (by decide) (Nat.le_of_ble_eq_true rfl) ?_
  show AW D (d + 1) 0 0 mX8_weigh 0 0 0 [(0, .ref a0), (1, .ref a1), (2, .ref a2), (3, .int a3), (4, .int a4)] [] M post
  refine ab_aload_n 0 dX8_weigh_0 rfl ?_
  refine ab_aload_n 1 dX8_weigh_1 rfl ?_
  refine ab_aload_n 2 dX8_weigh_2 rfl ?_
  refine ab_iload_n 3 dX8_weigh_3 rfl ?_
  refine ab_iload 4 dX8_weigh_4 rfl ?_
  refine ab_callSU (c0 := c) (mc' := 0) (ms' := 0) (d' := d) (vs := [.ref a1, .ref a2, .int a3, .int a4]) (st := []) dX8_weigh_6 ⟨cw_X2_weigh, w_655⟩ w_1528 w_556 w_640 (by decide) hp.2.1.lt hp.1.1 hp.1.2 rfl rfl (Nat.le_of_ble_eq_true rfl) (Nat.le_refl _) (Nat.zero_le _) (Nat.zero_le _) (AM.mono h (fun r M1 ⟨hr3, hc4, h⟩ => ?_))
  subst hr3
  refine ab_rv ?_
  have hm5 : Sm M M1 := (Sm.refl M).trans hc4
  have hl6 := hL.of hm5
  have hp7 := hp.of hc4
  refine ab_aload_n 1 dX8_weigh_9 rfl ?_
  refine ab_iconst (v := 1) dX8_weigh_10 (by decide) ?_
  refine ab_dup2 dX8_weigh_11 rfl rfl ?_
  refine ab_ialdj (j := 1) dX8_weigh_12 (sa1.of hm5) (vin (by decide)) (by decide) ?_
  refine ab_aload_n 0 dX8_weigh_13 rfl ?_
  refine ab_getI dX8_weigh_14 (pf_8_13 hc).1 (pf_8_13 hc).2 hp7.1.1 hp7.1.2 ?_
  refine ab_iconst (v := 5) dX8_weigh_17 (by decide) ?_
  refine ab_imul dX8_weigh_18 ?_
  refine ab_iadd dX8_weigh_19 ?_
  refine ab_iastj (j := 1) dX8_weigh_20 (sa1.of hm5) (vin (by decide)) (by decide) ?_
  refine ab_nameM (fun M8 hM8 => ?_)
  have h := h M8 hM8
  have hs11 : Sm M1 M8 := hM8 ▸ (Sm.refl _).i
  have hm9 : Sm M M8 := hm5.trans hs11
  have hl10 := hL.of hm9
  have hp12 := hp7.of hs11
  exact ab_vret dX8_weigh_21 rfl h
