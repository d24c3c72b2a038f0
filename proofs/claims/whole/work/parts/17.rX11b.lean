theorem dX11_lowestBits_0 : decode cX11_lowestBits 0 = .ok (.iload_n 0, 1) := by decide +kernel
theorem dX11_lowestBits_1 : decode cX11_lowestBits 1 = .ok (.tableswitch 61 0 4 #[35, 40, 45, 61, 49], 35) := by decide +kernel
theorem dX11_lowestBits_36 : decode cX11_lowestBits 36 = .ok (.lload_n 1, 1) := by decide +kernel
theorem dX11_lowestBits_37 : decode cX11_lowestBits 37 = .ok (.l2i, 1) := by decide +kernel
theorem dX11_lowestBits_38 : decode cX11_lowestBits 38 = .ok (.i2b, 1) := by decide +kernel
theorem dX11_lowestBits_39 : decode cX11_lowestBits 39 = .ok (.i2l, 1) := by decide +kernel
theorem dX11_lowestBits_40 : decode cX11_lowestBits 40 = .ok (.lreturn, 1) := by decide +kernel
theorem dX11_lowestBits_41 : decode cX11_lowestBits 41 = .ok (.lload_n 1, 1) := by decide +kernel
theorem dX11_lowestBits_42 : decode cX11_lowestBits 42 = .ok (.l2i, 1) := by decide +kernel
theorem dX11_lowestBits_43 : decode cX11_lowestBits 43 = .ok (.i2s, 1) := by decide +kernel
theorem dX11_lowestBits_44 : decode cX11_lowestBits 44 = .ok (.i2l, 1) := by decide +kernel
theorem dX11_lowestBits_45 : decode cX11_lowestBits 45 = .ok (.lreturn, 1) := by decide +kernel
theorem dX11_lowestBits_46 : decode cX11_lowestBits 46 = .ok (.lload_n 1, 1) := by decide +kernel
theorem dX11_lowestBits_47 : decode cX11_lowestBits 47 = .ok (.l2i, 1) := by decide +kernel
theorem dX11_lowestBits_48 : decode cX11_lowestBits 48 = .ok (.i2l, 1) := by decide +kernel
theorem dX11_lowestBits_49 : decode cX11_lowestBits 49 = .ok (.lreturn, 1) := by decide +kernel
theorem dX11_lowestBits_50 : decode cX11_lowestBits 50 = .ok (.lload_n 1, 1) := by decide +kernel
theorem dX11_lowestBits_51 : decode cX11_lowestBits 51 = .ok (.lconst 0, 1) := by decide +kernel
theorem dX11_lowestBits_52 : decode cX11_lowestBits 52 = .ok (.lcmp, 1) := by decide +kernel
theorem dX11_lowestBits_53 : decode cX11_lowestBits 53 = .ok (.ifCond .eq 7, 3) := by decide +kernel
theorem dX11_lowestBits_56 : decode cX11_lowestBits 56 = .ok (.lconst 1, 1) := by decide +kernel
theorem dX11_lowestBits_57 : decode cX11_lowestBits 57 = .ok (.goto 4, 3) := by decide +kernel
theorem dX11_lowestBits_60 : decode cX11_lowestBits 60 = .ok (.lconst 0, 1) := by decide +kernel
theorem dX11_lowestBits_61 : decode cX11_lowestBits 61 = .ok (.lreturn, 1) := by decide +kernel
theorem dX11_lowestBits_62 : decode cX11_lowestBits 62 = .ok (.lload_n 1, 1) := by decide +kernel
theorem dX11_lowestBits_63 : decode cX11_lowestBits 63 = .ok (.lreturn, 1) := by decide +kernel
set_option maxRecDepth 20000 in
theorem rX11_lowestBits (D : GD) (d : Nat) (a1 : Int32) (a2 : Int64) (M : Mm) (post : Option Value → Mm → Prop) (hL : Lay 0 62 M) 
    (h : ((a1 = (0 : Int32) → post (some (.long ((((a2).toInt32).toInt8.toInt32).toInt64))) M) ∧ ((a1 = (1 : Int32) → post (some (.long ((((a2).toInt32).toInt16.toInt32).toInt64))) M) ∧ ((a1 = (2 : Int32) → post (some (.long (((a2).toInt32).toInt64))) M) ∧ ((a1 = (3 : Int32) → post (some (.long a2)) M) ∧ ((a1 = (4 : Int32) → (((lg_cmp a2 (0 : Int64)) = 0 → post (some (.long (0 : Int64))) M) ∧ (¬ (lg_cmp a2 (0 : Int64)) = 0 → post (some (.long (1 : Int64))) M))) ∧ ((¬ a1 = (0 : Int32) → ¬ a1 = (1 : Int32) → ¬ a1 = (2 : Int32) → ¬ a1 = (3 : Int32) → ¬ a1 = (4 : Int32) → post (some (.long a2)) M)))))))) :
    AM D d 0 0 mX11_lowestBits [.int a1, .long a2] M post := by
  refine AM.of (by decide) (Nat.le_of_ble_eq_true rfl) ?_
  show AW D d 0 0 mX11_lowestBits 0 0 0 [(0, .int a1), (1, .long a2)] [] M post
  refine ab_iload_n 0 dX11_lowestBits_0 rfl ?_
  by_cases c1 : a1 = (0 : Int32)
  · have h := h.1 c1
    refine ab_tableIn (off := (35)) (tgt := 36) dX11_lowestBits_1 (by rw [c1]; decide) (by rw [c1]; decide) (by rw [c1]; decide) (by decide) ?_
    refine ab_lload_n 1 dX11_lowestBits_36 rfl ?_
    refine ab_l2i dX11_lowestBits_37 ?_
    refine ab_i2b dX11_lowestBits_38 ?_
    refine ab_i2l dX11_lowestBits_39 ?_
    exact ab_lret dX11_lowestBits_40 rfl h
  · have h := h.2
    by_cases c2 : a1 = (1 : Int32)
    · have h := h.1 c2
      refine ab_tableIn (off := (40)) (tgt := 41) dX11_lowestBits_1 (by rw [c2]; decide) (by rw [c2]; decide) (by rw [c2]; decide) (by decide) ?_
      refine ab_lload_n 1 dX11_lowestBits_41 rfl ?_
      refine ab_l2i dX11_lowestBits_42 ?_
      refine ab_i2s dX11_lowestBits_43 ?_
      refine ab_i2l dX11_lowestBits_44 ?_
      exact ab_lret dX11_lowestBits_45 rfl h
    · have h := h.2
      by_cases c3 : a1 = (2 : Int32)
      · have h := h.1 c3
        refine ab_tableIn (off := (45)) (tgt := 46) dX11_lowestBits_1 (by rw [c3]; decide) (by rw [c3]; decide) (by rw [c3]; decide) (by decide) ?_
        refine ab_lload_n 1 dX11_lowestBits_46 rfl ?_
        refine ab_l2i dX11_lowestBits_47 ?_
        refine ab_i2l dX11_lowestBits_48 ?_
        exact ab_lret dX11_lowestBits_49 rfl h
      · have h := h.2
        by_cases c4 : a1 = (3 : Int32)
        · have h := h.1 c4
          refine ab_tableIn (off := (61)) (tgt := 62) dX11_lowestBits_1 (by rw [c4]; decide) (by rw [c4]; decide) (by rw [c4]; decide) (by decide) ?_
          refine ab_lload_n 1 dX11_lowestBits_62 rfl ?_
          exact ab_lret dX11_lowestBits_63 rfl h
        · have h := h.2
          by_cases c5 : a1 = (4 : Int32)
          · have h := h.1 c5
            refine ab_tableIn (off := (49)) (tgt := 50) dX11_lowestBits_1 (by rw [c5]; decide) (by rw [c5]; decide) (by rw [c5]; decide) (by decide) ?_
            refine ab_lload_n 1 dX11_lowestBits_50 rfl ?_
            refine ab_lconst (v := 0) dX11_lowestBits_51 (by decide) ?_
            refine ab_lcmp dX11_lowestBits_52 ?_
            refine ab_if_eq (tgt := 60) dX11_lowestBits_53 (by decide) (fun c6 => ?_) (fun c6 => ?_)
            · have h := h.1 c6
              refine ab_lconst (v := 0) dX11_lowestBits_60 (by decide) ?_
              exact ab_lret dX11_lowestBits_61 rfl h
            · have h := h.2 c6
              refine ab_lconst (v := 1) dX11_lowestBits_56 (by decide) ?_
              refine ab_goto (tgt := 61) dX11_lowestBits_57 (by decide) ?_
              exact ab_lret dX11_lowestBits_61 rfl h
          · have h := h.2
            have h := h c1 c2 c3 c4 c5
            refine ab_tableOut (tgt := 62) dX11_lowestBits_1 (by have e0 := lv_neT (a := 0) c1 (by decide); have e1 := lv_neT (a := 1) c2 (by decide); have e2 := lv_neT (a := 2) c3 (by decide); have e3 := lv_neT (a := 3) c4 (by decide); have e4 := lv_neT (a := 4) c5 (by decide); omega) (by decide) ?_
            refine ab_lload_n 1 dX11_lowestBits_62 rfl ?_
            exact ab_lret dX11_lowestBits_63 rfl h
