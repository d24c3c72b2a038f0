theorem dX11_newPlayer_0 : decode cX11_newPlayer 0 = .ok (.aload_n 0, 1) := by decide +kernel
theorem dX11_newPlayer_1 : decode cX11_newPlayer 1 = .ok (.getfield 20, 3) := by decide +kernel
theorem dX11_newPlayer_4 : decode cX11_newPlayer 4 = .ok (.iload_n 3, 1) := by decide +kernel
theorem dX11_newPlayer_5 : decode cX11_newPlayer 5 = .ok (.aaload, 1) := by decide +kernel
theorem dX11_newPlayer_6 : decode cX11_newPlayer 6 = .ok (.astore 4, 2) := by decide +kernel
theorem dX11_newPlayer_8 : decode cX11_newPlayer 8 = .ok (.iload_n 1, 1) := by decide +kernel
theorem dX11_newPlayer_9 : decode cX11_newPlayer 9 = .ok (.tableswitch 165 1 6 #[39, 60, 81, 102, 123, 144], 39) := by decide +kernel
theorem dX11_newPlayer_48 : decode cX11_newPlayer 48 = .ok (.new 144, 3) := by decide +kernel
theorem dX11_newPlayer_51 : decode cX11_newPlayer 51 = .ok (.dup, 1) := by decide +kernel
theorem dX11_newPlayer_52 : decode cX11_newPlayer 52 = .ok (.iload_n 1, 1) := by decide +kernel
theorem dX11_newPlayer_53 : decode cX11_newPlayer 53 = .ok (.aload_n 0, 1) := by decide +kernel
theorem dX11_newPlayer_54 : decode cX11_newPlayer 54 = .ok (.getfield 33, 3) := by decide +kernel
theorem dX11_newPlayer_57 : decode cX11_newPlayer 57 = .ok (.iload_n 2, 1) := by decide +kernel
theorem dX11_newPlayer_58 : decode cX11_newPlayer 58 = .ok (.iload_n 3, 1) := by decide +kernel
theorem dX11_newPlayer_59 : decode cX11_newPlayer 59 = .ok (.aload 4, 2) := by decide +kernel
theorem dX11_newPlayer_61 : decode cX11_newPlayer 61 = .ok (.aload_n 0, 1) := by decide +kernel
theorem dX11_newPlayer_62 : decode cX11_newPlayer 62 = .ok (.getfield 57, 3) := by decide +kernel
theorem dX11_newPlayer_65 : decode cX11_newPlayer 65 = .ok (.invokespecial 146, 3) := by decide +kernel
theorem dX11_newPlayer_68 : decode cX11_newPlayer 68 = .ok (.areturn, 1) := by decide +kernel
theorem dX11_newPlayer_69 : decode cX11_newPlayer 69 = .ok (.new 149, 3) := by decide +kernel
theorem dX11_newPlayer_72 : decode cX11_newPlayer 72 = .ok (.dup, 1) := by decide +kernel
theorem dX11_newPlayer_73 : decode cX11_newPlayer 73 = .ok (.iload_n 1, 1) := by decide +kernel
theorem dX11_newPlayer_74 : decode cX11_newPlayer 74 = .ok (.aload_n 0, 1) := by decide +kernel
theorem dX11_newPlayer_75 : decode cX11_newPlayer 75 = .ok (.getfield 33, 3) := by decide +kernel
theorem dX11_newPlayer_78 : decode cX11_newPlayer 78 = .ok (.iload_n 2, 1) := by decide +kernel
theorem dX11_newPlayer_79 : decode cX11_newPlayer 79 = .ok (.iload_n 3, 1) := by decide +kernel
theorem dX11_newPlayer_80 : decode cX11_newPlayer 80 = .ok (.aload 4, 2) := by decide +kernel
theorem dX11_newPlayer_82 : decode cX11_newPlayer 82 = .ok (.aload_n 0, 1) := by decide +kernel
theorem dX11_newPlayer_83 : decode cX11_newPlayer 83 = .ok (.getfield 57, 3) := by decide +kernel
theorem dX11_newPlayer_86 : decode cX11_newPlayer 86 = .ok (.invokespecial 151, 3) := by decide +kernel
theorem dX11_newPlayer_89 : decode cX11_newPlayer 89 = .ok (.areturn, 1) := by decide +kernel
theorem dX11_newPlayer_90 : decode cX11_newPlayer 90 = .ok (.new 152, 3) := by decide +kernel
theorem dX11_newPlayer_93 : decode cX11_newPlayer 93 = .ok (.dup, 1) := by decide +kernel
theorem dX11_newPlayer_94 : decode cX11_newPlayer 94 = .ok (.iload_n 1, 1) := by decide +kernel
theorem dX11_newPlayer_95 : decode cX11_newPlayer 95 = .ok (.aload_n 0, 1) := by decide +kernel
theorem dX11_newPlayer_96 : decode cX11_newPlayer 96 = .ok (.getfield 33, 3) := by decide +kernel
theorem dX11_newPlayer_99 : decode cX11_newPlayer 99 = .ok (.iload_n 2, 1) := by decide +kernel
theorem dX11_newPlayer_100 : decode cX11_newPlayer 100 = .ok (.iload_n 3, 1) := by decide +kernel
theorem dX11_newPlayer_101 : decode cX11_newPlayer 101 = .ok (.aload 4, 2) := by decide +kernel
theorem dX11_newPlayer_103 : decode cX11_newPlayer 103 = .ok (.aload_n 0, 1) := by decide +kernel
theorem dX11_newPlayer_104 : decode cX11_newPlayer 104 = .ok (.getfield 57, 3) := by decide +kernel
theorem dX11_newPlayer_107 : decode cX11_newPlayer 107 = .ok (.invokespecial 154, 3) := by decide +kernel
theorem dX11_newPlayer_110 : decode cX11_newPlayer 110 = .ok (.areturn, 1) := by decide +kernel
theorem dX11_newPlayer_111 : decode cX11_newPlayer 111 = .ok (.new 155, 3) := by decide +kernel
theorem dX11_newPlayer_114 : decode cX11_newPlayer 114 = .ok (.dup, 1) := by decide +kernel
theorem dX11_newPlayer_115 : decode cX11_newPlayer 115 = .ok (.iload_n 1, 1) := by decide +kernel
theorem dX11_newPlayer_116 : decode cX11_newPlayer 116 = .ok (.aload_n 0, 1) := by decide +kernel
theorem dX11_newPlayer_117 : decode cX11_newPlayer 117 = .ok (.getfield 33, 3) := by decide +kernel
theorem dX11_newPlayer_120 : decode cX11_newPlayer 120 = .ok (.iload_n 2, 1) := by decide +kernel
theorem dX11_newPlayer_121 : decode cX11_newPlayer 121 = .ok (.iload_n 3, 1) := by decide +kernel
theorem dX11_newPlayer_122 : decode cX11_newPlayer 122 = .ok (.aload 4, 2) := by decide +kernel
theorem dX11_newPlayer_124 : decode cX11_newPlayer 124 = .ok (.aload_n 0, 1) := by decide +kernel
theorem dX11_newPlayer_125 : decode cX11_newPlayer 125 = .ok (.getfield 57, 3) := by decide +kernel
theorem dX11_newPlayer_128 : decode cX11_newPlayer 128 = .ok (.invokespecial 157, 3) := by decide +kernel
theorem dX11_newPlayer_131 : decode cX11_newPlayer 131 = .ok (.areturn, 1) := by decide +kernel
theorem dX11_newPlayer_132 : decode cX11_newPlayer 132 = .ok (.new 158, 3) := by decide +kernel
theorem dX11_newPlayer_135 : decode cX11_newPlayer 135 = .ok (.dup, 1) := by decide +kernel
theorem dX11_newPlayer_136 : decode cX11_newPlayer 136 = .ok (.iload_n 1, 1) := by decide +kernel
theorem dX11_newPlayer_137 : decode cX11_newPlayer 137 = .ok (.aload_n 0, 1) := by decide +kernel
theorem dX11_newPlayer_138 : decode cX11_newPlayer 138 = .ok (.getfield 33, 3) := by decide +kernel
theorem dX11_newPlayer_141 : decode cX11_newPlayer 141 = .ok (.iload_n 2, 1) := by decide +kernel
theorem dX11_newPlayer_142 : decode cX11_newPlayer 142 = .ok (.iload_n 3, 1) := by decide +kernel
theorem dX11_newPlayer_143 : decode cX11_newPlayer 143 = .ok (.aload 4, 2) := by decide +kernel
theorem dX11_newPlayer_145 : decode cX11_newPlayer 145 = .ok (.aload_n 0, 1) := by decide +kernel
theorem dX11_newPlayer_146 : decode cX11_newPlayer 146 = .ok (.getfield 57, 3) := by decide +kernel
theorem dX11_newPlayer_149 : decode cX11_newPlayer 149 = .ok (.invokespecial 160, 3) := by decide +kernel
theorem dX11_newPlayer_152 : decode cX11_newPlayer 152 = .ok (.areturn, 1) := by decide +kernel
theorem dX11_newPlayer_153 : decode cX11_newPlayer 153 = .ok (.new 161, 3) := by decide +kernel
theorem dX11_newPlayer_156 : decode cX11_newPlayer 156 = .ok (.dup, 1) := by decide +kernel
theorem dX11_newPlayer_157 : decode cX11_newPlayer 157 = .ok (.iload_n 1, 1) := by decide +kernel
theorem dX11_newPlayer_158 : decode cX11_newPlayer 158 = .ok (.aload_n 0, 1) := by decide +kernel
theorem dX11_newPlayer_159 : decode cX11_newPlayer 159 = .ok (.getfield 33, 3) := by decide +kernel
theorem dX11_newPlayer_162 : decode cX11_newPlayer 162 = .ok (.iload_n 2, 1) := by decide +kernel
theorem dX11_newPlayer_163 : decode cX11_newPlayer 163 = .ok (.iload_n 3, 1) := by decide +kernel
theorem dX11_newPlayer_164 : decode cX11_newPlayer 164 = .ok (.aload 4, 2) := by decide +kernel
theorem dX11_newPlayer_166 : decode cX11_newPlayer 166 = .ok (.aload_n 0, 1) := by decide +kernel
theorem dX11_newPlayer_167 : decode cX11_newPlayer 167 = .ok (.getfield 57, 3) := by decide +kernel
theorem dX11_newPlayer_170 : decode cX11_newPlayer 170 = .ok (.invokespecial 163, 3) := by decide +kernel
theorem dX11_newPlayer_173 : decode cX11_newPlayer 173 = .ok (.areturn, 1) := by decide +kernel
theorem dX11_newPlayer_174 : decode cX11_newPlayer 174 = .ok (.new 27, 3) := by decide +kernel
theorem dX11_newPlayer_177 : decode cX11_newPlayer 177 = .ok (.dup, 1) := by decide +kernel
theorem dX11_newPlayer_178 : decode cX11_newPlayer 178 = .ok (.iload_n 1, 1) := by decide +kernel
theorem dX11_newPlayer_179 : decode cX11_newPlayer 179 = .ok (.aload_n 0, 1) := by decide +kernel
theorem dX11_newPlayer_180 : decode cX11_newPlayer 180 = .ok (.getfield 33, 3) := by decide +kernel
theorem dX11_newPlayer_183 : decode cX11_newPlayer 183 = .ok (.iload_n 2, 1) := by decide +kernel
theorem dX11_newPlayer_184 : decode cX11_newPlayer 184 = .ok (.iload_n 3, 1) := by decide +kernel
theorem dX11_newPlayer_185 : decode cX11_newPlayer 185 = .ok (.aload 4, 2) := by decide +kernel
theorem dX11_newPlayer_187 : decode cX11_newPlayer 187 = .ok (.aload_n 0, 1) := by decide +kernel
theorem dX11_newPlayer_188 : decode cX11_newPlayer 188 = .ok (.getfield 57, 3) := by decide +kernel
theorem dX11_newPlayer_191 : decode cX11_newPlayer 191 = .ok (.invokespecial 164, 3) := by decide +kernel
theorem dX11_newPlayer_194 : decode cX11_newPlayer 194 = .ok (.areturn, 1) := by decide +kernel
set_option maxRecDepth 20000 in
theorem rX11_newPlayer (D : GD) (d : Nat) (a1 : Int32) (a2 : Int32) (a3 : Int32) (M : Mm) (post : Option Value → Mm → Prop) (hL : Lay 0 62 M) 
    (h : vp_in a3 7 ∧ ((a1 = (1 : Int32) → mN M < 1000000 ∧ ∀ M9 : Mm, M9 = plI (mA M (0, 4)) (mN M) a1 (gI (mA M (0, 4)) 0 4) a2 a3 (5 + a3.toNatClampNeg) 46 → post (some (va_rf (some (mN M)))) M9) ∧ ((a1 = (2 : Int32) → mN M < 1000000 ∧ ∀ M20 : Mm, M20 = plI (mA M (0, 2)) (mN M) a1 (gI (mA M (0, 2)) 0 4) a2 a3 (5 + a3.toNatClampNeg) 46 → post (some (va_rf (some (mN M)))) M20) ∧ ((a1 = (3 : Int32) → mN M < 1000000 ∧ ∀ M31 : Mm, M31 = plI (mA M (0, 9)) (mN M) a1 (gI (mA M (0, 9)) 0 4) a2 a3 (5 + a3.toNatClampNeg) 46 → post (some (va_rf (some (mN M)))) M31) ∧ ((a1 = (4 : Int32) → mN M < 1000000 ∧ ∀ M42 : Mm, M42 = plI (mA M (0, 10)) (mN M) a1 (gI (mA M (0, 10)) 0 4) a2 a3 (5 + a3.toNatClampNeg) 46 → post (some (va_rf (some (mN M)))) M42) ∧ ((a1 = (5 : Int32) → mN M < 1000000 ∧ ∀ M53 : Mm, M53 = plI (mA M (0, 3)) (mN M) a1 (gI (mA M (0, 3)) 0 4) a2 a3 (5 + a3.toNatClampNeg) 46 → post (some (va_rf (some (mN M)))) M53) ∧ ((a1 = (6 : Int32) → mN M < 1000000 ∧ ∀ M64 : Mm, M64 = plI (mA M (0, 8)) (mN M) a1 (gI (mA M (0, 8)) 0 4) a2 a3 (5 + a3.toNatClampNeg) 46 → post (some (va_rf (some (mN M)))) M64) ∧ ((¬ a1 = (1 : Int32) → ¬ a1 = (2 : Int32) → ¬ a1 = (3 : Int32) → ¬ a1 = (4 : Int32) → ¬ a1 = (5 : Int32) → ¬ a1 = (6 : Int32) → mN M < 1000000 ∧ ∀ M74 : Mm, M74 = plI (mA M (0, 5)) (mN M) a1 (gI (mA M (0, 5)) 0 4) a2 a3 (5 + a3.toNatClampNeg) 46 → post (some (va_rf (some (mN M)))) M74))))))))) :
    AM D (d + 3 + 1) 1 6 mX11_newPlayer [.ref 0, .int a1, .int a2, .int a3] M post := by
  refine AM.of (by decide) (Nat.le_of_ble_eq_true rfl) ?_
  show AW D (d + 3 + 1) 1 6 mX11_newPlayer 1 6 0 [(0, .ref 0), (1, .int a1), (2, .int a2), (3, .int a3)] [] M post
  refine ab_aload_n 0 dX11_newPlayer_0 rfl ?_
  refine ab_getP (r := 4) dX11_newPlayer_1 fs_11_20_11 rfl (hL.sh 0 rfl (by decide) (by decide)).1 (hL.sh 0 rfl (by decide) (by decide)).2 (hL.pt 1 rfl (by decide) (by decide)) ?_
  refine ab_iload_n 3 dX11_newPlayer_4 rfl ?_
  have hb1 := h.1
  have h := h.2
  refine ab_aald4j (j := a3.toNatClampNeg) (r := 5 + a3.toNatClampNeg) dX11_newPlayer_5 (hL.sh 4 rfl (by decide) (by decide)) hb1 rfl (row_4 hL (by decide) (by decide) (vin_lt hb1)).1 ?_
  refine ab_astore (lv1 := [(4, .ref (5 + a3.toNatClampNeg)), (0, .ref 0), (1, .int a1), (2, .int a2), (3, .int a3)]) dX11_newPlayer_6 (by decide) rfl ?_
  refine ab_iload_n 2 dX11_newPlayer_8 rfl ?_
  by_cases c2 : a1 = (1 : Int32)
  · have h := h.1 c2
    refine ab_tableIn (off := (39)) (tgt := 48) dX11_newPlayer_9 (by rw [c2]; decide) (by rw [c2]; decide) (by rw [c2]; decide) (by decide) ?_
    have hq8 := h.1
    have h := h.2
    refine ab_new (c := 4) dX11_newPlayer_48 (by decide) w_449 w_450 w_93 (by decide) (by decide) hq8 ?_
    have hs7 : Sx M (mA M (0, 4)) := Sx.mA _ _
    have hm5 : Sx M (mA M (0, 4)) := (Sx.refl M).trans hs7
    have hl6 := hL.ofx hm5
    refine ab_dup dX11_newPlayer_51 rfl ?_
    refine ab_iload_n 2 dX11_newPlayer_52 rfl ?_
    refine ab_aload_n 1 dX11_newPlayer_53 rfl ?_
    refine ab_getI dX11_newPlayer_54 fs_11_33_11 rfl (hl6.sh 0 rfl (by decide) (by decide)).1 (hl6.sh 0 rfl (by decide) (by decide)).2 ?_
    refine ab_iload_n 3 dX11_newPlayer_57 rfl ?_
    refine ab_iload_n 4 dX11_newPlayer_58 rfl ?_
    refine ab_aload 0 dX11_newPlayer_59 rfl ?_
    refine ab_aload_n 1 dX11_newPlayer_61 rfl ?_
    refine ab_getP (r := 46) dX11_newPlayer_62 fs_11_57_11 rfl (hl6.sh 0 rfl (by decide) (by decide)).1 (hl6.sh 0 rfl (by decide) (by decide)).2 (hl6.pt 6 rfl (by decide) (by decide)) ?_
    refine ab_callI (d' := d + 3) (mc' := 0) (ms' := 0) (vs := [.int a1, .int (gI (mA M (0, 4)) 0 4), .int a2, .int a3, .ref (5 + a3.toNatClampNeg), .ref 46]) (st := [.ref (mN M)]) dX11_newPlayer_65 ⟨cw_X4_init, w_451⟩ rfl rfl w_452 rfl rfl (Nat.le_of_ble_eq_true rfl) (Nat.le_refl _) (Nat.zero_le _) (Nat.zero_le _) (c_X4_init (d := d + 1) (c := 4) (by unfold plc; decide) ⟨Nat.lt_succ_self _, mS_mA _⟩ ?_)
    refine ab_rv ?_
    refine ab_nameM (fun M9 hM9 => ?_)
    have h := h M9 hM9
    have hs12 : Sx M M9 := hM9 ▸ (Sx.mA _ _).pl (Nat.le_refl _)
    have hm10 : Sx M M9 := (Sx.refl M).trans hs12
    have hl11 := hL.ofx hm10
    exact ab_aret (o := some (mN M)) dX11_newPlayer_68 rfl h
  · have h := h.2
    by_cases c13 : a1 = (2 : Int32)
    · have h := h.1 c13
      refine ab_tableIn (off := (60)) (tgt := 69) dX11_newPlayer_9 (by rw [c13]; decide) (by rw [c13]; decide) (by rw [c13]; decide) (by decide) ?_
      have hq19 := h.1
      have h := h.2
      refine ab_new (c := 2) dX11_newPlayer_69 (by decide) w_492 w_493 w_94 (by decide) (by decide) hq19 ?_
      have hs18 : Sx M (mA M (0, 2)) := Sx.mA _ _
      have hm16 : Sx M (mA M (0, 2)) := (Sx.refl M).trans hs18
      have hl17 := hL.ofx hm16
      refine ab_dup dX11_newPlayer_72 rfl ?_
      refine ab_iload_n 2 dX11_newPlayer_73 rfl ?_
      refine ab_aload_n 1 dX11_newPlayer_74 rfl ?_
      refine ab_getI dX11_newPlayer_75 fs_11_33_11 rfl (hl17.sh 0 rfl (by decide) (by decide)).1 (hl17.sh 0 rfl (by decide) (by decide)).2 ?_
      refine ab_iload_n 3 dX11_newPlayer_78 rfl ?_
      refine ab_iload_n 4 dX11_newPlayer_79 rfl ?_
      refine ab_aload 0 dX11_newPlayer_80 rfl ?_
      refine ab_aload_n 1 dX11_newPlayer_82 rfl ?_
      refine ab_getP (r := 46) dX11_newPlayer_83 fs_11_57_11 rfl (hl17.sh 0 rfl (by decide) (by decide)).1 (hl17.sh 0 rfl (by decide) (by decide)).2 (hl17.pt 6 rfl (by decide) (by decide)) ?_
      refine ab_callI (d' := d + 3) (mc' := 0) (ms' := 0) (vs := [.int a1, .int (gI (mA M (0, 2)) 0 4), .int a2, .int a3, .ref (5 + a3.toNatClampNeg), .ref 46]) (st := [.ref (mN M)]) dX11_newPlayer_86 ⟨cw_X2_init, w_494⟩ rfl rfl w_495 rfl rfl (Nat.le_of_ble_eq_true rfl) (Nat.le_refl _) (Nat.zero_le _) (Nat.zero_le _) (c_X2_init (d := d + 1) (c := 2) (by unfold plc; decide) ⟨Nat.lt_succ_self _, mS_mA _⟩ ?_)
      refine ab_rv ?_
      refine ab_nameM (fun M20 hM20 => ?_)
      have h := h M20 hM20
      have hs23 : Sx M M20 := hM20 ▸ (Sx.mA _ _).pl (Nat.le_refl _)
      have hm21 : Sx M M20 := (Sx.refl M).trans hs23
      have hl22 := hL.ofx hm21
      exact ab_aret (o := some (mN M)) dX11_newPlayer_89 rfl h
    · have h := h.2
      by_cases c24 : a1 = (3 : Int32)
      · have h := h.1 c24
        refine ab_tableIn (off := (81)) (tgt := 90) dX11_newPlayer_9 (by rw [c24]; decide) (by rw [c24]; decide) (by rw [c24]; decide) (by decide) ?_
        have hq30 := h.1
        have h := h.2
        refine ab_new (c := 9) dX11_newPlayer_90 (by decide) w_505 w_506 w_95 (by decide) (by decide) hq30 ?_
        have hs29 : Sx M (mA M (0, 9)) := Sx.mA _ _
        have hm27 : Sx M (mA M (0, 9)) := (Sx.refl M).trans hs29
        have hl28 := hL.ofx hm27
        refine ab_dup dX11_newPlayer_93 rfl ?_
        refine ab_iload_n 2 dX11_newPlayer_94 rfl ?_
        refine ab_aload_n 1 dX11_newPlayer_95 rfl ?_
        refine ab_getI dX11_newPlayer_96 fs_11_33_11 rfl (hl28.sh 0 rfl (by decide) (by decide)).1 (hl28.sh 0 rfl (by decide) (by decide)).2 ?_
        refine ab_iload_n 3 dX11_newPlayer_99 rfl ?_
        refine ab_iload_n 4 dX11_newPlayer_100 rfl ?_
        refine ab_aload 0 dX11_newPlayer_101 rfl ?_
        refine ab_aload_n 1 dX11_newPlayer_103 rfl ?_
        refine ab_getP (r := 46) dX11_newPlayer_104 fs_11_57_11 rfl (hl28.sh 0 rfl (by decide) (by decide)).1 (hl28.sh 0 rfl (by decide) (by decide)).2 (hl28.pt 6 rfl (by decide) (by decide)) ?_
        refine ab_callI (d' := d + 3) (mc' := 0) (ms' := 0) (vs := [.int a1, .int (gI (mA M (0, 9)) 0 4), .int a2, .int a3, .ref (5 + a3.toNatClampNeg), .ref 46]) (st := [.ref (mN M)]) dX11_newPlayer_107 ⟨cw_X9_init, w_507⟩ rfl rfl w_508 rfl rfl (Nat.le_of_ble_eq_true rfl) (Nat.le_refl _) (Nat.zero_le _) (Nat.zero_le _) (c_X9_init (d := d + 1) (c := 9) (by unfold plc; decide) ⟨Nat.lt_succ_self _, mS_mA _⟩ ?_)
        refine ab_rv ?_
        refine ab_nameM (fun M31 hM31 => ?_)
        have h := h M31 hM31
        have hs34 : Sx M M31 := hM31 ▸ (Sx.mA _ _).pl (Nat.le_refl _)
        have hm32 : Sx M M31 := (Sx.refl M).trans hs34
        have hl33 := hL.ofx hm32
        exact ab_aret (o := some (mN M)) dX11_newPlayer_110 rfl h
      · have h := h.2
        by_cases c35 : a1 = (4 : Int32)
        · have h := h.1 c35
          refine ab_tableIn (off := (102)) (tgt := 111) dX11_newPlayer_9 (by rw [c35]; decide) (by rw [c35]; decide) (by rw [c35]; decide) (by decide) ?_
          have hq41 := h.1
          have h := h.2
          refine ab_new (c := 10) dX11_newPlayer_111 (by decide) w_518 w_519 w_96 (by decide) (by decide) hq41 ?_
          have hs40 : Sx M (mA M (0, 10)) := Sx.mA _ _
          have hm38 : Sx M (mA M (0, 10)) := (Sx.refl M).trans hs40
          have hl39 := hL.ofx hm38
          refine ab_dup dX11_newPlayer_114 rfl ?_
          refine ab_iload_n 2 dX11_newPlayer_115 rfl ?_
          refine ab_aload_n 1 dX11_newPlayer_116 rfl ?_
          refine ab_getI dX11_newPlayer_117 fs_11_33_11 rfl (hl39.sh 0 rfl (by decide) (by decide)).1 (hl39.sh 0 rfl (by decide) (by decide)).2 ?_
          refine ab_iload_n 3 dX11_newPlayer_120 rfl ?_
          refine ab_iload_n 4 dX11_newPlayer_121 rfl ?_
          refine ab_aload 0 dX11_newPlayer_122 rfl ?_
          refine ab_aload_n 1 dX11_newPlayer_124 rfl ?_
          refine ab_getP (r := 46) dX11_newPlayer_125 fs_11_57_11 rfl (hl39.sh 0 rfl (by decide) (by decide)).1 (hl39.sh 0 rfl (by decide) (by decide)).2 (hl39.pt 6 rfl (by decide) (by decide)) ?_
          refine ab_callI (d' := d + 3) (mc' := 0) (ms' := 0) (vs := [.int a1, .int (gI (mA M (0, 10)) 0 4), .int a2, .int a3, .ref (5 + a3.toNatClampNeg), .ref 46]) (st := [.ref (mN M)]) dX11_newPlayer_128 ⟨cw_X10_init, w_520⟩ rfl rfl w_521 rfl rfl (Nat.le_of_ble_eq_true rfl) (Nat.le_refl _) (Nat.zero_le _) (Nat.zero_le _) (c_X10_init (d := d + 0) (c := 10) (by unfold plc; decide) ⟨Nat.lt_succ_self _, mS_mA _⟩ ?_)
          refine ab_rv ?_
          refine ab_nameM (fun M42 hM42 => ?_)
          have h := h M42 hM42
          have hs45 : Sx M M42 := hM42 ▸ (Sx.mA _ _).pl (Nat.le_refl _)
          have hm43 : Sx M M42 := (Sx.refl M).trans hs45
          have hl44 := hL.ofx hm43
          exact ab_aret (o := some (mN M)) dX11_newPlayer_131 rfl h
        · have h := h.2
          by_cases c46 : a1 = (5 : Int32)
          · have h := h.1 c46
            refine ab_tableIn (off := (123)) (tgt := 132) dX11_newPlayer_9 (by rw [c46]; decide) (by rw [c46]; decide) (by rw [c46]; decide) (by decide) ?_
            have hq52 := h.1
            have h := h.2
            refine ab_new (c := 3) dX11_newPlayer_132 (by decide) w_531 w_532 w_97 (by decide) (by decide) hq52 ?_
            have hs51 : Sx M (mA M (0, 3)) := Sx.mA _ _
            have hm49 : Sx M (mA M (0, 3)) := (Sx.refl M).trans hs51
            have hl50 := hL.ofx hm49
            refine ab_dup dX11_newPlayer_135 rfl ?_
            refine ab_iload_n 2 dX11_newPlayer_136 rfl ?_
            refine ab_aload_n 1 dX11_newPlayer_137 rfl ?_
            refine ab_getI dX11_newPlayer_138 fs_11_33_11 rfl (hl50.sh 0 rfl (by decide) (by decide)).1 (hl50.sh 0 rfl (by decide) (by decide)).2 ?_
            refine ab_iload_n 3 dX11_newPlayer_141 rfl ?_
            refine ab_iload_n 4 dX11_newPlayer_142 rfl ?_
            refine ab_aload 0 dX11_newPlayer_143 rfl ?_
            refine ab_aload_n 1 dX11_newPlayer_145 rfl ?_
            refine ab_getP (r := 46) dX11_newPlayer_146 fs_11_57_11 rfl (hl50.sh 0 rfl (by decide) (by decide)).1 (hl50.sh 0 rfl (by decide) (by decide)).2 (hl50.pt 6 rfl (by decide) (by decide)) ?_
            refine ab_callI (d' := d + 3) (mc' := 0) (ms' := 0) (vs := [.int a1, .int (gI (mA M (0, 3)) 0 4), .int a2, .int a3, .ref (5 + a3.toNatClampNeg), .ref 46]) (st := [.ref (mN M)]) dX11_newPlayer_149 ⟨cw_X3_init, w_533⟩ rfl rfl w_534 rfl rfl (Nat.le_of_ble_eq_true rfl) (Nat.le_refl _) (Nat.zero_le _) (Nat.zero_le _) (c_X3_init (d := d + 0) (c := 3) (by unfold plc; decide) ⟨Nat.lt_succ_self _, mS_mA _⟩ ?_)
            refine ab_rv ?_
            refine ab_nameM (fun M53 hM53 => ?_)
            have h := h M53 hM53
            have hs56 : Sx M M53 := hM53 ▸ (Sx.mA _ _).pl (Nat.le_refl _)
            have hm54 : Sx M M53 := (Sx.refl M).trans hs56
            have hl55 := hL.ofx hm54
            exact ab_aret (o := some (mN M)) dX11_newPlayer_152 rfl h
          · have h := h.2
            by_cases c57 : a1 = (6 : Int32)
            · have h := h.1 c57
              refine ab_tableIn (off := (144)) (tgt := 153) dX11_newPlayer_9 (by rw [c57]; decide) (by rw [c57]; decide) (by rw [c57]; decide) (by decide) ?_
              have hq63 := h.1
              have h := h.2
              refine ab_new (c := 8) dX11_newPlayer_153 (by decide) w_544 w_545 w_98 (by decide) (by decide) hq63 ?_
              have hs62 : Sx M (mA M (0, 8)) := Sx.mA _ _
              have hm60 : Sx M (mA M (0, 8)) := (Sx.refl M).trans hs62
              have hl61 := hL.ofx hm60
              refine ab_dup dX11_newPlayer_156 rfl ?_
              refine ab_iload_n 2 dX11_newPlayer_157 rfl ?_
              refine ab_aload_n 1 dX11_newPlayer_158 rfl ?_
              refine ab_getI dX11_newPlayer_159 fs_11_33_11 rfl (hl61.sh 0 rfl (by decide) (by decide)).1 (hl61.sh 0 rfl (by decide) (by decide)).2 ?_
              refine ab_iload_n 3 dX11_newPlayer_162 rfl ?_
              refine ab_iload_n 4 dX11_newPlayer_163 rfl ?_
              refine ab_aload 0 dX11_newPlayer_164 rfl ?_
              refine ab_aload_n 1 dX11_newPlayer_166 rfl ?_
              refine ab_getP (r := 46) dX11_newPlayer_167 fs_11_57_11 rfl (hl61.sh 0 rfl (by decide) (by decide)).1 (hl61.sh 0 rfl (by decide) (by decide)).2 (hl61.pt 6 rfl (by decide) (by decide)) ?_
              refine ab_callI (d' := d + 3) (mc' := 0) (ms' := 0) (vs := [.int a1, .int (gI (mA M (0, 8)) 0 4), .int a2, .int a3, .ref (5 + a3.toNatClampNeg), .ref 46]) (st := [.ref (mN M)]) dX11_newPlayer_170 ⟨cw_X8_init, w_546⟩ rfl rfl w_547 rfl rfl (Nat.le_of_ble_eq_true rfl) (Nat.le_refl _) (Nat.zero_le _) (Nat.zero_le _) (c_X8_init (d := d + 0) (c := 8) (by unfold plc; decide) ⟨Nat.lt_succ_self _, mS_mA _⟩ ?_)
              refine ab_rv ?_
              refine ab_nameM (fun M64 hM64 => ?_)
              have h := h M64 hM64
              have hs67 : Sx M M64 := hM64 ▸ (Sx.mA _ _).pl (Nat.le_refl _)
              have hm65 : Sx M M64 := (Sx.refl M).trans hs67
              have hl66 := hL.ofx hm65
              exact ab_aret (o := some (mN M)) dX11_newPlayer_173 rfl h
            · have h := h.2
              have h := h c2 c13 c24 c35 c46 c57
              refine ab_tableOut (tgt := 174) dX11_newPlayer_9 (by have e0 := lv_neT (a := 1) c2 (by decide); have e1 := lv_neT (a := 2) c13 (by decide); have e2 := lv_neT (a := 3) c24 (by decide); have e3 := lv_neT (a := 4) c35 (by decide); have e4 := lv_neT (a := 5) c46 (by decide); have e5 := lv_neT (a := 6) c57 (by decide); omega) (by decide) ?_
              have hq73 := h.1
              have h := h.2
              refine ab_new (c := 5) dX11_newPlayer_174 (by decide) w_140 w_557 w_92 (by decide) (by decide) hq73 ?_
              have hs72 : Sx M (mA M (0, 5)) := Sx.mA _ _
              have hm70 : Sx M (mA M (0, 5)) := (Sx.refl M).trans hs72
              have hl71 := hL.ofx hm70
              refine ab_dup dX11_newPlayer_177 rfl ?_
              refine ab_iload_n 2 dX11_newPlayer_178 rfl ?_
              refine ab_aload_n 1 dX11_newPlayer_179 rfl ?_
              refine ab_getI dX11_newPlayer_180 fs_11_33_11 rfl (hl71.sh 0 rfl (by decide) (by decide)).1 (hl71.sh 0 rfl (by decide) (by decide)).2 ?_
              refine ab_iload_n 3 dX11_newPlayer_183 rfl ?_
              refine ab_iload_n 4 dX11_newPlayer_184 rfl ?_
              refine ab_aload 0 dX11_newPlayer_185 rfl ?_
              refine ab_aload_n 1 dX11_newPlayer_187 rfl ?_
              refine ab_getP (r := 46) dX11_newPlayer_188 fs_11_57_11 rfl (hl71.sh 0 rfl (by decide) (by decide)).1 (hl71.sh 0 rfl (by decide) (by decide)).2 (hl71.pt 6 rfl (by decide) (by decide)) ?_
              refine ab_callI (d' := d + 3) (mc' := 0) (ms' := 0) (vs := [.int a1, .int (gI (mA M (0, 5)) 0 4), .int a2, .int a3, .ref (5 + a3.toNatClampNeg), .ref 46]) (st := [.ref (mN M)]) dX11_newPlayer_191 ⟨cw_X5_init, w_558⟩ rfl rfl w_455 rfl rfl (Nat.le_of_ble_eq_true rfl) (Nat.le_refl _) (Nat.zero_le _) (Nat.zero_le _) (c_X5_init (d := d + 2) (c := 5) (by unfold plc; decide) ⟨Nat.lt_succ_self _, mS_mA _⟩ ?_)
              refine ab_rv ?_
              refine ab_nameM (fun M74 hM74 => ?_)
              have h := h M74 hM74
              have hs77 : Sx M M74 := hM74 ▸ (Sx.mA _ _).pl (Nat.le_refl _)
              have hm75 : Sx M M74 := (Sx.refl M).trans hs77
              have hl76 := hL.ofx hm75
              exact ab_aret (o := some (mN M)) dX11_newPlayer_194 rfl h
theorem dX11_player_0 : decode cX11_player 0 = .ok (.iload_n 1, 1) := by decide +kernel
theorem dX11_player_1 : decode cX11_player 1 = .ok (.ifCond .lt 21, 3) := by decide +kernel
theorem dX11_player_4 : decode cX11_player 4 = .ok (.iload_n 1, 1) := by decide +kernel
theorem dX11_player_5 : decode cX11_player 5 = .ok (.bipush 7, 2) := by decide +kernel
theorem dX11_player_7 : decode cX11_player 7 = .ok (.if_icmp .ge 15, 3) := by decide +kernel
theorem dX11_player_10 : decode cX11_player 10 = .ok (.iload_n 3, 1) := by decide +kernel
theorem dX11_player_11 : decode cX11_player 11 = .ok (.ifCond .lt 11, 3) := by decide +kernel
theorem dX11_player_14 : decode cX11_player 14 = .ok (.iload_n 3, 1) := by decide +kernel
theorem dX11_player_15 : decode cX11_player 15 = .ok (.aload_n 0, 1) := by decide +kernel
theorem dX11_player_16 : decode cX11_player 16 = .ok (.getfield 23, 3) := by decide +kernel
theorem dX11_player_19 : decode cX11_player 19 = .ok (.if_icmp .lt 5, 3) := by decide +kernel
theorem dX11_player_22 : decode cX11_player 22 = .ok (.iconst (-1), 1) := by decide +kernel
theorem dX11_player_23 : decode cX11_player 23 = .ok (.ireturn, 1) := by decide +kernel
theorem dX11_player_24 : decode cX11_player 24 = .ok (.iload_n 2, 1) := by decide +kernel
theorem dX11_player_25 : decode cX11_player 25 = .ok (.invokestatic 91, 3) := by decide +kernel
theorem dX11_player_28 : decode cX11_player 28 = .ok (.ifCond .ne 6, 3) := by decide +kernel
theorem dX11_player_31 : decode cX11_player 31 = .ok (.bipush (-2), 2) := by decide +kernel
theorem dX11_player_33 : decode cX11_player 33 = .ok (.ireturn, 1) := by decide +kernel
theorem dX11_player_34 : decode cX11_player 34 = .ok (.aload_n 0, 1) := by decide +kernel
theorem dX11_player_35 : decode cX11_player 35 = .ok (.getfield 33, 3) := by decide +kernel
theorem dX11_player_38 : decode cX11_player 38 = .ok (.bipush 10, 2) := by decide +kernel
theorem dX11_player_40 : decode cX11_player 40 = .ok (.if_icmp .lt 6, 3) := by decide +kernel
theorem dX11_player_43 : decode cX11_player 43 = .ok (.bipush (-4), 2) := by decide +kernel
theorem dX11_player_45 : decode cX11_player 45 = .ok (.ireturn, 1) := by decide +kernel
theorem dX11_player_46 : decode cX11_player 46 = .ok (.aload_n 0, 1) := by decide +kernel
theorem dX11_player_47 : decode cX11_player 47 = .ok (.getfield 29, 3) := by decide +kernel
theorem dX11_player_50 : decode cX11_player 50 = .ok (.aload_n 0, 1) := by decide +kernel
theorem dX11_player_51 : decode cX11_player 51 = .ok (.getfield 33, 3) := by decide +kernel
theorem dX11_player_54 : decode cX11_player 54 = .ok (.aload_n 0, 1) := by decide +kernel
theorem dX11_player_55 : decode cX11_player 55 = .ok (.iload_n 1, 1) := by decide +kernel
theorem dX11_player_56 : decode cX11_player 56 = .ok (.iload_n 2, 1) := by decide +kernel
theorem dX11_player_57 : decode cX11_player 57 = .ok (.iload_n 3, 1) := by decide +kernel
theorem dX11_player_58 : decode cX11_player 58 = .ok (.invokevirtual 127, 3) := by decide +kernel
theorem dX11_player_61 : decode cX11_player 61 = .ok (.aastore, 1) := by decide +kernel
theorem dX11_player_62 : decode cX11_player 62 = .ok (.aload_n 0, 1) := by decide +kernel
theorem dX11_player_63 : decode cX11_player 63 = .ok (.dup, 1) := by decide +kernel
theorem dX11_player_64 : decode cX11_player 64 = .ok (.getfield 33, 3) := by decide +kernel
theorem dX11_player_67 : decode cX11_player 67 = .ok (.iconst 1, 1) := by decide +kernel
theorem dX11_player_68 : decode cX11_player 68 = .ok (.iadd, 1) := by decide +kernel
theorem dX11_player_69 : decode cX11_player 69 = .ok (.putfield 33, 3) := by decide +kernel
theorem dX11_player_72 : decode cX11_player 72 = .ok (.aload_n 0, 1) := by decide +kernel
theorem dX11_player_73 : decode cX11_player 73 = .ok (.getfield 33, 3) := by decide +kernel
theorem dX11_player_76 : decode cX11_player 76 = .ok (.iconst 1, 1) := by decide +kernel
theorem dX11_player_77 : decode cX11_player 77 = .ok (.isub, 1) := by decide +kernel
theorem dX11_player_78 : decode cX11_player 78 = .ok (.ireturn, 1) := by decide +kernel
set_option maxRecDepth 20000 in
theorem rX11_player (D : GD) (d : Nat) (a1 : Int32) (a2 : Int32) (a3 : Int32) (M : Mm) (post : Option Value → Mm → Prop) (hL : Lay 0 62 M) 
    (h : ((a1 < 0 → post (some (.int (-1 : Int32))) M) ∧ (¬ a1 < 0 → (((7 : Int32) ≤ a1 → post (some (.int (-1 : Int32))) M) ∧ (¬ (7 : Int32) ≤ a1 → ((a3 < 0 → post (some (.int (-1 : Int32))) M) ∧ (¬ a3 < 0 → ((a3 < (gI M 0 2) → AMi D d mX11_isSide [.int a2] M (fun x6 M5 => ((¬ x6 = 0 → (((gI M5 0 4) < (10 : Int32) → AMqx D d 1 6 mX11_newPlayer [.ref 0, .int a1, .int a2, .int a3] M5 (fun x14 M13 => vp_in (gI M5 0 4) 10 ∧ (∀ p : Nat, x14 = some p → ∃ c, plc c ∧ Sh M13 p (0, c)) ∧ ∀ M21 : Mm, M21 = sP M13 12 ((gI M5 0 4).toNatClampNeg) x14 → ∀ M25 : Mm, M25 = sI M21 0 4 ((gI M21 0 4) + (1 : Int32)) → post (some (.int ((gI M25 0 4) - (1 : Int32)))) M25)) ∧ (¬ (gI M5 0 4) < (10 : Int32) → post (some (.int (-4 : Int32))) M5))) ∧ (x6 = 0 → post (some (.int (-2 : Int32))) M5)))) ∧ (¬ a3 < (gI M 0 2) → post (some (.int (-1 : Int32))) M))))))))) :
    AM D (d + 1) 1 6 mX11_player [.ref 0, .int a1, .int a2, .int a3] M post := by
  refine AM.of (by decide) (Nat.le_of_ble_eq_true rfl) ?_
  show AW D (d + 1) 1 6 mX11_player 1 6 0 [(0, .ref 0), (1, .int a1), (2, .int a2), (3, .int a3)] [] M post
  refine ab_iload_n 1 dX11_player_0 rfl ?_
  refine ab_if_lt (tgt := 22) dX11_player_1 (by decide) (fun c1 => ?_) (fun c1 => ?_)
  · have h := h.1 c1
    refine ab_iconst (v := (-1)) dX11_player_22 (by decide) ?_
    exact ab_iret dX11_player_23 rfl h
  · have h := h.2 c1
    refine ab_iload_n 1 dX11_player_4 rfl ?_
    refine ab_bipush (v := 7) dX11_player_5 (by decide) ?_
    refine ab_icmp_ge (tgt := 22) dX11_player_7 (by decide) (fun c2 => ?_) (fun c2 => ?_)
    · have h := h.1 c2
      refine ab_iconst (v := (-1)) dX11_player_22 (by decide) ?_
      exact ab_iret dX11_player_23 rfl h
    · have h := h.2 c2
      refine ab_iload_n 3 dX11_player_10 rfl ?_
      refine ab_if_lt (tgt := 22) dX11_player_11 (by decide) (fun c3 => ?_) (fun c3 => ?_)
      · have h := h.1 c3
        refine ab_iconst (v := (-1)) dX11_player_22 (by decide) ?_
        exact ab_iret dX11_player_23 rfl h
      · have h := h.2 c3
        refine ab_iload_n 3 dX11_player_14 rfl ?_
        refine ab_aload_n 0 dX11_player_15 rfl ?_
        refine ab_getI dX11_player_16 fs_11_23_11 rfl (hL.sh 0 rfl (by decide) (by decide)).1 (hL.sh 0 rfl (by decide) (by decide)).2 ?_
        refine ab_icmp_lt (tgt := 24) dX11_player_19 (by decide) (fun c4 => ?_) (fun c4 => ?_)
        · have h := h.1 c4
          refine ab_iload_n 2 dX11_player_24 rfl ?_
          refine ab_callS (d' := d) (mc' := 0) (ms' := 0) (vs := [.int a2]) (st := []) dX11_player_25 ⟨cw_X11_isSide, w_318⟩ w_319 rfl rfl (Nat.le_of_ble_eq_true rfl) (Nat.le_refl _) (Nat.zero_le _) (Nat.zero_le _) (AM.mono h (fun r M5 ⟨x6, hr7, hc8, h⟩ => ?_))
          subst hr7
          refine ab_rs ?_
          have hm9 : Sx M M5 := (Sx.refl M).trans hc8.x
          have hl10 := hL.ofx hm9
          refine ab_if_ne (tgt := 34) dX11_player_28 (by decide) (fun c11 => ?_) (fun c11 => ?_)
          · have h := h.1 c11
            refine ab_aload_n 0 dX11_player_34 rfl ?_
            refine ab_getI dX11_player_35 fs_11_33_11 rfl (hl10.sh 0 rfl (by decide) (by decide)).1 (hl10.sh 0 rfl (by decide) (by decide)).2 ?_
            refine ab_bipush (v := 10) dX11_player_38 (by decide) ?_
            refine ab_icmp_lt (tgt := 46) dX11_player_40 (by decide) (fun c12 => ?_) (fun c12 => ?_)
            · have h := h.1 c12
              refine ab_aload_n 0 dX11_player_46 rfl ?_
              refine ab_getP (r := 12) dX11_player_47 fs_11_29_11 rfl (hl10.sh 0 rfl (by decide) (by decide)).1 (hl10.sh 0 rfl (by decide) (by decide)).2 (hl10.pt 2 rfl (by decide) (by decide)) ?_
              refine ab_aload_n 0 dX11_player_50 rfl ?_
              refine ab_getI dX11_player_51 fs_11_33_11 rfl (hl10.sh 0 rfl (by decide) (by decide)).1 (hl10.sh 0 rfl (by decide) (by decide)).2 ?_
              refine ab_aload_n 0 dX11_player_54 rfl ?_
              refine ab_iload_n 1 dX11_player_55 rfl ?_
              refine ab_iload_n 2 dX11_player_56 rfl ?_
              refine ab_iload_n 3 dX11_player_57 rfl ?_
              refine ab_callV (a := 0) (c0 := 11) (d' := d) (mc' := 1) (ms' := 6) (vs := [.int a1, .int a2, .int a3]) (st := [.int (gI M5 0 4), .ref 12]) dX11_player_58 ⟨cw_X11_newPlayer, w_445⟩ w_447 w_13 (by decide) (hl10.sh 0 rfl (by decide) (by decide)).1 (hl10.sh 0 rfl (by decide) (by decide)).2 rfl rfl (Nat.le_of_ble_eq_true rfl) (Nat.le_refl _) (Nat.le_refl _) (Nat.le_refl _) (AM.mono h (fun r M13 ⟨x14, hr15, hc16, h⟩ => ?_))
              subst hr15
              refine ab_rs ?_
              have hm17 : Sx M M13 := hm9.trans hc16
              have hl18 := hL.ofx hm17
              have hb19 := h.1
              have h := h.2
              have ho20 := h.1
              have h := h.2
              refine ab_aast6 (o := x14) (j := (gI M5 0 4).toNatClampNeg) dX11_player_61 (hl18.sh 12 rfl (by decide) (by decide)) hb19 rfl ho20 ?_
              refine ab_nameM (fun M21 hM21 => ?_)
              have h := h M21 hM21
              have hs24 : Sm M13 M21 := hM21 ▸ ((Sm.refl _).p (by rw [(hl18.sh 12 rfl (by decide) (by decide)).2] <;> rfl))
              have hm22 : Sx M M21 := hm17.trans hs24.x
              have hl23 := hL.ofx hm22
              refine ab_aload_n 0 dX11_player_62 rfl ?_
              refine ab_dup dX11_player_63 rfl ?_
              refine ab_getI dX11_player_64 fs_11_33_11 rfl (hl23.sh 0 rfl (by decide) (by decide)).1 (hl23.sh 0 rfl (by decide) (by decide)).2 ?_
              refine ab_iconst (v := 1) dX11_player_67 (by decide) ?_
              refine ab_iadd dX11_player_68 ?_
              refine ab_putI dX11_player_69 fs_11_33_11 rfl rfl (hl23.sh 0 rfl (by decide) (by decide)).1 (hl23.sh 0 rfl (by decide) (by decide)).2 ?_
              refine ab_nameM (fun M25 hM25 => ?_)
              have h := h M25 hM25
              have hs28 : Sm M21 M25 := hM25 ▸ (Sm.refl _).i
              have hm26 : Sx M M25 := hm22.trans hs28.x
              have hl27 := hL.ofx hm26
              refine ab_aload_n 0 dX11_player_72 rfl ?_
              refine ab_getI dX11_player_73 fs_11_33_11 rfl (hl27.sh 0 rfl (by decide) (by decide)).1 (hl27.sh 0 rfl (by decide) (by decide)).2 ?_
              refine ab_iconst (v := 1) dX11_player_76 (by decide) ?_
              refine ab_isub dX11_player_77 ?_
              exact ab_iret dX11_player_78 rfl h
            · have h := h.2 c12
              refine ab_bipush (v := (-4)) dX11_player_43 (by decide) ?_
              exact ab_iret dX11_player_45 rfl h
          · have h := h.2 c11
            refine ab_bipush (v := (-2)) dX11_player_31 (by decide) ?_
            exact ab_iret dX11_player_33 rfl h
        · have h := h.2 c4
          refine ab_iconst (v := (-1)) dX11_player_22 (by decide) ?_
          exact ab_iret dX11_player_23 rfl h
theorem dX0_scoreBottle_0 : decode cX0_scoreBottle 0 = .ok (.aload_n 0, 1) := by decide +kernel
theorem dX0_scoreBottle_1 : decode cX0_scoreBottle 1 = .ok (.aload_n 1, 1) := by decide +kernel
theorem dX0_scoreBottle_2 : decode cX0_scoreBottle 2 = .ok (.aload_n 2, 1) := by decide +kernel
theorem dX0_scoreBottle_3 : decode cX0_scoreBottle 3 = .ok (.iconst 0, 1) := by decide +kernel
theorem dX0_scoreBottle_4 : decode cX0_scoreBottle 4 = .ok (.invokevirtual 119, 3) := by decide +kernel
theorem dX0_scoreBottle_7 : decode cX0_scoreBottle 7 = .ok (.aload_n 0, 1) := by decide +kernel
theorem dX0_scoreBottle_8 : decode cX0_scoreBottle 8 = .ok (.getfield 33, 3) := by decide +kernel
theorem dX0_scoreBottle_11 : decode cX0_scoreBottle 11 = .ok (.lstore_n 3, 1) := by decide +kernel
theorem dX0_scoreBottle_12 : decode cX0_scoreBottle 12 = .ok (.aload_n 0, 1) := by decide +kernel
theorem dX0_scoreBottle_13 : decode cX0_scoreBottle 13 = .ok (.getfield 37, 3) := by decide +kernel
theorem dX0_scoreBottle_16 : decode cX0_scoreBottle 16 = .ok (.lstore 5, 2) := by decide +kernel
theorem dX0_scoreBottle_18 : decode cX0_scoreBottle 18 = .ok (.aload_n 0, 1) := by decide +kernel
theorem dX0_scoreBottle_19 : decode cX0_scoreBottle 19 = .ok (.aload_n 1, 1) := by decide +kernel
theorem dX0_scoreBottle_20 : decode cX0_scoreBottle 20 = .ok (.new 123, 3) := by decide +kernel
theorem dX0_scoreBottle_23 : decode cX0_scoreBottle 23 = .ok (.dup, 1) := by decide +kernel
theorem dX0_scoreBottle_24 : decode cX0_scoreBottle 24 = .ok (.iconst 5, 1) := by decide +kernel
theorem dX0_scoreBottle_25 : decode cX0_scoreBottle 25 = .ok (.aload_n 2, 1) := by decide +kernel
theorem dX0_scoreBottle_26 : decode cX0_scoreBottle 26 = .ok (.getfield 125, 3) := by decide +kernel
theorem dX0_scoreBottle_29 : decode cX0_scoreBottle 29 = .ok (.aload_n 2, 1) := by decide +kernel
theorem dX0_scoreBottle_30 : decode cX0_scoreBottle 30 = .ok (.getfield 128, 3) := by decide +kernel
theorem dX0_scoreBottle_33 : decode cX0_scoreBottle 33 = .ok (.aload_n 2, 1) := by decide +kernel
theorem dX0_scoreBottle_34 : decode cX0_scoreBottle 34 = .ok (.getfield 131, 3) := by decide +kernel
theorem dX0_scoreBottle_37 : decode cX0_scoreBottle 37 = .ok (.aload_n 2, 1) := by decide +kernel
theorem dX0_scoreBottle_38 : decode cX0_scoreBottle 38 = .ok (.getfield 79, 3) := by decide +kernel
theorem dX0_scoreBottle_41 : decode cX0_scoreBottle 41 = .ok (.aload_n 2, 1) := by decide +kernel
theorem dX0_scoreBottle_42 : decode cX0_scoreBottle 42 = .ok (.getfield 134, 3) := by decide +kernel
theorem dX0_scoreBottle_45 : decode cX0_scoreBottle 45 = .ok (.invokespecial 137, 3) := by decide +kernel
theorem dX0_scoreBottle_48 : decode cX0_scoreBottle 48 = .ok (.iconst 0, 1) := by decide +kernel
theorem dX0_scoreBottle_49 : decode cX0_scoreBottle 49 = .ok (.invokevirtual 119, 3) := by decide +kernel
theorem dX0_scoreBottle_52 : decode cX0_scoreBottle 52 = .ok (.aload_n 0, 1) := by decide +kernel
theorem dX0_scoreBottle_53 : decode cX0_scoreBottle 53 = .ok (.aload_n 0, 1) := by decide +kernel
theorem dX0_scoreBottle_54 : decode cX0_scoreBottle 54 = .ok (.getfield 33, 3) := by decide +kernel
theorem dX0_scoreBottle_57 : decode cX0_scoreBottle 57 = .ok (.lload 5, 2) := by decide +kernel
theorem dX0_scoreBottle_59 : decode cX0_scoreBottle 59 = .ok (.lmul, 1) := by decide +kernel
theorem dX0_scoreBottle_60 : decode cX0_scoreBottle 60 = .ok (.lload_n 3, 1) := by decide +kernel
theorem dX0_scoreBottle_61 : decode cX0_scoreBottle 61 = .ok (.aload_n 0, 1) := by decide +kernel
theorem dX0_scoreBottle_62 : decode cX0_scoreBottle 62 = .ok (.getfield 37, 3) := by decide +kernel
theorem dX0_scoreBottle_65 : decode cX0_scoreBottle 65 = .ok (.lmul, 1) := by decide +kernel
theorem dX0_scoreBottle_66 : decode cX0_scoreBottle 66 = .ok (.lsub, 1) := by decide +kernel
theorem dX0_scoreBottle_67 : decode cX0_scoreBottle 67 = .ok (.putfield 33, 3) := by decide +kernel
theorem dX0_scoreBottle_70 : decode cX0_scoreBottle 70 = .ok (.aload_n 0, 1) := by decide +kernel
theorem dX0_scoreBottle_71 : decode cX0_scoreBottle 71 = .ok (.aload_n 0, 1) := by decide +kernel
theorem dX0_scoreBottle_72 : decode cX0_scoreBottle 72 = .ok (.getfield 37, 3) := by decide +kernel
theorem dX0_scoreBottle_75 : decode cX0_scoreBottle 75 = .ok (.lload 5, 2) := by decide +kernel
theorem dX0_scoreBottle_77 : decode cX0_scoreBottle 77 = .ok (.lmul, 1) := by decide +kernel
theorem dX0_scoreBottle_78 : decode cX0_scoreBottle 78 = .ok (.putfield 37, 3) := by decide +kernel
theorem dX0_scoreBottle_81 : decode cX0_scoreBottle 81 = .ok (.aload_n 0, 1) := by decide +kernel
theorem dX0_scoreBottle_82 : decode cX0_scoreBottle 82 = .ok (.invokevirtual 116, 3) := by decide +kernel
theorem dX0_scoreBottle_85 : decode cX0_scoreBottle 85 = .ok (.return_, 1) := by decide +kernel
set_option maxRecDepth 20000 in
theorem rX0_scoreBottle (D : GD) (d : Nat) (a1 ka1 ja1 : Nat) (a2 ka2 ja2 : Nat) (M : Mm) (post : Option Value → Mm → Prop) (hL : Lay 13 25 M) (hpa1 : Pl M a1 ka1 ja1) (hpa2 : Pl M a2 ka2 ja2)
    (h : AMv D (d + 3) mX0_score [.ref 13, .ref a1, .ref a2, .int (0 : Int32)] M (fun M1 => ∀ x9 : Int64, x9 = (gL M1 13 6) → ∀ x10 : Int64, x10 = (gL M1 13 7) → mN M1 < 1000000 ∧ ∀ M19 : Mm, M19 = plI (mA M1 (0, 3)) (mN M1) (5 : Int32) (gI (mA M1 (0, 3)) a2 1) (gI (mA M1 (0, 3)) a2 2) (gI (mA M1 (0, 3)) a2 3) (5 + ja2) 46 → AMv D (d + 3) mX0_score [.ref 13, .ref a1, .ref (mN M1), .int (0 : Int32)] M19 (fun M25 => ∀ M33 : Mm, M33 = sL M25 13 6 (((gL M25 13 6) * x10) - (x9 * (gL M25 13 7))) → ∀ M39 : Mm, M39 = sL M33 13 7 ((gL M33 13 7) * x10) → AMv D (d + 3) mX0_reduce [.ref 13] M39 (fun M45 => post none M45)))) :
    AM D (d + 3 + 1) 1 6 mX0_scoreBottle [.ref 13, .ref a1, .ref a2] M post := by
  refine AM.of (by decide) (Nat.le_of_ble_eq_true rfl) ?_
  show AW D (d + 3 + 1) 1 6 mX0_scoreBottle 1 6 0 [(0, .ref 13), (1, .ref a1), (2, .ref a2)] [] M post
  refine ab_aload_n 0 dX0_scoreBottle_0 rfl ?_
  refine ab_aload_n 1 dX0_scoreBottle_1 rfl ?_
  refine ab_aload_n 2 dX0_scoreBottle_2 rfl ?_
  refine ab_iconst (v := 0) dX0_scoreBottle_3 (by decide) ?_
  refine ab_callV (a := 13) (c0 := 0) (d' := d + 3) (mc' := 0) (ms' := 0) (vs := [.ref a1, .ref a2, .int (0 : Int32)]) (st := []) dX0_scoreBottle_4 ⟨cw_X0_score, w_707⟩ w_683 w_684 (by decide) (hL.sh 13 rfl (by decide) (by decide)).1 (hL.sh 13 rfl (by decide) (by decide)).2 rfl rfl (Nat.le_of_ble_eq_true rfl) (Nat.le_refl _) (Nat.zero_le _) (Nat.zero_le _) (AM.mono h (fun r M1 ⟨hr3, hc4, h⟩ => ?_))
  subst hr3
  refine ab_rv ?_
  have hm5 : Sx M M1 := (Sx.refl M).trans hc4.x
  have hl6 := hL.ofx hm5
  have hp7 := hpa1.of hc4
  have hp8 := hpa2.of hc4
  refine ab_aload_n 0 dX0_scoreBottle_7 rfl ?_
  refine ab_getL dX0_scoreBottle_8 fs_0_33_0 rfl (hl6.sh 13 rfl (by decide) (by decide)).1 (hl6.sh 13 rfl (by decide) (by decide)).2 ?_
  refine ab_topl (fun x9 hx9 => ?_)
  have h := h x9 hx9
  refine ab_lstore_n (lv1 := [(3, .long x9), (0, .ref 13), (1, .ref a1), (2, .ref a2)]) dX0_scoreBottle_11 (by decide) rfl ?_
  refine ab_aload_n 1 dX0_scoreBottle_12 rfl ?_
  refine ab_getL dX0_scoreBottle_13 fs_0_37_0 rfl (hl6.sh 13 rfl (by decide) (by decide)).1 (hl6.sh 13 rfl (by decide) (by decide)).2 ?_
  refine ab_topl (fun x10 hx10 => ?_)
  have h := h x10 hx10
  refine ab_lstore (lv1 := [(5, .long x10), (3, .long x9), (0, .ref 13), (1, .ref a1), (2, .ref a2)]) dX0_scoreBottle_16 (by decide) rfl ?_
  refine ab_aload_n 2 dX0_scoreBottle_18 rfl ?_
  refine ab_aload_n 3 dX0_scoreBottle_19 rfl ?_
  have hq16 := h.1
  have h := h.2
  refine ab_new (c := 3) dX0_scoreBottle_20 (by decide) w_708 w_532 w_97 (by decide) (by decide) hq16 ?_
  have hs15 : Sx M1 (mA M1 (0, 3)) := Sx.mA _ _
  have hm13 : Sx M (mA M1 (0, 3)) := hm5.trans hs15
  have hl14 := hL.ofx hm13
  have hp17 := hp7.ofx hs15
  have hp18 := hp8.ofx hs15
  refine ab_dup dX0_scoreBottle_23 rfl ?_
  refine ab_iconst (v := 5) dX0_scoreBottle_24 (by decide) ?_
  refine ab_aload_n 4 dX0_scoreBottle_25 rfl ?_
  refine ab_getI dX0_scoreBottle_26 (pf_0_125 hp18.2.1).1 (pf_0_125 hp18.2.1).2 hp18.1.1 hp18.1.2 ?_
  refine ab_aload_n 4 dX0_scoreBottle_29 rfl ?_
  refine ab_getI dX0_scoreBottle_30 (pf_0_128 hp18.2.1).1 (pf_0_128 hp18.2.1).2 hp18.1.1 hp18.1.2 ?_
  refine ab_aload_n 4 dX0_scoreBottle_33 rfl ?_
  refine ab_getI dX0_scoreBottle_34 (pf_0_131 hp18.2.1).1 (pf_0_131 hp18.2.1).2 hp18.1.1 hp18.1.2 ?_
  refine ab_aload_n 4 dX0_scoreBottle_37 rfl ?_
  refine ab_getP (r := 5 + ja2) dX0_scoreBottle_38 (pf_0_79 hp18.2.1).1 (pf_0_79 hp18.2.1).2 hp18.1.1 hp18.1.2 hp18.2.2.2.2 ?_
  refine ab_aload_n 4 dX0_scoreBottle_41 rfl ?_
  refine ab_getN (r := 46) (c := ka2) (k := 5) (host := RX11) dX0_scoreBottle_42 hp18.2.1.lt (pl_nF hp18.2.1) (pl_nest hp18.2.1) (pl_fk5 hp18.2.1) hp18.1.1 hp18.1.2 hp18.2.2.1 ?_
  refine ab_callI (d' := d + 3) (mc' := 0) (ms' := 0) (vs := [.int (5 : Int32), .int (gI (mA M1 (0, 3)) a2 1), .int (gI (mA M1 (0, 3)) a2 2), .int (gI (mA M1 (0, 3)) a2 3), .ref (5 + ja2), .ref 46]) (st := [.ref (mN M1), .ref a1, .ref 13]) dX0_scoreBottle_45 ⟨cw_X3_init, w_709⟩ rfl rfl w_534 rfl rfl (Nat.le_of_ble_eq_true rfl) (Nat.le_refl _) (Nat.zero_le _) (Nat.zero_le _) (c_X3_init (d := d + 0) (c := 3) (by unfold plc; decide) ⟨Nat.lt_succ_self _, mS_mA _⟩ ?_)
  refine ab_rv ?_
  refine ab_nameM (fun M19 hM19 => ?_)
  have h := h M19 hM19
  have hs22 : Sx M1 M19 := hM19 ▸ (Sx.mA _ _).pl (Nat.le_refl _)
  have hm20 : Sx M M19 := hm5.trans hs22
  have hl21 := hL.ofx hm20
  have hp23 := hp7.ofx hs22
  have hp24 := hp8.ofx hs22
  refine ab_iconst (v := 0) dX0_scoreBottle_48 (by decide) ?_
  refine ab_callV (a := 13) (c0 := 0) (d' := d + 3) (mc' := 0) (ms' := 0) (vs := [.ref a1, .ref (mN M1), .int (0 : Int32)]) (st := []) dX0_scoreBottle_49 ⟨cw_X0_score, w_707⟩ w_683 w_684 (by decide) (hl21.sh 13 rfl (by decide) (by decide)).1 (hl21.sh 13 rfl (by decide) (by decide)).2 rfl rfl (Nat.le_of_ble_eq_true rfl) (Nat.le_refl _) (Nat.zero_le _) (Nat.zero_le _) (AM.mono h (fun r M25 ⟨hr27, hc28, h⟩ => ?_))
  subst hr27
  refine ab_rv ?_
  have hm29 : Sx M M25 := hm20.trans hc28.x
  have hl30 := hL.ofx hm29
  have hp31 := hp23.of hc28
  have hp32 := hp24.of hc28
  refine ab_aload_n 2 dX0_scoreBottle_52 rfl ?_
  refine ab_aload_n 2 dX0_scoreBottle_53 rfl ?_
  refine ab_getL dX0_scoreBottle_54 fs_0_33_0 rfl (hl30.sh 13 rfl (by decide) (by decide)).1 (hl30.sh 13 rfl (by decide) (by decide)).2 ?_
  refine ab_lload 0 dX0_scoreBottle_57 rfl ?_
  refine ab_lmul dX0_scoreBottle_59 ?_
  refine ab_lload_n 1 dX0_scoreBottle_60 rfl ?_
  refine ab_aload_n 2 dX0_scoreBottle_61 rfl ?_
  refine ab_getL dX0_scoreBottle_62 fs_0_37_0 rfl (hl30.sh 13 rfl (by decide) (by decide)).1 (hl30.sh 13 rfl (by decide) (by decide)).2 ?_
  refine ab_lmul dX0_scoreBottle_65 ?_
  refine ab_lsub dX0_scoreBottle_66 ?_
  refine ab_putL dX0_scoreBottle_67 fs_0_33_0 rfl rfl (hl30.sh 13 rfl (by decide) (by decide)).1 (hl30.sh 13 rfl (by decide) (by decide)).2 ?_
  refine ab_nameM (fun M33 hM33 => ?_)
  have h := h M33 hM33
  have hs36 : Sm M25 M33 := hM33 ▸ (Sm.refl _).l
  have hm34 : Sx M M33 := hm29.trans hs36.x
  have hl35 := hL.ofx hm34
  have hp37 := hp31.of hs36
  have hp38 := hp32.of hs36
  refine ab_aload_n 2 dX0_scoreBottle_70 rfl ?_
  refine ab_aload_n 2 dX0_scoreBottle_71 rfl ?_
  refine ab_getL dX0_scoreBottle_72 fs_0_37_0 rfl (hl35.sh 13 rfl (by decide) (by decide)).1 (hl35.sh 13 rfl (by decide) (by decide)).2 ?_
  refine ab_lload 0 dX0_scoreBottle_75 rfl ?_
  refine ab_lmul dX0_scoreBottle_77 ?_
  refine ab_putL dX0_scoreBottle_78 fs_0_37_0 rfl rfl (hl35.sh 13 rfl (by decide) (by decide)).1 (hl35.sh 13 rfl (by decide) (by decide)).2 ?_
  refine ab_nameM (fun M39 hM39 => ?_)
  have h := h M39 hM39
  have hs42 : Sm M33 M39 := hM39 ▸ (Sm.refl _).l
  have hm40 : Sx M M39 := hm34.trans hs42.x
  have hl41 := hL.ofx hm40
  have hp43 := hp37.of hs42
  have hp44 := hp38.of hs42
  refine ab_aload_n 2 dX0_scoreBottle_81 rfl ?_
  refine ab_callV (a := 13) (c0 := 0) (d' := d + 3) (mc' := 0) (ms' := 0) (vs := []) (st := []) dX0_scoreBottle_82 ⟨cw_X0_reduce, w_696⟩ w_698 w_17 (by decide) (hl41.sh 13 rfl (by decide) (by decide)).1 (hl41.sh 13 rfl (by decide) (by decide)).2 rfl rfl (Nat.le_of_ble_eq_true rfl) (Nat.le_refl _) (Nat.zero_le _) (Nat.zero_le _) (AM.mono h (fun r M45 ⟨hr47, hc48, h⟩ => ?_))
  subst hr47
  refine ab_rv ?_
  have hm49 : Sx M M45 := hm40.trans hc48.x
  have hl50 := hL.ofx hm49
  have hp51 := hp43.of hc48
  have hp52 := hp44.of hc48
  exact ab_vret dX0_scoreBottle_85 rfl h
theorem dX11_odds_0 : decode cX11_odds 0 = .ok (.aload_n 0, 1) := by decide +kernel
theorem dX11_odds_1 : decode cX11_odds 1 = .ok (.iload_n 1, 1) := by decide +kernel
theorem dX11_odds_2 : decode cX11_odds 2 = .ok (.invokevirtual 131, 3) := by decide +kernel
theorem dX11_odds_5 : decode cX11_odds 5 = .ok (.astore 9, 2) := by decide +kernel
theorem dX11_odds_7 : decode cX11_odds 7 = .ok (.aload_n 0, 1) := by decide +kernel
theorem dX11_odds_8 : decode cX11_odds 8 = .ok (.iload_n 2, 1) := by decide +kernel
theorem dX11_odds_9 : decode cX11_odds 9 = .ok (.invokevirtual 131, 3) := by decide +kernel
theorem dX11_odds_12 : decode cX11_odds 12 = .ok (.astore 10, 2) := by decide +kernel
theorem dX11_odds_14 : decode cX11_odds 14 = .ok (.aload 9, 2) := by decide +kernel
theorem dX11_odds_16 : decode cX11_odds 16 = .ok (.ifnull 39, 3) := by decide +kernel
theorem dX11_odds_19 : decode cX11_odds 19 = .ok (.aload 10, 2) := by decide +kernel
theorem dX11_odds_21 : decode cX11_odds 21 = .ok (.ifnull 34, 3) := by decide +kernel
theorem dX11_odds_24 : decode cX11_odds 24 = .ok (.iload 4, 2) := by decide +kernel
theorem dX11_odds_26 : decode cX11_odds 26 = .ok (.iload 5, 2) := by decide +kernel
theorem dX11_odds_28 : decode cX11_odds 28 = .ok (.iload 6, 2) := by decide +kernel
theorem dX11_odds_30 : decode cX11_odds 30 = .ok (.iload 7, 2) := by decide +kernel
theorem dX11_odds_32 : decode cX11_odds 32 = .ok (.invokestatic 174, 3) := by decide +kernel
theorem dX11_odds_35 : decode cX11_odds 35 = .ok (.ifCond .eq 20, 3) := by decide +kernel
theorem dX11_odds_38 : decode cX11_odds 38 = .ok (.iload_n 3, 1) := by decide +kernel
theorem dX11_odds_39 : decode cX11_odds 39 = .ok (.ifCond .lt 16, 3) := by decide +kernel
theorem dX11_odds_42 : decode cX11_odds 42 = .ok (.iload_n 3, 1) := by decide +kernel
theorem dX11_odds_43 : decode cX11_odds 43 = .ok (.iconst 1, 1) := by decide +kernel
theorem dX11_odds_44 : decode cX11_odds 44 = .ok (.if_icmp .gt 11, 3) := by decide +kernel
theorem dX11_odds_47 : decode cX11_odds 47 = .ok (.iload 8, 2) := by decide +kernel
theorem dX11_odds_49 : decode cX11_odds 49 = .ok (.invokestatic 193, 3) := by decide +kernel
theorem dX11_odds_52 : decode cX11_odds 52 = .ok (.ifCond .ne 7, 3) := by decide +kernel
theorem dX11_odds_55 : decode cX11_odds 55 = .ok (.ldc2_w 196, 3) := by decide +kernel
theorem dX11_odds_58 : decode cX11_odds 58 = .ok (.lreturn, 1) := by decide +kernel
theorem dX11_odds_59 : decode cX11_odds 59 = .ok (.aload_n 0, 1) := by decide +kernel
theorem dX11_odds_60 : decode cX11_odds 60 = .ok (.getfield 39, 3) := by decide +kernel
theorem dX11_odds_63 : decode cX11_odds 63 = .ok (.iload 4, 2) := by decide +kernel
theorem dX11_odds_65 : decode cX11_odds 65 = .ok (.iload 5, 2) := by decide +kernel
theorem dX11_odds_67 : decode cX11_odds 67 = .ok (.iload 6, 2) := by decide +kernel
theorem dX11_odds_69 : decode cX11_odds 69 = .ok (.iload 7, 2) := by decide +kernel
theorem dX11_odds_71 : decode cX11_odds 71 = .ok (.invokevirtual 178, 3) := by decide +kernel
theorem dX11_odds_74 : decode cX11_odds 74 = .ok (.iload_n 3, 1) := by decide +kernel
theorem dX11_odds_75 : decode cX11_odds 75 = .ok (.ifCond .ne 18, 3) := by decide +kernel
theorem dX11_odds_78 : decode cX11_odds 78 = .ok (.aload_n 0, 1) := by decide +kernel
theorem dX11_odds_79 : decode cX11_odds 79 = .ok (.getfield 39, 3) := by decide +kernel
theorem dX11_odds_82 : decode cX11_odds 82 = .ok (.aload 9, 2) := by decide +kernel
theorem dX11_odds_84 : decode cX11_odds 84 = .ok (.aload 10, 2) := by decide +kernel
theorem dX11_odds_86 : decode cX11_odds 86 = .ok (.iconst 0, 1) := by decide +kernel
theorem dX11_odds_87 : decode cX11_odds 87 = .ok (.invokevirtual 198, 3) := by decide +kernel
theorem dX11_odds_90 : decode cX11_odds 90 = .ok (.goto 14, 3) := by decide +kernel
theorem dX11_odds_93 : decode cX11_odds 93 = .ok (.aload_n 0, 1) := by decide +kernel
theorem dX11_odds_94 : decode cX11_odds 94 = .ok (.getfield 39, 3) := by decide +kernel
theorem dX11_odds_97 : decode cX11_odds 97 = .ok (.aload 9, 2) := by decide +kernel
theorem dX11_odds_99 : decode cX11_odds 99 = .ok (.aload 10, 2) := by decide +kernel
theorem dX11_odds_101 : decode cX11_odds 101 = .ok (.invokevirtual 202, 3) := by decide +kernel
theorem dX11_odds_104 : decode cX11_odds 104 = .ok (.iload 8, 2) := by decide +kernel
theorem dX11_odds_106 : decode cX11_odds 106 = .ok (.ifCond .ne 13, 3) := by decide +kernel
theorem dX11_odds_109 : decode cX11_odds 109 = .ok (.aload_n 0, 1) := by decide +kernel
theorem dX11_odds_110 : decode cX11_odds 110 = .ok (.getfield 39, 3) := by decide +kernel
theorem dX11_odds_113 : decode cX11_odds 113 = .ok (.getfield 205, 3) := by decide +kernel
theorem dX11_odds_116 : decode cX11_odds 116 = .ok (.goto 10, 3) := by decide +kernel
theorem dX11_odds_119 : decode cX11_odds 119 = .ok (.aload_n 0, 1) := by decide +kernel
theorem dX11_odds_120 : decode cX11_odds 120 = .ok (.getfield 39, 3) := by decide +kernel
theorem dX11_odds_123 : decode cX11_odds 123 = .ok (.getfield 209, 3) := by decide +kernel
theorem dX11_odds_126 : decode cX11_odds 126 = .ok (.lreturn, 1) := by decide +kernel
set_option maxRecDepth 20000 in
theorem rX11_odds (D : GD) (d : Nat) (a1 : Int32) (a2 : Int32) (a3 : Int32) (a4 : Int32) (a5 : Int32) (a6 : Int32) (a7 : Int32) (a8 : Int32) (M : Mm) (post : Option Value → Mm → Prop) (hL : Lay 0 62 M) 
    (h : AMq D d mX11_playerOrNull [.ref 0, .int a1] M (fun x2 M1 => AMq D d mX11_playerOrNull [.ref 0, .int a2] M1 (fun x8 M7 => ((x2 = none → post (some (.long (-9223372036854775808 : Int64))) M7) ∧ (∀ p14 : Nat, x2 = some p14 → ((x8 = none → post (some (.long (-9223372036854775808 : Int64))) M7) ∧ (∀ p16 : Nat, x8 = some p16 → AMi D d mX11_isState [.int a4, .int a5, .int a6, .int a7] M7 (fun x18 M17 => ((x18 = 0 → post (some (.long (-9223372036854775808 : Int64))) M17) ∧ (¬ x18 = 0 → ((a3 < 0 → post (some (.long (-9223372036854775808 : Int64))) M17) ∧ (¬ a3 < 0 → (((1 : Int32) < a3 → post (some (.long (-9223372036854775808 : Int64))) M17) ∧ (¬ (1 : Int32) < a3 → AMi D d mX11_isPart [.int a8] M17 (fun x27 M26 => ((¬ x27 = 0 → AMv D d mX0_setState [.ref 13, .int a4, .int a5, .int a6, .int a7] M26 (fun M33 => ((¬ a3 = 0 → AMvx D d 1 6 mX0_scoreBottle [.ref 13, .ref p14, .ref p16] M33 (fun M40 => ((¬ a8 = 0 → post (some (.long (gL M40 13 7))) M40) ∧ (a8 = 0 → post (some (.long (gL M40 13 6))) M40)))) ∧ (a3 = 0 → AMv D d mX0_score [.ref 13, .ref p14, .ref p16, .int (0 : Int32)] M33 (fun M47 => ((¬ a8 = 0 → post (some (.long (gL M47 13 7))) M47) ∧ (a8 = 0 → post (some (.long (gL M47 13 6))) M47))))))) ∧ (x27 = 0 → post (some (.long (-9223372036854775808 : Int64))) M26))))))))))))))))) :
    AM D (d + 1) 1 6 mX11_odds [.ref 0, .int a1, .int a2, .int a3, .int a4, .int a5, .int a6, .int a7, .int a8] M post := by
  refine AM.of (by decide) (Nat.le_of_ble_eq_true rfl) ?_
  show AW D (d + 1) 1 6 mX11_odds 1 6 0 [(0, .ref 0), (1, .int a1), (2, .int a2), (3, .int a3), (4, .int a4), (5, .int a5), (6, .int a6), (7, .int a7), (8, .int a8)] [] M post
  refine ab_aload_n 0 dX11_odds_0 rfl ?_
  refine ab_iload_n 1 dX11_odds_1 rfl ?_
  refine ab_callV (a := 0) (c0 := 11) (d' := d) (mc' := 0) (ms' := 0) (vs := [.int a1]) (st := []) dX11_odds_2 ⟨cw_X11_playerOrNull, w_570⟩ w_572 w_14 (by decide) (hL.sh 0 rfl (by decide) (by decide)).1 (hL.sh 0 rfl (by decide) (by decide)).2 rfl rfl (Nat.le_of_ble_eq_true rfl) (Nat.le_refl _) (Nat.zero_le _) (Nat.zero_le _) (AM.mono h (fun r M1 ⟨x2, hr3, hc4, h⟩ => ?_))
  subst hr3
  refine ab_rs ?_
  have hm5 : Sx M M1 := (Sx.refl M).trans hc4.x
  have hl6 := hL.ofx hm5
  refine ab_astoreq (lv1 := [(9, va_rf x2), (0, .ref 0), (1, .int a1), (2, .int a2), (3, .int a3), (4, .int a4), (5, .int a5), (6, .int a6), (7, .int a7), (8, .int a8)]) dX11_odds_5 (by decide) rfl ?_
  refine ab_aload_n 1 dX11_odds_7 rfl ?_
  refine ab_iload_n 3 dX11_odds_8 rfl ?_
  refine ab_callV (a := 0) (c0 := 11) (d' := d) (mc' := 0) (ms' := 0) (vs := [.int a2]) (st := []) dX11_odds_9 ⟨cw_X11_playerOrNull, w_570⟩ w_572 w_14 (by decide) (hl6.sh 0 rfl (by decide) (by decide)).1 (hl6.sh 0 rfl (by decide) (by decide)).2 rfl rfl (Nat.le_of_ble_eq_true rfl) (Nat.le_refl _) (Nat.zero_le _) (Nat.zero_le _) (AM.mono h (fun r M7 ⟨x8, hr9, hc10, h⟩ => ?_))
  subst hr9
  refine ab_rs ?_
  have hm11 : Sx M M7 := hm5.trans hc10.x
  have hl12 := hL.ofx hm11
  refine ab_astoreq (lv1 := [(10, va_rf x8), (9, va_rf x2), (0, .ref 0), (1, .int a1), (2, .int a2), (3, .int a3), (4, .int a4), (5, .int a5), (6, .int a6), (7, .int a7), (8, .int a8)]) dX11_odds_12 (by decide) (by simp [q1, cat_rf]) ?_
  refine ab_aloadq 1 dX11_odds_14 rfl ?_
  refine ab_ifnull (tgt := 55) dX11_odds_16 (by decide) (fun c13 => ?_) (fun p14 c13 => ?_)
  · have h := h.1 c13
    refine ab_ldc2 dX11_odds_55 w_681 ?_
    exact ab_lret dX11_odds_58 rfl h
  · have h := h.2 p14 c13
    rw [c13]
    refine ab_aloadq 0 dX11_odds_19 rfl ?_
    refine ab_ifnull (tgt := 55) dX11_odds_21 (by decide) (fun c15 => ?_) (fun p16 c15 => ?_)
    · have h := h.1 c15
      refine ab_ldc2 dX11_odds_55 w_681 ?_
      exact ab_lret dX11_odds_58 rfl h
    · have h := h.2 p16 c15
      rw [c15]
      refine ab_iload 6 dX11_odds_24 rfl ?_
      refine ab_iload 7 dX11_odds_26 rfl ?_
      refine ab_iload 8 dX11_odds_28 rfl ?_
      refine ab_iload 9 dX11_odds_30 rfl ?_
      refine ab_callS (d' := d) (mc' := 0) (ms' := 0) (vs := [.int a4, .int a5, .int a6, .int a7]) (st := []) dX11_odds_32 ⟨cw_X11_isState, w_589⟩ w_590 rfl rfl (Nat.le_of_ble_eq_true rfl) (Nat.le_refl _) (Nat.zero_le _) (Nat.zero_le _) (AM.mono h (fun r M17 ⟨x18, hr19, hc20, h⟩ => ?_))
      subst hr19
      refine ab_rs ?_
      have hm21 : Sx M M17 := hm11.trans hc20.x
      have hl22 := hL.ofx hm21
      refine ab_if_eq (tgt := 55) dX11_odds_35 (by decide) (fun c23 => ?_) (fun c23 => ?_)
      · have h := h.1 c23
        refine ab_ldc2 dX11_odds_55 w_681 ?_
        exact ab_lret dX11_odds_58 rfl h
      · have h := h.2 c23
        refine ab_iload_n 5 dX11_odds_38 rfl ?_
        refine ab_if_lt (tgt := 55) dX11_odds_39 (by decide) (fun c24 => ?_) (fun c24 => ?_)
        · have h := h.1 c24
          refine ab_ldc2 dX11_odds_55 w_681 ?_
          exact ab_lret dX11_odds_58 rfl h
        · have h := h.2 c24
          refine ab_iload_n 5 dX11_odds_42 rfl ?_
          refine ab_iconst (v := 1) dX11_odds_43 (by decide) ?_
          refine ab_icmp_gt (tgt := 55) dX11_odds_44 (by decide) (fun c25 => ?_) (fun c25 => ?_)
          · have h := h.1 c25
            refine ab_ldc2 dX11_odds_55 w_681 ?_
            exact ab_lret dX11_odds_58 rfl h
          · have h := h.2 c25
            refine ab_iload 10 dX11_odds_47 rfl ?_
            refine ab_callS (d' := d) (mc' := 0) (ms' := 0) (vs := [.int a8]) (st := []) dX11_odds_49 ⟨cw_X11_isPart, w_678⟩ w_679 rfl rfl (Nat.le_of_ble_eq_true rfl) (Nat.le_refl _) (Nat.zero_le _) (Nat.zero_le _) (AM.mono h (fun r M26 ⟨x27, hr28, hc29, h⟩ => ?_))
            subst hr28
            refine ab_rs ?_
            have hm30 : Sx M M26 := hm21.trans hc29.x
            have hl31 := hL.ofx hm30
            refine ab_if_ne (tgt := 59) dX11_odds_52 (by decide) (fun c32 => ?_) (fun c32 => ?_)
            · have h := h.1 c32
              refine ab_aload_n 2 dX11_odds_59 rfl ?_
              refine ab_getP (r := 13) dX11_odds_60 fs_11_39_11 rfl (hl31.sh 0 rfl (by decide) (by decide)).1 (hl31.sh 0 rfl (by decide) (by decide)).2 (hl31.pt 3 rfl (by decide) (by decide)) ?_
              refine ab_iload 6 dX11_odds_63 rfl ?_
              refine ab_iload 7 dX11_odds_65 rfl ?_
              refine ab_iload 8 dX11_odds_67 rfl ?_
              refine ab_iload 9 dX11_odds_69 rfl ?_
              refine ab_callV (a := 13) (c0 := 0) (d' := d) (mc' := 0) (ms' := 0) (vs := [.int a4, .int a5, .int a6, .int a7]) (st := []) dX11_odds_71 ⟨cw_X0_setState, w_592⟩ w_593 w_594 (by decide) (hl31.sh 13 rfl (by decide) (by decide)).1 (hl31.sh 13 rfl (by decide) (by decide)).2 rfl rfl (Nat.le_of_ble_eq_true rfl) (Nat.le_refl _) (Nat.zero_le _) (Nat.zero_le _) (AM.mono h (fun r M33 ⟨hr35, hc36, h⟩ => ?_))
              subst hr35
              refine ab_rv ?_
              have hm37 : Sx M M33 := hm30.trans hc36.x
              have hl38 := hL.ofx hm37
              refine ab_iload_n 5 dX11_odds_74 rfl ?_
              refine ab_if_ne (tgt := 93) dX11_odds_75 (by decide) (fun c39 => ?_) (fun c39 => ?_)
              · have h := h.1 c39
                refine ab_aload_n 2 dX11_odds_93 rfl ?_
                refine ab_getP (r := 13) dX11_odds_94 fs_11_39_11 rfl (hl38.sh 0 rfl (by decide) (by decide)).1 (hl38.sh 0 rfl (by decide) (by decide)).2 (hl38.pt 3 rfl (by decide) (by decide)) ?_
                refine ab_aload 1 dX11_odds_97 rfl ?_
                refine ab_aload 0 dX11_odds_99 rfl ?_
                refine ab_callV (a := 13) (c0 := 0) (d' := d) (mc' := 1) (ms' := 6) (vs := [.ref p14, .ref p16]) (st := []) dX11_odds_101 ⟨cw_X0_scoreBottle, w_703⟩ w_704 w_705 (by decide) (hl38.sh 13 rfl (by decide) (by decide)).1 (hl38.sh 13 rfl (by decide) (by decide)).2 rfl rfl (Nat.le_of_ble_eq_true rfl) (Nat.le_refl _) (Nat.le_refl _) (Nat.le_refl _) (AM.mono h (fun r M40 ⟨hr42, hc43, h⟩ => ?_))
                subst hr42
                refine ab_rv ?_
                have hm44 : Sx M M40 := hm37.trans hc43
                have hl45 := hL.ofx hm44
                refine ab_iload 10 dX11_odds_104 rfl ?_
                refine ab_if_ne (tgt := 119) dX11_odds_106 (by decide) (fun c46 => ?_) (fun c46 => ?_)
                · have h := h.1 c46
                  refine ab_aload_n 2 dX11_odds_119 rfl ?_
                  refine ab_getP (r := 13) dX11_odds_120 fs_11_39_11 rfl (hl45.sh 0 rfl (by decide) (by decide)).1 (hl45.sh 0 rfl (by decide) (by decide)).2 (hl45.pt 3 rfl (by decide) (by decide)) ?_
                  refine ab_getL dX11_odds_123 fs_11_209_0 rfl (hl45.sh 13 rfl (by decide) (by decide)).1 (hl45.sh 13 rfl (by decide) (by decide)).2 ?_
                  exact ab_lret dX11_odds_126 rfl h
                · have h := h.2 c46
                  refine ab_aload_n 2 dX11_odds_109 rfl ?_
                  refine ab_getP (r := 13) dX11_odds_110 fs_11_39_11 rfl (hl45.sh 0 rfl (by decide) (by decide)).1 (hl45.sh 0 rfl (by decide) (by decide)).2 (hl45.pt 3 rfl (by decide) (by decide)) ?_
                  refine ab_getL dX11_odds_113 fs_11_205_0 rfl (hl45.sh 13 rfl (by decide) (by decide)).1 (hl45.sh 13 rfl (by decide) (by decide)).2 ?_
                  refine ab_goto (tgt := 126) dX11_odds_116 (by decide) ?_
                  exact ab_lret dX11_odds_126 rfl h
              · have h := h.2 c39
                refine ab_aload_n 2 dX11_odds_78 rfl ?_
                refine ab_getP (r := 13) dX11_odds_79 fs_11_39_11 rfl (hl38.sh 0 rfl (by decide) (by decide)).1 (hl38.sh 0 rfl (by decide) (by decide)).2 (hl38.pt 3 rfl (by decide) (by decide)) ?_
                refine ab_aload 1 dX11_odds_82 rfl ?_
                refine ab_aload 0 dX11_odds_84 rfl ?_
                refine ab_iconst (v := 0) dX11_odds_86 (by decide) ?_
                refine ab_callV (a := 13) (c0 := 0) (d' := d) (mc' := 0) (ms' := 0) (vs := [.ref p14, .ref p16, .int (0 : Int32)]) (st := []) dX11_odds_87 ⟨cw_X0_score, w_682⟩ w_683 w_684 (by decide) (hl38.sh 13 rfl (by decide) (by decide)).1 (hl38.sh 13 rfl (by decide) (by decide)).2 rfl rfl (Nat.le_of_ble_eq_true rfl) (Nat.le_refl _) (Nat.zero_le _) (Nat.zero_le _) (AM.mono h (fun r M47 ⟨hr49, hc50, h⟩ => ?_))
                subst hr49
                refine ab_rv ?_
                have hm51 : Sx M M47 := hm37.trans hc50.x
                have hl52 := hL.ofx hm51
                refine ab_goto (tgt := 104) dX11_odds_90 (by decide) ?_
                refine ab_iload 10 dX11_odds_104 rfl ?_
                refine ab_if_ne (tgt := 119) dX11_odds_106 (by decide) (fun c53 => ?_) (fun c53 => ?_)
                · have h := h.1 c53
                  refine ab_aload_n 2 dX11_odds_119 rfl ?_
                  refine ab_getP (r := 13) dX11_odds_120 fs_11_39_11 rfl (hl52.sh 0 rfl (by decide) (by decide)).1 (hl52.sh 0 rfl (by decide) (by decide)).2 (hl52.pt 3 rfl (by decide) (by decide)) ?_
                  refine ab_getL dX11_odds_123 fs_11_209_0 rfl (hl52.sh 13 rfl (by decide) (by decide)).1 (hl52.sh 13 rfl (by decide) (by decide)).2 ?_
                  exact ab_lret dX11_odds_126 rfl h
                · have h := h.2 c53
                  refine ab_aload_n 2 dX11_odds_109 rfl ?_
                  refine ab_getP (r := 13) dX11_odds_110 fs_11_39_11 rfl (hl52.sh 0 rfl (by decide) (by decide)).1 (hl52.sh 0 rfl (by decide) (by decide)).2 (hl52.pt 3 rfl (by decide) (by decide)) ?_
                  refine ab_getL dX11_odds_113 fs_11_205_0 rfl (hl52.sh 13 rfl (by decide) (by decide)).1 (hl52.sh 13 rfl (by decide) (by decide)).2 ?_
                  refine ab_goto (tgt := 126) dX11_odds_116 (by decide) ?_
                  exact ab_lret dX11_odds_126 rfl h
            · have h := h.2 c32
              refine ab_ldc2 dX11_odds_55 w_681 ?_
              exact ab_lret dX11_odds_58 rfl h
