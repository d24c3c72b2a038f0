
def plc (c : Nat) : Prop := c = 2 ∨ c = 3 ∨ c = 4 ∨ c = 5 ∨ c = 8 ∨ c = 9 ∨ c = 10
/-- a player's cell: his sort, the row of codes that he follows, the log -/
def Pl (M : Mm) (p c j : Nat) : Prop := Sh M p (0, c) ∧ plc c ∧ gP M p 5 = some 46 ∧ j < 7 ∧ gP M p 4 = some (5 + j)
theorem Pl.of {M M1 : Mm} (hs : Sm M M1) {p c j : Nat} (h : Pl M p c j) : Pl M1 p c j := by
  obtain ⟨h1, h2, h3, h4, h5⟩ := h
  have hn : (mS M p).1 ≠ 6 := by rw [h1.2]; exact (by decide : (0 : Nat) ≠ 6)
  exact ⟨h1.of hs, h2, by rw [hs.2.2 p 5 hn]; exact h3, h4, by rw [hs.2.2 p 4 hn]; exact h5⟩
theorem plc.lt {c : Nat} (h : plc c) : c < 13 := by
  rcases h with h | h | h | h | h | h | h <;> omega

theorem cl_sorts {c : Nat} (h : c < 13) (j : Nat) : tyF c j = .int ∨ tyF c j = .long ∨ tyF c j = .boolean ∨ (∃ t, tyF c j = .array t) ∨ ∃ t, tyF c j = .object t := by
  match c, h with
  | 0, _ =>
    show tyX0 j = _ ∨ tyX0 j = _ ∨ tyX0 j = _ ∨ (∃ t, tyX0 j = _) ∨ ∃ t, tyX0 j = _
    unfold tyX0
    split <;> simp
  | 1, _ =>
    show tyX1 j = _ ∨ tyX1 j = _ ∨ tyX1 j = _ ∨ (∃ t, tyX1 j = _) ∨ ∃ t, tyX1 j = _
    unfold tyX1
    split <;> simp
  | 2, _ =>
    show tyX2 j = _ ∨ tyX2 j = _ ∨ tyX2 j = _ ∨ (∃ t, tyX2 j = _) ∨ ∃ t, tyX2 j = _
    unfold tyX2
    split <;> simp
  | 3, _ =>
    show tyX3 j = _ ∨ tyX3 j = _ ∨ tyX3 j = _ ∨ (∃ t, tyX3 j = _) ∨ ∃ t, tyX3 j = _
    unfold tyX3
    split <;> simp
  | 4, _ =>
    show tyX4 j = _ ∨ tyX4 j = _ ∨ tyX4 j = _ ∨ (∃ t, tyX4 j = _) ∨ ∃ t, tyX4 j = _
    unfold tyX4
    split <;> simp
  | 5, _ =>
    show tyX5 j = _ ∨ tyX5 j = _ ∨ tyX5 j = _ ∨ (∃ t, tyX5 j = _) ∨ ∃ t, tyX5 j = _
    unfold tyX5
    split <;> simp
  | 6, _ =>
    show tyX6 j = _ ∨ tyX6 j = _ ∨ tyX6 j = _ ∨ (∃ t, tyX6 j = _) ∨ ∃ t, tyX6 j = _
    unfold tyX6
    split <;> simp
  | 7, _ =>
    show tyX7 j = _ ∨ tyX7 j = _ ∨ tyX7 j = _ ∨ (∃ t, tyX7 j = _) ∨ ∃ t, tyX7 j = _
    unfold tyX7
    split <;> simp
  | 8, _ =>
    show tyX8 j = _ ∨ tyX8 j = _ ∨ tyX8 j = _ ∨ (∃ t, tyX8 j = _) ∨ ∃ t, tyX8 j = _
    unfold tyX8
    split <;> simp
  | 9, _ =>
    show tyX9 j = _ ∨ tyX9 j = _ ∨ tyX9 j = _ ∨ (∃ t, tyX9 j = _) ∨ ∃ t, tyX9 j = _
    unfold tyX9
    split <;> simp
  | 10, _ =>
    show tyX10 j = _ ∨ tyX10 j = _ ∨ tyX10 j = _ ∨ (∃ t, tyX10 j = _) ∨ ∃ t, tyX10 j = _
    unfold tyX10
    split <;> simp
  | 11, _ =>
    show tyX11 j = _ ∨ tyX11 j = _ ∨ tyX11 j = _ ∨ (∃ t, tyX11 j = _) ∨ ∃ t, tyX11 j = _
    unfold tyX11
    split <;> simp
  | 12, _ =>
    show tyX12 j = _ ∨ tyX12 j = _ ∨ tyX12 j = _ ∨ (∃ t, tyX12 j = _) ∨ ∃ t, tyX12 j = _
    unfold tyX12
    split <;> simp
def vm_heeds : Nat → MD
  | 3 => mX3_heeds
  | 10 => mX10_heeds
  | _ => mX5_heeds
def vm_weigh : Nat → MD
  | 2 => mX2_weigh
  | 3 => mX3_weigh
  | 4 => mX4_weigh
  | 8 => mX8_weigh
  | 9 => mX9_weigh
  | 10 => mX10_weigh
  | _ => mX5_weigh
def vm_looks : Nat → MD
  | 2 => mX2_looks
  | 3 => mX2_looks
  | 8 => mX8_looks
  | 10 => mX10_looks
  | _ => mX5_looks
def vm_goes : Nat → MD
  | 4 => mX4_goes
  | 8 => mX8_goes
  | 10 => mX10_goes
  | _ => mX5_goes
def vm_tells : Nat → MD
  | 3 => mX3_tells
  | 9 => mX9_tells
  | _ => mX5_tells
def vm_begin : Nat → MD
  | _ => mX5_begin
theorem pf_0_79 {c : Nat} (h : c = 2 ∨ c = 3 ∨ c = 4 ∨ c = 5 ∨ c = 8 ∨ c = 9 ∨ c = 10) : FS RX0 79 c 4 ∧ fk c 4 = 2 := by
  rcases h with rfl | rfl | rfl | rfl | rfl | rfl | rfl
  · exact ⟨fs_0_79_2, rfl⟩
  · exact ⟨fs_0_79_3, rfl⟩
  · exact ⟨fs_0_79_4, rfl⟩
  · exact ⟨fs_0_79_5, rfl⟩
  · exact ⟨fs_0_79_8, rfl⟩
  · exact ⟨fs_0_79_9, rfl⟩
  · exact ⟨fs_0_79_10, rfl⟩
theorem pf_0_125 {c : Nat} (h : c = 2 ∨ c = 3 ∨ c = 4 ∨ c = 5 ∨ c = 8 ∨ c = 9 ∨ c = 10) : FS RX0 125 c 1 ∧ fk c 1 = 0 := by
  rcases h with rfl | rfl | rfl | rfl | rfl | rfl | rfl
  · exact ⟨fs_0_125_2, rfl⟩
  · exact ⟨fs_0_125_3, rfl⟩
  · exact ⟨fs_0_125_4, rfl⟩
  · exact ⟨fs_0_125_5, rfl⟩
  · exact ⟨fs_0_125_8, rfl⟩
  · exact ⟨fs_0_125_9, rfl⟩
  · exact ⟨fs_0_125_10, rfl⟩
theorem pf_0_128 {c : Nat} (h : c = 2 ∨ c = 3 ∨ c = 4 ∨ c = 5 ∨ c = 8 ∨ c = 9 ∨ c = 10) : FS RX0 128 c 2 ∧ fk c 2 = 0 := by
  rcases h with rfl | rfl | rfl | rfl | rfl | rfl | rfl
  · exact ⟨fs_0_128_2, rfl⟩
  · exact ⟨fs_0_128_3, rfl⟩
  · exact ⟨fs_0_128_4, rfl⟩
  · exact ⟨fs_0_128_5, rfl⟩
  · exact ⟨fs_0_128_8, rfl⟩
  · exact ⟨fs_0_128_9, rfl⟩
  · exact ⟨fs_0_128_10, rfl⟩
theorem pf_0_131 {c : Nat} (h : c = 2 ∨ c = 3 ∨ c = 4 ∨ c = 5 ∨ c = 8 ∨ c = 9 ∨ c = 10) : FS RX0 131 c 3 ∧ fk c 3 = 0 := by
  rcases h with rfl | rfl | rfl | rfl | rfl | rfl | rfl
  · exact ⟨fs_0_131_2, rfl⟩
  · exact ⟨fs_0_131_3, rfl⟩
  · exact ⟨fs_0_131_4, rfl⟩
  · exact ⟨fs_0_131_5, rfl⟩
  · exact ⟨fs_0_131_8, rfl⟩
  · exact ⟨fs_0_131_9, rfl⟩
  · exact ⟨fs_0_131_10, rfl⟩
theorem pf_3_29 {c : Nat} (h : c = 3) : FS RX3 29 c 1 ∧ fk c 1 = 0 := by
  rcases h with rfl
  · exact ⟨fs_3_29_3, rfl⟩
theorem pf_4_9 {c : Nat} (h : c = 4 ∨ c = 10) : FS RX4 9 c 2 ∧ fk c 2 = 0 := by
  rcases h with rfl | rfl
  · exact ⟨fs_4_9_4, rfl⟩
  · exact ⟨fs_4_9_10, rfl⟩
theorem pf_5_9 {c : Nat} (h : c = 2 ∨ c = 3 ∨ c = 4 ∨ c = 5 ∨ c = 8 ∨ c = 9 ∨ c = 10) : FS RX5 9 c 0 ∧ fk c 0 = 0 := by
  rcases h with rfl | rfl | rfl | rfl | rfl | rfl | rfl
  · exact ⟨fs_5_9_2, rfl⟩
  · exact ⟨fs_5_9_3, rfl⟩
  · exact ⟨fs_5_9_4, rfl⟩
  · exact ⟨fs_5_9_5, rfl⟩
  · exact ⟨fs_5_9_8, rfl⟩
  · exact ⟨fs_5_9_9, rfl⟩
  · exact ⟨fs_5_9_10, rfl⟩
theorem pf_5_15 {c : Nat} (h : c = 2 ∨ c = 3 ∨ c = 4 ∨ c = 5 ∨ c = 8 ∨ c = 9 ∨ c = 10) : FS RX5 15 c 1 ∧ fk c 1 = 0 := by
  rcases h with rfl | rfl | rfl | rfl | rfl | rfl | rfl
  · exact ⟨fs_5_15_2, rfl⟩
  · exact ⟨fs_5_15_3, rfl⟩
  · exact ⟨fs_5_15_4, rfl⟩
  · exact ⟨fs_5_15_5, rfl⟩
  · exact ⟨fs_5_15_8, rfl⟩
  · exact ⟨fs_5_15_9, rfl⟩
  · exact ⟨fs_5_15_10, rfl⟩
theorem pf_5_18 {c : Nat} (h : c = 2 ∨ c = 3 ∨ c = 4 ∨ c = 5 ∨ c = 8 ∨ c = 9 ∨ c = 10) : FS RX5 18 c 2 ∧ fk c 2 = 0 := by
  rcases h with rfl | rfl | rfl | rfl | rfl | rfl | rfl
  · exact ⟨fs_5_18_2, rfl⟩
  · exact ⟨fs_5_18_3, rfl⟩
  · exact ⟨fs_5_18_4, rfl⟩
  · exact ⟨fs_5_18_5, rfl⟩
  · exact ⟨fs_5_18_8, rfl⟩
  · exact ⟨fs_5_18_9, rfl⟩
  · exact ⟨fs_5_18_10, rfl⟩
theorem pf_5_21 {c : Nat} (h : c = 2 ∨ c = 3 ∨ c = 4 ∨ c = 5 ∨ c = 8 ∨ c = 9 ∨ c = 10) : FS RX5 21 c 3 ∧ fk c 3 = 0 := by
  rcases h with rfl | rfl | rfl | rfl | rfl | rfl | rfl
  · exact ⟨fs_5_21_2, rfl⟩
  · exact ⟨fs_5_21_3, rfl⟩
  · exact ⟨fs_5_21_4, rfl⟩
  · exact ⟨fs_5_21_5, rfl⟩
  · exact ⟨fs_5_21_8, rfl⟩
  · exact ⟨fs_5_21_9, rfl⟩
  · exact ⟨fs_5_21_10, rfl⟩
theorem pf_5_24 {c : Nat} (h : c = 2 ∨ c = 3 ∨ c = 4 ∨ c = 5 ∨ c = 8 ∨ c = 9 ∨ c = 10) : FS RX5 24 c 4 ∧ fk c 4 = 2 := by
  rcases h with rfl | rfl | rfl | rfl | rfl | rfl | rfl
  · exact ⟨fs_5_24_2, rfl⟩
  · exact ⟨fs_5_24_3, rfl⟩
  · exact ⟨fs_5_24_4, rfl⟩
  · exact ⟨fs_5_24_5, rfl⟩
  · exact ⟨fs_5_24_8, rfl⟩
  · exact ⟨fs_5_24_9, rfl⟩
  · exact ⟨fs_5_24_10, rfl⟩
theorem pf_5_28 {c : Nat} (h : c = 2 ∨ c = 3 ∨ c = 4 ∨ c = 5 ∨ c = 8 ∨ c = 9 ∨ c = 10) : FS RX5 28 c 5 ∧ fk c 5 = 2 := by
  rcases h with rfl | rfl | rfl | rfl | rfl | rfl | rfl
  · exact ⟨fs_5_28_2, rfl⟩
  · exact ⟨fs_5_28_3, rfl⟩
  · exact ⟨fs_5_28_4, rfl⟩
  · exact ⟨fs_5_28_5, rfl⟩
  · exact ⟨fs_5_28_8, rfl⟩
  · exact ⟨fs_5_28_9, rfl⟩
  · exact ⟨fs_5_28_10, rfl⟩
theorem pf_8_13 {c : Nat} (h : c = 8) : FS RX8 13 c 2 ∧ fk c 2 = 0 := by
  rcases h with rfl
  · exact ⟨fs_8_13_8, rfl⟩
theorem pf_11_135 {c : Nat} (h : c = 2 ∨ c = 3 ∨ c = 4 ∨ c = 5 ∨ c = 8 ∨ c = 9 ∨ c = 10) : FS RX11 135 c 0 ∧ fk c 0 = 0 := by
  rcases h with rfl | rfl | rfl | rfl | rfl | rfl | rfl
  · exact ⟨fs_11_135_2, rfl⟩
  · exact ⟨fs_11_135_3, rfl⟩
  · exact ⟨fs_11_135_4, rfl⟩
  · exact ⟨fs_11_135_5, rfl⟩
  · exact ⟨fs_11_135_8, rfl⟩
  · exact ⟨fs_11_135_9, rfl⟩
  · exact ⟨fs_11_135_10, rfl⟩
theorem pf_11_138 {c : Nat} (h : c = 2 ∨ c = 3 ∨ c = 4 ∨ c = 5 ∨ c = 8 ∨ c = 9 ∨ c = 10) : FS RX11 138 c 2 ∧ fk c 2 = 0 := by
  rcases h with rfl | rfl | rfl | rfl | rfl | rfl | rfl
  · exact ⟨fs_11_138_2, rfl⟩
  · exact ⟨fs_11_138_3, rfl⟩
  · exact ⟨fs_11_138_4, rfl⟩
  · exact ⟨fs_11_138_5, rfl⟩
  · exact ⟨fs_11_138_8, rfl⟩
  · exact ⟨fs_11_138_9, rfl⟩
  · exact ⟨fs_11_138_10, rfl⟩
theorem pf_11_141 {c : Nat} (h : c = 2 ∨ c = 3 ∨ c = 4 ∨ c = 5 ∨ c = 8 ∨ c = 9 ∨ c = 10) : FS RX11 141 c 3 ∧ fk c 3 = 0 := by
  rcases h with rfl | rfl | rfl | rfl | rfl | rfl | rfl
  · exact ⟨fs_11_141_2, rfl⟩
  · exact ⟨fs_11_141_3, rfl⟩
  · exact ⟨fs_11_141_4, rfl⟩
  · exact ⟨fs_11_141_5, rfl⟩
  · exact ⟨fs_11_141_8, rfl⟩
  · exact ⟨fs_11_141_9, rfl⟩
  · exact ⟨fs_11_141_10, rfl⟩
theorem pf_11_235 {c : Nat} (h : c = 2 ∨ c = 3 ∨ c = 4 ∨ c = 5 ∨ c = 8 ∨ c = 9 ∨ c = 10) : FS RX11 235 c 1 ∧ fk c 1 = 0 := by
  rcases h with rfl | rfl | rfl | rfl | rfl | rfl | rfl
  · exact ⟨fs_11_235_2, rfl⟩
  · exact ⟨fs_11_235_3, rfl⟩
  · exact ⟨fs_11_235_4, rfl⟩
  · exact ⟨fs_11_235_5, rfl⟩
  · exact ⟨fs_11_235_8, rfl⟩
  · exact ⟨fs_11_235_9, rfl⟩
  · exact ⟨fs_11_235_10, rfl⟩
section
variable {D : GD} {d mc ms : Nat} {u : MD} {kc ks pc : Nat} {lv : List (Nat × Value)} {st : List Value} {M : Mm} {post : Option Value → Mm → Prop}
theorem vc_0_69 {d' a c : Nat} {vs stk : List Value} (hcl : u.1.cls = RX0) (hc : c = 2 ∨ c = 3 ∨ c = 4 ∨ c = 5 ∨ c = 8 ∨ c = 9 ∨ c = 10) (hd : decode u.2.1 pc = .ok (.invokevirtual 69, 3)) (hs : Sh M a (0, c)) (hn : vs.length = 0) (hstk : stk = vs.reverse ++ .ref a :: st) (hcat : (st.map fun v => v.category).sum ≤ 8) (hdd : d' + 1 ≤ d)
    (h : AM D d' 0 0 (vm_heeds c) (.ref a :: vs) M (fun r M1 => AW D d mc ms u (kc - 0) (ks - 0) (pc + 3) lv (r.toList ++ st) M1 post)) : AW D d mc ms u kc ks pc lv stk M post := by
  rcases hc with rfl | rfl | rfl | rfl | rfl | rfl | rfl
  · exact ab_callU (u' := mX5_heeds) (x := yX5_heeds) (owner := RX5) (c0 := 2) hd cw_X5_heeds ⟨by decide, by decide⟩ (hcl ▸ w_603) w_606 (Or.inr ⟨_, _, _, w_604, w_617⟩) rfl w_604 w_607 (by decide) hs.1 hs.2 hn hstk hcat hdd (Nat.zero_le _) (Nat.zero_le _) h
  · exact ab_callU (u' := mX3_heeds) (x := yX5_heeds) (owner := RX5) (c0 := 3) hd cw_X3_heeds ⟨by decide, by decide⟩ (hcl ▸ w_603) w_606 (Or.inr ⟨_, _, _, w_604, w_617⟩) rfl w_609 w_608 (by decide) hs.1 hs.2 hn hstk hcat hdd (Nat.zero_le _) (Nat.zero_le _) h
  · exact ab_callU (u' := mX5_heeds) (x := yX5_heeds) (owner := RX5) (c0 := 4) hd cw_X5_heeds ⟨by decide, by decide⟩ (hcl ▸ w_603) w_606 (Or.inr ⟨_, _, _, w_604, w_617⟩) rfl w_604 w_611 (by decide) hs.1 hs.2 hn hstk hcat hdd (Nat.zero_le _) (Nat.zero_le _) h
  · exact ab_callV (u' := mX5_heeds) (c0 := 5) hd ⟨cw_X5_heeds, hcl ▸ w_603⟩ w_604 w_605 (by decide) hs.1 hs.2 hn hstk hcat hdd (Nat.zero_le _) (Nat.zero_le _) h
  · exact ab_callU (u' := mX5_heeds) (x := yX5_heeds) (owner := RX5) (c0 := 8) hd cw_X5_heeds ⟨by decide, by decide⟩ (hcl ▸ w_603) w_606 (Or.inr ⟨_, _, _, w_604, w_617⟩) rfl w_604 w_612 (by decide) hs.1 hs.2 hn hstk hcat hdd (Nat.zero_le _) (Nat.zero_le _) h
  · exact ab_callU (u' := mX5_heeds) (x := yX5_heeds) (owner := RX5) (c0 := 9) hd cw_X5_heeds ⟨by decide, by decide⟩ (hcl ▸ w_603) w_606 (Or.inr ⟨_, _, _, w_604, w_617⟩) rfl w_604 w_613 (by decide) hs.1 hs.2 hn hstk hcat hdd (Nat.zero_le _) (Nat.zero_le _) h
  · exact ab_callU (u' := mX10_heeds) (x := yX5_heeds) (owner := RX5) (c0 := 10) hd cw_X10_heeds ⟨by decide, by decide⟩ (hcl ▸ w_603) w_606 (Or.inr ⟨_, _, _, w_604, w_617⟩) rfl w_615 w_614 (by decide) hs.1 hs.2 hn hstk hcat hdd (Nat.zero_le _) (Nat.zero_le _) h
theorem vc_0_98 {d' a c : Nat} {vs stk : List Value} (hcl : u.1.cls = RX0) (hc : c = 2 ∨ c = 3 ∨ c = 4 ∨ c = 5 ∨ c = 8 ∨ c = 9 ∨ c = 10) (hd : decode u.2.1 pc = .ok (.invokevirtual 98, 3)) (hs : Sh M a (0, c)) (hn : vs.length = 4) (hstk : stk = vs.reverse ++ .ref a :: st) (hcat : (st.map fun v => v.category).sum ≤ 8) (hdd : d' + 1 ≤ d)
    (h : AM D d' 0 0 (vm_weigh c) (.ref a :: vs) M (fun r M1 => AW D d mc ms u (kc - 0) (ks - 0) (pc + 3) lv (r.toList ++ st) M1 post)) : AW D d mc ms u kc ks pc lv stk M post := by
  rcases hc with rfl | rfl | rfl | rfl | rfl | rfl | rfl
  · exact ab_callU (u' := mX2_weigh) (x := yX5_weigh) (owner := RX5) (c0 := 2) hd cw_X2_weigh ⟨by decide, by decide⟩ (hcl ▸ w_635) w_638 (Or.inr ⟨_, _, _, w_636, w_665⟩) rfl w_640 w_639 (by decide) hs.1 hs.2 hn hstk hcat hdd (Nat.zero_le _) (Nat.zero_le _) h
  · exact ab_callU (u' := mX3_weigh) (x := yX5_weigh) (owner := RX5) (c0 := 3) hd cw_X3_weigh ⟨by decide, by decide⟩ (hcl ▸ w_635) w_638 (Or.inr ⟨_, _, _, w_636, w_665⟩) rfl w_644 w_643 (by decide) hs.1 hs.2 hn hstk hcat hdd (Nat.zero_le _) (Nat.zero_le _) h
  · exact ab_callU (u' := mX4_weigh) (x := yX5_weigh) (owner := RX5) (c0 := 4) hd cw_X4_weigh ⟨by decide, by decide⟩ (hcl ▸ w_635) w_638 (Or.inr ⟨_, _, _, w_636, w_665⟩) rfl w_650 w_649 (by decide) hs.1 hs.2 hn hstk hcat hdd (Nat.zero_le _) (Nat.zero_le _) h
  · exact ab_callV (u' := mX5_weigh) (c0 := 5) hd ⟨cw_X5_weigh, hcl ▸ w_635⟩ w_636 w_637 (by decide) hs.1 hs.2 hn hstk hcat hdd (Nat.zero_le _) (Nat.zero_le _) h
  · exact ab_callU (u' := mX8_weigh) (x := yX5_weigh) (owner := RX5) (c0 := 8) hd cw_X8_weigh ⟨by decide, by decide⟩ (hcl ▸ w_635) w_638 (Or.inr ⟨_, _, _, w_636, w_665⟩) rfl w_653 w_652 (by decide) hs.1 hs.2 hn hstk hcat hdd (Nat.zero_le _) (Nat.zero_le _) h
  · exact ab_callU (u' := mX9_weigh) (x := yX5_weigh) (owner := RX5) (c0 := 9) hd cw_X9_weigh ⟨by decide, by decide⟩ (hcl ▸ w_635) w_638 (Or.inr ⟨_, _, _, w_636, w_665⟩) rfl w_657 w_656 (by decide) hs.1 hs.2 hn hstk hcat hdd (Nat.zero_le _) (Nat.zero_le _) h
  · exact ab_callU (u' := mX10_weigh) (x := yX5_weigh) (owner := RX5) (c0 := 10) hd cw_X10_weigh ⟨by decide, by decide⟩ (hcl ▸ w_635) w_638 (Or.inr ⟨_, _, _, w_636, w_665⟩) rfl w_661 w_660 (by decide) hs.1 hs.2 hn hstk hcat hdd (Nat.zero_le _) (Nat.zero_le _) h
theorem vc_2_15 {d' a c : Nat} {vs stk : List Value} (hcl : u.1.cls = RX2) (hc : c = 2 ∨ c = 3 ∨ c = 8) (hd : decode u.2.1 pc = .ok (.invokevirtual 15, 3)) (hs : Sh M a (0, c)) (hn : vs.length = 1) (hstk : stk = vs.reverse ++ .ref a :: st) (hcat : (st.map fun v => v.category).sum ≤ 8) (hdd : d' + 1 ≤ d)
    (h : AM D d' 0 0 (vm_begin c) (.ref a :: vs) M (fun r M1 => AW D d mc ms u (kc - 0) (ks - 0) (pc + 3) lv (r.toList ++ st) M1 post)) : AW D d mc ms u kc ks pc lv stk M post := by
  rcases hc with rfl | rfl | rfl
  · exact ab_callU (u' := mX5_begin) (x := ⟨"ElevenYards$Mixed", "begin", "(I)V"⟩) (owner := RX5) (c0 := 2) hd cw_X5_begin ⟨by decide, by decide⟩ (hcl ▸ w_863) w_864 (Or.inr ⟨_, _, _, w_869, w_870⟩) rfl w_869 w_866 (by decide) hs.1 hs.2 hn hstk hcat hdd (Nat.zero_le _) (Nat.zero_le _) h
  · exact ab_callU (u' := mX5_begin) (x := ⟨"ElevenYards$Mixed", "begin", "(I)V"⟩) (owner := RX5) (c0 := 3) hd cw_X5_begin ⟨by decide, by decide⟩ (hcl ▸ w_863) w_864 (Or.inr ⟨_, _, _, w_869, w_870⟩) rfl w_869 w_867 (by decide) hs.1 hs.2 hn hstk hcat hdd (Nat.zero_le _) (Nat.zero_le _) h
  · exact ab_callU (u' := mX5_begin) (x := ⟨"ElevenYards$Mixed", "begin", "(I)V"⟩) (owner := RX5) (c0 := 8) hd cw_X5_begin ⟨by decide, by decide⟩ (hcl ▸ w_863) w_864 (Or.inr ⟨_, _, _, w_869, w_870⟩) rfl w_869 w_868 (by decide) hs.1 hs.2 hn hstk hcat hdd (Nat.zero_le _) (Nat.zero_le _) h
theorem vc_3_23 {d' a c : Nat} {vs stk : List Value} (hcl : u.1.cls = RX3) (hc : c = 3) (hd : decode u.2.1 pc = .ok (.invokevirtual 23, 3)) (hs : Sh M a (0, c)) (hn : vs.length = 1) (hstk : stk = vs.reverse ++ .ref a :: st) (hcat : (st.map fun v => v.category).sum ≤ 8) (hdd : d' + 1 ≤ d)
    (h : AM D d' 0 0 (vm_begin c) (.ref a :: vs) M (fun r M1 => AW D d mc ms u (kc - 0) (ks - 0) (pc + 3) lv (r.toList ++ st) M1 post)) : AW D d mc ms u kc ks pc lv stk M post := by
  rcases hc with rfl
  · exact ab_callU (u' := mX5_begin) (x := ⟨"ElevenYards$Noted", "begin", "(I)V"⟩) (owner := RX5) (c0 := 3) hd cw_X5_begin ⟨by decide, by decide⟩ (hcl ▸ w_928) w_929 (Or.inr ⟨_, _, _, w_869, w_870⟩) rfl w_869 w_930 (by decide) hs.1 hs.2 hn hstk hcat hdd (Nat.zero_le _) (Nat.zero_le _) h
theorem vc_4_15 {d' a c : Nat} {vs stk : List Value} (hcl : u.1.cls = RX4) (hc : c = 4 ∨ c = 10) (hd : decode u.2.1 pc = .ok (.invokevirtual 15, 3)) (hs : Sh M a (0, c)) (hn : vs.length = 1) (hstk : stk = vs.reverse ++ .ref a :: st) (hcat : (st.map fun v => v.category).sum ≤ 8) (hdd : d' + 1 ≤ d)
    (h : AM D d' 0 0 (vm_begin c) (.ref a :: vs) M (fun r M1 => AW D d mc ms u (kc - 0) (ks - 0) (pc + 3) lv (r.toList ++ st) M1 post)) : AW D d mc ms u kc ks pc lv stk M post := by
  rcases hc with rfl | rfl
  · exact ab_callU (u' := mX5_begin) (x := ⟨"ElevenYards$Own", "begin", "(I)V"⟩) (owner := RX5) (c0 := 4) hd cw_X5_begin ⟨by decide, by decide⟩ (hcl ▸ w_902) w_903 (Or.inr ⟨_, _, _, w_869, w_870⟩) rfl w_869 w_904 (by decide) hs.1 hs.2 hn hstk hcat hdd (Nat.zero_le _) (Nat.zero_le _) h
  · exact ab_callU (u' := mX5_begin) (x := ⟨"ElevenYards$Own", "begin", "(I)V"⟩) (owner := RX5) (c0 := 10) hd cw_X5_begin ⟨by decide, by decide⟩ (hcl ▸ w_902) w_903 (Or.inr ⟨_, _, _, w_869, w_870⟩) rfl w_869 w_905 (by decide) hs.1 hs.2 hn hstk hcat hdd (Nat.zero_le _) (Nat.zero_le _) h
theorem vc_5_31 {d' a c : Nat} {vs stk : List Value} (hcl : u.1.cls = RX5) (hc : c = 2 ∨ c = 3 ∨ c = 4 ∨ c = 5 ∨ c = 8 ∨ c = 9 ∨ c = 10) (hd : decode u.2.1 pc = .ok (.invokevirtual 31, 3)) (hs : Sh M a (0, c)) (hn : vs.length = 1) (hstk : stk = vs.reverse ++ .ref a :: st) (hcat : (st.map fun v => v.category).sum ≤ 8) (hdd : d' + 1 ≤ d)
    (h : AM D d' 0 0 (vm_begin c) (.ref a :: vs) M (fun r M1 => AW D d mc ms u (kc - 0) (ks - 0) (pc + 3) lv (r.toList ++ st) M1 post)) : AW D d mc ms u kc ks pc lv stk M post := by
  rcases hc with rfl | rfl | rfl | rfl | rfl | rfl | rfl
  · exact ab_callU (u' := mX5_begin) (x := yX5_begin) (owner := RX5) (c0 := 2) hd cw_X5_begin ⟨by decide, by decide⟩ (hcl ▸ w_892) w_1531 (Or.inr ⟨_, _, _, w_869, w_870⟩) rfl w_869 w_1532 (by decide) hs.1 hs.2 hn hstk hcat hdd (Nat.zero_le _) (Nat.zero_le _) h
  · exact ab_callU (u' := mX5_begin) (x := yX5_begin) (owner := RX5) (c0 := 3) hd cw_X5_begin ⟨by decide, by decide⟩ (hcl ▸ w_892) w_1531 (Or.inr ⟨_, _, _, w_869, w_870⟩) rfl w_869 w_1533 (by decide) hs.1 hs.2 hn hstk hcat hdd (Nat.zero_le _) (Nat.zero_le _) h
  · exact ab_callU (u' := mX5_begin) (x := yX5_begin) (owner := RX5) (c0 := 4) hd cw_X5_begin ⟨by decide, by decide⟩ (hcl ▸ w_892) w_1531 (Or.inr ⟨_, _, _, w_869, w_870⟩) rfl w_869 w_1534 (by decide) hs.1 hs.2 hn hstk hcat hdd (Nat.zero_le _) (Nat.zero_le _) h
  · exact ab_callV (u' := mX5_begin) (c0 := 5) hd ⟨cw_X5_begin, hcl ▸ w_892⟩ w_869 w_1535 (by decide) hs.1 hs.2 hn hstk hcat hdd (Nat.zero_le _) (Nat.zero_le _) h
  · exact ab_callU (u' := mX5_begin) (x := yX5_begin) (owner := RX5) (c0 := 8) hd cw_X5_begin ⟨by decide, by decide⟩ (hcl ▸ w_892) w_1531 (Or.inr ⟨_, _, _, w_869, w_870⟩) rfl w_869 w_1536 (by decide) hs.1 hs.2 hn hstk hcat hdd (Nat.zero_le _) (Nat.zero_le _) h
  · exact ab_callU (u' := mX5_begin) (x := yX5_begin) (owner := RX5) (c0 := 9) hd cw_X5_begin ⟨by decide, by decide⟩ (hcl ▸ w_892) w_1531 (Or.inr ⟨_, _, _, w_869, w_870⟩) rfl w_869 w_1537 (by decide) hs.1 hs.2 hn hstk hcat hdd (Nat.zero_le _) (Nat.zero_le _) h
  · exact ab_callU (u' := mX5_begin) (x := yX5_begin) (owner := RX5) (c0 := 10) hd cw_X5_begin ⟨by decide, by decide⟩ (hcl ▸ w_892) w_1531 (Or.inr ⟨_, _, _, w_869, w_870⟩) rfl w_869 w_1538 (by decide) hs.1 hs.2 hn hstk hcat hdd (Nat.zero_le _) (Nat.zero_le _) h
theorem vc_5_35 {d' a c : Nat} {vs stk : List Value} (hcl : u.1.cls = RX5) (hc : c = 2 ∨ c = 3 ∨ c = 4 ∨ c = 5 ∨ c = 8 ∨ c = 9 ∨ c = 10) (hd : decode u.2.1 pc = .ok (.invokevirtual 35, 3)) (hs : Sh M a (0, c)) (hn : vs.length = 1) (hstk : stk = vs.reverse ++ .ref a :: st) (hcat : (st.map fun v => v.category).sum ≤ 8) (hdd : d' + 1 ≤ d)
    (h : AM D d' 0 0 (vm_looks c) (.ref a :: vs) M (fun r M1 => AW D d mc ms u (kc - 0) (ks - 0) (pc + 3) lv (r.toList ++ st) M1 post)) : AW D d mc ms u kc ks pc lv stk M post := by
  rcases hc with rfl | rfl | rfl | rfl | rfl | rfl | rfl
  · exact ab_callU (u' := mX2_looks) (x := yX5_looks) (owner := RX5) (c0 := 2) hd cw_X2_looks ⟨by decide, by decide⟩ (hcl ▸ w_919) w_859 (Or.inr ⟨_, _, _, w_857, w_891⟩) rfl w_861 w_860 (by decide) hs.1 hs.2 hn hstk hcat hdd (Nat.zero_le _) (Nat.zero_le _) h
  · exact ab_callU (u' := mX2_looks) (x := yX5_looks) (owner := RX5) (c0 := 3) hd cw_X2_looks ⟨by decide, by decide⟩ (hcl ▸ w_919) w_859 (Or.inr ⟨_, _, _, w_857, w_891⟩) rfl w_861 w_872 (by decide) hs.1 hs.2 hn hstk hcat hdd (Nat.zero_le _) (Nat.zero_le _) h
  · exact ab_callU (u' := mX5_looks) (x := yX5_looks) (owner := RX5) (c0 := 4) hd cw_X5_looks ⟨by decide, by decide⟩ (hcl ▸ w_919) w_859 (Or.inr ⟨_, _, _, w_857, w_891⟩) rfl w_857 w_873 (by decide) hs.1 hs.2 hn hstk hcat hdd (Nat.zero_le _) (Nat.zero_le _) h
  · exact ab_callV (u' := mX5_looks) (c0 := 5) hd ⟨cw_X5_looks, hcl ▸ w_919⟩ w_857 w_858 (by decide) hs.1 hs.2 hn hstk hcat hdd (Nat.zero_le _) (Nat.zero_le _) h
  · exact ab_callU (u' := mX8_looks) (x := yX5_looks) (owner := RX5) (c0 := 8) hd cw_X8_looks ⟨by decide, by decide⟩ (hcl ▸ w_919) w_859 (Or.inr ⟨_, _, _, w_857, w_891⟩) rfl w_875 w_874 (by decide) hs.1 hs.2 hn hstk hcat hdd (Nat.zero_le _) (Nat.zero_le _) h
  · exact ab_callU (u' := mX5_looks) (x := yX5_looks) (owner := RX5) (c0 := 9) hd cw_X5_looks ⟨by decide, by decide⟩ (hcl ▸ w_919) w_859 (Or.inr ⟨_, _, _, w_857, w_891⟩) rfl w_857 w_881 (by decide) hs.1 hs.2 hn hstk hcat hdd (Nat.zero_le _) (Nat.zero_le _) h
  · exact ab_callU (u' := mX10_looks) (x := yX5_looks) (owner := RX5) (c0 := 10) hd cw_X10_looks ⟨by decide, by decide⟩ (hcl ▸ w_919) w_859 (Or.inr ⟨_, _, _, w_857, w_891⟩) rfl w_883 w_882 (by decide) hs.1 hs.2 hn hstk hcat hdd (Nat.zero_le _) (Nat.zero_le _) h
theorem vc_5_39 {d' a c : Nat} {vs stk : List Value} (hcl : u.1.cls = RX5) (hc : c = 2 ∨ c = 3 ∨ c = 4 ∨ c = 5 ∨ c = 8 ∨ c = 9 ∨ c = 10) (hd : decode u.2.1 pc = .ok (.invokevirtual 39, 3)) (hs : Sh M a (0, c)) (hn : vs.length = 1) (hstk : stk = vs.reverse ++ .ref a :: st) (hcat : (st.map fun v => v.category).sum ≤ 8) (hdd : d' + 1 ≤ d)
    (h : AM D d' 0 0 (vm_goes c) (.ref a :: vs) M (fun r M1 => AW D d mc ms u (kc - 0) (ks - 0) (pc + 3) lv (r.toList ++ st) M1 post)) : AW D d mc ms u kc ks pc lv stk M post := by
  rcases hc with rfl | rfl | rfl | rfl | rfl | rfl | rfl
  · exact ab_callU (u' := mX5_goes) (x := yX5_goes) (owner := RX5) (c0 := 2) hd cw_X5_goes ⟨by decide, by decide⟩ (hcl ▸ w_948) w_896 (Or.inr ⟨_, _, _, w_894, w_918⟩) rfl w_894 w_897 (by decide) hs.1 hs.2 hn hstk hcat hdd (Nat.zero_le _) (Nat.zero_le _) h
  · exact ab_callU (u' := mX5_goes) (x := yX5_goes) (owner := RX5) (c0 := 3) hd cw_X5_goes ⟨by decide, by decide⟩ (hcl ▸ w_948) w_896 (Or.inr ⟨_, _, _, w_894, w_918⟩) rfl w_894 w_898 (by decide) hs.1 hs.2 hn hstk hcat hdd (Nat.zero_le _) (Nat.zero_le _) h
  · exact ab_callU (u' := mX4_goes) (x := yX5_goes) (owner := RX5) (c0 := 4) hd cw_X4_goes ⟨by decide, by decide⟩ (hcl ▸ w_948) w_896 (Or.inr ⟨_, _, _, w_894, w_918⟩) rfl w_900 w_899 (by decide) hs.1 hs.2 hn hstk hcat hdd (Nat.zero_le _) (Nat.zero_le _) h
  · exact ab_callV (u' := mX5_goes) (c0 := 5) hd ⟨cw_X5_goes, hcl ▸ w_948⟩ w_894 w_895 (by decide) hs.1 hs.2 hn hstk hcat hdd (Nat.zero_le _) (Nat.zero_le _) h
  · exact ab_callU (u' := mX8_goes) (x := yX5_goes) (owner := RX5) (c0 := 8) hd cw_X8_goes ⟨by decide, by decide⟩ (hcl ▸ w_948) w_896 (Or.inr ⟨_, _, _, w_894, w_918⟩) rfl w_908 w_907 (by decide) hs.1 hs.2 hn hstk hcat hdd (Nat.zero_le _) (Nat.zero_le _) h
  · exact ab_callU (u' := mX5_goes) (x := yX5_goes) (owner := RX5) (c0 := 9) hd cw_X5_goes ⟨by decide, by decide⟩ (hcl ▸ w_948) w_896 (Or.inr ⟨_, _, _, w_894, w_918⟩) rfl w_894 w_913 (by decide) hs.1 hs.2 hn hstk hcat hdd (Nat.zero_le _) (Nat.zero_le _) h
  · exact ab_callU (u' := mX10_goes) (x := yX5_goes) (owner := RX5) (c0 := 10) hd cw_X10_goes ⟨by decide, by decide⟩ (hcl ▸ w_948) w_896 (Or.inr ⟨_, _, _, w_894, w_918⟩) rfl w_915 w_914 (by decide) hs.1 hs.2 hn hstk hcat hdd (Nat.zero_le _) (Nat.zero_le _) h
theorem vc_8_19 {d' a c : Nat} {vs stk : List Value} (hcl : u.1.cls = RX8) (hc : c = 8) (hd : decode u.2.1 pc = .ok (.invokevirtual 19, 3)) (hs : Sh M a (0, c)) (hn : vs.length = 1) (hstk : stk = vs.reverse ++ .ref a :: st) (hcat : (st.map fun v => v.category).sum ≤ 8) (hdd : d' + 1 ≤ d)
    (h : AM D d' 0 0 (vm_begin c) (.ref a :: vs) M (fun r M1 => AW D d mc ms u (kc - 0) (ks - 0) (pc + 3) lv (r.toList ++ st) M1 post)) : AW D d mc ms u kc ks pc lv stk M post := by
  rcases hc with rfl
  · exact ab_callU (u' := mX5_begin) (x := ⟨"ElevenYards$Staying", "begin", "(I)V"⟩) (owner := RX5) (c0 := 8) hd cw_X5_begin ⟨by decide, by decide⟩ (hcl ▸ w_877) w_878 (Or.inr ⟨_, _, _, w_869, w_870⟩) rfl w_869 w_879 (by decide) hs.1 hs.2 hn hstk hcat hdd (Nat.zero_le _) (Nat.zero_le _) h
theorem vc_9_13 {d' a c : Nat} {vs stk : List Value} (hcl : u.1.cls = RX9) (hc : c = 9) (hd : decode u.2.1 pc = .ok (.invokevirtual 13, 3)) (hs : Sh M a (0, c)) (hn : vs.length = 1) (hstk : stk = vs.reverse ++ .ref a :: st) (hcat : (st.map fun v => v.category).sum ≤ 8) (hdd : d' + 1 ≤ d)
    (h : AM D d' 0 0 (vm_begin c) (.ref a :: vs) M (fun r M1 => AW D d mc ms u (kc - 0) (ks - 0) (pc + 3) lv (r.toList ++ st) M1 post)) : AW D d mc ms u kc ks pc lv stk M post := by
  rcases hc with rfl
  · exact ab_callU (u' := mX5_begin) (x := ⟨"ElevenYards$Turning", "begin", "(I)V"⟩) (owner := RX5) (c0 := 9) hd cw_X5_begin ⟨by decide, by decide⟩ (hcl ▸ w_939) w_940 (Or.inr ⟨_, _, _, w_869, w_870⟩) rfl w_869 w_941 (by decide) hs.1 hs.2 hn hstk hcat hdd (Nat.zero_le _) (Nat.zero_le _) h
theorem vc_9_23 {d' a c : Nat} {vs stk : List Value} (hcl : u.1.cls = RX9) (hc : c = 9) (hd : decode u.2.1 pc = .ok (.invokevirtual 23, 3)) (hs : Sh M a (0, c)) (hn : vs.length = 1) (hstk : stk = vs.reverse ++ .ref a :: st) (hcat : (st.map fun v => v.category).sum ≤ 8) (hdd : d' + 1 ≤ d)
    (h : AM D d' 0 0 (vm_goes c) (.ref a :: vs) M (fun r M1 => AW D d mc ms u (kc - 0) (ks - 0) (pc + 3) lv (r.toList ++ st) M1 post)) : AW D d mc ms u kc ks pc lv stk M post := by
  rcases hc with rfl
  · exact ab_callU (u' := mX5_goes) (x := ⟨"ElevenYards$Turning", "goes", "(I)I"⟩) (owner := RX5) (c0 := 9) hd cw_X5_goes ⟨by decide, by decide⟩ (hcl ▸ w_943) w_944 (Or.inr ⟨_, _, _, w_894, w_918⟩) rfl w_894 w_945 (by decide) hs.1 hs.2 hn hstk hcat hdd (Nat.zero_le _) (Nat.zero_le _) h
theorem vc_10_19 {d' a c : Nat} {vs stk : List Value} (hcl : u.1.cls = RX10) (hc : c = 10) (hd : decode u.2.1 pc = .ok (.invokevirtual 19, 3)) (hs : Sh M a (0, c)) (hn : vs.length = 1) (hstk : stk = vs.reverse ++ .ref a :: st) (hcat : (st.map fun v => v.category).sum ≤ 8) (hdd : d' + 1 ≤ d)
    (h : AM D d' 0 0 (vm_begin c) (.ref a :: vs) M (fun r M1 => AW D d mc ms u (kc - 0) (ks - 0) (pc + 3) lv (r.toList ++ st) M1 post)) : AW D d mc ms u kc ks pc lv stk M post := by
  rcases hc with rfl
  · exact ab_callU (u' := mX5_begin) (x := ⟨"ElevenYards$Waiting", "begin", "(I)V"⟩) (owner := RX5) (c0 := 10) hd cw_X5_begin ⟨by decide, by decide⟩ (hcl ▸ w_885) w_886 (Or.inr ⟨_, _, _, w_869, w_870⟩) rfl w_869 w_887 (by decide) hs.1 hs.2 hn hstk hcat hdd (Nat.zero_le _) (Nat.zero_le _) h
theorem vc_11_283 {d' a c : Nat} {vs stk : List Value} (hcl : u.1.cls = RX11) (hc : c = 2 ∨ c = 3 ∨ c = 4 ∨ c = 5 ∨ c = 8 ∨ c = 9 ∨ c = 10) (hd : decode u.2.1 pc = .ok (.invokevirtual 283, 3)) (hs : Sh M a (0, c)) (hn : vs.length = 1) (hstk : stk = vs.reverse ++ .ref a :: st) (hcat : (st.map fun v => v.category).sum ≤ 8) (hdd : d' + 1 ≤ d)
    (h : AM D d' 0 0 (vm_looks c) (.ref a :: vs) M (fun r M1 => AW D d mc ms u (kc - 0) (ks - 0) (pc + 3) lv (r.toList ++ st) M1 post)) : AW D d mc ms u kc ks pc lv stk M post := by
  rcases hc with rfl | rfl | rfl | rfl | rfl | rfl | rfl
  · exact ab_callU (u' := mX2_looks) (x := yX5_looks) (owner := RX5) (c0 := 2) hd cw_X2_looks ⟨by decide, by decide⟩ (hcl ▸ w_856) w_859 (Or.inr ⟨_, _, _, w_857, w_891⟩) rfl w_861 w_860 (by decide) hs.1 hs.2 hn hstk hcat hdd (Nat.zero_le _) (Nat.zero_le _) h
  · exact ab_callU (u' := mX2_looks) (x := yX5_looks) (owner := RX5) (c0 := 3) hd cw_X2_looks ⟨by decide, by decide⟩ (hcl ▸ w_856) w_859 (Or.inr ⟨_, _, _, w_857, w_891⟩) rfl w_861 w_872 (by decide) hs.1 hs.2 hn hstk hcat hdd (Nat.zero_le _) (Nat.zero_le _) h
  · exact ab_callU (u' := mX5_looks) (x := yX5_looks) (owner := RX5) (c0 := 4) hd cw_X5_looks ⟨by decide, by decide⟩ (hcl ▸ w_856) w_859 (Or.inr ⟨_, _, _, w_857, w_891⟩) rfl w_857 w_873 (by decide) hs.1 hs.2 hn hstk hcat hdd (Nat.zero_le _) (Nat.zero_le _) h
  · exact ab_callV (u' := mX5_looks) (c0 := 5) hd ⟨cw_X5_looks, hcl ▸ w_856⟩ w_857 w_858 (by decide) hs.1 hs.2 hn hstk hcat hdd (Nat.zero_le _) (Nat.zero_le _) h
  · exact ab_callU (u' := mX8_looks) (x := yX5_looks) (owner := RX5) (c0 := 8) hd cw_X8_looks ⟨by decide, by decide⟩ (hcl ▸ w_856) w_859 (Or.inr ⟨_, _, _, w_857, w_891⟩) rfl w_875 w_874 (by decide) hs.1 hs.2 hn hstk hcat hdd (Nat.zero_le _) (Nat.zero_le _) h
  · exact ab_callU (u' := mX5_looks) (x := yX5_looks) (owner := RX5) (c0 := 9) hd cw_X5_looks ⟨by decide, by decide⟩ (hcl ▸ w_856) w_859 (Or.inr ⟨_, _, _, w_857, w_891⟩) rfl w_857 w_881 (by decide) hs.1 hs.2 hn hstk hcat hdd (Nat.zero_le _) (Nat.zero_le _) h
  · exact ab_callU (u' := mX10_looks) (x := yX5_looks) (owner := RX5) (c0 := 10) hd cw_X10_looks ⟨by decide, by decide⟩ (hcl ▸ w_856) w_859 (Or.inr ⟨_, _, _, w_857, w_891⟩) rfl w_883 w_882 (by decide) hs.1 hs.2 hn hstk hcat hdd (Nat.zero_le _) (Nat.zero_le _) h
theorem vc_11_286 {d' a c : Nat} {vs stk : List Value} (hcl : u.1.cls = RX11) (hc : c = 2 ∨ c = 3 ∨ c = 4 ∨ c = 5 ∨ c = 8 ∨ c = 9 ∨ c = 10) (hd : decode u.2.1 pc = .ok (.invokevirtual 286, 3)) (hs : Sh M a (0, c)) (hn : vs.length = 1) (hstk : stk = vs.reverse ++ .ref a :: st) (hcat : (st.map fun v => v.category).sum ≤ 8) (hdd : d' + 1 ≤ d)
    (h : AM D d' 0 0 (vm_goes c) (.ref a :: vs) M (fun r M1 => AW D d mc ms u (kc - 0) (ks - 0) (pc + 3) lv (r.toList ++ st) M1 post)) : AW D d mc ms u kc ks pc lv stk M post := by
  rcases hc with rfl | rfl | rfl | rfl | rfl | rfl | rfl
  · exact ab_callU (u' := mX5_goes) (x := yX5_goes) (owner := RX5) (c0 := 2) hd cw_X5_goes ⟨by decide, by decide⟩ (hcl ▸ w_893) w_896 (Or.inr ⟨_, _, _, w_894, w_918⟩) rfl w_894 w_897 (by decide) hs.1 hs.2 hn hstk hcat hdd (Nat.zero_le _) (Nat.zero_le _) h
  · exact ab_callU (u' := mX5_goes) (x := yX5_goes) (owner := RX5) (c0 := 3) hd cw_X5_goes ⟨by decide, by decide⟩ (hcl ▸ w_893) w_896 (Or.inr ⟨_, _, _, w_894, w_918⟩) rfl w_894 w_898 (by decide) hs.1 hs.2 hn hstk hcat hdd (Nat.zero_le _) (Nat.zero_le _) h
  · exact ab_callU (u' := mX4_goes) (x := yX5_goes) (owner := RX5) (c0 := 4) hd cw_X4_goes ⟨by decide, by decide⟩ (hcl ▸ w_893) w_896 (Or.inr ⟨_, _, _, w_894, w_918⟩) rfl w_900 w_899 (by decide) hs.1 hs.2 hn hstk hcat hdd (Nat.zero_le _) (Nat.zero_le _) h
  · exact ab_callV (u' := mX5_goes) (c0 := 5) hd ⟨cw_X5_goes, hcl ▸ w_893⟩ w_894 w_895 (by decide) hs.1 hs.2 hn hstk hcat hdd (Nat.zero_le _) (Nat.zero_le _) h
  · exact ab_callU (u' := mX8_goes) (x := yX5_goes) (owner := RX5) (c0 := 8) hd cw_X8_goes ⟨by decide, by decide⟩ (hcl ▸ w_893) w_896 (Or.inr ⟨_, _, _, w_894, w_918⟩) rfl w_908 w_907 (by decide) hs.1 hs.2 hn hstk hcat hdd (Nat.zero_le _) (Nat.zero_le _) h
  · exact ab_callU (u' := mX5_goes) (x := yX5_goes) (owner := RX5) (c0 := 9) hd cw_X5_goes ⟨by decide, by decide⟩ (hcl ▸ w_893) w_896 (Or.inr ⟨_, _, _, w_894, w_918⟩) rfl w_894 w_913 (by decide) hs.1 hs.2 hn hstk hcat hdd (Nat.zero_le _) (Nat.zero_le _) h
  · exact ab_callU (u' := mX10_goes) (x := yX5_goes) (owner := RX5) (c0 := 10) hd cw_X10_goes ⟨by decide, by decide⟩ (hcl ▸ w_893) w_896 (Or.inr ⟨_, _, _, w_894, w_918⟩) rfl w_915 w_914 (by decide) hs.1 hs.2 hn hstk hcat hdd (Nat.zero_le _) (Nat.zero_le _) h
theorem vc_11_289 {d' a c : Nat} {vs stk : List Value} (hcl : u.1.cls = RX11) (hc : c = 2 ∨ c = 3 ∨ c = 4 ∨ c = 5 ∨ c = 8 ∨ c = 9 ∨ c = 10) (hd : decode u.2.1 pc = .ok (.invokevirtual 289, 3)) (hs : Sh M a (0, c)) (hn : vs.length = 1) (hstk : stk = vs.reverse ++ .ref a :: st) (hcat : (st.map fun v => v.category).sum ≤ 8) (hdd : d' + 1 ≤ d)
    (h : AM D d' 0 0 (vm_tells c) (.ref a :: vs) M (fun r M1 => AW D d mc ms u (kc - 0) (ks - 0) (pc + 3) lv (r.toList ++ st) M1 post)) : AW D d mc ms u kc ks pc lv stk M post := by
  rcases hc with rfl | rfl | rfl | rfl | rfl | rfl | rfl
  · exact ab_callU (u' := mX5_tells) (x := yX5_tells) (owner := RX5) (c0 := 2) hd cw_X5_tells ⟨by decide, by decide⟩ (hcl ▸ w_920) w_923 (Or.inr ⟨_, _, _, w_921, w_947⟩) rfl w_921 w_924 (by decide) hs.1 hs.2 hn hstk hcat hdd (Nat.zero_le _) (Nat.zero_le _) h
  · exact ab_callU (u' := mX3_tells) (x := yX5_tells) (owner := RX5) (c0 := 3) hd cw_X3_tells ⟨by decide, by decide⟩ (hcl ▸ w_920) w_923 (Or.inr ⟨_, _, _, w_921, w_947⟩) rfl w_926 w_925 (by decide) hs.1 hs.2 hn hstk hcat hdd (Nat.zero_le _) (Nat.zero_le _) h
  · exact ab_callU (u' := mX5_tells) (x := yX5_tells) (owner := RX5) (c0 := 4) hd cw_X5_tells ⟨by decide, by decide⟩ (hcl ▸ w_920) w_923 (Or.inr ⟨_, _, _, w_921, w_947⟩) rfl w_921 w_934 (by decide) hs.1 hs.2 hn hstk hcat hdd (Nat.zero_le _) (Nat.zero_le _) h
  · exact ab_callV (u' := mX5_tells) (c0 := 5) hd ⟨cw_X5_tells, hcl ▸ w_920⟩ w_921 w_922 (by decide) hs.1 hs.2 hn hstk hcat hdd (Nat.zero_le _) (Nat.zero_le _) h
  · exact ab_callU (u' := mX5_tells) (x := yX5_tells) (owner := RX5) (c0 := 8) hd cw_X5_tells ⟨by decide, by decide⟩ (hcl ▸ w_920) w_923 (Or.inr ⟨_, _, _, w_921, w_947⟩) rfl w_921 w_935 (by decide) hs.1 hs.2 hn hstk hcat hdd (Nat.zero_le _) (Nat.zero_le _) h
  · exact ab_callU (u' := mX9_tells) (x := yX5_tells) (owner := RX5) (c0 := 9) hd cw_X9_tells ⟨by decide, by decide⟩ (hcl ▸ w_920) w_923 (Or.inr ⟨_, _, _, w_921, w_947⟩) rfl w_937 w_936 (by decide) hs.1 hs.2 hn hstk hcat hdd (Nat.zero_le _) (Nat.zero_le _) h
  · exact ab_callU (u' := mX5_tells) (x := yX5_tells) (owner := RX5) (c0 := 10) hd cw_X5_tells ⟨by decide, by decide⟩ (hcl ▸ w_920) w_923 (Or.inr ⟨_, _, _, w_921, w_947⟩) rfl w_921 w_946 (by decide) hs.1 hs.2 hn hstk hcat hdd (Nat.zero_le _) (Nat.zero_le _) h

/-- super.m(..) where m stands two classes up -/
theorem ab_callSX {i n d' mc' ms' a c0 : Nat} {u' : MD} {x : MethodName} {vs stk : List Value} (hd : decode u.2.1 pc = .ok (.invokespecial i, 3)) (cb : CW u' n) (hln : Cond.methodLink u.1.cls i x ∈ lw_tbl) (hsm : Cond.sameMethod x.cls u'.1.cls x.name x.desc ∈ lw_tbl) (hsu : Cond.superclass u.1.cls x.cls ∈ lw_tbl) (hsu2 : Cond.superclass x.cls u'.1.cls ∈ lw_tbl) (hy : u'.1 = ⟨u'.1.cls, x.name, x.desc⟩) (hi : Cond.instanceMethod u'.1 ∈ lw_tbl) (hno : x.name ≠ "<init>") (hc0 : c0 < 13) (ha : a < mN M) (hsh : mS M a = (0, c0)) (hn : vs.length = n) (hstk : stk = vs.reverse ++ .ref a :: st) (hcat : (st.map fun v => v.category).sum ≤ 8) (hdd : d' + 1 ≤ d) (hmc : mc' ≤ kc) (hms : ms' ≤ ks)
    (h : AM D d' mc' ms' u' (.ref a :: vs) M (fun r M1 => AW D d mc ms u (kc - mc') (ks - ms') (pc + 3) lv (r.toList ++ st) M1 post)) : AW D d mc ms u kc ks pc lv stk M post := by
  subst hstk
  intro p e s m args below meth c H locs ls cells slots B h1 h2 hR hS hl
  have hr := cb.room (mc := mc) (ms := ms) (mc' := mc') (ms' := ms') hdd
  have hK : Back D.1 (rm_ d mc ms) p e below s args u'.1 3 8 (PreOf (rm_ d mc ms) mc' ms' (Pp D (.ref a :: vs) M)) (PostOf (Qp D (fun r M1 => AW D d mc ms u (kc - mc') (ks - ms') (pc + 3) lv (r.toList ++ st) M1 post)) mc' ms' (Fr D)) := back_of (bytes := u'.2.1) (maxL := u'.2.2.1) (ret := u'.2.2.2) h Pp.blind hr.1 hr.2.1 hr.2.2.1 hr.2.2.2 (cb.code B.tb) (List.mem_singleton.mpr rfl) (fun a' U hW => (B.tb.warm hW).use cb.2.1 rfl a')
  obtain ⟨cellB, hcB, hoB, hclB⟩ := hR.recv B hc0 ha hsh
  obtain ⟨mk, methM, hnamed, hmethM, hstM, habM⟩ := Cond.instanceMethod_spec (B.tb.use hi rfl args)
  obtain ⟨methM', cM, hmethM', -, -, -, -, -, -, hsigM⟩ := Cond.code_spec hnamed (B.tb.use cb.1 rfl args)
  cases hmethM.symm.trans hmethM'
  obtain ⟨ps, dk, kp, hps, hdk, hkp, hsuper, -, -, hnid⟩ := Cond.superclass_spec B.own (B.tb.use hsu rfl args)
  obtain ⟨ps2, dk2, kp2, hps2, hdk2, hkp2, hsuper2, -⟩ := Cond.superclass_spec hps (B.tb.use hsu2 rfl args)
  have hpm : ps2 = mk.cls := Option.some.inj (hps2.symm.trans (findClass_of_methodNamed hnamed))
  have hsz : ∃ k, s.vm.classes.size + 1 = k + 2 := ⟨s.vm.classes.size - 1, by have := (Array.getElem?_eq_some_iff.mp hdk).1; omega⟩
  have hsub : s.vm.isSubclass ps mk.cls = true := by
    obtain ⟨k, hk⟩ := hsz
    unfold Vm.isSubclass
    rw [hk]
    simp [Vm.isSubclassAux, hdk2, hsuper2, hpm]
  have hn0 : s.methodNamed? ⟨u'.1.cls, x.name, x.desc⟩ = some mk := by rw [← hy]; exact hnamed
  refine ab_after (P := fun r M1 => AW D d mc ms u (kc - mc') (ks - ms') (pc + 3) lv (r.toList ++ st) M1 post) (a := (Value.ref (rh D a) :: vs.map (cv D)).toArray) (mc' := mc') (ms' := ms') (rest := st.map (cv D)) ?_ hS (fun r M1 H1 locs1 hp hR1 hS1 => ?_)
  · intro T hT X
    obtain ⟨kB, hkB, -⟩ := Vm.findClass_spec hclB
    obtain ⟨vm₁, X₁, hstep₁⟩ := X.invokespecialUp B.1 B.own (B.tb.use hln rfl args) (B.tb.use hsm rfl args) hn0 hmethM hstM habM hno hdk hnid hps hsuper hsub (a := rh D a) (cell := cellB) (by rw [hT]; exact hcB)
      (fun z h => by rw [h] at hoB; cases hoB) hkB (g := F0 m pc ls ((vs.reverse ++ .ref a :: st).map (cv D))) rfl (argsL := vs.map (cv D)) (rest := st.map (cv D)) (by rw [List.length_map, hn]; exact cb.len _ hsigM) (rev_map vs) (by rw [B.2.1]; exact hd)
    obtain ⟨v, ⟨U', l2, c2, s2⟩, X', ⟨g', mk', t, L, e1, e2, hq, z1, hL, z2, z3⟩, hsteps⟩ := hK m meth c ⟨T.setVm vm₁, locs, cells, slots⟩ { F0 m pc ls ((vs.reverse ++ .ref a :: st).map (cv D)) with stack := st.map (cv D) } (.invokespecial i) mk (Value.ref (rh D a) :: vs.map (cv D)).toArray X₁ rfl (hl.1.trans B.2.2.2.1.symm) (by rw [B.2.1]; exact hd) (cat_room hcat) (X₁.named hnamed) ⟨by show cells + mc' ≤ mc; omega, by show slots + ms' ≤ ms; omega, Pp.pre B hR hS (T.setVm vm₁) hT X₁.warmed⟩
    dsimp only [Pt.U, Pt.locs, Pt.cells, Pt.slots] at X' e1 e2 z1 z2 z3 hsteps
    subst z1; subst z2; subst z3
    exact ⟨v, (T.setVm vm₁).calling g' mk' (Value.ref (rh D a) :: vs.map (cv D)).toArray, t, U', L, hT, X', hL, e1, e2, hq, fun target h => hstep₁ _ (by rw [doInvoke_state]; exact hsteps.trans h)⟩
  · rw [st_map]
    exact hp p e s m args below meth c H1 locs1 ls (cells + mc') (slots + ms') B (by omega) (by omega) hR1 hS1 hl
theorem asg_pl {p : Program} {s : State} {m : MethodId} {meth : Method} {c0 : Code} (B : Bx D u p s m meth c0) {c : Nat} (hc : plc c) {c1 comp : ClassId} (h1 : s.vm.findClass (Cn c) = some c1) (h2 : s.vm.findClass "ElevenYards$Player" = some comp) : s.vm.assignable c1 comp = true := by
  have key : ∀ {C : String}, Cond.castable C "ElevenYards$Player" ∈ lw_tbl → s.vm.findClass C = some c1 → s.vm.assignable c1 comp = true := by
    intro C hw hC
    obtain ⟨x0, t0, f1, f2, f3⟩ := Cond.castable_spec (B.tb.use hw rfl #[])
    cases hC.symm.trans f1
    cases h2.symm.trans f2
    exact f3
  rcases hc with rfl | rfl | rfl | rfl | rfl | rfl | rfl

  · exact key w_1544 h1
  · exact key w_1547 h1
  · exact key w_1543 h1
  · have e : c1 = comp := Option.some.inj (h1.symm.trans h2)
    subst e
    exact va_assign (B.K.1 5 _ (cl_at (by decide))).2 |> fun h => by
      have e2 : c1 = D.2.1.1 5 := Option.some.inj (h1.symm.trans (B.K.1 5 _ (cl_at (by decide))).2.1)
      rw [e2]; exact h
  · exact key w_1548 h1
  · exact key w_1545 h1
  · exact key w_1546 h1

theorem ab_aast6 {a n j : Nat} {i : Int32} {o : Option Nat} (hd : decode u.2.1 pc = .ok (.aastore, 1)) (hs : Sh M a (6, n)) (hin : vp_in i n) (hj : i.toNatClampNeg = j) (ho : ∀ p, o = some p → ∃ c, plc c ∧ Sh M p (0, c)) (kk : AW D d mc ms u kc ks (pc + 1) lv st (sP M a j o) post) : AW D d mc ms u kc ks pc lv (va_rf o :: .int i :: .ref a :: st) M post := by
  subst hj
  intro p e s m args below meth c0 H locs ls cells slots B h1 h2 hR hS hl
  rw [List.map_cons, cv_rf]
  show W _ _ _ _ _ _ _ _ _ _ _ _ _ _ _ (F0 m pc ls (va_rf (o.map (rh D)) :: .int i :: .ref (rh D a) :: st.map (cv D)))
  rw [rh_own hs.1 hR.2.2]
  have he := hR.1 a _ (wd_at hs.1)
  rw [ce_6 hs.2] at he
  have he : H[gB D + a]? = some (arrV (D.2.2.1 5) n (fun j => va_rf ((gP M a j).map (rh D)))) := he
  have hlt : i.toNatClampNeg < n := Nat.not_le.mp fun q => hin (Or.inr q)
  have h0 : ¬ i < 0 := fun q => hin (Or.inl q)
  have fin : ∀ (v : Value) (H1 : Heap), v = va_rf (o.map (rh D)) → H1[gB D + a]? = some ((arrV (D.2.2.1 5) n (fun j => va_rf ((gP M a j).map (rh D)))).setSlot i.toNatClampNeg v) → H1.size = H.size → (∀ q, q ≠ gB D + a → H1[q]? = H[q]?) → Rp D (sP M a i.toNatClampNeg o) H1 := by
    intro v H1 hv z1 z2 z3
    refine hR.put hs.1 rfl (fun b hb => ce_rP hb) z2 z3 ?_
    rw [ce_6 (M := sP M a i.toNatClampNeg o) hs.2]
    show H1[_]? = some (vp_cell _ _)
    rw [z1, arrV_store, vp_cell_q]
    congr 2
    funext q
    by_cases hq : q = i.toNatClampNeg
    · subst hq
      simp [updV, sP, rP, gP, va_up, hv]
    · simp [updV, sP, rP, gP, va_up, hq]
  cases o with
  | none =>
    refine va_WaastN (C := "ElevenYards$Player") B.1 B.2.1 he ((B.K.2 5 _ rfl).1 n (fun j => va_rf ((gP M a j).map (rh D)))) (fun h => by cases h) (by rw [arrV_size]; exact hin) rfl rfl hd fun H1 z1 z2 z3 => ?_
    exact kk p e s m args below meth c0 H1 _ ls cells slots B h1 h2 (fin .null H1 rfl z1 z2 z3) (hS.put z2 z3 (Nat.le_add_right _ _)) hl
  | some v =>
    obtain ⟨c, hc, hv⟩ := ho v rfl
    obtain ⟨cellV, g1, g2, g3⟩ := hR.recv B hc.lt hv.1 hv.2
    obtain ⟨kC, hkC, -⟩ := Vm.findClass_spec g3
    obtain ⟨kA, comp, k1, k2, k3, -⟩ := (B.K.2 5 _ rfl).2
    obtain ⟨kE, hkE, -⟩ := Vm.findClass_spec k3
    refine W.aast B.1 B.2.1 he (fun q h => by cases h) (fun h => by cases h) k1 k2 rfl hkE ⟨h0, by rw [arrV_size]; exact hlt⟩ g1 (fun q h => by rw [h] at g2; cases g2) hkC (asg_pl B hc g3 k3) rfl rfl hd fun H1 z1 z2 z3 => ?_
    exact kk p e s m args below meth c0 H1 _ ls cells slots B h1 h2 (fin (.ref (rh D v)) H1 rfl z1 z2 z3) (hS.put z2 z3 (Nat.le_add_right _ _)) hl

def isk (c t : Nat) : Bool := c == t || (c == 2 && t == 5) || (c == 3 && t == 2) || (c == 3 && t == 5) || (c == 4 && t == 5) || (c == 8 && t == 2) || (c == 8 && t == 5) || (c == 9 && t == 5) || (c == 10 && t == 4) || (c == 10 && t == 5)
theorem io_11_144 {a c : Nat} (hcl : u.1.cls = RX11) (hc : plc c) (hd : decode u.2.1 pc = .ok (.instanceof 144, 3)) (hs : Sh M a (0, c)) (kk : AW D d mc ms u kc ks (pc + 3) lv (.int (if isk c 4 then 1 else 0) :: st) M post) : AW D d mc ms u kc ks pc lv (.ref a :: st) M post := by
  intro p e s m args below meth c0 H locs ls cells slots B h1 h2 hR hS hl
  have hr := hR.recv B hc.lt hs.1 hs.2
  have k2 := kk p e s m args below meth c0 H locs ls cells slots B h1 h2 hR hS hl
  have hlk := B.tb.use w_449 rfl args
  have hown := B.own
  rw [hcl] at hown
  rcases hc with rfl | rfl | rfl | rfl | rfl | rfl | rfl
  · exact va_instNo (C := Cn 2) B.1 B.2.1 hown hlk (B.2.2.2.2.2.2.2.1.2.2 ("ElevenYards$Mixed", "ElevenYards$Own") (by decide)) hr hd k2
  · exact va_instNo (C := Cn 3) B.1 B.2.1 hown hlk (B.2.2.2.2.2.2.2.1.2.2 ("ElevenYards$Noted", "ElevenYards$Own") (by decide)) hr hd k2
  · exact va_instS B.1 B.2.1 hown hlk (B.K.1 4 _ (cl_at (by decide))).2 hr hd k2
  · exact va_instNo (C := Cn 5) B.1 B.2.1 hown hlk (B.2.2.2.2.2.2.2.1.2.2 ("ElevenYards$Player", "ElevenYards$Own") (by decide)) hr hd k2
  · exact va_instNo (C := Cn 8) B.1 B.2.1 hown hlk (B.2.2.2.2.2.2.2.1.2.2 ("ElevenYards$Staying", "ElevenYards$Own") (by decide)) hr hd k2
  · exact va_instNo (C := Cn 9) B.1 B.2.1 hown hlk (B.2.2.2.2.2.2.2.1.2.2 ("ElevenYards$Turning", "ElevenYards$Own") (by decide)) hr hd k2
  · exact va_instY (C := Cn 10) B.1 B.2.1 hown hlk (va_Nw.of rfl (B.tb.use w_1540 rfl #[])) hr hd k2
theorem io_11_149 {a c : Nat} (hcl : u.1.cls = RX11) (hc : plc c) (hd : decode u.2.1 pc = .ok (.instanceof 149, 3)) (hs : Sh M a (0, c)) (kk : AW D d mc ms u kc ks (pc + 3) lv (.int (if isk c 2 then 1 else 0) :: st) M post) : AW D d mc ms u kc ks pc lv (.ref a :: st) M post := by
  intro p e s m args below meth c0 H locs ls cells slots B h1 h2 hR hS hl
  have hr := hR.recv B hc.lt hs.1 hs.2
  have k2 := kk p e s m args below meth c0 H locs ls cells slots B h1 h2 hR hS hl
  have hlk := B.tb.use w_492 rfl args
  have hown := B.own
  rw [hcl] at hown
  rcases hc with rfl | rfl | rfl | rfl | rfl | rfl | rfl
  · exact va_instS B.1 B.2.1 hown hlk (B.K.1 2 _ (cl_at (by decide))).2 hr hd k2
  · exact va_instY (C := Cn 3) B.1 B.2.1 hown hlk (va_Nw.of rfl (B.tb.use w_1541 rfl #[])) hr hd k2
  · exact va_instNo (C := Cn 4) B.1 B.2.1 hown hlk (B.2.2.2.2.2.2.2.1.2.2 ("ElevenYards$Own", "ElevenYards$Mixed") (by decide)) hr hd k2
  · exact va_instNo (C := Cn 5) B.1 B.2.1 hown hlk (B.2.2.2.2.2.2.2.1.2.2 ("ElevenYards$Player", "ElevenYards$Mixed") (by decide)) hr hd k2
  · exact va_instY (C := Cn 8) B.1 B.2.1 hown hlk (va_Nw.of rfl (B.tb.use w_1542 rfl #[])) hr hd k2
  · exact va_instNo (C := Cn 9) B.1 B.2.1 hown hlk (B.2.2.2.2.2.2.2.1.2.2 ("ElevenYards$Turning", "ElevenYards$Mixed") (by decide)) hr hd k2
  · exact va_instNo (C := Cn 10) B.1 B.2.1 hown hlk (B.2.2.2.2.2.2.2.1.2.2 ("ElevenYards$Waiting", "ElevenYards$Mixed") (by decide)) hr hd k2
theorem io_11_152 {a c : Nat} (hcl : u.1.cls = RX11) (hc : plc c) (hd : decode u.2.1 pc = .ok (.instanceof 152, 3)) (hs : Sh M a (0, c)) (kk : AW D d mc ms u kc ks (pc + 3) lv (.int (if isk c 9 then 1 else 0) :: st) M post) : AW D d mc ms u kc ks pc lv (.ref a :: st) M post := by
  intro p e s m args below meth c0 H locs ls cells slots B h1 h2 hR hS hl
  have hr := hR.recv B hc.lt hs.1 hs.2
  have k2 := kk p e s m args below meth c0 H locs ls cells slots B h1 h2 hR hS hl
  have hlk := B.tb.use w_505 rfl args
  have hown := B.own
  rw [hcl] at hown
  rcases hc with rfl | rfl | rfl | rfl | rfl | rfl | rfl
  · exact va_instNo (C := Cn 2) B.1 B.2.1 hown hlk (B.2.2.2.2.2.2.2.1.2.2 ("ElevenYards$Mixed", "ElevenYards$Turning") (by decide)) hr hd k2
  · exact va_instNo (C := Cn 3) B.1 B.2.1 hown hlk (B.2.2.2.2.2.2.2.1.2.2 ("ElevenYards$Noted", "ElevenYards$Turning") (by decide)) hr hd k2
  · exact va_instNo (C := Cn 4) B.1 B.2.1 hown hlk (B.2.2.2.2.2.2.2.1.2.2 ("ElevenYards$Own", "ElevenYards$Turning") (by decide)) hr hd k2
  · exact va_instNo (C := Cn 5) B.1 B.2.1 hown hlk (B.2.2.2.2.2.2.2.1.2.2 ("ElevenYards$Player", "ElevenYards$Turning") (by decide)) hr hd k2
  · exact va_instNo (C := Cn 8) B.1 B.2.1 hown hlk (B.2.2.2.2.2.2.2.1.2.2 ("ElevenYards$Staying", "ElevenYards$Turning") (by decide)) hr hd k2
  · exact va_instS B.1 B.2.1 hown hlk (B.K.1 9 _ (cl_at (by decide))).2 hr hd k2
  · exact va_instNo (C := Cn 10) B.1 B.2.1 hown hlk (B.2.2.2.2.2.2.2.1.2.2 ("ElevenYards$Waiting", "ElevenYards$Turning") (by decide)) hr hd k2
theorem io_11_155 {a c : Nat} (hcl : u.1.cls = RX11) (hc : plc c) (hd : decode u.2.1 pc = .ok (.instanceof 155, 3)) (hs : Sh M a (0, c)) (kk : AW D d mc ms u kc ks (pc + 3) lv (.int (if isk c 10 then 1 else 0) :: st) M post) : AW D d mc ms u kc ks pc lv (.ref a :: st) M post := by
  intro p e s m args below meth c0 H locs ls cells slots B h1 h2 hR hS hl
  have hr := hR.recv B hc.lt hs.1 hs.2
  have k2 := kk p e s m args below meth c0 H locs ls cells slots B h1 h2 hR hS hl
  have hlk := B.tb.use w_518 rfl args
  have hown := B.own
  rw [hcl] at hown
  rcases hc with rfl | rfl | rfl | rfl | rfl | rfl | rfl
  · exact va_instNo (C := Cn 2) B.1 B.2.1 hown hlk (B.2.2.2.2.2.2.2.1.2.2 ("ElevenYards$Mixed", "ElevenYards$Waiting") (by decide)) hr hd k2
  · exact va_instNo (C := Cn 3) B.1 B.2.1 hown hlk (B.2.2.2.2.2.2.2.1.2.2 ("ElevenYards$Noted", "ElevenYards$Waiting") (by decide)) hr hd k2
  · exact va_instNo (C := Cn 4) B.1 B.2.1 hown hlk (B.2.2.2.2.2.2.2.1.2.2 ("ElevenYards$Own", "ElevenYards$Waiting") (by decide)) hr hd k2
  · exact va_instNo (C := Cn 5) B.1 B.2.1 hown hlk (B.2.2.2.2.2.2.2.1.2.2 ("ElevenYards$Player", "ElevenYards$Waiting") (by decide)) hr hd k2
  · exact va_instNo (C := Cn 8) B.1 B.2.1 hown hlk (B.2.2.2.2.2.2.2.1.2.2 ("ElevenYards$Staying", "ElevenYards$Waiting") (by decide)) hr hd k2
  · exact va_instNo (C := Cn 9) B.1 B.2.1 hown hlk (B.2.2.2.2.2.2.2.1.2.2 ("ElevenYards$Turning", "ElevenYards$Waiting") (by decide)) hr hd k2
  · exact va_instS B.1 B.2.1 hown hlk (B.K.1 10 _ (cl_at (by decide))).2 hr hd k2
theorem io_11_158 {a c : Nat} (hcl : u.1.cls = RX11) (hc : plc c) (hd : decode u.2.1 pc = .ok (.instanceof 158, 3)) (hs : Sh M a (0, c)) (kk : AW D d mc ms u kc ks (pc + 3) lv (.int (if isk c 3 then 1 else 0) :: st) M post) : AW D d mc ms u kc ks pc lv (.ref a :: st) M post := by
  intro p e s m args below meth c0 H locs ls cells slots B h1 h2 hR hS hl
  have hr := hR.recv B hc.lt hs.1 hs.2
  have k2 := kk p e s m args below meth c0 H locs ls cells slots B h1 h2 hR hS hl
  have hlk := B.tb.use w_531 rfl args
  have hown := B.own
  rw [hcl] at hown
  rcases hc with rfl | rfl | rfl | rfl | rfl | rfl | rfl
  · exact va_instNo (C := Cn 2) B.1 B.2.1 hown hlk (B.2.2.2.2.2.2.2.1.2.2 ("ElevenYards$Mixed", "ElevenYards$Noted") (by decide)) hr hd k2
  · exact va_instS B.1 B.2.1 hown hlk (B.K.1 3 _ (cl_at (by decide))).2 hr hd k2
  · exact va_instNo (C := Cn 4) B.1 B.2.1 hown hlk (B.2.2.2.2.2.2.2.1.2.2 ("ElevenYards$Own", "ElevenYards$Noted") (by decide)) hr hd k2
  · exact va_instNo (C := Cn 5) B.1 B.2.1 hown hlk (B.2.2.2.2.2.2.2.1.2.2 ("ElevenYards$Player", "ElevenYards$Noted") (by decide)) hr hd k2
  · exact va_instNo (C := Cn 8) B.1 B.2.1 hown hlk (B.2.2.2.2.2.2.2.1.2.2 ("ElevenYards$Staying", "ElevenYards$Noted") (by decide)) hr hd k2
  · exact va_instNo (C := Cn 9) B.1 B.2.1 hown hlk (B.2.2.2.2.2.2.2.1.2.2 ("ElevenYards$Turning", "ElevenYards$Noted") (by decide)) hr hd k2
  · exact va_instNo (C := Cn 10) B.1 B.2.1 hown hlk (B.2.2.2.2.2.2.2.1.2.2 ("ElevenYards$Waiting", "ElevenYards$Noted") (by decide)) hr hd k2
theorem io_11_161 {a c : Nat} (hcl : u.1.cls = RX11) (hc : plc c) (hd : decode u.2.1 pc = .ok (.instanceof 161, 3)) (hs : Sh M a (0, c)) (kk : AW D d mc ms u kc ks (pc + 3) lv (.int (if isk c 8 then 1 else 0) :: st) M post) : AW D d mc ms u kc ks pc lv (.ref a :: st) M post := by
  intro p e s m args below meth c0 H locs ls cells slots B h1 h2 hR hS hl
  have hr := hR.recv B hc.lt hs.1 hs.2
  have k2 := kk p e s m args below meth c0 H locs ls cells slots B h1 h2 hR hS hl
  have hlk := B.tb.use w_544 rfl args
  have hown := B.own
  rw [hcl] at hown
  rcases hc with rfl | rfl | rfl | rfl | rfl | rfl | rfl
  · exact va_instNo (C := Cn 2) B.1 B.2.1 hown hlk (B.2.2.2.2.2.2.2.1.2.2 ("ElevenYards$Mixed", "ElevenYards$Staying") (by decide)) hr hd k2
  · exact va_instNo (C := Cn 3) B.1 B.2.1 hown hlk (B.2.2.2.2.2.2.2.1.2.2 ("ElevenYards$Noted", "ElevenYards$Staying") (by decide)) hr hd k2
  · exact va_instNo (C := Cn 4) B.1 B.2.1 hown hlk (B.2.2.2.2.2.2.2.1.2.2 ("ElevenYards$Own", "ElevenYards$Staying") (by decide)) hr hd k2
  · exact va_instNo (C := Cn 5) B.1 B.2.1 hown hlk (B.2.2.2.2.2.2.2.1.2.2 ("ElevenYards$Player", "ElevenYards$Staying") (by decide)) hr hd k2
  · exact va_instS B.1 B.2.1 hown hlk (B.K.1 8 _ (cl_at (by decide))).2 hr hd k2
  · exact va_instNo (C := Cn 9) B.1 B.2.1 hown hlk (B.2.2.2.2.2.2.2.1.2.2 ("ElevenYards$Turning", "ElevenYards$Staying") (by decide)) hr hd k2
  · exact va_instNo (C := Cn 10) B.1 B.2.1 hown hlk (B.2.2.2.2.2.2.2.1.2.2 ("ElevenYards$Waiting", "ElevenYards$Staying") (by decide)) hr hd k2

theorem ab_tensr {i : Nat} (hd : decode u.2.1 pc = .ok (.getstatic i, 3)) (hln : Cond.fieldLink u.1.cls i "ElevenYards$ShootOut" "TENS" "[I" ∈ lw_tbl) (kk : AW D d mc ms u kc ks (pc + 3) lv (.ref 1000007 :: st) M post) : AW D d mc ms u kc ks pc lv st M post := by
  intro p e s m args below meth c H locs ls cells slots B h1 h2 hR hS hl
  exact va_gets B.1 B.2.1 B.2.2.2.2.2.2.2.2.1.1 hS B.own (B.tb.use hln rfl args) (fun _ h => h) hd (kk p e s m args below meth c H locs ls cells slots B h1 h2 hR hS hl)
theorem ab_tensl {i : Int32} (hd : decode u.2.1 pc = .ok (.iaload, 1)) (hin : vp_in i 5) (kk : AW D d mc ms u kc ks (pc + 1) lv (.int (tens.getD i.toNatClampNeg 0) :: st) M post) : AW D d mc ms u kc ks pc lv (.int i :: .ref 1000007 :: st) M post := by
  intro p e s m args below meth c H locs ls cells slots B h1 h2 hR hS hl
  exact va_ti B.1 B.2.1 B.2.2.2.2.2.2.2.2.1.2.1 hS hin rfl hd (kk p e s m args below meth c H locs ls cells slots B h1 h2 hR hS hl)
theorem ab_ldcs {i j : Nat} (hcl : u.1.cls = RX6) (hj : j < 7) (hi : st_i.getD j 0 = i) (hd : decode u.2.1 pc = .ok (.ldc i, 2)) (kk : AW D d mc ms u kc ks (pc + 2) lv (.ref (1000000 + j) :: st) M post) : AW D d mc ms u kc ks pc lv st M post := by
  subst hi
  intro p e s m args below meth c H locs ls cells slots B h1 h2 hR hS hl
  have hown := B.own
  rw [hcl] at hown
  refine va_ldcS B.1 B.2.1 hown (B.2.2.2.2.2.2.2.2.1.2.2.2.2.2 j hj) hd ?_
  have k2 := kk p e s m args below meth c H locs ls cells slots B h1 h2 hR hS hl
  have e : cv D (.ref (1000000 + j)) = .ref (D.2.2.2.2.1 j) := by
    show Value.ref (rh D (1000000 + j)) = _
    unfold rh
    rw [if_neg (by omega), Nat.add_sub_cancel_left]
  rw [List.map_cons, e] at k2
  exact k2


theorem ce_mA {q : Nat × Nat} {b : Nat} (h : b < mN M) : ce D (mA M q) b = ce D M b := by
  have hne : b ≠ M.1 := Nat.ne_of_lt h
  exact ce_of (by show va_up _ _ _ b = _; rw [va_up_ne _ _ hne]; rfl) (by show va_up _ _ _ b = _; rw [va_up_ne _ _ hne]; rfl) (by show va_up _ _ _ b = _; rw [va_up_ne _ _ hne]; rfl) (by show va_up _ _ _ b = _; rw [va_up_ne _ _ hne]; rfl)
theorem mS_mA (q : Nat × Nat) : mS (mA M q) (mN M) = q := by show va_up _ _ _ M.1 = _; rw [va_up_self]
theorem Rp.push {H H1 : Heap} {q : Nat × Nat} (h : Rp D M H) (hm : mN M < 1000000) (z : H1.size = H.size + 1) (oq : ∀ x, x < H.size → H1[x]? = H[x]?) (he : va_at D.2.1 vwCl (gB D + mN M, ce D (mA M q) (mN M)) H1) : Rp D (mA M q) H1 := by
  refine ⟨?_, by rw [z, h.2.1]; show _ = gB D + (M.1 + 1); rw [Nat.add_assoc]; rfl, by show M.1 + 1 ≤ _; exact hm⟩
  rw [← wd_push (M := M) (M' := mA M q) rfl (fun b hb => ce_mA hb)]
  refine va_P.app (h.1.kept (fun k x hx => oq x.1 ((h.1 k x hx).lt))) (fun k x hx => ?_)
  have hz : k < 1 := (List.getElem?_eq_some_iff.mp hx).1
  rw [show k = 0 by omega] at hx
  cases hx
  exact he
theorem ab_new {i c : Nat} (hd : decode u.2.1 pc = .ok (.new i, 3)) (hc : c < 13) (hcl : Cond.classLink u.1.cls i (Cn c) ∈ lw_tbl) (hin : Cond.instantiable (Cn c) (nF c) ∈ lw_tbl) (hini : Cond.initialized (Cn c) ∈ lw_tbl) (hkc : 1 ≤ kc) (hks : nF c ≤ ks) (hm : mN M < 1000000)
    (kk : AW D d mc ms u (kc - 1) (ks - nF c) (pc + 3) lv (.ref (mN M) :: st) (mA M (0, c)) post) : AW D d mc ms u kc ks pc lv st M post := by
  intro p e s m args below meth c0 H locs ls cells slots B h1 h2 hR hS hl
  have hKn := B.K.1 c _ (cl_at hc)
  have hb := hR.2.1
  refine W.newcK B.1 B.2.1 B.own (B.tb.use hcl rfl args) (B.tb.use hin rfl args) (B.tb.use hini rfl args) rfl hd (by show cells + 1 ≤ mc; omega) (by show slots + nF c ≤ ms; omega) hKn.2.1 rfl fun H1 kC hkC e1 z1 o1 => ?_
  have hR1 : Rp D (mA M (0, c)) H1 := by
    refine hR.push hm z1 o1 ?_
    rw [ce_obj (mS_mA (0, c))]
    refine ⟨_, cl_at hc, ((u_born (tyF c) (B.tb.all args) (cl_in hc) hKn hkC (by rw [← hb]; exact e1) (cl_ty hc))).to (fun j hj => ?_)⟩
    simp only [vp_V, List.getD_eq_getElem?_getD, List.getElem?_map, List.getElem?_range hj, Option.map_some, Option.getD_some]
    have hg1 : gI (mA M (0, c)) (mN M) j = 0 := by simp [gI, gL, gP, mA, mN, va_up]
    have hg2 : gL (mA M (0, c)) (mN M) j = 0 := by simp [gI, gL, gP, mA, mN, va_up]
    have hg3 : gP (mA M (0, c)) (mN M) j = none := by simp [gI, gL, gP, mA, mN, va_up]
    unfold fv fk
    show defaultValue (tyF c j) = if fK (tyF c j) = 1 then _ else if fK (tyF c j) = 2 then _ else _
    rw [hg1, hg2, hg3]
    have hty : tyF c j = .int ∨ tyF c j = .long ∨ tyF c j = .boolean ∨ (∃ t, tyF c j = .array t) ∨ ∃ t, tyF c j = .object t := cl_sorts hc j
    rcases hty with h | h | h | ⟨t, h⟩ | ⟨t, h⟩ <;> rw [h] <;> rfl
  have k2 := kk p e s m args below meth c0 H1 locs ls (cells + 1) (slots + nF c) B (by omega) (by omega) hR1 ⟨Nat.le_trans hS.1 (by omega), fun x q1 q2 => (o1 x (Nat.lt_of_lt_of_le q1 hS.1)).trans (hS.2.1 x q1 q2), hS.2.2⟩ hl
  have e : cv D (.ref (mN M)) = .ref H.size := by
    show Value.ref (rh D (mN M)) = _
    unfold rh
    rw [if_pos hm, hb]
  rw [List.map_cons, e] at k2
  exact k2
theorem ab_newI {n : Int32} {N : Nat} (hd : decode u.2.1 pc = .ok (.newarray .int, 2)) (hw : Cond.arrayClass .int ∈ lw_tbl) (hn : ¬ n < 0) (hN : n.toNatClampNeg = N) (hNb : N ≤ 1000) (hkc : 1 ≤ kc) (hks : N ≤ ks) (hm : mN M < 1000000)
    (kk : AW D d mc ms u (kc - 1) (ks - N) (pc + 2) lv (.ref (mN M) :: st) (mA M (1, N)) post) : AW D d mc ms u kc ks pc lv (.int n :: st) M post := by
  intro p e s m args below meth c0 H locs ls cells slots B h1 h2 hR hS hl
  have hb := hR.2.1
  refine va_newaK (atype := .int) B.1 B.2.1 (B.tb.use hw rfl args) rfl hd rfl hn hN (by show N * 4 ≤ 536870912; omega) (by show cells + 1 ≤ mc; omega) (by show slots + N ≤ ms; omega) rfl fun H1 cA e1 z1 o1 hAr hNm => ?_
  have hcA : cA = D.2.2.1 0 := Option.some.inj (hNm.symm.trans (B.K.2 0 _ rfl).2)
  subst hcA
  have hR1 : Rp D (mA M (1, N)) H1 := by
    refine hR.push hm z1 o1 ?_
    rw [ce_1 (mS_mA (1, N))]
    show H1[gB D + mN M]? = some (vp_cell _ _)
    rw [← hb, e1, vp_cell_i]
    congr 2
    funext j
    have hg1 : gI (mA M (1, N)) (mN M) j = 0 := by simp [gI, gL, gP, mA, mN, va_up]
    rw [hg1]
    rfl
  have k2 := kk p e s m args below meth c0 H1 locs ls (cells + 1) (slots + N) B (by omega) (by omega) hR1 ⟨Nat.le_trans hS.1 (by omega), fun x q1 q2 => (o1 x (Nat.lt_of_lt_of_le q1 hS.1)).trans (hS.2.1 x q1 q2), hS.2.2⟩ hl
  have e : cv D (.ref (mN M)) = .ref H.size := by
    show Value.ref (rh D (mN M)) = _
    unfold rh
    rw [if_pos hm, hb]
  rw [List.map_cons, e] at k2
  exact k2

theorem ab_newL {n : Int32} {N : Nat} (hd : decode u.2.1 pc = .ok (.newarray .long, 2)) (hw : Cond.arrayClass .long ∈ lw_tbl) (hn : ¬ n < 0) (hN : n.toNatClampNeg = N) (hNb : N ≤ 1000) (hkc : 1 ≤ kc) (hks : N ≤ ks) (hm : mN M < 1000000)
    (kk : AW D d mc ms u (kc - 1) (ks - N) (pc + 2) lv (.ref (mN M) :: st) (mA M (2, N)) post) : AW D d mc ms u kc ks pc lv (.int n :: st) M post := by
  intro p e s m args below meth c0 H locs ls cells slots B h1 h2 hR hS hl
  have hb := hR.2.1
  refine va_newaK (atype := .long) B.1 B.2.1 (B.tb.use hw rfl args) rfl hd rfl hn hN (by show N * 8 ≤ 536870912; omega) (by show cells + 1 ≤ mc; omega) (by show slots + N ≤ ms; omega) rfl fun H1 cA e1 z1 o1 hAr hNm => ?_
  have hcA : cA = D.2.2.1 1 := Option.some.inj (hNm.symm.trans (B.K.2 1 _ rfl).2)
  subst hcA
  have hR1 : Rp D (mA M (2, N)) H1 := by
    refine hR.push hm z1 o1 ?_
    rw [ce_2 (mS_mA (2, N))]
    show H1[gB D + mN M]? = some (vp_cell _ _)
    rw [← hb, e1, vp_cell_l]
    congr 2
    funext j
    have hg1 : gL (mA M (2, N)) (mN M) j = 0 := by simp [gI, gL, gP, mA, mN, va_up]
    rw [hg1]
    rfl
  have k2 := kk p e s m args below meth c0 H1 locs ls (cells + 1) (slots + N) B (by omega) (by omega) hR1 ⟨Nat.le_trans hS.1 (by omega), fun x q1 q2 => (o1 x (Nat.lt_of_lt_of_le q1 hS.1)).trans (hS.2.1 x q1 q2), hS.2.2⟩ hl
  have e : cv D (.ref (mN M)) = .ref H.size := by
    show Value.ref (rh D (mN M)) = _
    unfold rh
    rw [if_pos hm, hb]
  rw [List.map_cons, e] at k2
  exact k2

theorem ab_newZ {n : Int32} {N : Nat} (hd : decode u.2.1 pc = .ok (.newarray .boolean, 2)) (hw : Cond.arrayClass .boolean ∈ lw_tbl) (hn : ¬ n < 0) (hN : n.toNatClampNeg = N) (hNb : N ≤ 1000) (hkc : 1 ≤ kc) (hks : N ≤ ks) (hm : mN M < 1000000)
    (kk : AW D d mc ms u (kc - 1) (ks - N) (pc + 2) lv (.ref (mN M) :: st) (mA M (3, N)) post) : AW D d mc ms u kc ks pc lv (.int n :: st) M post := by
  intro p e s m args below meth c0 H locs ls cells slots B h1 h2 hR hS hl
  have hb := hR.2.1
  refine va_newaK (atype := .boolean) B.1 B.2.1 (B.tb.use hw rfl args) rfl hd rfl hn hN (by show N * 1 ≤ 536870912; omega) (by show cells + 1 ≤ mc; omega) (by show slots + N ≤ ms; omega) rfl fun H1 cA e1 z1 o1 hAr hNm => ?_
  have hcA : cA = D.2.2.1 2 := Option.some.inj (hNm.symm.trans (B.K.2 2 _ rfl).2)
  subst hcA
  have hR1 : Rp D (mA M (3, N)) H1 := by
    refine hR.push hm z1 o1 ?_
    rw [ce_3 (mS_mA (3, N))]
    show H1[gB D + mN M]? = some (vp_cell _ _)
    rw [← hb, e1, vp_cell_i]
    congr 2
    funext j
    have hg1 : gI (mA M (3, N)) (mN M) j = 0 := by simp [gI, gL, gP, mA, mN, va_up]
    rw [hg1]
    rfl
  have k2 := kk p e s m args below meth c0 H1 locs ls (cells + 1) (slots + N) B (by omega) (by omega) hR1 ⟨Nat.le_trans hS.1 (by omega), fun x q1 q2 => (o1 x (Nat.lt_of_lt_of_le q1 hS.1)).trans (hS.2.1 x q1 q2), hS.2.2⟩ hl
  have e : cv D (.ref (mN M)) = .ref H.size := by
    show Value.ref (rh D (mN M)) = _
    unfold rh
    rw [if_pos hm, hb]
  rw [List.map_cons, e] at k2
  exact k2


theorem ab_newQ {i : Nat} {n : Int32} {N : Nat} (hd : decode u.2.1 pc = .ok (.anewarray i, 3)) (hcl : Cond.classLink u.1.cls i "ElevenYards$Player" ∈ lw_tbl) (hw : Cond.arrayOver (.object "ElevenYards$Player") ∈ lw_tbl) (hn : ¬ n < 0) (hN : n.toNatClampNeg = N) (hNb : N ≤ 1000) (hkc : 1 ≤ kc) (hks : N ≤ ks) (hm : mN M < 1000000)
    (kk : AW D d mc ms u (kc - 1) (ks - N) (pc + 3) lv (.ref (mN M) :: st) (mA M (6, N)) post) : AW D d mc ms u kc ks pc lv (.int n :: st) M post := by
  subst hN
  intro p e s m args below meth c0 H locs ls cells slots B h1 h2 hR hS hl
  have hb := hR.2.1
  refine W.anew B.1 B.2.1 B.own (B.tb.use hcl rfl args) (B.tb.use hw rfl args) rfl hd rfl hn (by omega) (by show cells + 1 ≤ mc; omega) (by show slots + _ ≤ ms; omega) fun cA kA comp f1 f2 f3 f4 => ?_
  have hcA : cA = D.2.2.1 5 := by
    obtain ⟨kA', comp', g1, g2, g3, g4⟩ := (B.K.2 5 _ rfl).2
    exact Option.some.inj (f1.symm.trans g4)
  subst hcA
  generalize hH1 : H.push ({ cls := D.2.2.1 5, slots := Array.replicate n.toNatClampNeg .null, vm := .none } : Cell) = H1
  have z1 : H1.size = H.size + 1 := by rw [← hH1, Array.size_push]
  have e1 : H1[H.size]? = some (arrV (D.2.2.1 5) n.toNatClampNeg (fun _ => .null)) := by rw [← hH1, Array.getElem?_push_size, ← arrV_new]
  have o1 : ∀ q : Nat, q < H.size → H1[q]? = H[q]? := fun q hq => by rw [← hH1, Array.getElem?_push, if_neg (Nat.ne_of_lt hq)]
  have hR1 : Rp D (mA M (6, n.toNatClampNeg)) H1 := by
    refine hR.push hm z1 o1 ?_
    rw [ce_6 (mS_mA (6, n.toNatClampNeg))]
    show H1[gB D + mN M]? = some (vp_cell _ _)
    rw [← hb, e1, vp_cell_q]
    congr 2
    funext j
    have hg1 : gP (mA M (6, n.toNatClampNeg)) (mN M) j = none := by simp [gI, gL, gP, mA, mN, va_up]
    rw [hg1]
    rfl
  have k2 := kk p e s m args below meth c0 H1 locs ls (cells + 1) (slots + n.toNatClampNeg) B (by omega) (by omega) hR1 ⟨Nat.le_trans hS.1 (by omega), fun x q1 q2 => (o1 x (Nat.lt_of_lt_of_le q1 hS.1)).trans (hS.2.1 x q1 q2), hS.2.2⟩ hl
  have e : cv D (.ref (mN M)) = .ref H.size := by
    show Value.ref (rh D (mN M)) = _
    unfold rh
    rw [if_pos hm, hb]
  rw [List.map_cons, e] at k2
  exact k2
end

