
/-- cells may be made; what stood before keeps its shape and, outside rows of players, its references -/
def Sx (M M1 : Mm) : Prop := mN M ≤ mN M1 ∧ (∀ a, a < mN M → mS M1 a = mS M a) ∧ ∀ a k, a < mN M → (mS M a).1 ≠ 6 → gP M1 a k = gP M a k
theorem Sm.x {M M1 : Mm} (h : Sm M M1) : Sx M M1 := ⟨Nat.le_of_eq h.1.symm, fun a _ => by rw [h.2.1], fun a k _ hk => h.2.2 a k hk⟩
theorem Sx.refl (M : Mm) : Sx M M := (Sm.refl M).x
theorem Sx.trans {M M1 M2 : Mm} (h : Sx M M1) (g : Sx M1 M2) : Sx M M2 := ⟨Nat.le_trans h.1 g.1, fun a ha => (g.2.1 a (Nat.lt_of_lt_of_le ha h.1)).trans (h.2.1 a ha), fun a k ha hk => (g.2.2 a k (Nat.lt_of_lt_of_le ha h.1) (by rw [h.2.1 a ha]; exact hk)).trans (h.2.2 a k ha hk)⟩
theorem Sh.ofx {M M1 : Mm} (hs : Sx M M1) {a : Nat} {q : Nat × Nat} (h : Sh M a q) : Sh M1 a q := ⟨Nat.lt_of_lt_of_le h.1 hs.1, by rw [hs.2.1 a h.1]; exact h.2⟩
theorem Lay.ofx {lo hi : Nat} {M M1 : Mm} (hs : Sx M M1) (h : Lay lo hi M) : Lay lo hi M1 := ⟨Nat.le_trans h.1 hs.1, fun a h1 h2 => by rw [hs.2.1 a (Nat.lt_of_lt_of_le h2 h.1)]; exact h.2.1 a h1 h2, fun q hq h1 h2 => by
  rw [hs.2.2 _ _ (Nat.lt_of_lt_of_le h2 h.1) (by rw [h.2.1 _ h1 h2]; exact layP_6 q hq)]
  exact h.2.2 q hq h1 h2⟩
theorem Pl.ofx {M M1 : Mm} (hs : Sx M M1) {p c j : Nat} (h : Pl M p c j) : Pl M1 p c j := by
  obtain ⟨h1, h2, h3, h4, h5⟩ := h
  have hn : (mS M p).1 ≠ 6 := by rw [h1.2]; exact (by decide : (0 : Nat) ≠ 6)
  exact ⟨h1.ofx hs, h2, by rw [hs.2.2 p 5 h1.1 hn]; exact h3, h4, by rw [hs.2.2 p 4 h1.1 hn]; exact h5⟩
theorem Sx.mA (M : Mm) (q : Nat × Nat) : Sx M (mA M q) := by
  refine ⟨Nat.le_succ _, fun a ha => ?_, fun a k ha _ => ?_⟩
  · have hne : a ≠ M.1 := Nat.ne_of_lt ha
    show va_up M.2.1 M.1 q a = _
    rw [va_up_ne _ _ hne]
    rfl
  · have hne : a ≠ M.1 := Nat.ne_of_lt ha
    show va_up M.2.2.2.2 M.1 (fun _ => none) a k = _
    rw [va_up_ne _ _ hne]
    rfl
/-- what a player's constructor writes -/
def plI (M : Mm) (a : Nat) (k n v r : Int32) (cd lg : Nat) : Mm := sP (sP (sI (sI (sI (sI M a 0 k) a 1 n) a 2 v) a 3 r) a 4 (some cd)) a 5 (some lg)
theorem gP_sP {M : Mm} {a k b j : Nat} {o : Option Nat} : gP (sP M a k o) b j = if b = a ∧ j = k then o else gP M b j := by
  show va_up (gP M) a (va_up (gP M a) k o) b j = _
  by_cases h : b = a
  · subst h
    rw [va_up_self]
    by_cases h2 : j = k
    · subst h2; rw [va_up_self]; simp
    · rw [va_up_ne _ _ h2]; simp [h2]
  · rw [va_up_ne _ _ h]; simp [h]
theorem gI_sI {M : Mm} {a k b j : Nat} {x : Int32} : gI (sI M a k x) b j = if b = a ∧ j = k then x else gI M b j := by
  show va_up (gI M) a (va_up (gI M a) k x) b j = _
  by_cases h : b = a
  · subst h
    rw [va_up_self]
    by_cases h2 : j = k
    · subst h2; rw [va_up_self]; simp
    · rw [va_up_ne _ _ h2]; simp [h2]
  · rw [va_up_ne _ _ h]; simp [h]
theorem gL_sL {M : Mm} {a k b j : Nat} {x : Int64} : gL (sL M a k x) b j = if b = a ∧ j = k then x else gL M b j := by
  show va_up (gL M) a (va_up (gL M a) k x) b j = _
  by_cases h : b = a
  · subst h
    rw [va_up_self]
    by_cases h2 : j = k
    · subst h2; rw [va_up_self]; simp
    · rw [va_up_ne _ _ h2]; simp [h2]
  · rw [va_up_ne _ _ h]; simp [h]
theorem gI_sP {M : Mm} {a k b j : Nat} {o : Option Nat} : gI (sP M a k o) b j = gI M b j := rfl
theorem gI_sL {M : Mm} {a k b j : Nat} {o : Int64} : gI (sL M a k o) b j = gI M b j := rfl
theorem gL_sI {M : Mm} {a k b j : Nat} {o : Int32} : gL (sI M a k o) b j = gL M b j := rfl
theorem gL_sP {M : Mm} {a k b j : Nat} {o : Option Nat} : gL (sP M a k o) b j = gL M b j := rfl
theorem gP_sI {M : Mm} {a k b j : Nat} {o : Int32} : gP (sI M a k o) b j = gP M b j := rfl
theorem gP_sL {M : Mm} {a k b j : Nat} {o : Int64} : gP (sL M a k o) b j = gP M b j := rfl
theorem Sx.pl {M M1 : Mm} (h : Sx M M1) {a : Nat} (ha : mN M ≤ a) {k n v r : Int32} {cd lg : Nat} : Sx M (plI M1 a k n v r cd lg) := ⟨h.1, h.2.1, fun b i hb hk => by
  have e : b ≠ a := by omega
  simp only [plI, gP_sP, e, false_and, if_false]
  exact h.2.2 b i hb hk⟩
theorem Pl.mk {M : Mm} {a c j : Nat} {k n v r : Int32} (hc : plc c) (hj : j < 7) (hs : Sh M a (0, c)) : Pl (plI M a k n v r (5 + j) 46) a c j := by
  refine ⟨hs, hc, ?_, hj, ?_⟩
  · simp only [plI, gP_sP]; simp
  · simp only [plI, gP_sP]; simp

theorem dX2_init_0 : decode cX2_init 0 = .ok (.aload_n 0, 1) := by decide +kernel
theorem dX2_init_1 : decode cX2_init 1 = .ok (.iload_n 1, 1) := by decide +kernel
theorem dX2_init_2 : decode cX2_init 2 = .ok (.iload_n 2, 1) := by decide +kernel
theorem dX2_init_3 : decode cX2_init 3 = .ok (.iload_n 3, 1) := by decide +kernel
theorem dX2_init_4 : decode cX2_init 4 = .ok (.iload 4, 2) := by decide +kernel
theorem dX2_init_6 : decode cX2_init 6 = .ok (.aload 5, 2) := by decide +kernel
theorem dX2_init_8 : decode cX2_init 8 = .ok (.aload 6, 2) := by decide +kernel
theorem dX2_init_10 : decode cX2_init 10 = .ok (.invokespecial 3, 3) := by decide +kernel
theorem dX2_init_13 : decode cX2_init 13 = .ok (.return_, 1) := by decide +kernel
theorem dX3_init_0 : decode cX3_init 0 = .ok (.aload_n 0, 1) := by decide +kernel
theorem dX3_init_1 : decode cX3_init 1 = .ok (.iload_n 1, 1) := by decide +kernel
theorem dX3_init_2 : decode cX3_init 2 = .ok (.iload_n 2, 1) := by decide +kernel
theorem dX3_init_3 : decode cX3_init 3 = .ok (.iload_n 3, 1) := by decide +kernel
theorem dX3_init_4 : decode cX3_init 4 = .ok (.iload 4, 2) := by decide +kernel
theorem dX3_init_6 : decode cX3_init 6 = .ok (.aload 5, 2) := by decide +kernel
theorem dX3_init_8 : decode cX3_init 8 = .ok (.aload 6, 2) := by decide +kernel
theorem dX3_init_10 : decode cX3_init 10 = .ok (.invokespecial 1, 3) := by decide +kernel
theorem dX3_init_13 : decode cX3_init 13 = .ok (.return_, 1) := by decide +kernel
theorem dX4_init_0 : decode cX4_init 0 = .ok (.aload_n 0, 1) := by decide +kernel
theorem dX4_init_1 : decode cX4_init 1 = .ok (.iload_n 1, 1) := by decide +kernel
theorem dX4_init_2 : decode cX4_init 2 = .ok (.iload_n 2, 1) := by decide +kernel
theorem dX4_init_3 : decode cX4_init 3 = .ok (.iload_n 3, 1) := by decide +kernel
theorem dX4_init_4 : decode cX4_init 4 = .ok (.iload 4, 2) := by decide +kernel
theorem dX4_init_6 : decode cX4_init 6 = .ok (.aload 5, 2) := by decide +kernel
theorem dX4_init_8 : decode cX4_init 8 = .ok (.aload 6, 2) := by decide +kernel
theorem dX4_init_10 : decode cX4_init 10 = .ok (.invokespecial 3, 3) := by decide +kernel
theorem dX4_init_13 : decode cX4_init 13 = .ok (.return_, 1) := by decide +kernel
theorem dX5_init_0 : decode cX5_init 0 = .ok (.aload_n 0, 1) := by decide +kernel
theorem dX5_init_1 : decode cX5_init 1 = .ok (.invokespecial 3, 3) := by decide +kernel
theorem dX5_init_4 : decode cX5_init 4 = .ok (.aload_n 0, 1) := by decide +kernel
theorem dX5_init_5 : decode cX5_init 5 = .ok (.iload_n 1, 1) := by decide +kernel
theorem dX5_init_6 : decode cX5_init 6 = .ok (.putfield 9, 3) := by decide +kernel
theorem dX5_init_9 : decode cX5_init 9 = .ok (.aload_n 0, 1) := by decide +kernel
theorem dX5_init_10 : decode cX5_init 10 = .ok (.iload_n 2, 1) := by decide +kernel
theorem dX5_init_11 : decode cX5_init 11 = .ok (.putfield 15, 3) := by decide +kernel
theorem dX5_init_14 : decode cX5_init 14 = .ok (.aload_n 0, 1) := by decide +kernel
theorem dX5_init_15 : decode cX5_init 15 = .ok (.iload_n 3, 1) := by decide +kernel
theorem dX5_init_16 : decode cX5_init 16 = .ok (.putfield 18, 3) := by decide +kernel
theorem dX5_init_19 : decode cX5_init 19 = .ok (.aload_n 0, 1) := by decide +kernel
theorem dX5_init_20 : decode cX5_init 20 = .ok (.iload 4, 2) := by decide +kernel
theorem dX5_init_22 : decode cX5_init 22 = .ok (.putfield 21, 3) := by decide +kernel
theorem dX5_init_25 : decode cX5_init 25 = .ok (.aload_n 0, 1) := by decide +kernel
theorem dX5_init_26 : decode cX5_init 26 = .ok (.aload 5, 2) := by decide +kernel
theorem dX5_init_28 : decode cX5_init 28 = .ok (.putfield 24, 3) := by decide +kernel
theorem dX5_init_31 : decode cX5_init 31 = .ok (.aload_n 0, 1) := by decide +kernel
theorem dX5_init_32 : decode cX5_init 32 = .ok (.aload 6, 2) := by decide +kernel
theorem dX5_init_34 : decode cX5_init 34 = .ok (.putfield 28, 3) := by decide +kernel
theorem dX5_init_37 : decode cX5_init 37 = .ok (.return_, 1) := by decide +kernel
theorem dX8_init_0 : decode cX8_init 0 = .ok (.aload_n 0, 1) := by decide +kernel
theorem dX8_init_1 : decode cX8_init 1 = .ok (.iload_n 1, 1) := by decide +kernel
theorem dX8_init_2 : decode cX8_init 2 = .ok (.iload_n 2, 1) := by decide +kernel
theorem dX8_init_3 : decode cX8_init 3 = .ok (.iload_n 3, 1) := by decide +kernel
theorem dX8_init_4 : decode cX8_init 4 = .ok (.iload 4, 2) := by decide +kernel
theorem dX8_init_6 : decode cX8_init 6 = .ok (.aload 5, 2) := by decide +kernel
theorem dX8_init_8 : decode cX8_init 8 = .ok (.aload 6, 2) := by decide +kernel
theorem dX8_init_10 : decode cX8_init 10 = .ok (.invokespecial 3, 3) := by decide +kernel
theorem dX8_init_13 : decode cX8_init 13 = .ok (.return_, 1) := by decide +kernel
theorem dX9_init_0 : decode cX9_init 0 = .ok (.aload_n 0, 1) := by decide +kernel
theorem dX9_init_1 : decode cX9_init 1 = .ok (.iload_n 1, 1) := by decide +kernel
theorem dX9_init_2 : decode cX9_init 2 = .ok (.iload_n 2, 1) := by decide +kernel
theorem dX9_init_3 : decode cX9_init 3 = .ok (.iload_n 3, 1) := by decide +kernel
theorem dX9_init_4 : decode cX9_init 4 = .ok (.iload 4, 2) := by decide +kernel
theorem dX9_init_6 : decode cX9_init 6 = .ok (.aload 5, 2) := by decide +kernel
theorem dX9_init_8 : decode cX9_init 8 = .ok (.aload 6, 2) := by decide +kernel
theorem dX9_init_10 : decode cX9_init 10 = .ok (.invokespecial 1, 3) := by decide +kernel
theorem dX9_init_13 : decode cX9_init 13 = .ok (.return_, 1) := by decide +kernel
theorem dX10_init_0 : decode cX10_init 0 = .ok (.aload_n 0, 1) := by decide +kernel
theorem dX10_init_1 : decode cX10_init 1 = .ok (.iload_n 1, 1) := by decide +kernel
theorem dX10_init_2 : decode cX10_init 2 = .ok (.iload_n 2, 1) := by decide +kernel
theorem dX10_init_3 : decode cX10_init 3 = .ok (.iload_n 3, 1) := by decide +kernel
theorem dX10_init_4 : decode cX10_init 4 = .ok (.iload 4, 2) := by decide +kernel
theorem dX10_init_6 : decode cX10_init 6 = .ok (.aload 5, 2) := by decide +kernel
theorem dX10_init_8 : decode cX10_init 8 = .ok (.aload 6, 2) := by decide +kernel
theorem dX10_init_10 : decode cX10_init 10 = .ok (.invokespecial 1, 3) := by decide +kernel
theorem dX10_init_13 : decode cX10_init 13 = .ok (.return_, 1) := by decide +kernel
theorem pl_fin {c k : Nat} (h : plc c) (hk : k < 6) : (Tn c k).2.2.2 = true ∧ (Tn c k).1 = RX5 := by
  rcases h with rfl | rfl | rfl | rfl | rfl | rfl | rfl <;> (match k, hk with | 0, _ => exact ⟨rfl, rfl⟩ | 1, _ => exact ⟨rfl, rfl⟩ | 2, _ => exact ⟨rfl, rfl⟩ | 3, _ => exact ⟨rfl, rfl⟩ | 4, _ => exact ⟨rfl, rfl⟩ | 5, _ => exact ⟨rfl, rfl⟩)
theorem pl_tyI {c k : Nat} (h : plc c) (hk : k < 4) : tyF c k = .int := by
  rcases h with rfl | rfl | rfl | rfl | rfl | rfl | rfl <;> (match k, hk with | 0, _ => rfl | 1, _ => rfl | 2, _ => rfl | 3, _ => rfl)
section
variable {D : GD} {d : Nat} {M : Mm} {post : Option Value → Mm → Prop}
theorem c_X5_init {a c cd lg : Nat} {k n v r : Int32} (hc : plc c) (hs : Sh M a (0, c)) (h : post none (plI M a k n v r cd lg)) : AM D (d + 1) 0 0 mX5_init [.ref a, .int k, .int n, .int v, .int r, .ref cd, .ref lg] M post := by
  refine AM.of (by decide) (Nat.le_of_ble_eq_true rfl) ?_
  show AW D (d + 1) 0 0 mX5_init 0 0 0 [(0, .ref a), (1, .int k), (2, .int n), (3, .int v), (4, .int r), (5, .ref cd), (6, .ref lg)] [] M post
  refine ab_aload_n 0 dX5_init_0 rfl ?_
  refine ab_objInit dX5_init_1 w_457 w_106 w_107 (Nat.le_of_ble_eq_true rfl) (Nat.succ_le_succ (Nat.zero_le _)) ?_
  refine ab_aload_n 0 dX5_init_4 rfl ?_
  refine ab_iload_n 1 dX5_init_5 rfl ?_
  refine ab_putFI dX5_init_6 (pf_5_9 hc).1 (pl_tyI hc (by decide)) (pl_fin hc (by decide)).1 rfl (pl_fin hc (by decide)).2 hs.1 hs.2 ?_
  refine ab_aload_n 0 dX5_init_9 rfl ?_
  refine ab_iload_n 2 dX5_init_10 rfl ?_
  refine ab_putFI dX5_init_11 (pf_5_15 hc).1 (pl_tyI hc (by decide)) (pl_fin hc (by decide)).1 rfl (pl_fin hc (by decide)).2 hs.1 hs.2 ?_
  refine ab_aload_n 0 dX5_init_14 rfl ?_
  refine ab_iload_n 3 dX5_init_15 rfl ?_
  refine ab_putFI dX5_init_16 (pf_5_18 hc).1 (pl_tyI hc (by decide)) (pl_fin hc (by decide)).1 rfl (pl_fin hc (by decide)).2 hs.1 hs.2 ?_
  refine ab_aload_n 0 dX5_init_19 rfl ?_
  refine ab_iload 4 dX5_init_20 rfl ?_
  refine ab_putFI dX5_init_22 (pf_5_21 hc).1 (pl_tyI hc (by decide)) (pl_fin hc (by decide)).1 rfl (pl_fin hc (by decide)).2 hs.1 hs.2 ?_
  refine ab_aload_n 0 dX5_init_25 rfl ?_
  refine ab_aload 5 dX5_init_26 rfl ?_
  refine ab_putFP dX5_init_28 (pf_5_24 hc).1 (pf_5_24 hc).2 (pl_fin hc (by decide)).1 rfl (pl_fin hc (by decide)).2 hs.1 hs.2 ?_
  refine ab_aload_n 0 dX5_init_31 rfl ?_
  refine ab_aload 6 dX5_init_32 rfl ?_
  refine ab_putFP dX5_init_34 (pf_5_28 hc).1 (pf_5_28 hc).2 (pl_fin hc (by decide)).1 rfl (pl_fin hc (by decide)).2 hs.1 hs.2 ?_
  exact ab_vret dX5_init_37 rfl h
theorem c_X2_init {a c cd lg : Nat} {k n v r : Int32} (hc : plc c) (hs : Sh M a (0, c)) (h : post none (plI M a k n v r cd lg)) : AM D (d + 2) 0 0 mX2_init [.ref a, .int k, .int n, .int v, .int r, .ref cd, .ref lg] M post := by
  refine AM.of (by decide) (Nat.le_of_ble_eq_true rfl) ?_
  show AW D (d + 2) 0 0 mX2_init 0 0 0 [(0, .ref a), (1, .int k), (2, .int n), (3, .int v), (4, .int r), (5, .ref cd), (6, .ref lg)] [] M post
  refine ab_aload_n 0 dX2_init_0 rfl ?_
  refine ab_iload_n 1 dX2_init_1 rfl ?_
  refine ab_iload_n 2 dX2_init_2 rfl ?_
  refine ab_iload_n 3 dX2_init_3 rfl ?_
  refine ab_iload 4 dX2_init_4 rfl ?_
  refine ab_aload 5 dX2_init_6 rfl ?_
  refine ab_aload 6 dX2_init_8 rfl ?_
  refine ab_callI (d' := d + 1) (mc' := 0) (ms' := 0) (vs := [.int k, .int n, .int v, .int r, .ref cd, .ref lg]) (st := []) dX2_init_10 ⟨cw_X5_init, w_497⟩ rfl rfl w_455 rfl rfl (Nat.le_of_ble_eq_true rfl) (Nat.le_refl _) (Nat.zero_le _) (Nat.zero_le _) (c_X5_init hc hs ?_)
  refine ab_rv ?_
  exact ab_vret dX2_init_13 rfl h
theorem c_X4_init {a c cd lg : Nat} {k n v r : Int32} (hc : plc c) (hs : Sh M a (0, c)) (h : post none (plI M a k n v r cd lg)) : AM D (d + 2) 0 0 mX4_init [.ref a, .int k, .int n, .int v, .int r, .ref cd, .ref lg] M post := by
  refine AM.of (by decide) (Nat.le_of_ble_eq_true rfl) ?_
  show AW D (d + 2) 0 0 mX4_init 0 0 0 [(0, .ref a), (1, .int k), (2, .int n), (3, .int v), (4, .int r), (5, .ref cd), (6, .ref lg)] [] M post
  refine ab_aload_n 0 dX4_init_0 rfl ?_
  refine ab_iload_n 1 dX4_init_1 rfl ?_
  refine ab_iload_n 2 dX4_init_2 rfl ?_
  refine ab_iload_n 3 dX4_init_3 rfl ?_
  refine ab_iload 4 dX4_init_4 rfl ?_
  refine ab_aload 5 dX4_init_6 rfl ?_
  refine ab_aload 6 dX4_init_8 rfl ?_
  refine ab_callI (d' := d + 1) (mc' := 0) (ms' := 0) (vs := [.int k, .int n, .int v, .int r, .ref cd, .ref lg]) (st := []) dX4_init_10 ⟨cw_X5_init, w_454⟩ rfl rfl w_455 rfl rfl (Nat.le_of_ble_eq_true rfl) (Nat.le_refl _) (Nat.zero_le _) (Nat.zero_le _) (c_X5_init hc hs ?_)
  refine ab_rv ?_
  exact ab_vret dX4_init_13 rfl h
theorem c_X9_init {a c cd lg : Nat} {k n v r : Int32} (hc : plc c) (hs : Sh M a (0, c)) (h : post none (plI M a k n v r cd lg)) : AM D (d + 2) 0 0 mX9_init [.ref a, .int k, .int n, .int v, .int r, .ref cd, .ref lg] M post := by
  refine AM.of (by decide) (Nat.le_of_ble_eq_true rfl) ?_
  show AW D (d + 2) 0 0 mX9_init 0 0 0 [(0, .ref a), (1, .int k), (2, .int n), (3, .int v), (4, .int r), (5, .ref cd), (6, .ref lg)] [] M post
  refine ab_aload_n 0 dX9_init_0 rfl ?_
  refine ab_iload_n 1 dX9_init_1 rfl ?_
  refine ab_iload_n 2 dX9_init_2 rfl ?_
  refine ab_iload_n 3 dX9_init_3 rfl ?_
  refine ab_iload 4 dX9_init_4 rfl ?_
  refine ab_aload 5 dX9_init_6 rfl ?_
  refine ab_aload 6 dX9_init_8 rfl ?_
  refine ab_callI (d' := d + 1) (mc' := 0) (ms' := 0) (vs := [.int k, .int n, .int v, .int r, .ref cd, .ref lg]) (st := []) dX9_init_10 ⟨cw_X5_init, w_510⟩ rfl rfl w_455 rfl rfl (Nat.le_of_ble_eq_true rfl) (Nat.le_refl _) (Nat.zero_le _) (Nat.zero_le _) (c_X5_init hc hs ?_)
  refine ab_rv ?_
  exact ab_vret dX9_init_13 rfl h
theorem c_X3_init {a c cd lg : Nat} {k n v r : Int32} (hc : plc c) (hs : Sh M a (0, c)) (h : post none (plI M a k n v r cd lg)) : AM D (d + 3) 0 0 mX3_init [.ref a, .int k, .int n, .int v, .int r, .ref cd, .ref lg] M post := by
  refine AM.of (by decide) (Nat.le_of_ble_eq_true rfl) ?_
  show AW D (d + 3) 0 0 mX3_init 0 0 0 [(0, .ref a), (1, .int k), (2, .int n), (3, .int v), (4, .int r), (5, .ref cd), (6, .ref lg)] [] M post
  refine ab_aload_n 0 dX3_init_0 rfl ?_
  refine ab_iload_n 1 dX3_init_1 rfl ?_
  refine ab_iload_n 2 dX3_init_2 rfl ?_
  refine ab_iload_n 3 dX3_init_3 rfl ?_
  refine ab_iload 4 dX3_init_4 rfl ?_
  refine ab_aload 5 dX3_init_6 rfl ?_
  refine ab_aload 6 dX3_init_8 rfl ?_
  refine ab_callI (d' := d + 2) (mc' := 0) (ms' := 0) (vs := [.int k, .int n, .int v, .int r, .ref cd, .ref lg]) (st := []) dX3_init_10 ⟨cw_X2_init, w_536⟩ rfl rfl w_495 rfl rfl (Nat.le_of_ble_eq_true rfl) (Nat.le_refl _) (Nat.zero_le _) (Nat.zero_le _) (c_X2_init hc hs ?_)
  refine ab_rv ?_
  exact ab_vret dX3_init_13 rfl h
theorem c_X8_init {a c cd lg : Nat} {k n v r : Int32} (hc : plc c) (hs : Sh M a (0, c)) (h : post none (plI M a k n v r cd lg)) : AM D (d + 3) 0 0 mX8_init [.ref a, .int k, .int n, .int v, .int r, .ref cd, .ref lg] M post := by
  refine AM.of (by decide) (Nat.le_of_ble_eq_true rfl) ?_
  show AW D (d + 3) 0 0 mX8_init 0 0 0 [(0, .ref a), (1, .int k), (2, .int n), (3, .int v), (4, .int r), (5, .ref cd), (6, .ref lg)] [] M post
  refine ab_aload_n 0 dX8_init_0 rfl ?_
  refine ab_iload_n 1 dX8_init_1 rfl ?_
  refine ab_iload_n 2 dX8_init_2 rfl ?_
  refine ab_iload_n 3 dX8_init_3 rfl ?_
  refine ab_iload 4 dX8_init_4 rfl ?_
  refine ab_aload 5 dX8_init_6 rfl ?_
  refine ab_aload 6 dX8_init_8 rfl ?_
  refine ab_callI (d' := d + 2) (mc' := 0) (ms' := 0) (vs := [.int k, .int n, .int v, .int r, .ref cd, .ref lg]) (st := []) dX8_init_10 ⟨cw_X2_init, w_549⟩ rfl rfl w_495 rfl rfl (Nat.le_of_ble_eq_true rfl) (Nat.le_refl _) (Nat.zero_le _) (Nat.zero_le _) (c_X2_init hc hs ?_)
  refine ab_rv ?_
  exact ab_vret dX8_init_13 rfl h
theorem c_X10_init {a c cd lg : Nat} {k n v r : Int32} (hc : plc c) (hs : Sh M a (0, c)) (h : post none (plI M a k n v r cd lg)) : AM D (d + 3) 0 0 mX10_init [.ref a, .int k, .int n, .int v, .int r, .ref cd, .ref lg] M post := by
  refine AM.of (by decide) (Nat.le_of_ble_eq_true rfl) ?_
  show AW D (d + 3) 0 0 mX10_init 0 0 0 [(0, .ref a), (1, .int k), (2, .int n), (3, .int v), (4, .int r), (5, .ref cd), (6, .ref lg)] [] M post
  refine ab_aload_n 0 dX10_init_0 rfl ?_
  refine ab_iload_n 1 dX10_init_1 rfl ?_
  refine ab_iload_n 2 dX10_init_2 rfl ?_
  refine ab_iload_n 3 dX10_init_3 rfl ?_
  refine ab_iload 4 dX10_init_4 rfl ?_
  refine ab_aload 5 dX10_init_6 rfl ?_
  refine ab_aload 6 dX10_init_8 rfl ?_
  refine ab_callI (d' := d + 2) (mc' := 0) (ms' := 0) (vs := [.int k, .int n, .int v, .int r, .ref cd, .ref lg]) (st := []) dX10_init_10 ⟨cw_X4_init, w_523⟩ rfl rfl w_452 rfl rfl (Nat.le_of_ble_eq_true rfl) (Nat.le_refl _) (Nat.zero_le _) (Nat.zero_le _) (c_X4_init hc hs ?_)
  refine ab_rv ?_
  exact ab_vret dX10_init_13 rfl h
end

def AMvx (D : GD) (d mc ms : Nat) (u : MD) (vs : List Value) (M : Mm) (P : Mm → Prop) : Prop := AM D d mc ms u vs M (fun r M1 => r = none ∧ Sx M M1 ∧ P M1)
def AMqx (D : GD) (d mc ms : Nat) (u : MD) (vs : List Value) (M : Mm) (P : Option Nat → Mm → Prop) : Prop := AM D d mc ms u vs M (fun r M1 => ∃ o, r = some (va_rf o) ∧ Sx M M1 ∧ P o M1)
def AMix (D : GD) (d mc ms : Nat) (u : MD) (vs : List Value) (M : Mm) (P : Int32 → Mm → Prop) : Prop := AM D d mc ms u vs M (fun r M1 => ∃ x, r = some (.int x) ∧ Sx M M1 ∧ P x M1)
def AMlx (D : GD) (d mc ms : Nat) (u : MD) (vs : List Value) (M : Mm) (P : Int64 → Mm → Prop) : Prop := AM D d mc ms u vs M (fun r M1 => ∃ x, r = some (.long x) ∧ Sx M M1 ∧ P x M1)
theorem Sx.i {M M1 : Mm} (h : Sx M M1) {a k : Nat} {x : Int32} : Sx M (sI M1 a k x) := h
theorem Sx.l {M M1 : Mm} (h : Sx M M1) {a k : Nat} {x : Int64} : Sx M (sL M1 a k x) := h

