/-! the constructors -/
def Lz (n : Nat) (M : Mm) : Prop := mN M = n ∧ ∀ a, a < n → mS M a = lay a
def Pz (ps : List (Nat × Nat × Nat)) (M : Mm) : Prop := ∀ q ∈ ps, gP M q.1 q.2.1 = some q.2.2
theorem Lz.sh {n : Nat} {M : Mm} (h : Lz n M) {a : Nat} {q : Nat × Nat} (ha : a < n) (hq : lay a = q) : Sh M a q := ⟨by rw [h.1]; exact ha, (h.2 a ha).trans hq⟩
theorem Lz.ma {n : Nat} {M : Mm} (h : Lz n M) {q : Nat × Nat} (hq : lay n = q) : Lz (n + 1) (mA M q) := by
  obtain ⟨h1, h2⟩ := h
  refine ⟨by show M.1 + 1 = _; rw [show M.1 = n from h1], fun a ha => ?_⟩
  show va_up M.2.1 M.1 q a = _
  by_cases e : a = M.1
  · subst e
    rw [va_up_self, ← hq, ← h1]
    rfl
  · rw [va_up_ne _ _ e]
    exact h2 a (by have : M.1 = n := h1; omega)
theorem Pz.ma {ps : List (Nat × Nat × Nat)} {n : Nat} {M : Mm} (h : Pz ps M) (hz : Lz n M) {q : Nat × Nat} (hp : ps.all (fun q => q.1 < n) = true) : Pz ps (mA M q) := by
  intro x hx
  have hlt : x.1 < n := by have := List.all_eq_true.mp hp x hx; simpa using this
  have hne : x.1 ≠ M.1 := by have : M.1 = n := hz.1; omega
  show va_up M.2.2.2.2 M.1 (fun _ => none) x.1 x.2.1 = _
  rw [va_up_ne _ _ hne]
  exact h x hx
theorem Pz.sp {ps : List (Nat × Nat × Nat)} {M : Mm} (h : Pz ps M) {a k r : Nat} (hp : ps.all (fun q => !(q.1 == a && q.2.1 == k)) = true) : Pz ((a, k, r) :: ps) (sP M a k (some r)) := by
  intro x hx
  rw [gP_sP]
  rcases List.mem_cons.mp hx with rfl | hx
  · simp
  · have := List.all_eq_true.mp hp x hx
    rw [if_neg (by intro e; simp [e.1, e.2] at this)]
    exact h x hx
theorem Lz.rw {n : Nat} {M : Mm} (h : Lz n M) {t ti N K : Nat} (hq : lay n = (t, N)) : ∀ j, (∀ i, i < j → lay (n + 1 + i) = (ti, K)) → Lz (n + 1 + j) (mRw M t ti N K j)
  | 0, _ => h.ma hq
  | j + 1, hr => (Lz.rw h hq j (fun i hi => hr i (by omega))).ma (hr j (by omega))
def rws (n : Nat) : Nat → List (Nat × Nat × Nat)
  | 0 => []
  | j + 1 => (n, j, n + 1 + j) :: rws n j
theorem rws_lt (n : Nat) : ∀ j q, q ∈ rws n j → q.1 = n ∧ q.2.1 < j
  | 0, q, h => by cases h
  | j + 1, q, h => by
    rcases List.mem_cons.mp h with rfl | h
    · exact ⟨rfl, Nat.lt_succ_self _⟩
    · exact ⟨(rws_lt n j q h).1, Nat.lt_succ_of_lt (rws_lt n j q h).2⟩
theorem Pz.rw {ps : List (Nat × Nat × Nat)} {n : Nat} {M : Mm} (h : Pz ps M) (hz : Lz n M) {t ti N K : Nat} (hp : ps.all (fun q => q.1 < n) = true) : ∀ j, Pz (rws n j ++ ps) (mRw M t ti N K j)
  | 0 => h.ma hz hp
  | j + 1 => by
    have ih := Pz.rw (t := t) (ti := ti) (N := N) (K := K) h hz hp j
    have hn : mN M = n := hz.1
    intro x hx
    show gP (sP (mA (mRw M t ti N K j) (ti, K)) (mN M) j (some (mN M + 1 + j))) x.1 x.2.1 = _
    rw [gP_sP]
    rcases List.mem_cons.mp hx with rfl | hx
    · simp [hn]
    · have hlt : x.1 < n + 1 + j ∧ ¬ (x.1 = n ∧ x.2.1 = j) := by
        rcases List.mem_append.mp hx with h1 | h1
        · have := rws_lt n j x h1
          omega
        · have := List.all_eq_true.mp hp x h1
          simp at this
          omega
      rw [if_neg (by rw [hn]; exact hlt.2)]
      have hne : x.1 ≠ (mRw M t ti N K j).1 := by
        have e : (mRw M t ti N K j).1 = mN M + 1 + j := mRw_n M t ti N K j
        omega
      show va_up (mRw M t ti N K j).2.2.2.2 (mRw M t ti N K j).1 (fun _ => none) x.1 x.2.1 = _
      rw [va_up_ne _ _ hne]
      exact ih x hx
section
variable {D : GD} {d mc ms : Nat} {u : MD} {kc ks pc : Nat} {lv : List (Nat × Value)} {st : List Value} {M : Mm} {post : Option Value → Mm → Prop}
theorem ab_eqM {M1 : Mm} (e : M1 = M) (k : AW D d mc ms u kc ks pc lv st M1 post) : AW D d mc ms u kc ks pc lv st M post := e ▸ k
end
/-- nothing is made yet -/
def st_0 (f f' g h : Nat → Int32) : Mm := (0, fun _ => (0, 0), fun _ _ => 0, fun _ _ => 0, fun _ _ => none)
def ps_0 : List (Nat × Nat × Nat) := []
theorem hz_0 (f f' g h : Nat → Int32) : Lz 0 (st_0 f f' g h) := ⟨rfl, fun a ha => absurd ha (Nat.not_lt_zero a)⟩
theorem hp_0 (f f' g h : Nat → Int32) : Pz ps_0 (st_0 f f' g h) := fun q hq => by cases hq

def st_1 (f f' g h : Nat → Int32) : Mm := mA (st_0 f f' g h) (0, 11)
theorem hz_1 (f f' g h : Nat → Int32) : Lz 1 (st_1 f f' g h) := (hz_0 f f' g h).ma rfl
theorem hp_1 (f f' g h : Nat → Int32) : Pz ps_0 (st_1 f f' g h) := (hp_0 f f' g h).ma (hz_0 f f' g h) (by decide +kernel)
def st_2 (f f' g h : Nat → Int32) : Mm := mA (st_1 f f' g h) (0, 6)
theorem hz_2 (f f' g h : Nat → Int32) : Lz 2 (st_2 f f' g h) := (hz_1 f f' g h).ma rfl
theorem hp_2 (f f' g h : Nat → Int32) : Pz ps_0 (st_2 f f' g h) := (hp_1 f f' g h).ma (hz_1 f f' g h) (by decide +kernel)
theorem dX6_init_0 : decode cX6_init 0 = .ok (.aload_n 0, 1) := by decide +kernel
theorem dX6_init_1 : decode cX6_init 1 = .ok (.invokespecial 3, 3) := by decide +kernel
theorem dX6_init_4 : decode cX6_init 4 = .ok (.aload_n 0, 1) := by decide +kernel
theorem dX6_init_5 : decode cX6_init 5 = .ok (.bipush 100, 2) := by decide +kernel
theorem dX6_init_7 : decode cX6_init 7 = .ok (.newarray .int, 2) := by decide +kernel
theorem dX6_init_9 : decode cX6_init 9 = .ok (.putfield 9, 3) := by decide +kernel
theorem dX6_init_12 : decode cX6_init 12 = .ok (.aload_n 0, 1) := by decide +kernel
theorem dX6_init_13 : decode cX6_init 13 = .ok (.bipush 100, 2) := by decide +kernel
theorem dX6_init_15 : decode cX6_init 15 = .ok (.newarray .int, 2) := by decide +kernel
theorem dX6_init_17 : decode cX6_init 17 = .ok (.putfield 15, 3) := by decide +kernel
theorem dX6_init_20 : decode cX6_init 20 = .ok (.aload_n 0, 1) := by decide +kernel
theorem dX6_init_21 : decode cX6_init 21 = .ok (.iconst 0, 1) := by decide +kernel
theorem dX6_init_22 : decode cX6_init 22 = .ok (.putfield 18, 3) := by decide +kernel
theorem dX6_init_25 : decode cX6_init 25 = .ok (.aload_n 0, 1) := by decide +kernel
theorem dX6_init_26 : decode cX6_init 26 = .ok (.iconst 0, 1) := by decide +kernel
theorem dX6_init_27 : decode cX6_init 27 = .ok (.putfield 22, 3) := by decide +kernel
theorem dX6_init_30 : decode cX6_init 30 = .ok (.aload_n 0, 1) := by decide +kernel
theorem dX6_init_31 : decode cX6_init 31 = .ok (.iconst 0, 1) := by decide +kernel
theorem dX6_init_32 : decode cX6_init 32 = .ok (.putfield 25, 3) := by decide +kernel
theorem dX6_init_35 : decode cX6_init 35 = .ok (.aload_n 0, 1) := by decide +kernel
theorem dX6_init_36 : decode cX6_init 36 = .ok (.iconst 0, 1) := by decide +kernel
theorem dX6_init_37 : decode cX6_init 37 = .ok (.putfield 28, 3) := by decide +kernel
theorem dX6_init_40 : decode cX6_init 40 = .ok (.return_, 1) := by decide +kernel
def st_3 (f f' g h : Nat → Int32) : Mm := mA (st_2 f f' g h) (1, 100)
theorem hz_3 (f f' g h : Nat → Int32) : Lz 3 (st_3 f f' g h) := (hz_2 f f' g h).ma rfl
theorem hp_3 (f f' g h : Nat → Int32) : Pz ps_0 (st_3 f f' g h) := (hp_2 f f' g h).ma (hz_2 f f' g h) (by decide +kernel)
def st_4 (f f' g h : Nat → Int32) : Mm := sP (st_3 f f' g h) 1 0 (some 2)
def ps_1 : List (Nat × Nat × Nat) := (1, 0, 2) :: ps_0
theorem hz_4 (f f' g h : Nat → Int32) : Lz 3 (st_4 f f' g h) := (hz_3 f f' g h)
theorem hp_4 (f f' g h : Nat → Int32) : Pz ps_1 (st_4 f f' g h) := (hp_3 f f' g h).sp (by decide +kernel)
def st_5 (f f' g h : Nat → Int32) : Mm := mA (st_4 f f' g h) (1, 100)
theorem hz_5 (f f' g h : Nat → Int32) : Lz 4 (st_5 f f' g h) := (hz_4 f f' g h).ma rfl
theorem hp_5 (f f' g h : Nat → Int32) : Pz ps_1 (st_5 f f' g h) := (hp_4 f f' g h).ma (hz_4 f f' g h) (by decide +kernel)
def st_6 (f f' g h : Nat → Int32) : Mm := sP (st_5 f f' g h) 1 1 (some 3)
def ps_2 : List (Nat × Nat × Nat) := (1, 1, 3) :: ps_1
theorem hz_6 (f f' g h : Nat → Int32) : Lz 4 (st_6 f f' g h) := (hz_5 f f' g h)
theorem hp_6 (f f' g h : Nat → Int32) : Pz ps_2 (st_6 f f' g h) := (hp_5 f f' g h).sp (by decide +kernel)
def st_7 (f f' g h : Nat → Int32) : Mm := sI (st_6 f f' g h) 1 2 0
theorem hz_7 (f f' g h : Nat → Int32) : Lz 4 (st_7 f f' g h) := (hz_6 f f' g h)
theorem hp_7 (f f' g h : Nat → Int32) : Pz ps_2 (st_7 f f' g h) := (hp_6 f f' g h)
def st_8 (f f' g h : Nat → Int32) : Mm := sI (st_7 f f' g h) 1 3 0
theorem hz_8 (f f' g h : Nat → Int32) : Lz 4 (st_8 f f' g h) := (hz_7 f f' g h)
theorem hp_8 (f f' g h : Nat → Int32) : Pz ps_2 (st_8 f f' g h) := (hp_7 f f' g h)
def st_9 (f f' g h : Nat → Int32) : Mm := sI (st_8 f f' g h) 1 4 0
theorem hz_9 (f f' g h : Nat → Int32) : Lz 4 (st_9 f f' g h) := (hz_8 f f' g h)
theorem hp_9 (f f' g h : Nat → Int32) : Pz ps_2 (st_9 f f' g h) := (hp_8 f f' g h)
def st_10 (f f' g h : Nat → Int32) : Mm := sI (st_9 f f' g h) 1 5 0
theorem hz_10 (f f' g h : Nat → Int32) : Lz 4 (st_10 f f' g h) := (hz_9 f f' g h)
theorem hp_10 (f f' g h : Nat → Int32) : Pz ps_2 (st_10 f f' g h) := (hp_9 f f' g h)
set_option maxRecDepth 20000 in
theorem ci_X6_init_1 (D : GD) (d : Nat) (f f' g h : Nat → Int32) (post : Option Value → Mm → Prop) (hq : post none (st_10 f f' g h)) : AM D (d + 1) 2 200 mX6_init [.ref 1] (st_2 f f' g h) post := by
  refine AM.of (by decide) (Nat.le_of_ble_eq_true rfl) ?_
  show AW D (d + 1) 2 200 mX6_init 2 200 0 [(0, .ref 1)] [] (st_2 f f' g h) post
  refine ab_aload_n 0 dX6_init_0 rfl ?_
  refine ab_objInit dX6_init_1 w_113 w_106 w_107 (Nat.le_of_ble_eq_true rfl) (Nat.succ_le_succ (Nat.zero_le _)) ?_
  refine ab_aload_n 0 dX6_init_4 rfl ?_
  refine ab_bipush (v := 100) dX6_init_5 (by decide) ?_
  refine ab_newI (N := 100) dX6_init_7 w_137 (by decide) (by decide) (by decide) (Nat.le_of_ble_eq_true rfl) (Nat.le_of_ble_eq_true rfl) (by rw [(hz_2 f f' g h).1]; decide) ?_
  rw [(hz_2 f f' g h).1]
  refine ab_eqM (M1 := (st_3 f f' g h)) rfl ?_
  refine ab_putFP (a := 1) (c := 6) (k := 0) (r := 2) dX6_init_9 fs_6_9_6 rfl rfl rfl rfl ((hz_3 f f' g h).sh (a := 1) (by decide) rfl).1 ((hz_3 f f' g h).sh (a := 1) (by decide) rfl).2 ?_
  refine ab_eqM (M1 := (st_4 f f' g h)) rfl ?_
  refine ab_aload_n 0 dX6_init_12 rfl ?_
  refine ab_bipush (v := 100) dX6_init_13 (by decide) ?_
  refine ab_newI (N := 100) dX6_init_15 w_137 (by decide) (by decide) (by decide) (Nat.le_of_ble_eq_true rfl) (Nat.le_of_ble_eq_true rfl) (by rw [(hz_4 f f' g h).1]; decide) ?_
  rw [(hz_4 f f' g h).1]
  refine ab_eqM (M1 := (st_5 f f' g h)) rfl ?_
  refine ab_putFP (a := 1) (c := 6) (k := 1) (r := 3) dX6_init_17 fs_6_15_6 rfl rfl rfl rfl ((hz_5 f f' g h).sh (a := 1) (by decide) rfl).1 ((hz_5 f f' g h).sh (a := 1) (by decide) rfl).2 ?_
  refine ab_eqM (M1 := (st_6 f f' g h)) rfl ?_
  refine ab_aload_n 0 dX6_init_20 rfl ?_
  refine ab_iconst (v := 0) dX6_init_21 (by decide) ?_
  refine ab_putI (a := 1) (c := 6) (k := 2) dX6_init_22 fs_6_18_6 rfl rfl ((hz_6 f f' g h).sh (a := 1) (by decide) rfl).1 ((hz_6 f f' g h).sh (a := 1) (by decide) rfl).2 ?_
  refine ab_eqM (M1 := (st_7 f f' g h)) rfl ?_
  refine ab_aload_n 0 dX6_init_25 rfl ?_
  refine ab_iconst (v := 0) dX6_init_26 (by decide) ?_
  refine ab_putI (a := 1) (c := 6) (k := 3) dX6_init_27 fs_6_22_6 rfl rfl ((hz_7 f f' g h).sh (a := 1) (by decide) rfl).1 ((hz_7 f f' g h).sh (a := 1) (by decide) rfl).2 ?_
  refine ab_eqM (M1 := (st_8 f f' g h)) rfl ?_
  refine ab_aload_n 0 dX6_init_30 rfl ?_
  refine ab_iconst (v := 0) dX6_init_31 (by decide) ?_
  refine ab_putI (a := 1) (c := 6) (k := 4) dX6_init_32 fs_6_25_6 rfl rfl ((hz_8 f f' g h).sh (a := 1) (by decide) rfl).1 ((hz_8 f f' g h).sh (a := 1) (by decide) rfl).2 ?_
  refine ab_eqM (M1 := (st_9 f f' g h)) rfl ?_
  refine ab_aload_n 0 dX6_init_35 rfl ?_
  refine ab_iconst (v := 0) dX6_init_36 (by decide) ?_
  refine ab_putZ (a := 1) (c := 6) (k := 5) dX6_init_37 fs_6_28_6 rfl rfl ((hz_9 f f' g h).sh (a := 1) (by decide) rfl).1 ((hz_9 f f' g h).sh (a := 1) (by decide) rfl).2 (by decide) ?_
  refine ab_eqM (M1 := (st_10 f f' g h)) rfl ?_
  exact ab_vret dX6_init_40 rfl hq
