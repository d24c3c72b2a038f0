/-! what neither would leave: the class's settleMix -/
/-- a row of so many small numbers -/
def Ro (M : Mm) (a n : Nat) (T : Nat → Int) : Prop := ∀ k, k < n → gI M a k = J (T k)
def Tb (T : Nat → Int) : Prop := ∀ k, k < 9 → 0 ≤ T k ∧ T k ≤ 100
def cl (T : Nat → Int) (w own other : Nat) : Int := if w = 0 then T (own * 3 + other) else T (other * 3 + own)
theorem cl_b {T : Nat → Int} (h : Tb T) {w own other : Nat} (h1 : own < 3) (h2 : other < 3) : 0 ≤ cl T w own other ∧ cl T w own other ≤ 100 := by
  unfold cl
  split <;> exact h _ (by omega)
theorem pb {l t : Int} (h1 : 0 ≤ l) (h2 : 0 ≤ t) (h3 : t ≤ 100) : 0 ≤ l * t ∧ l * t ≤ 100 * l := by
  refine ⟨Int.mul_nonneg h1 h2, ?_⟩
  have := Int.mul_le_mul_of_nonneg_left h3 h1
  omega
def mxc (T : Nat → Int) (w : Nat) (l m r : Int) (o : Nat) : Int := l * cl T w 0 o + m * cl T w 1 o + r * cl T w 2 o
theorem mxc_b {T : Nat → Int} (h : Tb T) {w o : Nat} {l m r : Int} (ho : o < 3) (h1 : 0 ≤ l) (h2 : 0 ≤ m) (h3 : 0 ≤ r) : 0 ≤ mxc T w l m r o ∧ mxc T w l m r o ≤ 100 * (l + m + r) := by
  unfold mxc
  have b0 := cl_b h (w := w) (own := 0) (other := o) (by omega) ho
  have b1 := cl_b h (w := w) (own := 1) (other := o) (by omega) ho
  have b2 := cl_b h (w := w) (own := 2) (other := o) (by omega) ho
  have p0 := pb h1 b0.1 b0.2
  have p1 := pb h2 b1.1 b1.2
  have p2 := pb h3 b2.1 b2.2
  omega
/-- better for one of them -/
abbrev bt (w : Nat) (x y : Int) : Prop := (w = 0 ∧ y < x) ∨ (w ≠ 0 ∧ x < y)
def wst (T : Nat → Int) (w : Nat) (l m r : Int) : Int := if w = 0 then min (min (mxc T w l m r 0) (mxc T w l m r 1)) (mxc T w l m r 2) else max (max (mxc T w l m r 0) (mxc T w l m r 1)) (mxc T w l m r 2)
theorem wst_b {T : Nat → Int} (h : Tb T) {w : Nat} {l m r : Int} (h1 : 0 ≤ l) (h2 : 0 ≤ m) (h3 : 0 ≤ r) : 0 ≤ wst T w l m r ∧ wst T w l m r ≤ 100 * (l + m + r) := by
  have b0 := mxc_b h (w := w) (o := 0) (by omega) h1 h2 h3
  have b1 := mxc_b h (w := w) (o := 1) (by omega) h1 h2 h3
  have b2 := mxc_b h (w := w) (o := 2) (by omega) h1 h2 h3
  unfold wst
  split <;> omega
theorem c_better {D : GD} {d w : Nat} {x y : Int} {M : Mm} {P : Int32 → Mm → Prop} (hL : Lay 13 25 M) (hw : w < 2) (hx : -2147483648 ≤ x ∧ x ≤ 2147483647) (hy : -2147483648 ≤ y ∧ y ≤ 2147483647) (h : P (b2 (bt w x y)) M) : AMi D d mX0_isBetter [.int (J w), .int (J x), .int (J y)] M P := by
  obtain ⟨hx1, hx2⟩ := hx
  obtain ⟨hy1, hy2⟩ := hy
  refine rX0_isBetter D d (J w) (J x) (J y) M _ hL ⟨fun c => ⟨fun c2 => iret (.refl M) ?_, fun c2 => iret (.refl M) ?_⟩, fun c => ⟨fun c2 => iret (.refl M) ?_, fun c2 => iret (.refl M) ?_⟩⟩
  · simp (disch := omega) only [J_lit, J_add, J_sub, J_mul, J_neg, J_lt, J_le, J_eq, J_nat, J_in, J_div] at c c2
    rwa [b2_f (by unfold bt; omega)] at h
  · simp (disch := omega) only [J_lit, J_add, J_sub, J_mul, J_neg, J_lt, J_le, J_eq, J_nat, J_in, J_div] at c c2
    rwa [b2_t (by unfold bt; omega)] at h
  · simp (disch := omega) only [J_lit, J_add, J_sub, J_mul, J_neg, J_lt, J_le, J_eq, J_nat, J_in, J_div] at c c2
    rwa [b2_f (by unfold bt; omega)] at h
  · simp (disch := omega) only [J_lit, J_add, J_sub, J_mul, J_neg, J_lt, J_le, J_eq, J_nat, J_in, J_div] at c c2
    rwa [b2_t (by unfold bt; omega)] at h
theorem c_cell {D : GD} {d w own other : Nat} {M : Mm} {T : Nat → Int} {P : Int32 → Mm → Prop} (hL : Lay 13 25 M) (hT : Ro M 14 9 T) (hw : w < 2) (h1 : own < 3) (h2 : other < 3) (h : P (J (cl T w own other)) M) : AMi D d mX0_cell [.ref 13, .int (J w), .int (J own), .int (J other)] M P := by
  refine rX0_cell D d (J w) (J own) (J other) M _ hL ⟨fun c => ⟨?_, iret (.refl M) ?_⟩, fun c => ⟨?_, iret (.refl M) ?_⟩⟩
  · simp (disch := omega) only [J_lit, J_add, J_sub, J_mul, J_neg, J_lt, J_le, J_eq, J_nat, J_in, J_div]; omega
  · simp (disch := omega) only [J_lit, J_add, J_sub, J_mul, J_neg, J_lt, J_le, J_eq, J_nat, J_in, J_div] at c
    have e : (J other * 3 + J own).toNatClampNeg = other * 3 + own := by simp (disch := omega) only [J_lit, J_add, J_sub, J_mul, J_neg, J_lt, J_le, J_eq, J_nat, J_in, J_div]; omega
    rw [e, hT _ (by omega)]
    unfold cl at h
    rwa [if_neg (by omega)] at h
  · simp (disch := omega) only [J_lit, J_add, J_sub, J_mul, J_neg, J_lt, J_le, J_eq, J_nat, J_in, J_div]; omega
  · simp (disch := omega) only [J_lit, J_add, J_sub, J_mul, J_neg, J_lt, J_le, J_eq, J_nat, J_in, J_div] at c
    have e : (J own * 3 + J other).toNatClampNeg = own * 3 + other := by simp (disch := omega) only [J_lit, J_add, J_sub, J_mul, J_neg, J_lt, J_le, J_eq, J_nat, J_in, J_div]; omega
    rw [e, hT _ (by omega)]
    unfold cl at h
    rwa [if_pos (by omega)] at h
theorem J_w {w : Nat} (h : w < 2) : (1 : Int32) - J w = J ((1 - w : Nat) : Int) := by
  rcases (by omega : w = 0 ∨ w = 1) with rfl | rfl <;> rfl
theorem c_worst {D : GD} {d w : Nat} {l m r : Int} {M : Mm} {T : Nat → Int} {P : Int32 → Mm → Prop} (hL : Lay 13 25 M) (hT : Ro M 14 9 T) (hb : Tb T) (hw : w < 2) (h1 : 0 ≤ l) (h2 : 0 ≤ m) (h3 : 0 ≤ r) (h4 : l + m + r = 20) (h : P (J (wst T w l m r)) M) : AMi D (d + 1) mX0_worstChance [.ref 13, .int (J w), .int (J l), .int (J m), .int (J r)] M P := by
  have b0 := mxc_b hb (w := w) (o := 0) (by omega) h1 h2 h3
  have b1 := mxc_b hb (w := w) (o := 1) (by omega) h1 h2 h3
  have b2 := mxc_b hb (w := w) (o := 2) (by omega) h1 h2 h3
  have en : ∀ n : Nat, (J n : Int32) + (1 : Int32) = J ((n + 1 : Nat) : Int) := fun n => by simp (disch := omega) only [J_lit, J_add, J_sub, J_mul, J_neg, J_lt, J_le, J_eq, J_nat, J_in, J_div]; congr 1
  -- behind the third
  have k3 : ∀ v : Int, wst T w l m r = v → LX0_worstChance_6 D d (J w) (J l) (J m) (J r) (J v) (J (3 : Nat)) M (fun r M1 => ∃ x, r = some (.int x) ∧ Sm M M1 ∧ P x M1) := by
    intro v hv
    refine rX0_worstChance_6 D d _ _ _ _ _ _ M _ hL ⟨fun c => iret (.refl M) (hv ▸ h), fun c => ?_⟩
    simp (disch := omega) only [J_lit, J_add, J_sub, J_mul, J_neg, J_lt, J_le, J_eq, J_nat, J_in, J_div] at c
    omega
  have step : ∀ (o : Nat) (v : Int), o < 3 → (o ≠ 0 → 0 ≤ v ∧ v ≤ 2000) → (∀ v' : Int, v' = (if o = 0 then mxc T w l m r o else if bt (1 - w) (mxc T w l m r o) v then mxc T w l m r o else v) → LX0_worstChance_6 D d (J w) (J l) (J m) (J r) (J v') (J ((o + 1 : Nat) : Int)) M (fun r M1 => ∃ x, r = some (.int x) ∧ Sm M M1 ∧ P x M1)) → LX0_worstChance_6 D d (J w) (J l) (J m) (J r) (J v) (J o) M (fun r M1 => ∃ x, r = some (.int x) ∧ Sm M M1 ∧ P x M1) := by
    intro o v ho hv hk
    have bo := mxc_b hb (w := w) (o := o) ho h1 h2 h3
    refine rX0_worstChance_6 D d _ _ _ _ _ _ M _ hL ⟨fun c => ?_, fun c => ?_⟩
    · simp (disch := omega) only [J_lit, J_add, J_sub, J_mul, J_neg, J_lt, J_le, J_eq, J_nat, J_in, J_div] at c
      omega
    · refine c_cell (own := 0) hL hT hw (by omega) ho (c_cell (own := 1) hL hT hw (by omega) ho (c_cell (own := 2) hL hT hw (by omega) ho ?_))
      intro x20 e20
      have e20' : x20 = J (mxc T w l m r o) := by rw [e20]; simp only [J_mul, J_add]; rfl
      subst e20'
      refine ⟨fun c x22 e22 => ?_, fun c => ?_⟩
      · simp (disch := omega) only [J_lit, J_add, J_sub, J_mul, J_neg, J_lt, J_le, J_eq, J_nat, J_in, J_div] at c
        rw [e22, en]
        refine hk _ ?_
        rw [if_pos (by omega)]
      · simp (disch := omega) only [J_lit, J_add, J_sub, J_mul, J_neg, J_lt, J_le, J_eq, J_nat, J_in, J_div] at c
        have hv' := hv (by omega)
        rw [J_w hw]
        refine c_better hL (by omega) (by omega) (by omega) ⟨fun c2 x e => ?_, fun c2 x e => ?_⟩
        · rw [e, en]
          refine hk _ ?_
          rw [if_neg (by omega), if_neg (b2_eq0.mp c2)]
        · rw [e, en]
          refine hk _ ?_
          rw [if_neg (by omega), if_pos (b2_ne0.mp c2)]
  refine rX0_worstChance D d (J w) (J l) (J m) (J r) M _ hL ?_
  refine step 0 0 (by omega) (fun h => absurd rfl h) fun v0 e0 => ?_
  rw [if_pos rfl] at e0
  refine step 1 v0 (by omega) (fun _ => by omega) fun v1 e1 => ?_
  rw [if_neg (by omega)] at e1
  have hv1 : 0 ≤ v1 ∧ v1 ≤ 2000 := by split at e1 <;> omega
  refine step 2 v1 (by omega) (fun _ => hv1) fun v2 e2 => ?_
  rw [if_neg (by omega)] at e2
  refine k3 v2 ?_
  unfold bt at e1 e2
  unfold wst
  rcases (by omega : w = 0 ∨ w = 1) with rfl | rfl
  · rw [if_pos rfl]
    split at e1 <;> split at e2 <;> omega
  · rw [if_neg (by omega)]
    split at e1 <;> split at e2 <;> omega
