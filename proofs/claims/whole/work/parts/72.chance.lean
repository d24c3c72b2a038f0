/-! CHANCES -/
theorem lo_div {a : Int} {b : Nat} (ha : 0 ≤ a) (hb : 0 < b) (m : Nat) : (loA a b * (m : Int)).tdiv (loB a b) = a * m / b := by
  obtain ⟨n, rfl⟩ : ∃ n : Nat, a = n := ⟨a.toNat, by omega⟩
  have g := gcd_b (p := n) hb
  obtain ⟨x, hx⟩ := Nat.gcd_dvd_left n b
  obtain ⟨y, hy⟩ := Nat.gcd_dvd_right n b
  have eA : loA (n : Int) b = (x : Int) := by
    unfold loA
    rw [Int.natAbs_natCast]
    show ((n / Nat.gcd n b : Nat) : Int) = _
    congr 1
    conv => lhs; lhs; rw [hx]
    exact Nat.mul_div_cancel_left x g.1
  have eB : loB (n : Int) b = (y : Int) := by
    unfold loB
    rw [Int.natAbs_natCast]
    show ((b / Nat.gcd n b : Nat) : Int) = _
    congr 1
    conv => lhs; lhs; rw [hy]
    exact Nat.mul_div_cancel_left y g.1
  rw [eA, eB]
  have h1 : (x : Int) * (m : Int) = ((x * m : Nat) : Int) := by rw [Int.natCast_mul]
  have h2 : (n : Int) * (m : Int) = ((n * m : Nat) : Int) := by rw [Int.natCast_mul]
  rw [h1, h2]
  show ((x * m / y : Nat) : Int) = ((n * m / b : Nat) : Int)
  congr 1
  clear eA eB h1 h2
  have g1 := g.1
  clear g
  generalize Nat.gcd n b = G at *
  rw [hx, hy, Nat.mul_assoc, Nat.mul_div_mul_left _ _ g1]
theorem oA_le {T W V : Nat → Int} {pr : Int} (hb : Tb T) (hW : Wk W) (hV : Wk V) (hp : 0 ≤ pr ∧ pr ≤ 99) : oA T W V 0 pr ≤ oB W V := by
  have v := hV.s
  have gb : ∀ s, s < 3 → gq T W V 0 s ≤ W s * (10000 * sW V) := by
    intro s hs
    have h0 := hb (s * 3) (by omega)
    have h1 := hb (s * 3 + 1) (by omega)
    have h2 := hb (s * 3 + 2) (by omega)
    have w0 := hV.1 0 (by omega)
    have w1 := hV.1 1 (by omega)
    have w2 := hV.1 2 (by omega)
    have p0 := Int.mul_le_mul_of_nonneg_left h0.2 w0.1
    have p1 := Int.mul_le_mul_of_nonneg_left h1.2 w1.1
    have p2 := Int.mul_le_mul_of_nonneg_left h2.2 w2.1
    have e : gs T V s ≤ 100 * sW V := by
      unfold gs sW
      omega
    unfold gq
    rw [Int.zero_mul, Int.zero_mul, Int.zero_add, Int.sub_zero]
    exact Int.mul_le_mul_of_nonneg_left (by omega) (hW.1 s hs).1
  have g0 := gb 0 (by omega)
  have g1 := gb 1 (by omega)
  have g2 := gb 2 (by omega)
  have q0 := gq_b (s := 0) (n := 0) hb (by omega) hW hV (by omega)
  have q1 := gq_b (s := 1) (n := 0) hb (by omega) hW hV (by omega)
  have q2 := gq_b (s := 2) (n := 0) hb (by omega) hW hV (by omega)
  have e : W 0 * (10000 * sW V) + W 1 * (10000 * sW V) + W 2 * (10000 * sW V) = (sW W * sW V) * 10000 := by
    rw [← Int.add_mul, ← Int.add_mul]
    show sW W * (10000 * sW V) = _
    rw [Int.mul_comm 10000, Int.mul_assoc]
  have k1 : (gq T W V 0 0 + gq T W V 0 1 + gq T W V 0 2) * (100 - pr) ≤ (gq T W V 0 0 + gq T W V 0 1 + gq T W V 0 2) * 100 := Int.mul_le_mul_of_nonneg_left (by omega) (by omega)
  unfold oA oB
  omega
abbrev Pd : Type := Nat × Nat × List Cls
/-- a kick's chance, in millionths -/
def chF (T r0 r1 : Nat → Int) (X Y : Pd) (t q : Int) : Int := odA T 0 3 3 t q X.1 X.2.1 X.2.2 r0 Y.1 Y.2.1 Y.2.2 r1 * 1000000 / (odB T 3 3 t q X.1 X.2.1 X.2.2 r0 Y.1 Y.2.1 Y.2.2 r1 : Int)
def pOk (X : Pd) : Prop := X.1 ≤ 6 ∧ X.2.1 ≤ 2 ∧ X.2.2.length ≤ 8 ∧ ∀ c ∈ X.2.2, ClOk c
theorem chF_o {T r0 r1 : Nat → Int} {X Y : Pd} {t q : Int} (hb : Tb T) (h0 : Rr r0) (h1 : Rr r1) (hX : pOk X) (hY : pOk Y) : (0 ≤ odA T 0 3 3 t q X.1 X.2.1 X.2.2 r0 Y.1 Y.2.1 Y.2.2 r1 ∧ odA T 0 3 3 t q X.1 X.2.1 X.2.2 r0 Y.1 Y.2.1 Y.2.2 r1 ≤ 176418000000 ∧ 1000000 ≤ odB T 3 3 t q X.1 X.2.1 X.2.2 r0 Y.1 Y.2.1 Y.2.2 r1 ∧ odB T 3 3 t q X.1 X.2.1 X.2.2 r0 Y.1 Y.2.1 Y.2.2 r1 ≤ 88209000000) ∧ 0 ≤ chF T r0 r1 X Y t q ∧ chF T r0 r1 X Y t q ≤ 1000000 := by
  have W0k := fW_k (T := T) (w := 0) (F := fs0 3 3 t q) (k' := Y.1) (v' := Y.2.1) (F' := fs1 3 3 t q) (r' := r1) (R' := Y.2.2) hX.1 hX.2.1 h0 hX.2.2.1 hX.2.2.2
  have W1k := fW_k (T := T) (w := 1) (F := fs1 3 3 t q) (k' := X.1) (v' := X.2.1) (F' := fs0 3 3 t q) (r' := r0) (R' := X.2.2) hY.1 hY.2.1 h1 hY.2.2.1 hY.2.2.2
  have pb : 0 ≤ mn99 (gain (fs0 3 3 t q) 3 X.2.2) ∧ mn99 (gain (fs0 3 3 t q) 3 X.2.2) ≤ 99 := mn99_b (Int.natCast_nonneg _)
  have ob := oB_b W0k W1k
  have oa := oA_b (T := T) (n := 0) hb W0k W1k (by omega) pb
  have ol := oA_le (T := T) hb W0k W1k pb
  unfold chF odA odB
  generalize oA T _ _ 0 _ = A at *
  generalize oB _ _ = B at *
  refine ⟨by omega, ?_, ?_⟩
  · exact Int.ediv_nonneg (by omega) (by omega)
  · have : A * 1000000 / (B.toNat : Int) ≤ 1000000 := by
      apply Int.ediv_le_of_le_mul (by omega)
      rw [Int.toNat_of_nonneg (by omega)]
      omega
    exact this
section
variable {D : GD} {d : Nat}
/-- behind a meeting -/
def Wt (M : Mm) (T r0 r1 : Nat → Int) (X Y : Pd) (t q : Int) : Prop := (∀ s, s < 3 → gI M 23 s = J (fW T 0 X.1 X.2.1 (fs0 3 3 t q) X.2.2 r0 Y.1 Y.2.1 (fs1 3 3 t q) Y.2.2 r1 s)) ∧ (∀ s, s < 3 → gI M 24 s = J (fW T 1 Y.1 Y.2.1 (fs1 3 3 t q) Y.2.2 r1 X.1 X.2.1 (fs0 3 3 t q) X.2.2 r0 s)) ∧ gI M 13 5 = J (mn99 (gain (fs0 3 3 t q) 3 X.2.2))
theorem c_mill {M : Mm} {T r0 r1 : Nat → Int} {X Y : Pd} {t q : Int} {Q : Int32 → Mm → Prop} (hD2 : Du M T r0 r1) (hX : pOk X) (hY : pOk Y) (hw : Wt M T r0 r1 X Y t q) (h : ∀ M', Fl [] M M' → Q (J (chF T r0 r1 X Y t q)) M') : AMi D (d + 2) mX0_millionths [.ref 13] M Q := by
  obtain ⟨w0, w1, pr⟩ := hw
  obtain ⟨bo, -⟩ := chF_o (t := t) (q := q) hD2.2.1 hD2.2.2.2.2.1 hD2.2.2.2.2.2.1 hX hY
  have W0k := fW_k (T := T) (w := 0) (F := fs0 3 3 t q) (k' := Y.1) (v' := Y.2.1) (F' := fs1 3 3 t q) (r' := r1) (R' := Y.2.2) hX.1 hX.2.1 hD2.2.2.2.2.1 hX.2.2.1 hX.2.2.2
  have W1k := fW_k (T := T) (w := 1) (F := fs1 3 3 t q) (k' := X.1) (v' := X.2.1) (F' := fs0 3 3 t q) (r' := r0) (R' := X.2.2) hY.1 hY.2.1 hD2.2.2.2.2.2.1 hY.2.2.1 hY.2.2.2
  have pb : 0 ≤ mn99 (gain (fs0 3 3 t q) 3 X.2.2) ∧ mn99 (gain (fs0 3 3 t q) 3 X.2.2) ≤ 99 := mn99_b (Int.natCast_nonneg _)
  have ob := oB_b W0k W1k
  refine rX0_millionths D (d + 1) M _ (hD2.1.sub (by omega) (by omega)) ?_
  refine c_weighGoals (n := 0) (hD2.1.sub (by omega) (by omega)) hD2.2.2.1 hD2.2.1 W0k W1k (by omega) pb w0 w1 pr (fun M3 F3 _ l0 l1 => ?_)
  have hh := h M3 F3
  unfold chF odA odB at hh
  unfold odA odB at bo
  generalize hA : oA T _ _ 0 _ = A at *
  generalize hB : oB _ _ = B at *
  rw [l0, l1, lg_cmp_le]
  refine ⟨fun z => ?_, fun z => ⟨fun z2 => ?_, _, rfl, F3.1, ?_⟩⟩
  · exfalso
    simp (disch := omega) only [J_lit, J_add, J_sub, J_mul, J_neg, J_lt, J_le, J_eq, J_nat, J_in, J_div, K_lit, K_add, K_sub, K_mul, K_neg, K_lt, K_le, K_eq, J_i2l, K_l2i, K_div] at z
    omega
  · simp (disch := omega) only [J_lit, J_add, J_sub, J_mul, J_neg, J_lt, J_le, J_eq, J_nat, J_in, J_div, K_lit, K_add, K_sub, K_mul, K_neg, K_lt, K_le, K_eq, J_i2l, K_l2i, K_div] at z2
    omega
  · have e : K A * (1000000 : Int64) / K B = K (A * 1000000 / (B.toNat : Int)) := by
      rw [Int.toNat_of_nonneg (by omega)]
      simp (disch := omega) only [J_lit, J_add, J_sub, J_mul, J_neg, J_lt, J_le, J_eq, J_nat, J_in, J_div, K_lit, K_add, K_sub, K_mul, K_neg, K_lt, K_le, K_eq, J_i2l, K_l2i, K_div]
      congr 1
      exact Int.tdiv_eq_ediv_of_nonneg (by omega)
    rw [e, K_l2i]
    exact hh
theorem c_mChance {M : Mm} {T r0 r1 : Nat → Int} {X Y : Pd} {t L : Int} {p0 j0 p1 j1 : Nat} {Q : Int32 → Mm → Prop} (hD : Du M T r0 r1) (hs : sOk 3 3 t (10 + L)) (y0 : ∀ s, s < 3 → gI M 77 s = J (r0 s)) (y1 : ∀ s, s < 3 → gI M 77 (3 + s) = J (r1 s)) (hp0 : Pm M p0 X.1 X.2.1 j0 X.2.2) (hp1 : Pm M p1 Y.1 Y.2.1 j1 Y.2.2) (h : ∀ M', Fl [62, 72, 73, 78] M M' → (∀ k, k < 23 ∨ 30 ≤ k → gI M' 62 k = gI M 62 k) → Q (J (chF T r0 r1 X Y t (10 + L))) M') : AMi D (d + 5) mX12_chanceNow [.ref 62, .int (J p0), .int (J p1), .int (J t), .int (J L)] M Q := by
  have hX : pOk X := ⟨hp0.2.1, hp0.2.2.1, hp0.2.2.2.2.2.2.2.1, hp0.2.2.2.2.2.2.2.2.1⟩
  have hY : pOk Y := ⟨hp1.2.1, hp1.2.2.1, hp1.2.2.2.2.2.2.2.1, hp1.2.2.2.2.2.2.2.2.1⟩
  obtain ⟨bo, -⟩ := chF_o (t := t) (q := 10 + L) hD.2.1 hD.2.2.2.2.1 hD.2.2.2.2.2.1 hX hY
  have e3 : (3 : Int32) = J 3 := rfl
  have e10 : (10 : Int32) + J L = J (10 + L) := by simp (disch := omega) only [J_lit, J_add, J_sub, J_mul, J_neg, J_lt, J_le, J_eq, J_nat, J_in, J_div]
  refine rX12_chanceNow D (d + 4) _ _ _ _ M _ (hD.1.sub (by omega) (by omega)) ?_
  rw [e3, e10]
  refine c_layState (hD.1.sub (by omega) (by omega)) (fun M2 F2 s1 s2 s3 s4 z2 => ?_)
  have hD2 := hD.fm F2 (by decide) (by decide) (by decide) (by decide)
  refine c_findOdds (d := d) (n := 0) hD2 hs (by omega) ⟨s1, s2, s3, s4⟩ (fun s hs => by rw [F2.2.2.2 77 (by decide)]; exact y0 s hs) (fun s hs => by rw [F2.2.2.2 77 (by decide)]; exact y1 s hs) (hp0.fm (fun x hx => F2.2.2.2 x (by (simp only [List.contains_cons, List.contains_nil, Bool.or_false, Bool.or_eq_false_iff, beq_eq_false_iff_ne, ne_eq]; omega)))) (hp1.fm (fun x hx => F2.2.2.2 x (by (simp only [List.contains_cons, List.contains_nil, Bool.or_false, Bool.or_eq_false_iff, beq_eq_false_iff_ne, ne_eq]; omega)))) (fun M3 F3 l0 l1 => ?_)
  have FF : Fl [62, 72, 73, 78] M M3 := (F2.l.sub (by decide)).trans (F3.sub (by decide))
  have hh := h M3 FF (fun k hk => by rw [F3.2.2.2 62 (by decide), z2 k (by omega)])
  unfold chF at hh
  generalize odA T 0 3 3 t (10 + L) X.1 X.2.1 X.2.2 r0 Y.1 Y.2.1 Y.2.2 r1 = A at *
  generalize odB T 3 3 t (10 + L) X.1 X.2.1 X.2.2 r0 Y.1 Y.2.1 Y.2.2 r1 = B at *
  have ld := lo_div bo.1 (b := B) (by omega) 1000000
  have gg := gcd_b (p := A.natAbs) (q := B) (by omega)
  have lb : 0 ≤ loA A B ∧ loA A B ≤ A ∧ 0 < loB A B ∧ loB A B ≤ B := by
    obtain ⟨n, rfl⟩ : ∃ n : Nat, A = n := ⟨A.toNat, by omega⟩
    unfold loA loB
    rw [Int.natAbs_natCast] at gg ⊢
    show 0 ≤ ((n / Nat.gcd n B : Nat) : Int) ∧ ((n / Nat.gcd n B : Nat) : Int) ≤ n ∧ 0 < ((B / Nat.gcd n B : Nat) : Int) ∧ ((B / Nat.gcd n B : Nat) : Int) ≤ B
    have k1 := Nat.div_le_self n (Nat.gcd n B)
    have k2 := Nat.div_le_self B (Nat.gcd n B)
    have k3 : 1 ≤ B / Nat.gcd n B := (Nat.one_le_div_iff (by omega)).mpr gg.2
    generalize n / Nat.gcd n B = x at *
    generalize B / Nat.gcd n B = y at *
    omega
  rw [l0, l1]
  refine ⟨fun z => ?_, _, rfl, FF.1, ?_⟩
  · simp (disch := omega) only [J_lit, J_add, J_sub, J_mul, J_neg, J_lt, J_le, J_eq, J_nat, J_in, J_div, K_lit, K_add, K_sub, K_mul, K_neg, K_lt, K_le, K_eq, J_i2l, K_l2i, K_div] at z
    omega
  · have e : K (loA A B) * (1000000 : Int64) / K (loB A B) = K (A * 1000000 / (B : Int)) := by
      simp (disch := omega) only [J_lit, J_add, J_sub, J_mul, J_neg, J_lt, J_le, J_eq, J_nat, J_in, J_div, K_lit, K_add, K_sub, K_mul, K_neg, K_lt, K_le, K_eq, J_i2l, K_l2i, K_div]
      congr 1
    rw [e, K_l2i]
    exact hh
end
