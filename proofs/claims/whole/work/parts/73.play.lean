/-! SHOOT-OUTS: the class -/
def ix (p k : Nat) (L : Int) : Nat := (p * 5 + k) * 11 + (L + 5).toNat
def soR : List Nat := [13, 20, 21, 23, 24, 32, 33, 35, 36, 37, 38, 39, 40, 41, 42, 43, 44]
def Tc (M : Mm) (X : Nat → Pd) : Prop := ∀ i, i < 12 → ∃ q j, gP M 30 i = some q ∧ Pq M q (X i).1 (X i).2.1 j (X i).2.2
theorem Tc.fl {M M' : Mm} {X : Nat → Pd} (h : Tc M X) (F : Fl soR M M') : Tc M' X := fun i hi => by
  obtain ⟨q, j, h1, h2⟩ := h i hi
  exact ⟨q, j, by rw [F.2.1]; exact h1, h2.fl F (by decide)⟩
theorem Pq.ok {M : Mm} {q j : Nat} {X : Pd} (h : Pq M q X.1 X.2.1 j X.2.2) : pOk X := ⟨h.2.1, h.2.2.1, h.2.2.2.2.2.2.1, h.2.2.2.2.2.2.2.1⟩
section
variable {D : GD} {d : Nat}
theorem c_chIx {M : Mm} {p k : Nat} {L : Int} {P : Int32 → Mm → Prop} (hL : Lay 29 46 M) (hp : p < 5) (hk : k < 5) (h1 : -5 ≤ L) (h2 : L ≤ 5) (h : P (J ((ix p k L : Nat) : Int)) M) : AMi D d mX7_chanceIndex [.int (J p), .int (J k), .int (J L)] M P := by
  refine rX7_chanceIndex D d _ _ _ M _ hL ⟨_, rfl, .refl M, ?_⟩
  have e : ((J (p : Int) * (5 : Int32) + J k) * (11 : Int32) + J L) + (5 : Int32) = J ((ix p k L : Nat) : Int) := by
    unfold ix
    simp (disch := omega) only [J_lit, J_add, J_sub, J_mul, J_neg, J_lt, J_le, J_eq, J_nat, J_in, J_div]
    congr 1
    omega
  rw [e]
  exact h
theorem l_fillCh {T r0 r1 : Nat → Int} {X Y : Pd} {s p k q0 j0 q1 j1 : Nat} {post : Option Value → Mm → Prop} (hs : s < 2) (hp : p < 5) (hk : k < 5) : ∀ (m : Nat) (L : Int) (M : Mm), L + m = k + 1 → -(k : Int) - s ≤ L → Du M T r0 r1 → Pq M q0 X.1 X.2.1 j0 X.2.2 → Pq M q1 Y.1 Y.2.1 j1 Y.2.2 → (∀ M', Fl [13, 20, 21, 23, 24, 32 + s] M M' → (∀ L', L ≤ L' → L' ≤ k → gI M' (32 + s) (ix p k L') = J (chF T r0 r1 X Y (2 * (k : Int) + s) (10 + L'))) → (∀ x, (∀ L', L ≤ L' → L' ≤ k → x ≠ ix p k L') → gI M' (32 + s) x = gI M (32 + s) x) → post none M') → LX7_fillChances_47 D (d + 4) (J s) (J p) (J k) q0 q1 (J L) M post := by
  intro m
  induction m with
  | zero =>
    intro L M hm hl hD P0 P1 h
    refine rX7_fillChances_47 D (d + 4) _ _ _ _ _ _ M post (hD.1.sub (by omega) (by omega)) ⟨fun _ => h M (Fl.refl _ M) (fun L' a b => by omega) (fun _ _ => rfl), fun c => ?_⟩
    exfalso
    simp (disch := omega) only [J_lit, J_add, J_sub, J_mul, J_neg, J_lt, J_le, J_eq, J_nat, J_in, J_div] at c
    omega
  | succ m ih =>
    intro L M hm hl hD P0 P1 h
    have es : (J (s : Int)).toNatClampNeg = s := by simp (disch := omega) only [J_lit, J_add, J_sub, J_mul, J_neg, J_lt, J_le, J_eq, J_nat, J_in, J_div]; omega
    have e1 : ((2 : Int32) * J k + J s) = J (2 * (k : Int) + s) := by simp (disch := omega) only [J_lit, J_add, J_sub, J_mul, J_neg, J_lt, J_le, J_eq, J_nat, J_in, J_div]
    have e2 : ((10 : Int32) + J L) = J (10 + L) := by simp (disch := omega) only [J_lit, J_add, J_sub, J_mul, J_neg, J_lt, J_le, J_eq, J_nat, J_in, J_div]
    have ei : (J ((ix p k L : Nat) : Int)).toNatClampNeg = ix p k L := by unfold ix; simp (disch := omega) only [J_lit, J_add, J_sub, J_mul, J_neg, J_lt, J_le, J_eq, J_nat, J_in, J_div]; omega
    have hst : sOk 3 3 (2 * (k : Int) + s) (10 + L) := by unfold sOk; omega
    have hrows : okRows [13, 20, 21, 23, 24, 32 + s] = true := by rcases (by omega : s = 0 ∨ s = 1) with rfl | rfl <;> decide
    refine rX7_fillChances_47 D (d + 4) _ _ _ _ _ _ M post (hD.1.sub (by omega) (by omega)) ⟨fun c => ?_, fun _ => ?_⟩
    · exfalso
      simp (disch := omega) only [J_lit, J_add, J_sub, J_mul, J_neg, J_lt, J_le, J_eq, J_nat, J_in, J_div] at c
      omega
    · rw [e1, e2, es]
      have e3 : (3 : Int32) = J 3 := rfl
      rw [e3]
      refine c_cMeet (d := d) hD hst P0 P1 (fun N FN w0 w1 pr _ _ => ⟨by simp (disch := omega) only [J_lit, J_add, J_sub, J_mul, J_neg, J_lt, J_le, J_eq, J_nat, J_in, J_div]; omega, ?_⟩)
      have hDN := hD.fm FN (by decide) (by decide) (by decide) (by decide)
      refine c_chIx (hDN.1.sub (by omega) (by omega)) hp hk (by omega) (by omega) ?_
      refine c_mill (X := X) (Y := Y) (t := 2 * (k : Int) + s) (q := 10 + L) hDN P0.ok P1.ok ⟨w0, w1, pr⟩ (fun N2 F2 => ?_)
      rw [ei]
      refine ⟨by unfold ix; simp (disch := omega) only [J_lit, J_add, J_sub, J_mul, J_neg, J_lt, J_le, J_eq, J_nat, J_in, J_div]; omega, fun M28 e28 x32 e32 => ?_⟩
      have e32' : x32 = J (L + 1) := by rw [e32]; simp (disch := omega) only [J_lit, J_add, J_sub, J_mul, J_neg, J_lt, J_le, J_eq, J_nat, J_in, J_div]
      rw [e32']
      have F28 : Fl [13, 20, 21, 23, 24, 32 + s] M M28 := by
        rw [e28]
        exact ((FN.l.sub (by simp)).trans (F2.sub (by simp))).si (by simp)
      have hD28 := hD.fl F28 (by (simp only [List.contains_cons, List.contains_nil, Bool.or_false, Bool.or_eq_false_iff, beq_eq_false_iff_ne, ne_eq]; omega)) (by (simp only [List.contains_cons, List.contains_nil, Bool.or_false, Bool.or_eq_false_iff, beq_eq_false_iff_ne, ne_eq]; omega)) (by (simp only [List.contains_cons, List.contains_nil, Bool.or_false, Bool.or_eq_false_iff, beq_eq_false_iff_ne, ne_eq]; omega)) (by (simp only [List.contains_cons, List.contains_nil, Bool.or_false, Bool.or_eq_false_iff, beq_eq_false_iff_ne, ne_eq]; omega))
      have g0 : ∀ x, x ≠ ix p k L → gI M28 (32 + s) x = gI M (32 + s) x := fun x hx => by
        rw [e28, gI_sI, if_neg (fun z => hx z.2), F2.2.2.2 (32 + s) (by simp), FN.2.2.2 (32 + s) (by (simp only [List.contains_cons, List.contains_nil, Bool.or_false, Bool.or_eq_false_iff, beq_eq_false_iff_ne, ne_eq]; omega))]
      refine ih (L + 1) M28 (by omega) (by omega) hD28 (P0.fl F28 hrows) (P1.fl F28 hrows) (fun M' F' a' b' => h M' (F28.trans F') (fun L' u v => ?_) (fun x hx => ?_))
      · by_cases e : L' = L
        · subst e
          rw [b' _ (fun L2 u2 v2 => by unfold ix; omega), e28, gI_sI, if_pos ⟨rfl, rfl⟩]
        · exact a' L' (by omega) v
      · rw [b' x (fun L2 u2 v2 => hx L2 (by omega) v2), g0 x (hx L (by omega) (by omega))]
theorem c_fillCh {M : Mm} {T r0 r1 : Nat → Int} {X : Nat → Pd} {s f p k : Nat} {P : Mm → Prop} (hD : Du M T r0 r1) (hX : Tc M X) (hs : s < 2) (hf : f < 2) (hp : p < 5) (hk : k < 5) (h : ∀ M', Fl [13, 20, 21, 23, 24, 32 + s] M M' → (∀ L' : Int, -(k : Int) - s ≤ L' → L' ≤ k → gI M' (32 + s) (ix p k L') = J (chF T r0 r1 (X (6 * f + p)) (X (6 * (1 - f) + 5)) (2 * (k : Int) + s) (10 + L'))) → (∀ x, (x < (p * 5 + k) * 11 ∨ (p * 5 + k) * 11 + 11 ≤ x) → gI M' (32 + s) x = gI M (32 + s) x) → P M') : AMv D (d + 5) mX7_fillChances [.ref 29, .ref 13, .int (J s), .int (J f), .int (J p), .int (J k)] M P := by
  have e1 : (J (f : Int) * (6 : Int32) + J p).toNatClampNeg = 6 * f + p := by simp (disch := omega) only [J_lit, J_add, J_sub, J_mul, J_neg, J_lt, J_le, J_eq, J_nat, J_in, J_div]; omega
  have e2 : (((1 : Int32) - J f) * (6 : Int32) + (5 : Int32)).toNatClampNeg = 6 * (1 - f) + 5 := by simp (disch := omega) only [J_lit, J_add, J_sub, J_mul, J_neg, J_lt, J_le, J_eq, J_nat, J_in, J_div]; omega
  obtain ⟨q0, j0, a1, a2⟩ := hX (6 * f + p) (by omega)
  obtain ⟨q1, j1, b1, b2⟩ := hX (6 * (1 - f) + 5) (by omega)
  refine rX7_fillChances D (d + 4) _ _ _ _ M _ (hD.1.sub (by omega) (by omega)) ?_
  rw [e1, e2, a1, b1]
  refine ⟨by simp (disch := omega) only [J_lit, J_add, J_sub, J_mul, J_neg, J_lt, J_le, J_eq, J_nat, J_in, J_div]; omega, by simp (disch := omega) only [J_lit, J_add, J_sub, J_mul, J_neg, J_lt, J_le, J_eq, J_nat, J_in, J_div]; omega, fun z => (by cases z), fun p4 z4 => ⟨fun p6 z6 x7 e7 => ?_, fun z => (by cases z)⟩⟩
  cases z4
  cases z6
  have e7' : x7 = J (-(k : Int) - s) := by rw [e7]; simp (disch := omega) only [J_lit, J_add, J_sub, J_mul, J_neg, J_lt, J_le, J_eq, J_nat, J_in, J_div]
  rw [e7']
  refine l_fillCh (d := d) (X := X (6 * f + p)) (Y := X (6 * (1 - f) + 5)) hs hp hk (2 * k + s + 1) _ M (by omega) (by omega) hD a2 b2 (fun M' F' a' b' => ⟨rfl, F'.1, h M' F' a' (fun x hx => b' x (fun L' u v => ?_))⟩)
  unfold ix
  omega
/-- a step back -/
def stp (t : Nat) (C : Int → Int) (w : Nat → Nat → Int) (a b : Nat) : Int := if t % 2 = 0 then (C ((a : Int) - b) * w (a + 1) b + (1000000 - C ((a : Int) - b)) * w a b) / 1000000 else (C ((b : Int) - a) * w a (b + 1) + (1000000 - C ((b : Int) - a)) * w a b) / 1000000
theorem mixb {c x y : Int} (hc : 0 ≤ c ∧ c ≤ 1000000) (hx : 0 ≤ x ∧ x ≤ 1000000) (hy : 0 ≤ y ∧ y ≤ 1000000) : (0 ≤ c * x + (1000000 - c) * y ∧ c * x + (1000000 - c) * y ≤ 1000000000000) ∧ 0 ≤ (c * x + (1000000 - c) * y) / 1000000 ∧ (c * x + (1000000 - c) * y) / 1000000 ≤ 1000000 := by
  have p1 := mulb hc.1 hx.1 (Int.le_refl c) hx.2
  have p2 := mulb (by omega : (0 : Int) ≤ 1000000 - c) hy.1 (Int.le_refl _) hy.2
  omega
theorem stp_b {t : Nat} {C : Int → Int} {w : Nat → Nat → Int} {a b : Nat} (hC : ∀ L, 0 ≤ C L ∧ C L ≤ 1000000) (hw : ∀ a b, 0 ≤ w a b ∧ w a b ≤ 1000000) : 0 ≤ stp t C w a b ∧ stp t C w a b ≤ 1000000 := by
  unfold stp
  split
  · exact (mixb (hC _) (hw _ _) (hw _ _)).2
  · exact (mixb (hC _) (hw _ _) (hw _ _)).2
theorem K_mix {c x y : Int} (hc : 0 ≤ c ∧ c ≤ 1000000) (hx : 0 ≤ x ∧ x ≤ 1000000) (hy : 0 ≤ y ∧ y ≤ 1000000) : (((K c * K x) + (((1000000 : Int64) - K c) * K y)) / (1000000 : Int64)).toInt32 = J ((c * x + (1000000 - c) * y) / 1000000) := by
  have b := (mixb hc hx hy).1
  have e : (K c * K x) + (((1000000 : Int64) - K c) * K y) = K (c * x + (1000000 - c) * y) := by
    simp (disch := omega) only [J_lit, J_add, J_sub, J_mul, J_neg, J_lt, J_le, J_eq, J_nat, J_in, J_div, K_lit, K_add, K_sub, K_mul, K_neg, K_lt, K_le, K_eq, J_i2l, K_l2i, K_div]
  rw [e]
  generalize c * x + (1000000 - c) * y = z at *
  have e2 : K z / (1000000 : Int64) = K (z / 1000000) := by
    simp (disch := omega) only [J_lit, J_add, J_sub, J_mul, J_neg, J_lt, J_le, J_eq, J_nat, J_in, J_div, K_lit, K_add, K_sub, K_mul, K_neg, K_lt, K_le, K_eq, J_i2l, K_l2i, K_div]
    congr 1
    exact Int.tdiv_eq_ediv_of_nonneg b.1
  rw [e2, K_l2i]
theorem c_scIx {M : Mm} {a b : Nat} {P : Int32 → Mm → Prop} (hL : Lay 29 46 M) (ha : a ≤ 10) (hb : b ≤ 10) (h : P (J ((6 * a + b : Nat) : Int)) M) : AMi D d mX7_scoreIndex [.int (J a), .int (J b)] M P := by
  refine rX7_scoreIndex D d _ _ M _ hL ⟨_, rfl, .refl M, ?_⟩
  have e : J (a : Int) * (6 : Int32) + J b = J ((6 * a + b : Nat) : Int) := by simp (disch := omega) only [J_lit, J_add, J_sub, J_mul, J_neg, J_lt, J_le, J_eq, J_nat, J_in, J_div]; congr 1; omega
  rw [e]
  exact h
theorem c_stepBack {M : Mm} {t p : Nat} {C : Int → Int} {w : Nat → Nat → Int} {P : Mm → Prop} (hL : Lay 29 46 M) (ht : t < 10) (hp : p < 5) (hC : ∀ L, 0 ≤ C L ∧ C L ≤ 1000000) (hw : ∀ a b, 0 ≤ w a b ∧ w a b ≤ 1000000) (gC : ∀ L : Int, -((t / 2 : Nat) : Int) - ((t % 2 : Nat) : Int) ≤ L → L ≤ ((t / 2 : Nat) : Int) → gI M (32 + t % 2) (ix p (t / 2) L) = J (C L)) (gW : ∀ a b, a ≤ (t + 2) / 2 → b ≤ (t + 1) / 2 → gI M (35 + (t + 1)) (6 * a + b) = J (w a b)) (h : ∀ M', Fm [35 + t] M M' → (∀ a b, a ≤ (t + 1) / 2 → b ≤ t / 2 → gI M' (35 + t) (6 * a + b) = J (stp t C w a b)) → P M') : AMv D (d + 1) mX7_stepBack [.ref 29, .int (J t), .int (J p)] M P := by
  have et : (J (t : Int)).toNatClampNeg = t := by simp (disch := omega) only [J_lit, J_add, J_sub, J_mul, J_neg, J_lt, J_le, J_eq, J_nat, J_in, J_div]; omega
  have e1 : ((J (t : Int)) + (1 : Int32)).toNatClampNeg = t + 1 := by rw [J_suc]; simp (disch := omega) only [J_lit, J_add, J_sub, J_mul, J_neg, J_lt, J_le, J_eq, J_nat, J_in, J_div]; omega
  have sW : Sh M (35 + (t + 1)) (1, 36) := (row_34 hL (by omega) (by omega) (j := t + 1) (by omega)).2
  have em : (J ((t % 2 : Nat) : Int)).toNatClampNeg = t % 2 := by simp (disch := omega) only [J_lit, J_add, J_sub, J_mul, J_neg, J_lt, J_le, J_eq, J_nat, J_in, J_div]; omega
  -- one score
  have one : ∀ (a b : Nat) (N : Mm) (post : Option Value → Mm → Prop), a ≤ (t + 1) / 2 → b ≤ t / 2 → Fm [35 + t] M N → LX7_stepBack_34 D d (J t) (J p) (J ((t / 2 : Nat) : Int)) (J ((t % 2 : Nat) : Int)) (35 + (t + 1)) (J a) (J ((b + 1 : Nat) : Int)) (sI N (35 + t) (6 * a + b) (J (stp t C w a b))) post → LX7_stepBack_34 D d (J t) (J p) (J ((t / 2 : Nat) : Int)) (J ((t % 2 : Nat) : Int)) (35 + (t + 1)) (J a) (J b) N post := by
    intro a b N post ha hb FN hk
    have hLN := hL.of FN.1
    have gC' : ∀ L : Int, -((t / 2 : Nat) : Int) - ((t % 2 : Nat) : Int) ≤ L → L ≤ ((t / 2 : Nat) : Int) → gI N (32 + t % 2) (ix p (t / 2) L) = J (C L) := fun L u v => by rw [FN.2.2.2 (32 + t % 2) (by (simp only [List.contains_cons, List.contains_nil, Bool.or_false, Bool.or_eq_false_iff, beq_eq_false_iff_ne, ne_eq]; omega))]; exact gC L u v
    have gW' : ∀ a b, a ≤ (t + 2) / 2 → b ≤ (t + 1) / 2 → gI N (35 + (t + 1)) (6 * a + b) = J (w a b) := fun a b u v => by rw [FN.2.2.2 (35 + (t + 1)) (by (simp only [List.contains_cons, List.contains_nil, Bool.or_false, Bool.or_eq_false_iff, beq_eq_false_iff_ne, ne_eq]; omega))]; exact gW a b u v
    have ix5 : ∀ L : Int, (J ((ix p (t / 2) L : Nat) : Int)).toNatClampNeg = ix p (t / 2) L ∨ ¬ (-5 ≤ L ∧ L ≤ 5) := fun L => by
      by_cases q : -5 ≤ L ∧ L ≤ 5
      · left
        unfold ix
        simp (disch := omega) only [J_lit, J_add, J_sub, J_mul, J_neg, J_lt, J_le, J_eq, J_nat, J_in, J_div]
        omega
      · exact Or.inr q
    have i2l : ∀ z : Int, 0 ≤ z ∧ z ≤ 1000000 → (J z).toInt64 = K z := fun z hz => J_i2l (by omega) (by omega)
    have e6 : ∀ a b : Nat, a ≤ 10 → b ≤ 10 → (J ((6 * a + b : Nat) : Int)).toNatClampNeg = 6 * a + b := fun a b h1 h2 => by simp (disch := omega) only [J_lit, J_add, J_sub, J_mul, J_neg, J_lt, J_le, J_eq, J_nat, J_in, J_div]; omega
    refine rX7_stepBack_34 D d _ _ _ _ _ _ _ N post hLN (sW.of FN.1) ?_
    rw [em, et]
    refine ⟨fun c => ?_, fun _ => ⟨fun c x4 e4 => ⟨by simp (disch := omega) only [J_lit, J_add, J_sub, J_mul, J_neg, J_lt, J_le, J_eq, J_nat, J_in, J_div]; omega, ?_⟩, fun c x4 e4 => ⟨by simp (disch := omega) only [J_lit, J_add, J_sub, J_mul, J_neg, J_lt, J_le, J_eq, J_nat, J_in, J_div]; omega, ?_⟩⟩⟩
    · exfalso
      simp (disch := omega) only [J_lit, J_add, J_sub, J_mul, J_neg, J_lt, J_le, J_eq, J_nat, J_in, J_div] at c
      omega
    · -- the second's kick
      have c0 := c
      simp (disch := omega) only [J_lit, J_add, J_sub, J_mul, J_neg, J_lt, J_le, J_eq, J_nat, J_in, J_div] at c
      have hm : t % 2 = 1 := by omega
      have e4' : x4 = J ((b : Int) - a) := by rw [e4]; simp (disch := omega) only [J_lit, J_add, J_sub, J_mul, J_neg, J_lt, J_le, J_eq, J_nat, J_in, J_div]
      rw [e4']
      refine c_chIx hLN hp (by omega) (by omega) (by omega) ⟨by unfold ix; simp (disch := omega) only [J_lit, J_add, J_sub, J_mul, J_neg, J_lt, J_le, J_eq, J_nat, J_in, J_div]; omega, ?_⟩
      have eI : (J ((ix p (t / 2) ((b : Int) - a) : Nat) : Int)).toNatClampNeg = ix p (t / 2) ((b : Int) - a) := (ix5 _).resolve_right (fun z => z (by omega))
      rw [eI, gC' _ (by omega) (by omega)]
      intro x13 e13
      rw [i2l _ (hC _)] at e13
      rw [J_suc]
      refine ⟨fun _ => ?_, fun z => absurd z c0⟩
      refine c_scIx hLN (by omega) (by omega) ⟨by simp (disch := omega) only [J_lit, J_add, J_sub, J_mul, J_neg, J_lt, J_le, J_eq, J_nat, J_in, J_div]; omega, ?_⟩
      rw [e6 a (b + 1) (by omega) (by omega), gW' a (b + 1) (by omega) (by omega)]
      intro x22 e22
      rw [i2l _ (hw _ _)] at e22
      refine c_scIx hLN (by omega) (by omega) ⟨by simp (disch := omega) only [J_lit, J_add, J_sub, J_mul, J_neg, J_lt, J_le, J_eq, J_nat, J_in, J_div]; omega, ?_⟩
      rw [e6 a b (by omega) (by omega), gW' a b (by omega) (by omega)]
      intro x30 e30
      rw [i2l _ (hw _ _)] at e30
      refine ⟨by simp (disch := omega) only [J_lit, J_add, J_sub, J_mul, J_neg, J_lt, J_le, J_eq, J_nat, J_in, J_div]; omega, c_scIx hLN (by omega) (by omega) ⟨by simp (disch := omega) only [J_lit, J_add, J_sub, J_mul, J_neg, J_lt, J_le, J_eq, J_nat, J_in, J_div]; omega, fun M39 e39 x43 e43 => ?_⟩⟩
      rw [e6 a b (by omega) (by omega), e13, e22, e30, K_mix (hC _) (hw _ _) (hw _ _)] at e39
      rw [e43, e39]
      unfold stp at hk
      rw [if_neg (by omega)] at hk
      exact hk
    · -- the first's kick
      have c0 := c
      simp (disch := omega) only [J_lit, J_add, J_sub, J_mul, J_neg, J_lt, J_le, J_eq, J_nat, J_in, J_div] at c
      have hm : t % 2 = 0 := by omega
      have e4' : x4 = J ((a : Int) - b) := by rw [e4]; simp (disch := omega) only [J_lit, J_add, J_sub, J_mul, J_neg, J_lt, J_le, J_eq, J_nat, J_in, J_div]
      rw [e4']
      refine c_chIx hLN hp (by omega) (by omega) (by omega) ⟨by unfold ix; simp (disch := omega) only [J_lit, J_add, J_sub, J_mul, J_neg, J_lt, J_le, J_eq, J_nat, J_in, J_div]; omega, ?_⟩
      have eI : (J ((ix p (t / 2) ((a : Int) - b) : Nat) : Int)).toNatClampNeg = ix p (t / 2) ((a : Int) - b) := (ix5 _).resolve_right (fun z => z (by omega))
      rw [eI, gC' _ (by omega) (by omega)]
      intro x13 e13
      rw [i2l _ (hC _)] at e13
      rw [J_suc, J_suc]
      refine ⟨fun z => absurd c0 z, fun _ => ?_⟩
      refine c_scIx hLN (by omega) (by omega) ⟨by simp (disch := omega) only [J_lit, J_add, J_sub, J_mul, J_neg, J_lt, J_le, J_eq, J_nat, J_in, J_div]; omega, ?_⟩
      rw [e6 (a + 1) b (by omega) (by omega), gW' (a + 1) b (by omega) (by omega)]
      intro x22 e22
      rw [i2l _ (hw _ _)] at e22
      refine c_scIx hLN (by omega) (by omega) ⟨by simp (disch := omega) only [J_lit, J_add, J_sub, J_mul, J_neg, J_lt, J_le, J_eq, J_nat, J_in, J_div]; omega, ?_⟩
      rw [e6 a b (by omega) (by omega), gW' a b (by omega) (by omega)]
      intro x30 e30
      rw [i2l _ (hw _ _)] at e30
      refine ⟨by simp (disch := omega) only [J_lit, J_add, J_sub, J_mul, J_neg, J_lt, J_le, J_eq, J_nat, J_in, J_div]; omega, c_scIx hLN (by omega) (by omega) ⟨by simp (disch := omega) only [J_lit, J_add, J_sub, J_mul, J_neg, J_lt, J_le, J_eq, J_nat, J_in, J_div]; omega, fun M39 e39 x43 e43 => ?_⟩⟩
      rw [e6 a b (by omega) (by omega), e13, e22, e30, K_mix (hC _) (hw _ _) (hw _ _)] at e39
      rw [e43, e39]
      unfold stp at hk
      rw [if_pos (by omega)] at hk
      exact hk
  -- a row of scores
  have row : ∀ (m a b : Nat) (N : Mm) (post : Option Value → Mm → Prop), b + m = t / 2 + 1 → a ≤ (t + 1) / 2 → Fm [35 + t] M N → (∀ N', Fm [35 + t] M N' → (∀ b', b ≤ b' → b' ≤ t / 2 → gI N' (35 + t) (6 * a + b') = J (stp t C w a b')) → (∀ x, ¬ (6 * a + b ≤ x ∧ x < 6 * a + 6) → gI N' (35 + t) x = gI N (35 + t) x) → LX7_stepBack_22 D d (J t) (J p) (J ((t / 2 : Nat) : Int)) (J ((t % 2 : Nat) : Int)) (35 + (t + 1)) (J ((a + 1 : Nat) : Int)) N' post) → LX7_stepBack_34 D d (J t) (J p) (J ((t / 2 : Nat) : Int)) (J ((t % 2 : Nat) : Int)) (35 + (t + 1)) (J a) (J b) N post := by
    intro m
    induction m with
    | zero =>
      intro a b N post hm ha FN hk
      refine rX7_stepBack_34 D d _ _ _ _ _ _ _ N post (hL.of FN.1) (sW.of FN.1) ⟨fun _ x2 e2 => ?_, fun c => ?_⟩
      · rw [e2, J_suc]
        exact hk N FN (fun b' u v => by omega) (fun _ _ => rfl)
      · exfalso
        simp (disch := omega) only [J_lit, J_add, J_sub, J_mul, J_neg, J_lt, J_le, J_eq, J_nat, J_in, J_div] at c
        omega
    | succ m ih =>
      intro a b N post hm ha FN hk
      refine one a b N post ha (by omega) FN ?_
      obtain ⟨N1, n1⟩ : ∃ N1, N1 = sI N (35 + t) (6 * a + b) (J (stp t C w a b)) := ⟨_, rfl⟩
      rw [← n1]
      have F1 : Fm [35 + t] M N1 := by rw [n1]; exact FN.si (by simp)
      refine ih a (b + 1) N1 post (by omega) ha F1 (fun N' F' g' u' => hk N' F' (fun b' u v => ?_) (fun x hx => ?_))
      · by_cases e : b' = b
        · subst e
          rw [u' _ (by omega), n1, gI_sI, if_pos ⟨rfl, rfl⟩]
        · exact g' b' (by omega) v
      · rw [u' x (by omega), n1, gI_sI, if_neg (by omega)]
  have all : ∀ (m a : Nat) (N : Mm), a + m = (t + 1) / 2 + 1 → Fm [35 + t] M N → (∀ a' b', a' < a → b' ≤ t / 2 → gI N (35 + t) (6 * a' + b') = J (stp t C w a' b')) → LX7_stepBack_22 D d (J t) (J p) (J ((t / 2 : Nat) : Int)) (J ((t % 2 : Nat) : Int)) (35 + (t + 1)) (J a) N (fun r M1 => r = none ∧ Sm M M1 ∧ P M1) := by
    intro m
    induction m with
    | zero =>
      intro a N hm FN gN
      refine rX7_stepBack_22 D d _ _ _ _ _ _ N _ (hL.of FN.1) (sW.of FN.1) ⟨fun _ => ⟨rfl, FN.1, h N FN (fun a' b' u v => gN a' b' (by omega) v)⟩, fun c => ?_⟩
      exfalso
      simp (disch := omega) only [J_lit, J_add, J_sub, J_mul, J_neg, J_lt, J_le, J_eq, J_nat, J_in, J_div] at c
      omega
    | succ m ih =>
      intro a N hm FN gN
      refine rX7_stepBack_22 D d _ _ _ _ _ _ N _ (hL.of FN.1) (sW.of FN.1) ⟨fun c => ?_, fun _ => ?_⟩
      · exfalso
        simp (disch := omega) only [J_lit, J_add, J_sub, J_mul, J_neg, J_lt, J_le, J_eq, J_nat, J_in, J_div] at c
        omega
      · refine row (t / 2 + 1) a 0 N _ (by omega) (by omega) FN (fun N' F' g' u' => ih (a + 1) N' (by omega) F' (fun a' b' u v => ?_))
        by_cases e : a' = a
        · subst e
          exact g' b' (by omega) v
        · rw [u' _ (by omega)]
          exact gN a' b' (by omega) v
  refine rX7_stepBack D d _ _ M _ hL (fun x1 q1 x2 q2 => ?_)
  rw [J_half (by omega)] at q1
  rw [J_par (by omega)] at q2
  rw [q1, q2, e1]
  exact ⟨by simp (disch := omega) only [J_lit, J_add, J_sub, J_mul, J_neg, J_lt, J_le, J_eq, J_nat, J_in, J_div]; omega, all ((t + 1) / 2 + 1) 0 M (by omega) (Fm.refl _ M) (fun a' _ u _ => by omega)⟩
end
