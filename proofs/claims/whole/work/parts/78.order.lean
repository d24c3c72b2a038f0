/-! order: the class -/
def Pm5 (o : Nat → Nat) : Prop := (∀ k, k < 5 → o k < 5) ∧ ∀ i j, i < 5 → j < 5 → o i = o j → i = j
def tn (k : Nat) : Nat := [10000, 1000, 100, 10, 1].getD k 0
def rowN (o : Nat → Nat) : Nat := 10000 * o 0 + 1000 * o 1 + 100 * o 2 + 10 * o 3 + o 4
/-- the row told so far: from the place n on -/
def rwo (n : Nat) (s : Nat → Nat) : Nat := (if n ≤ 0 then 10000 * s 0 else 0) + (if n ≤ 1 then 1000 * s 1 else 0) + (if n ≤ 2 then 100 * s 2 else 0) + (if n ≤ 3 then 10 * s 3 else 0) + (if n ≤ 4 then s 4 else 0)
theorem rwo_up {n p : Nat} {s : Nat → Nat} (hn : n < 5) : rwo n (va_up s n p) = rwo (n + 1) s + p * tn n := by
  rcases (by omega : n = 0 ∨ n = 1 ∨ n = 2 ∨ n = 3 ∨ n = 4) with rfl | rfl | rfl | rfl | rfl <;> simp [rwo, va_up, tn] <;> omega
theorem rwo_b {n : Nat} {s : Nat → Nat} (hs : ∀ k, n ≤ k → k < 5 → s k < 5) : rwo n s ≤ 44444 := by
  have q : ∀ k m, k < 5 → (if n ≤ k then m * s k else 0) ≤ m * 4 := by
    intro k m hk
    split
    · exact Nat.mul_le_mul_left m (by have := hs k (by assumption) hk; omega)
    · omega
  have q0 := q 0 10000 (by omega)
  have q1 := q 1 1000 (by omega)
  have q2 := q 2 100 (by omega)
  have q3 := q 3 10 (by omega)
  have q4 := q 4 1 (by omega)
  rw [Nat.one_mul] at q4
  unfold rwo
  omega
theorem wn_ext {c1 c1' c2 : Nat → Int → Int} : ∀ m, m ≤ 10 → (∀ k, (11 - m) / 2 ≤ k → k < 5 → c1 k = c1' k) → ∀ a b, wn c1 c2 m a b = wn c1' c2 m a b := by
  intro m
  induction m with
  | zero => intro _ _ a b; rfl
  | succ m ih =>
    intro hm h a b
    have e : wn c1 c2 m = wn c1' c2 m := by
      funext a b
      exact ih (by omega) (fun k h1 h2 => h k (by omega) h2) a b
    unfold wn
    rw [e]
    by_cases q : (9 - m) % 2 = 0
    · rw [if_pos q, if_pos q, h ((9 - m) / 2) (by omega) (by omega)]
    · rw [if_neg q, if_neg q]
def wO (c : Nat → Nat → Int → Int) (c2 : Nat → Int → Int) (o : Nat → Nat) : Int := wn (fun k => c (o k) k) c2 10 0 0
theorem wO_ext {c : Nat → Nat → Int → Int} {c2 : Nat → Int → Int} {o o' : Nat → Nat} (h : ∀ k, k < 5 → o k = o' k) : wO c c2 o = wO c c2 o' := by
  unfold wO
  refine wn_ext 10 (by omega) (fun k _ hk => ?_) 0 0
  show c (o k) k = c (o' k) k
  rw [h k hk]
/-- the best of some orders: the greatest WIN, of several the first as a row -/
def BS (w : (Nat → Nat) → Int) (S : (Nat → Nat) → Prop) (bw : Int) (br : Nat) : Prop := (bw = -1 ∧ br = 0 ∧ ∀ o, ¬ S o) ∨ ((∃ o, S o ∧ Pm5 o ∧ w o = bw ∧ rowN o = br) ∧ ∀ o, S o → w o ≤ bw ∧ (w o = bw → br ≤ rowN o))
theorem BS.congr {w : (Nat → Nat) → Int} {S S' : (Nat → Nat) → Prop} {bw : Int} {br : Nat} (h : BS w S bw br) (hS : ∀ o, S' o ↔ S o) : BS w S' bw br := by
  rcases h with ⟨h1, h2, h3⟩ | ⟨⟨o, h1, h2⟩, h3⟩
  · exact Or.inl ⟨h1, h2, fun o ho => h3 o ((hS o).mp ho)⟩
  · exact Or.inr ⟨⟨o, (hS o).mpr h1, h2⟩, fun o ho => h3 o ((hS o).mp ho)⟩
theorem rowN_b {o : Nat → Nat} (h : Pm5 o) : rowN o ≤ 44444 := by
  have h0 := h.1 0 (by omega)
  have h1 := h.1 1 (by omega)
  have h2 := h.1 2 (by omega)
  have h3 := h.1 3 (by omega)
  have h4 := h.1 4 (by omega)
  unfold rowN
  omega
theorem BS.b {w : (Nat → Nat) → Int} {S : (Nat → Nat) → Prop} {bw : Int} {br : Nat} (hw : ∀ o, 0 ≤ w o ∧ w o ≤ 1000000) (h : BS w S bw br) : -1 ≤ bw ∧ bw ≤ 1000000 ∧ br ≤ 44444 := by
  rcases h with ⟨h1, h2, -⟩ | ⟨⟨o, -, h2, h3, h4⟩, -⟩
  · omega
  · have := hw o
    have := rowN_b h2
    omega
/-- one order more -/
theorem BS.up {w : (Nat → Nat) → Int} {S S' : (Nat → Nat) → Prop} {bw : Int} {br : Nat} {s : Nat → Nat} (hw : ∀ o, 0 ≤ w o ∧ w o ≤ 1000000) (h : BS w S bw br) (hs : Pm5 s) (hS : ∀ o, S' o → S o ∨ (w o = w s ∧ rowN o = rowN s)) (hi : S' s) (hc : bw < w s ∨ (w s = bw ∧ rowN s < br)) : BS w S' (w s) (rowN s) := by
  refine Or.inr ⟨⟨s, hi, hs, rfl, rfl⟩, fun o ho => ?_⟩
  rcases hS o ho with h1 | ⟨h1, h2⟩
  · rcases h with ⟨-, -, h3⟩ | ⟨-, h3⟩
    · exact absurd h1 (h3 o)
    · have := h3 o h1
      omega
  · omega
theorem BS.keep {w : (Nat → Nat) → Int} {S S' : (Nat → Nat) → Prop} {bw : Int} {br : Nat} {s : Nat → Nat} (hw : ∀ o, 0 ≤ w o ∧ w o ≤ 1000000) (h : BS w S bw br) (hS : ∀ o, S' o → S o ∨ (w o = w s ∧ rowN o = rowN s)) (hi : ∀ o, S o → S' o) (hc : w s < bw ∨ (w s = bw ∧ br ≤ rowN s)) : BS w S' bw br := by
  have ws := hw s
  rcases h with ⟨h1, h2, h3⟩ | ⟨⟨o, h1, h2, h3, h4⟩, h5⟩
  · omega
  · refine Or.inr ⟨⟨o, hi o h1, h2, h3, h4⟩, fun o' ho => ?_⟩
    rcases hS o' ho with h6 | ⟨h6, h7⟩
    · exact h5 o' h6
    · omega
theorem BS.uniq {w : (Nat → Nat) → Int} {S : (Nat → Nat) → Prop} {bw bw' : Int} {br br' : Nat} (h : BS w S bw br) (h' : BS w S bw' br') : bw = bw' ∧ br = br' := by
  rcases h with ⟨h1, h2, h3⟩ | ⟨⟨o, h1, -, h3, h4⟩, h5⟩
  · rcases h' with ⟨g1, g2, -⟩ | ⟨⟨o, g1, -⟩, -⟩
    · omega
    · exact absurd g1 (h3 o)
  · rcases h' with ⟨-, -, g3⟩ | ⟨⟨o', g1, -, g3, g4⟩, g5⟩
    · exact absurd h1 (g3 o)
    · have a := h5 o' g1
      have b := g5 o h1
      omega
/-- the orders that end as s from the place n on -/
def Ex (n : Nat) (s o : Nat → Nat) : Prop := Pm5 o ∧ ∀ k, n ≤ k → k < 5 → o k = s k
def pkR : List Nat := [29, 35, 36, 37, 38, 39, 40, 41, 42, 43, 44]
/-- the chances that the steps back need, and the wins from the time n on -/
def G32 (c : Nat → Nat → Int → Int) (M : Mm) : Prop := ∀ p k : Nat, p < 5 → k < 5 → ∀ L : Int, -(k : Int) ≤ L → L ≤ k → gI M 32 (ix p k L) = J (c p k L)
def G33 (c2 : Nat → Int → Int) (M : Mm) : Prop := ∀ k : Nat, k < 5 → ∀ L : Int, -(k : Int) - 1 ≤ L → L ≤ k → gI M 33 (ix k k L) = J (c2 k L)
def Wn (c : Nat → Nat → Int → Int) (c2 : Nat → Int → Int) (n : Nat) (s : Nat → Nat) (M : Mm) : Prop := ∀ t, n ≤ t → t ≤ 10 → ∀ a b, a ≤ (t + 1) / 2 → b ≤ t / 2 → gI M (35 + t) (6 * a + b) = J (wn (fun k => c (s k) k) c2 (10 - t) a b)
theorem wn_at (c1 c2 : Nat → Int → Int) {t : Nat} (ht : t < 10) (a b : Nat) : wn c1 c2 (10 - t) a b = stp t (if t % 2 = 0 then c1 (t / 2) else c2 (t / 2)) (wn c1 c2 (10 - (t + 1))) a b := by
  have e : 10 - t = (9 - t) + 1 := by omega
  rw [e]
  conv => lhs; unfold wn
  rw [(by omega : 9 - (9 - t) = t), (by omega : 10 - (t + 1) = 9 - t)]
section
variable {D : GD} {d : Nat} {c : Nat → Nat → Int → Int} {c2 : Nat → Int → Int}
theorem pk (hc : ∀ p k L, 0 ≤ c p k L ∧ c p k L ≤ 1000000) (hc2 : ∀ k L, 0 ≤ c2 k L ∧ c2 k L ≤ 1000000) : ∀ n, n ≤ 5 → ∀ (s : Nat → Nat) (pl : Nat) (M : Mm) (S : (Nat → Nat) → Prop) (bw : Int) (br : Nat) (P : Mm → Prop), Lay 29 46 M → G32 c M → G33 c2 M → Wn c c2 (2 * n) s M → (∀ k, n ≤ k → k < 5 → s k < 5) → (∀ i j, n ≤ i → i < 5 → n ≤ j → j < 5 → s i = s j → i = j) → pl < 32 → (∀ p, p < 5 → (pl.testBit p = true ↔ ∃ k, n ≤ k ∧ k < 5 ∧ s k = p)) → gI M 29 3 = J bw → gI M 29 4 = J br → BS (wO c c2) S bw br → (∀ M' bw' br', Fm pkR M M' → (∀ t, 2 * n ≤ t → t ≤ 10 → gI M' (35 + t) = gI M (35 + t)) → gI M' 29 3 = J bw' → gI M' 29 4 = J (br' : Nat) → BS (wO c c2) (fun o => S o ∨ Ex n s o) bw' br' → P M') → AMv D (d + n + 1) mX7_placeKicker [.ref 29, .int (J ((n : Int) - 1)), .int (J pl), .int (J (rwo n s))] M P := by
  have hw : ∀ o, 0 ≤ wO c c2 o ∧ wO c c2 o ≤ 1000000 := fun o => wn_b (fun k L => hc _ _ L) hc2 10 0 0
  intro n
  induction n with
  | zero =>
    intro hn s pl M S bw br P hL g32 g33 gW hs hi hpl hbit e3 e4 hB h
    have bb := hB.b hw
    have rb := rwo_b (n := 0) (fun k _ hk => hs k (by omega) hk)
    have hP5 : Pm5 s := ⟨fun k hk => hs k (by omega) hk, fun i j h1 h2 h3 => hi i j (by omega) h1 (by omega) h2 h3⟩
    have er : rwo 0 s = rowN s := by unfold rwo rowN; simp
    have e0 : gI M 35 0 = J (wO c c2 s) := gW 0 (by omega) (by omega) 0 0 (by omega) (by omega)
    have ws := hw s
    have hin : ∀ o, (S o ∨ Ex 0 s o) → S o ∨ (wO c c2 o = wO c c2 s ∧ rowN o = rowN s) := by
      rintro o (h1 | ⟨h1, h2⟩)
      · exact Or.inl h1
      · refine Or.inr ⟨wO_ext (fun k hk => h2 k (by omega) hk), ?_⟩
        unfold rowN
        rw [h2 0 (by omega) (by omega), h2 1 (by omega) (by omega), h2 2 (by omega) (by omega), h2 3 (by omega) (by omega), h2 4 (by omega) (by omega)]
    have hself : S s ∨ Ex 0 s s := Or.inr ⟨hP5, fun _ _ _ => rfl⟩
    -- written anew
    have new : ∀ M10 M14 : Mm, M10 = sI M 29 3 (J (wO c c2 s)) → M14 = sI M10 29 4 (J (rwo 0 s)) → (bw < wO c c2 s ∨ (wO c c2 s = bw ∧ rowN s < br)) → (none : Option Value) = none ∧ Sm M M14 ∧ P M14 := by
      intro M10 M14 e10 e14 hcc
      have F : Fm pkR M M14 := by rw [e14, e10]; exact ((Fm.refl _ M).si (by decide)).si (by decide)
      refine ⟨rfl, F.1, h M14 (wO c c2 s) (rowN s) F (fun t _ ht => ?_) ?_ ?_ (hB.up hw hP5 hin hself hcc)⟩
      · rw [e14, fr_s (by omega), e10, fr_s (by omega)]
      · rw [e14, gI_sI, if_neg (by omega), e10, gI_sI, if_pos ⟨rfl, rfl⟩]
      · rw [e14, gI_sI, if_pos ⟨rfl, rfl⟩, er]
    have old : (wO c c2 s < bw ∨ (wO c c2 s = bw ∧ br ≤ rowN s)) → (none : Option Value) = none ∧ Sm M M ∧ P M := fun hcc => ⟨rfl, .refl M, h M bw br (Fm.refl _ M) (fun _ _ _ => rfl) e3 e4 (hB.keep hw hin (fun o ho => Or.inl ho) hcc)⟩
    refine rX7_placeKicker D (d + 0) _ _ _ M _ hL ⟨fun z => ?_, fun _ x8 e8 => ?_⟩
    · exact absurd z (by decide)
    · rw [e0] at e8
      rw [e8, e3, e4]
      refine ⟨fun z M10 e10 M14 e14 => new M10 M14 e10 e14 (Or.inl ?_), fun z => ⟨fun z2 => old (Or.inl ?_), fun z2 => ⟨fun z3 => old (Or.inr ?_), fun z3 M20 e20 M24 e24 => new M20 M24 e20 e24 (Or.inr ?_)⟩⟩⟩
      · simp (disch := omega) only [J_lit, J_add, J_sub, J_mul, J_neg, J_lt, J_le, J_eq, J_nat, J_in, J_div] at z
        exact z
      · simp (disch := omega) only [J_lit, J_add, J_sub, J_mul, J_neg, J_lt, J_le, J_eq, J_nat, J_in, J_div] at z z2
        omega
      · simp (disch := omega) only [J_lit, J_add, J_sub, J_mul, J_neg, J_lt, J_le, J_eq, J_nat, J_in, J_div] at z2 z3
        omega
      · simp (disch := omega) only [J_lit, J_add, J_sub, J_mul, J_neg, J_lt, J_le, J_eq, J_nat, J_in, J_div] at z2 z3
        omega
  | succ n ih =>
    intro hn s pl M S bw br P hL g32 g33 gW hs hi hpl hbit e3 e4 hB h
    have rb := rwo_b (n := n + 1) hs
    have e0 : J (((n + 1 : Nat) : Int) - 1) = J n := by congr 1; omega
    rw [e0]
    refine rX7_placeKicker D (d + n + 1) _ _ _ M _ hL ⟨fun _ => ?_, fun z => absurd (by simp (disch := omega) only [J_lit, J_add, J_sub, J_mul, J_neg, J_lt, J_le, J_eq, J_nat, J_in, J_div]; omega) z⟩
    have et : ((2 : Int32) * J n + (1 : Int32)) = J ((2 * n + 1 : Nat) : Int) := by simp (disch := omega) only [J_lit, J_add, J_sub, J_mul, J_neg, J_lt, J_le, J_eq, J_nat, J_in, J_div]; congr 1
    rw [et]
    have wb := fun m => wn_b (c1 := fun k => c (s k) k) (c2 := c2) (fun k L => hc _ _ L) hc2 m
    have o1 : (2 * n + 1) % 2 = 1 := by omega
    have o2 : (2 * n + 1) / 2 = n := by omega
    refine c_stepBack (t := 2 * n + 1) (p := n) (C := c2 n) (w := wn (fun k => c (s k) k) c2 (10 - (2 * n + 2))) hL (by omega) (by omega) (hc2 n) (wb _) (fun L u v => ?_) (fun a b u v => gW (2 * n + 2) (by omega) (by omega) a b u v) (fun M1 F1 g1 => ?_)
    · rw [o1, o2] at u ⊢
      rw [o2] at v
      exact g33 n (by omega) L (by omega) (by omega)
    · -- through the places
      let In : Nat → Mm → Prop := fun p N => Fm pkR M N ∧ (∀ t, 2 * (n + 1) ≤ t → t ≤ 10 → gI N (35 + t) = gI M (35 + t)) ∧ (∀ a b, a ≤ (2 * n + 1 + 1) / 2 → b ≤ (2 * n + 1) / 2 → gI N (35 + (2 * n + 1)) (6 * a + b) = J (wn (fun k => c (s k) k) c2 (10 - (2 * n + 1)) a b)) ∧ ∃ (bw' : Int) (br' : Nat), gI N 29 3 = J bw' ∧ gI N 29 4 = J br' ∧ BS (wO c c2) (fun o => S o ∨ (Ex (n + 1) s o ∧ o n < p)) bw' br'
      have lp : ∀ (m p : Nat) (N : Mm), p + m = 5 → In p N → LX7_placeKicker_65 D (d + n + 1) (J n) (J pl) (J (rwo (n + 1) s)) (J p) N (fun r M1 => r = none ∧ Sm M M1 ∧ P M1) := by
        intro m
        induction m with
        | zero =>
          rintro p N hm ⟨FN, rN, wN, bw', br', f3, f4, hB'⟩
          refine rX7_placeKicker_65 D (d + n + 1) _ _ _ _ N _ (hL.of FN.1) ⟨fun _ => ⟨rfl, FN.1, h N bw' br' FN rN f3 f4 (hB'.congr (fun o => ?_))⟩, fun z => ?_⟩
          · constructor
            · rintro (h1 | h1)
              · exact Or.inl h1
              · exact Or.inr ⟨h1, by have := h1.1.1 n (by omega); omega⟩
            · rintro (h1 | h1)
              · exact Or.inl h1
              · exact Or.inr h1.1
          · exfalso
            simp (disch := omega) only [J_lit, J_add, J_sub, J_mul, J_neg, J_lt, J_le, J_eq, J_nat, J_in, J_div] at z
            omega
        | succ m ihm =>
          rintro p N hm ⟨FN, rN, wN, bw', br', f3, f4, hB'⟩
          have hp5 : p < 5 := by omega
          have ep : (J (p : Int) &&& 31) = J p := by rcases (by omega : p = 0 ∨ p = 1 ∨ p = 2 ∨ p = 3 ∨ p = 4) with rfl | rfl | rfl | rfl | rfl <;> decide
          have esm : ((J (p : Int)).toBitVec.smod 32).toNat = p := by rcases (by omega : p = 0 ∨ p = 1 ∨ p = 2 ∨ p = 3 ∨ p = 4) with rfl | rfl | rfl | rfl | rfl <;> decide
          have esh : (J (pl : Int) >>> J (p : Int)) &&& (1 : Int32) = J ((pl / 2 ^ p % 2 : Nat) : Int) := by rw [J_shr (by omega) _ p esm, J_and1]
          have e1p : (1 : Int32) <<< J (p : Int) = J ((2 ^ p : Nat) : Int) := by
            have : (1 : Int32) = J ((1 : Nat) : Int) := rfl
            rw [this, J_shl _ p esm, Nat.one_mul]
          have etb : pl.testBit p = decide (pl / 2 ^ p % 2 = 1) := Nat.testBit_eq_decide_div_mod_eq
          have hbp := hbit p hp5
          have hLN := hL.of FN.1
          have en : (J (n : Int)).toNatClampNeg = n := by simp (disch := omega) only [J_lit, J_add, J_sub, J_mul, J_neg, J_lt, J_le, J_eq, J_nat, J_in, J_div]; omega
          refine rX7_placeKicker_65 D (d + n + 1) _ _ _ _ N _ hLN ?_
          rw [ep, esh, e1p, J_or, en]
          refine ⟨fun z => ?_, fun _ => ⟨fun z x3 e3' => ?_, fun z => ?_⟩⟩
          · exfalso
            simp (disch := omega) only [J_lit, J_add, J_sub, J_mul, J_neg, J_lt, J_le, J_eq, J_nat, J_in, J_div] at z
            omega
          · -- he has his time already
            rw [e3', J_suc]
            have hb1 : pl.testBit p = true := by
              rw [etb]
              apply decide_eq_true
              have : ¬ pl / 2 ^ p % 2 = 0 := fun q => z (by rw [q]; rfl)
              omega
            obtain ⟨k, k1, k2, k3⟩ := hbp.mp hb1
            refine ihm (p + 1) N (by omega) ⟨FN, rN, wN, bw', br', f3, f4, hB'.congr (fun o => ?_)⟩
            constructor
            · rintro (h1 | ⟨h1, h2⟩)
              · exact Or.inl h1
              · refine Or.inr ⟨h1, ?_⟩
                have hne : o n ≠ p := by
                  intro q
                  have q2 := h1.2 k k1 k2
                  have := h1.1.2 n k (by omega) k2 (by rw [q, q2, k3])
                  omega
                omega
            · rintro (h1 | ⟨h1, h2⟩)
              · exact Or.inl h1
              · exact Or.inr ⟨h1, by omega⟩
          · -- he may kick now
            have hb0 : ¬ pl.testBit p = true := by
              rw [etb]
              intro q
              have := of_decide_eq_true q
              rw [this] at z
              exact absurd z (by decide)
            have hfree : ∀ k, n + 1 ≤ k → k < 5 → s k ≠ p := fun k k1 k2 k3 => hb0 (hbp.mpr ⟨k, k1, k2, k3⟩)
            have et2 : ((2 : Int32) * J n) = J ((2 * n : Nat) : Int) := by simp (disch := omega) only [J_lit, J_add, J_sub, J_mul, J_neg, J_lt, J_le, J_eq, J_nat, J_in, J_div]; congr 1
            rw [et2]
            have o3 : (2 * n) % 2 = 0 := by omega
            have o4 : (2 * n) / 2 = n := by omega
            have r32 : gI N 32 = gI M 32 := FN.2.2.2 32 (by decide)
            have r33 : gI N 33 = gI M 33 := FN.2.2.2 33 (by decide)
            refine c_stepBack (t := 2 * n) (p := p) (C := c p n) (w := wn (fun k => c (s k) k) c2 (10 - (2 * n + 1))) hLN (by omega) hp5 (hc p n) (wb _) (fun L u v => ?_) (fun a b u v => wN a b (by omega) (by omega)) (fun N1 F1 g1 => ⟨by simp (disch := omega) only [J_lit, J_add, J_sub, J_mul, J_neg, J_lt, J_le, J_eq, J_nat, J_in, J_div]; omega, ?_⟩)
            · rw [o3, o4] at u ⊢
              rw [o4] at v
              rw [r32]
              exact g32 p n hp5 (by omega) L (by omega) (by omega)
            · have hsub : [35 + 2 * n].all (fun x => pkR.contains x) = true := by
                rcases (by omega : n = 0 ∨ n = 1 ∨ n = 2 ∨ n = 3 ∨ n = 4) with rfl | rfl | rfl | rfl | rfl <;> decide
              have FN1 : Fm pkR M N1 := FN.trans (F1.sub hsub)
              have rr : ∀ t, 2 * n < t → t ≤ 10 → gI N1 (35 + t) = gI N (35 + t) := fun t h1 h2 => F1.2.2.2 (35 + t) (by (simp only [List.contains_cons, List.contains_nil, Bool.or_false, Bool.or_eq_false_iff, beq_eq_false_iff_ne, ne_eq]; omega))
              have erow : J (rwo (n + 1) s : Int) + J (p : Int) * tens.getD n 0 = J ((rwo n (va_up s n p) : Nat) : Int) := by
                have etn : tens.getD n 0 = J ((tn n : Nat) : Int) := by rcases (by omega : n = 0 ∨ n = 1 ∨ n = 2 ∨ n = 3 ∨ n = 4) with rfl | rfl | rfl | rfl | rfl <;> rfl
                rw [etn, rwo_up (by omega)]
                simp (disch := omega) only [J_lit, J_add, J_sub, J_mul, J_neg, J_lt, J_le, J_eq, J_nat, J_in, J_div]
                congr 1
              have em1 : J (n : Int) - (1 : Int32) = J ((n : Int) - 1) := by simp (disch := omega) only [J_lit, J_add, J_sub, J_mul, J_neg, J_lt, J_le, J_eq, J_nat, J_in, J_div]
              rw [erow, em1]
              -- the wins that lie are those of the new row
              have gW' : Wn c c2 (2 * n) (va_up s n p) N1 := by
                intro t ht1 ht2 a b ha hb
                have ext : ∀ m, 2 * n < 10 - m → m ≤ 10 → ∀ a b, wn (fun k => c (va_up s n p k) k) c2 m a b = wn (fun k => c (s k) k) c2 m a b := by
                  intro m h1 h2
                  refine wn_ext m h2 (fun k k1 k2 => ?_)
                  show c (va_up s n p k) k = c (s k) k
                  rw [va_up_ne _ _ (by omega)]
                by_cases e : t = 2 * n
                · subst e
                  have e2 : wn (fun k => c (va_up s n p k) k) c2 (10 - (2 * n + 1)) = wn (fun k => c (s k) k) c2 (10 - (2 * n + 1)) := by
                    funext a b
                    exact ext _ (by omega) (by omega) a b
                  rw [g1 a b ha hb, wn_at _ _ (by omega), o3, o4, if_pos rfl, e2]
                  show J (stp (2 * n) (c p n) _ a b) = J (stp (2 * n) (c (va_up s n p n) n) _ a b)
                  rw [va_up_self]
                · rw [rr t (by omega) ht2, ext _ (by omega) (by omega)]
                  by_cases e2 : t = 2 * n + 1
                  · subst e2
                    exact wN a b ha hb
                  · rw [rN t (by omega) ht2]
                    exact gW t (by omega) ht2 a b ha hb
              refine ih (by omega) (va_up s n p) (pl ||| 2 ^ p) N1 (fun o => S o ∨ (Ex (n + 1) s o ∧ o n < p)) bw' br' _ (hL.of FN1.1) (fun p k h1 h2 L u v => by rw [FN1.2.2.2 32 (by decide)]; exact g32 p k h1 h2 L u v) (fun k h1 L u v => by rw [FN1.2.2.2 33 (by decide)]; exact g33 k h1 L u v) gW' (fun k k1 k2 => ?_) (fun i j i1 i2 j1 j2 hij => ?_) (Nat.or_lt_two_pow (n := 5) hpl (Nat.pow_lt_pow_right (by omega) hp5)) (fun x hx => ?_) (by rw [F1.2.2.2 29 (by (simp only [List.contains_cons, List.contains_nil, Bool.or_false, Bool.or_eq_false_iff, beq_eq_false_iff_ne, ne_eq]; omega))]; exact f3) (by rw [F1.2.2.2 29 (by (simp only [List.contains_cons, List.contains_nil, Bool.or_false, Bool.or_eq_false_iff, beq_eq_false_iff_ne, ne_eq]; omega))]; exact f4) hB' (fun N2 bw2 br2 F2 r2 w3 w4 hB2 x17 e17 => ?_)
              · unfold va_up
                split
                · exact hp5
                · exact hs k (by omega) k2
              · unfold va_up at hij
                split at hij
                · split at hij
                  · omega
                  · exact absurd hij.symm (hfree j (by omega) j2)
                · split at hij
                  · exact absurd hij (hfree i (by omega) i2)
                  · exact hi i j (by omega) i2 (by omega) j2 hij
              · rw [Nat.testBit_or, Nat.testBit_two_pow]
                simp only [Bool.or_eq_true, decide_eq_true_eq]
                constructor
                · rintro (q | q)
                  · obtain ⟨k, k1, k2, k3⟩ := (hbit x hx).mp q
                    exact ⟨k, by omega, k2, by unfold va_up; rw [if_neg (by omega)]; exact k3⟩
                  · exact ⟨n, by omega, by omega, by unfold va_up; rw [if_pos rfl]; exact q⟩
                · rintro ⟨k, k1, k2, k3⟩
                  unfold va_up at k3
                  split at k3
                  · exact Or.inr k3
                  · exact Or.inl ((hbit x hx).mpr ⟨k, by omega, k2, k3⟩)
              · rw [e17, J_suc]
                have FN2 : Fm pkR M N2 := FN1.trans F2
                refine ihm (p + 1) N2 (by omega) ⟨FN2, fun t h1 h2 => ?_, fun a b ha hb => ?_, bw2, br2, w3, w4, hB2.congr (fun o => ?_)⟩
                · rw [r2 t (by omega) h2, rr t (by omega) h2, rN t h1 h2]
                · rw [r2 (2 * n + 1) (by omega) (by omega), rr (2 * n + 1) (by omega) (by omega)]
                  exact wN a b ha hb
                · constructor
                  · rintro (h1 | ⟨h1, h2⟩)
                    · exact Or.inl (Or.inl h1)
                    · by_cases q : o n = p
                      · refine Or.inr ⟨h1.1, fun k k1 k2 => ?_⟩
                        unfold va_up
                        split
                        · rename_i hk
                          rw [hk]
                          exact q
                        · exact h1.2 k (by omega) k2
                      · exact Or.inl (Or.inr ⟨h1, by omega⟩)
                  · rintro ((h1 | ⟨h1, h2⟩) | h1)
                    · exact Or.inl h1
                    · exact Or.inr ⟨h1, by omega⟩
                    · have hon : o n = p := by
                        have := h1.2 n (Nat.le_refl _) (by omega)
                        unfold va_up at this
                        rw [if_pos rfl] at this
                        exact this
                      refine Or.inr ⟨⟨h1.1, fun k k1 k2 => ?_⟩, by omega⟩
                      have := h1.2 k (by omega) k2
                      unfold va_up at this
                      rw [if_neg (by omega)] at this
                      exact this
      refine lp 5 0 M1 (by omega) ⟨F1.sub ?_, fun t h1 h2 => F1.2.2.2 (35 + t) (by (simp only [List.contains_cons, List.contains_nil, Bool.or_false, Bool.or_eq_false_iff, beq_eq_false_iff_ne, ne_eq]; omega)), fun a b ha hb => ?_, bw, br, by rw [F1.2.2.2 29 (by (simp only [List.contains_cons, List.contains_nil, Bool.or_false, Bool.or_eq_false_iff, beq_eq_false_iff_ne, ne_eq]; omega))]; exact e3, by rw [F1.2.2.2 29 (by (simp only [List.contains_cons, List.contains_nil, Bool.or_false, Bool.or_eq_false_iff, beq_eq_false_iff_ne, ne_eq]; omega))]; exact e4, hB.congr (fun o => ?_)⟩
      · rcases (by omega : n = 0 ∨ n = 1 ∨ n = 2 ∨ n = 3 ∨ n = 4) with rfl | rfl | rfl | rfl | rfl <;> decide
      · rw [g1 a b ha hb, wn_at _ _ (by omega), o1, o2, if_neg (by omega)]
      · constructor
        · rintro (h1 | ⟨_, h2⟩)
          · exact h1
          · omega
        · exact Or.inl
end
