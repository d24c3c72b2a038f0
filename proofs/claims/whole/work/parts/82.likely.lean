/-! likely: both -/
def hQ (f : Bool) (n : Nat) (w ov : Int) (q : Nat → Nat) : Nat := hC f n w ov (q 0) (q 1) (q 2)
def hT (f : Bool) (n : Nat) (w ov : Int) (q : Nat → Nat) (s : Nat) : Nat := if 0 < q s then hQ f n s (if w = (s : Int) then ov else ov + 1) (va_up q s (q s - 1)) else 0
theorem hQ_s (f : Bool) (n : Nat) (w ov : Int) (q : Nat → Nat) : hQ f (n + 1) w ov q = hT f n w ov q 0 + hT f n w ov q 1 + hT f n w ov q 2 := rfl
theorem cTo_sum {f : Nat → Int32} {n : Nat} (h : ∀ k, k < n → ∃ x : Nat, x < 3 ∧ f k = J x) : cTo f (J ((0 : Nat) : Int)) n + cTo f (J ((1 : Nat) : Int)) n + cTo f (J ((2 : Nat) : Int)) n = n := by
  induction n with
  | zero => rfl
  | succ n ih =>
    have := ih (fun k hk => h k (by omega))
    obtain ⟨x, hx, e⟩ := h n (by omega)
    unfold cTo
    rw [e]
    have n01 : ¬ J ((0 : Nat) : Int) = J ((1 : Nat) : Int) := by decide
    have n02 : ¬ J ((0 : Nat) : Int) = J ((2 : Nat) : Int) := by decide
    have n10 : ¬ J ((1 : Nat) : Int) = J ((0 : Nat) : Int) := by decide
    have n12 : ¬ J ((1 : Nat) : Int) = J ((2 : Nat) : Int) := by decide
    have n20 : ¬ J ((2 : Nat) : Int) = J ((0 : Nat) : Int) := by decide
    have n21 : ¬ J ((2 : Nat) : Int) = J ((1 : Nat) : Int) := by decide
    rcases (by omega : x = 0 ∨ x = 1 ∨ x = 2) with rfl | rfl | rfl
    · rw [if_pos rfl, if_neg n01, if_neg n02]; omega
    · rw [if_neg n10, if_pos rfl, if_neg n12]; omega
    · rw [if_neg n20, if_neg n21, if_pos rfl]; omega
section
variable {D : GD} {d : Nat}
theorem pn : ∀ n, n ≤ 9 → ∀ (M : Mm) (w ov : Int) (q : Nat → Nat) (A B : Nat) (P : Mm → Prop), Lay 25 29 M → q 0 + q 1 + q 2 = n → (∀ s, s < 3 → gI M 28 s = J (q s : Nat)) → gI M 25 4 = J A → gI M 25 5 = J B → A + 3 ^ n ≤ 1000000 → B + 3 ^ n ≤ 1000000 → -1 ≤ w → w ≤ 2 → -100 ≤ ov → ov + n ≤ 100 → (∀ M', Fm [25, 28] M M' → (∀ s, s < 3 → gI M' 28 s = J (q s : Nat)) → gI M' 25 4 = J ((A + hQ false n w ov q : Nat) : Int) → gI M' 25 5 = J ((B + hQ true n w ov q : Nat) : Int) → (∀ k, k ≠ 4 → k ≠ 5 → gI M' 25 k = gI M 25 k) → P M') → AMv D (d + n + 1) mX1_placeNext [.ref 25, .int (J n), .int (J w), .int (J ov)] M P := by
  intro n
  induction n with
  | zero =>
    intro hn M w ov q A B P hL hq gq e4 e5 hA hB w1 w2 o1 o2 h
    have fin : ∀ (b : Nat) (M2 M7 : Mm), M2 = sI M 25 4 (J A + (1 : Int32)) → M7 = sI M2 25 5 (J ((B + b : Nat) : Int)) → b = hQ true 0 w ov q → (none : Option Value) = none ∧ Sm M M7 ∧ P M7 := by
      intro b M2 M7 m2 m7 hb
      have F : Fm [25, 28] M M7 := by rw [m7, m2]; exact ((Fm.refl _ M).si (by decide)).si (by decide)
      have ef : hQ false 0 w ov q = 1 := by unfold hQ hC; rw [if_pos (Or.inl rfl)]
      refine ⟨rfl, F.1, h M7 F (fun s hs => ?_) ?_ ?_ (fun k k1 k2 => ?_)⟩
      · rw [m7, fr_s (by omega), m2, fr_s (by omega)]
        exact gq s hs
      · rw [m7, gI_sI, if_neg (by omega), m2, gI_sI, if_pos ⟨rfl, rfl⟩, ef, J_suc]
      · rw [m7, gI_sI, if_pos ⟨rfl, rfl⟩, hb]
      · rw [m7, gI_sI, if_neg (by omega), m2, gI_sI, if_neg (by omega)]
    refine rX1_placeNext D (d + 0) _ _ _ M _ hL ⟨fun c => absurd c (by decide), fun _ M2 m2 => ?_⟩
    have f5 : gI M2 25 5 = J B := by rw [m2, gI_sI, if_neg (by omega)]; exact e5
    have e0 : J (B : Int) + (0 : Int32) = J ((B + 0 : Nat) : Int) := by simp (disch := omega) only [J_lit, J_add, J_sub, J_mul, J_neg, J_lt, J_le, J_eq, J_nat, J_in, J_div]; congr 1
    rw [f5, J_suc, e0]
    rw [e4] at m2
    refine ⟨fun c M7 m7 => fin 0 M2 M7 m2 m7 ?_, fun c M7 m7 => fin 1 M2 M7 m2 m7 ?_⟩
    · simp (disch := omega) only [J_lit, J_add, J_sub, J_mul, J_neg, J_lt, J_le, J_eq, J_nat, J_in, J_div] at c
      unfold hQ hC
      rw [if_neg]
      rintro (z | z)
      · cases z
      · omega
    · simp (disch := omega) only [J_lit, J_add, J_sub, J_mul, J_neg, J_lt, J_le, J_eq, J_nat, J_in, J_div] at c
      unfold hQ hC
      rw [if_pos (Or.inr (by omega))]
  | succ n ih =>
    intro hn M w ov q A B P hL hq gq e4 e5 hA hB w1 w2 o1 o2 h
    have e3 : 3 ^ (n + 1) = 3 * 3 ^ n := by rw [Nat.pow_succ, Nat.mul_comm]
    have tle : ∀ f s, hT f n w ov q s ≤ 3 ^ n := by
      intro f s
      unfold hT
      split
      · exact hC_le f n _ _ _ _ _
      · exact Nat.zero_le _
    -- one side
    have st : ∀ (s A' B' : Nat) (N : Mm) (post : Option Value → Mm → Prop), s < 3 → Fm [25, 28] M N → (∀ s, s < 3 → gI N 28 s = J (q s : Nat)) → gI N 25 4 = J A' → gI N 25 5 = J B' → A' + 3 ^ n ≤ 1000000 → B' + 3 ^ n ≤ 1000000 → (∀ N', Fm [25, 28] N N' → (∀ s, s < 3 → gI N' 28 s = J (q s : Nat)) → gI N' 25 4 = J ((A' + hT false n w ov q s : Nat) : Int) → gI N' 25 5 = J ((B' + hT true n w ov q s : Nat) : Int) → (∀ k, k ≠ 4 → k ≠ 5 → gI N' 25 k = gI N 25 k) → LX1_placeNext_36 D (d + n + 1) (J ((n + 1 : Nat) : Int)) (J w) (J ov) (J ((s + 1 : Nat) : Int)) N' post) → LX1_placeNext_36 D (d + n + 1) (J ((n + 1 : Nat) : Int)) (J w) (J ov) (J s) N post := by
      intro s A' B' N post hs FN gN f4 f5 hA' hB' hk
      have hLN := hL.of FN.1
      have es : (J (s : Int)).toNatClampNeg = s := by simp (disch := omega) only [J_lit, J_add, J_sub, J_mul, J_neg, J_lt, J_le, J_eq, J_nat, J_in, J_div]; omega
      have qb : q s ≤ 9 := by
        rcases (by omega : s = 0 ∨ s = 1 ∨ s = 2) with rfl | rfl | rfl <;> omega
      refine rX1_placeNext_36 D (d + n + 1) _ _ _ _ N post hLN ?_
      rw [es, gN s hs]
      refine ⟨fun c => ?_, fun _ => ⟨by simp (disch := omega) only [J_lit, J_add, J_sub, J_mul, J_neg, J_lt, J_le, J_eq, J_nat, J_in, J_div]; omega, fun c x4 e4' => ?_, fun c M5 m5 => ?_⟩⟩
      · exfalso
        simp (disch := omega) only [J_lit, J_add, J_sub, J_mul, J_neg, J_lt, J_le, J_eq, J_nat, J_in, J_div] at c
        omega
      · simp (disch := omega) only [J_lit, J_add, J_sub, J_mul, J_neg, J_lt, J_le, J_eq, J_nat, J_in, J_div] at c
        rw [e4', J_suc]
        have z : ∀ f, hT f n w ov q s = 0 := fun f => by unfold hT; rw [if_neg (by omega)]
        exact hk N (Fm.refl _ N) gN (by rw [z]; exact f4) (by rw [z]; exact f5) (fun _ _ _ => rfl)
      · simp (disch := omega) only [J_lit, J_add, J_sub, J_mul, J_neg, J_lt, J_le, J_eq, J_nat, J_in, J_div] at c
        have em : J (q s : Int) - (1 : Int32) = J ((q s - 1 : Nat) : Int) := by simp (disch := omega) only [J_lit, J_add, J_sub, J_mul, J_neg, J_lt, J_le, J_eq, J_nat, J_in, J_div]; congr 1; omega
        rw [em] at m5
        have F5 : Fm [25, 28] N M5 := by rw [m5]; exact (Fm.refl _ N).si (by decide)
        have en : J ((n + 1 : Nat) : Int) - (1 : Int32) = J n := by simp (disch := omega) only [J_lit, J_add, J_sub, J_mul, J_neg, J_lt, J_le, J_eq, J_nat, J_in, J_div]; congr 1; omega
        have g5 : ∀ s', s' < 3 → gI M5 28 s' = J (va_up q s (q s - 1) s' : Nat) := by
          intro s' hs'
          rw [m5, gI_sI]
          unfold va_up
          by_cases e : s' = s
          · rw [if_pos ⟨rfl, e⟩, if_pos e]
          · rw [if_neg (fun z => e z.2), if_neg e]
            exact gN s' hs'
        have r25 : gI M5 25 = gI N 25 := by rw [m5, fr_s (by omega)]
        have hsum : va_up q s (q s - 1) 0 + va_up q s (q s - 1) 1 + va_up q s (q s - 1) 2 = n := by
          unfold va_up
          rcases (by omega : s = 0 ∨ s = 1 ∨ s = 2) with rfl | rfl | rfl
          · simp; omega
          · simp; omega
          · simp; omega
        have go : ∀ ov' : Int, ov' = (if w = (s : Int) then ov else ov + 1) → AMv D (d + n + 1) mX1_placeNext [.ref 25, .int (J n), .int (J s), .int (J ov')] M5 (fun M10 => ∀ M16 : Mm, M16 = sI M10 28 s (gI M10 28 s + (1 : Int32)) → ∀ x20 : Int32, x20 = J (s : Int) + (1 : Int32) → LX1_placeNext_36 D (d + n + 1) (J ((n + 1 : Nat) : Int)) (J w) (J ov) x20 M16 post) := by
          intro ov' eo
          have ob : -100 ≤ ov' ∧ ov' + n ≤ 100 := by rw [eo]; split <;> omega
          refine ih (by omega) M5 s ov' (va_up q s (q s - 1)) A' B' _ (hLN.of F5.1) hsum g5 (by rw [r25]; exact f4) (by rw [r25]; exact f5) hA' hB' (by omega) (by omega) ob.1 ob.2 (fun M10 F10 g10 h4 h5 hk10 M16 m16 x20 e20 => ?_)
          rw [e20, J_suc]
          have ev : va_up q s (q s - 1) s = q s - 1 := va_up_self _ _ _
          have es2 : gI M10 28 s + (1 : Int32) = J (q s : Nat) := by
            rw [g10 s hs, ev, J_suc]
            congr 2
            omega
          rw [es2] at m16
          have F16 : Fm [25, 28] N M16 := by rw [m16]; exact (F5.trans F10).si (by decide)
          have r16 : gI M16 25 = gI M10 25 := by rw [m16, fr_s (by omega)]
          have ht : ∀ f, hT f n w ov q s = hQ f n s ov' (va_up q s (q s - 1)) := fun f => by
            unfold hT
            rw [if_pos (by omega), ← eo]
          refine hk M16 F16 (fun s' hs' => ?_) (by rw [r16, h4, ht]) (by rw [r16, h5, ht]) (fun k k1 k2 => by rw [r16, hk10 k k1 k2, r25])
          rw [m16, gI_sI]
          by_cases e : s' = s
          · rw [if_pos ⟨rfl, e⟩, e]
          · rw [if_neg (fun z => e z.2), g10 s' hs']
            unfold va_up
            rw [if_neg e]
        have eo1 : J (ov : Int) + (1 : Int32) = J (ov + 1) := by simp (disch := omega) only [J_lit, J_add, J_sub, J_mul, J_neg, J_lt, J_le, J_eq, J_nat, J_in, J_div]
        rw [en, eo1]
        refine ⟨fun c2 => go (ov + 1) ?_, fun c2 => go ov ?_⟩
        · simp (disch := omega) only [J_lit, J_add, J_sub, J_mul, J_neg, J_lt, J_le, J_eq, J_nat, J_in, J_div] at c2
          rw [if_neg (fun z => c2 z.symm)]
        · simp (disch := omega) only [J_lit, J_add, J_sub, J_mul, J_neg, J_lt, J_le, J_eq, J_nat, J_in, J_div] at c2
          rw [if_pos c2.symm]
    refine rX1_placeNext D (d + n + 1) _ _ _ M _ hL ⟨fun _ => ?_, fun c => absurd (by simp (disch := omega) only [J_lit, J_add, J_sub, J_mul, J_neg, J_lt, J_le, J_eq, J_nat, J_in, J_div]; omega) c⟩
    have t0f := tle false 0
    have t0t := tle true 0
    have t1f := tle false 1
    have t1t := tle true 1
    refine st 0 A B M _ (by omega) (Fm.refl _ M) gq e4 e5 (by omega) (by omega) (fun N1 F1 g1 a1 b1 k1 => ?_)
    refine st 1 _ _ N1 _ (by omega) F1 g1 a1 b1 (by omega) (by omega) (fun N2 F2 g2 a2 b2 k2 => ?_)
    refine st 2 _ _ N2 _ (by omega) (F1.trans F2) g2 a2 b2 (by omega) (by omega) (fun N3 F3 g3 a3 b3 k3 => ?_)
    have FF : Fm [25, 28] M N3 := (F1.trans F2).trans F3
    refine rX1_placeNext_36 D (d + n + 1) _ _ _ _ N3 _ (hL.of FF.1) ⟨fun _ => ⟨rfl, FF.1, h N3 FF g3 ?_ ?_ (fun k h1 h2 => by rw [k3 k h1 h2, k2 k h1 h2, k1 k h1 h2])⟩, fun c => absurd (by decide) c⟩
    · rw [a3, hQ_s]
      congr 2
      omega
    · rw [b3, hQ_s]
      congr 2
      omega
theorem c_cDiv {M : Mm} {P : Int32 → Mm → Prop} {a b : Nat} (hL : Lay 25 29 M) (ha : a ≤ 1000000) (hb : b ≤ 1000000) (h : P (J ((Nat.gcd a b : Nat) : Int)) M) : AMi D d mX1_commonDivisor [.int (J a), .int (J b)] M P := by
  have rem : ∀ p q : Nat, p ≤ 1000000 → q ≤ 1000000 → J (p : Int) - J (p : Int) / J (q : Int) * J (q : Int) = J ((p % q : Nat) : Int) := by
    intro p q hp hq
    have e : J (p : Int) / J (q : Int) = J ((p / q : Nat) : Int) := by simp (disch := omega) only [J_lit, J_add, J_sub, J_mul, J_neg, J_lt, J_le, J_eq, J_nat, J_in, J_div]; congr 1
    rw [e, J_mul, J_sub]
    congr 1
    have h1 := Nat.div_add_mod p q
    have h2 : ((p / q : Nat) : Int) * (q : Int) = ((q * (p / q) : Nat) : Int) := by rw [Nat.mul_comm, Int.natCast_mul]
    rw [h2]
    omega
  have zero : ∀ (p i : Nat), i ≤ 50 → Nat.gcd p 0 = Nat.gcd a b → LX1_commonDivisor_2 D d (J p) (J ((0 : Nat) : Int)) (J i) M (fun r M1 => ∃ x, r = some (.int x) ∧ Sm M M1 ∧ P x M1) := by
    intro p i hi hg
    rw [Nat.gcd_zero_right] at hg
    have hh : ∃ x, some (Value.int (J (p : Int))) = some (.int x) ∧ Sm M M ∧ P x M := ⟨_, rfl, .refl M, by rw [hg]; exact h⟩
    exact rX1_commonDivisor_2 D d _ _ _ M _ hL ⟨fun _ => hh, fun _ => ⟨fun _ => hh, fun c => absurd rfl c⟩⟩
  have step : ∀ (p q i : Nat), i < 50 → q ≠ 0 → p ≤ 1000000 → q ≤ 1000000 → LX1_commonDivisor_2 D d (J q) (J ((p % q : Nat) : Int)) (J ((i + 1 : Nat) : Int)) M (fun r M1 => ∃ x, r = some (.int x) ∧ Sm M M1 ∧ P x M1) → LX1_commonDivisor_2 D d (J p) (J q) (J i) M (fun r M1 => ∃ x, r = some (.int x) ∧ Sm M M1 ∧ P x M1) := by
    intro p q i hi hq0 hp hq hk
    have hne : ¬ J (q : Int) = 0 := by
      intro z
      simp (disch := omega) only [J_lit, J_add, J_sub, J_mul, J_neg, J_lt, J_le, J_eq, J_nat, J_in, J_div] at z
      omega
    refine rX1_commonDivisor_2 D d _ _ _ M _ hL ⟨fun c => ?_, fun _ => ⟨fun c => absurd c hne, fun _ => ⟨hne, fun x4 e4 x5 e5 => ?_⟩⟩⟩
    · exfalso
      simp (disch := omega) only [J_lit, J_add, J_sub, J_mul, J_neg, J_lt, J_le, J_eq, J_nat, J_in, J_div] at c
      omega
    · rw [e4, rem p q hp hq, e5, J_suc]
      exact hk
  have gs : ∀ p q : Nat, Nat.gcd q (p % q) = Nat.gcd p q := fun p q => by rw [Nat.gcd_comm, ← Nat.gcd_rec, Nat.gcd_comm]
  have hpos : ∀ k, 0 < fb (k + 1) ∧ 0 ≤ fb k := by
    intro k
    induction k with
    | zero => exact ⟨by decide, by decide⟩
    | succ k ihk =>
      rw [fb_2]
      exact ⟨by omega, Nat.zero_le _⟩
  have lp : ∀ n, (∀ (p q i : Nat), i + n = 50 → p ≤ 1000000 → q ≤ 1000000 → q < fb n → Nat.gcd p q = Nat.gcd a b → LX1_commonDivisor_2 D d (J p) (J q) (J i) M (fun r M1 => ∃ x, r = some (.int x) ∧ Sm M M1 ∧ P x M1)) ∧ (∀ (p q i : Nat), i + (n + 1) = 50 → p ≤ 1000000 → q ≤ 1000000 → q < fb (n + 1) → Nat.gcd p q = Nat.gcd a b → LX1_commonDivisor_2 D d (J p) (J q) (J i) M (fun r M1 => ∃ x, r = some (.int x) ∧ Sm M M1 ∧ P x M1)) := by
    intro n
    induction n with
    | zero =>
      refine ⟨fun p q i hi hp hq hf _ => absurd hf (Nat.not_lt_zero q), fun p q i hi hp hq hf hg => ?_⟩
      have hq1 : q < 1 := hf
      obtain rfl : q = 0 := by omega
      exact zero p i (by omega) hg
    | succ n ih =>
      refine ⟨ih.2, fun p q i hi hp hq hf hg => ?_⟩
      by_cases e : q = 0
      · subst e
        exact zero p i (by omega) hg
      · have hm : p % q < q := Nat.mod_lt _ (by omega)
        refine step p q i (by omega) e hp hq ?_
        by_cases hr : p % q < fb (n + 1)
        · exact ih.2 q (p % q) (i + 1) (by omega) hq (by omega) hr (by rw [gs]; exact hg)
        · rw [fb_2] at hf
          have hr0 : p % q ≠ 0 := by
            intro hz
            rw [hz] at hr
            exact hr (hpos n).1
          have hm2 : q % (p % q) < p % q := Nat.mod_lt _ (by omega)
          have hm3 : q % (p % q) + p % q ≤ q := by
            have h1 := Nat.div_add_mod q (p % q)
            have h2 : 1 ≤ q / (p % q) := (Nat.one_le_div_iff (by omega)).mpr (by omega)
            have h3 := Nat.mul_le_mul_left (p % q) h2
            omega
          refine step q (p % q) (i + 1) (by omega) hr0 hq (by omega) ?_
          exact ih.1 (p % q) (q % (p % q)) (i + 1 + 1) (by omega) (by omega) (by omega) (by omega) (by rw [gs, gs]; exact hg)
  have hfb : 1000000 < fb 50 := by decide
  exact rX1_commonDivisor D d _ _ M _ hL ((lp 50).1 a b 0 (by omega) ha hb (by omega) rfl)
end
