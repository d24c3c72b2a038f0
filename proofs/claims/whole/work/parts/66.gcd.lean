/-! lowest terms -/
def fbp : Nat → Nat × Nat
  | 0 => (0, 1)
  | n + 1 => ((fbp n).2, (fbp n).1 + (fbp n).2)
def fb (n : Nat) : Nat := (fbp n).1
theorem fb_2 (n : Nat) : fb (n + 2) = fb n + fb (n + 1) := rfl
/-- rows of ints written, and the longs of the class's duel and of the reference -/
def Fl (L : List Nat) (M M' : Mm) : Prop := Sm M M' ∧ gP M' = gP M ∧ (∀ a, a ≠ 13 → a ≠ 62 → gL M' a = gL M a) ∧ ∀ x, L.contains x = false → gI M' x = gI M x
theorem Fm.l {L : List Nat} {M M' : Mm} (h : Fm L M M') : Fl L M M' := ⟨h.1, h.2.1, fun a _ _ => by rw [h.2.2.1], h.2.2.2⟩
theorem Fl.refl (L : List Nat) (M : Mm) : Fl L M M := (Fm.refl L M).l
theorem Fl.trans {L : List Nat} {M M1 M2 : Mm} (h : Fl L M M1) (g : Fl L M1 M2) : Fl L M M2 := ⟨h.1.trans g.1, g.2.1.trans h.2.1, fun a a1 a2 => (g.2.2.1 a a1 a2).trans (h.2.2.1 a a1 a2), fun x hx => (g.2.2.2 x hx).trans (h.2.2.2 x hx)⟩
theorem Fl.sub {L L' : List Nat} {M M' : Mm} (h : Fl L M M') (hL : L.all (fun x => L'.contains x) = true) : Fl L' M M' := by
  refine ⟨h.1, h.2.1, h.2.2.1, fun x hx => h.2.2.2 x ?_⟩
  cases e : L.contains x with
  | false => rfl
  | true =>
    have h1 := List.all_eq_true.mp hL x (List.contains_iff_mem.mp e)
    rw [hx] at h1
    cases h1
theorem Fl.sl {L : List Nat} {M M1 : Mm} (h : Fl L M M1) {a k : Nat} {x : Int64} (ha : a = 13 ∨ a = 62) : Fl L M (sL M1 a k x) := ⟨h.1.l, h.2.1, fun b b1 b2 => (fr_l (by omega)).trans (h.2.2.1 b b1 b2), h.2.2.2⟩
theorem Fl.si {L : List Nat} {M M1 : Mm} (h : Fl L M M1) {a k : Nat} {v : Int32} (ha : L.contains a = true) : Fl L M (sI M1 a k v) := ⟨h.1.i, h.2.1, h.2.2.1, fun x hx => (fr_s (fun e => by rw [e, ha] at hx; cases hx)).trans (h.2.2.2 x hx)⟩
theorem Fl.hi {L : List Nat} {M M' : Mm} (h : Fl L M M') (hR : L.all (fun x => decide (x < 98)) = true) (a : Nat) (ha : 98 ≤ a) : gI M' a = gI M a := by
  refine h.2.2.2 a ?_
  cases e : L.contains a with
  | false => rfl
  | true =>
    have h1 := List.all_eq_true.mp hR a (List.contains_iff_mem.mp e)
    have h2 := of_decide_eq_true h1
    omega
theorem Pq.fl {M M' : Mm} {q k v j : Nat} {R : List Cls} {L : List Nat} (h : Pq M q k v j R) (F : Fl L M M') (hL : okRows L = true) : Pq M' q k v j R := by
  obtain ⟨h1, h2, h3, h4, h5, h6, h7, h8, h9, h10⟩ := h
  have no : ∀ x, ¬ (12 ≤ x ∧ x < 98) → L.contains x = false := by
    intro x hx
    cases e : L.contains x with
    | false => rfl
    | true =>
      have := List.all_eq_true.mp hL x (List.contains_iff_mem.mp e)
      exact absurd (of_decide_eq_true this) hx
  refine ⟨h1, h2, h3, h4, h5.ofx F.1.x, ?_, h7, h8, h9, fun i hi => ?_⟩
  · rw [F.2.2.2 q (no q (by omega))]
    exact h6
  · rw [F.2.2.2 (5 + j) (no _ (by omega))]
    exact h10 i hi
theorem Du.fl {M M' : Mm} {T r0 r1 : Nat → Int} {L : List Nat} (h : Du M T r0 r1) (F : Fl L M M') (h14 : L.contains 14 = false) (h63 : L.contains 63 = false) (h16 : L.contains 16 = false) (h17 : L.contains 17 = false) : Du M' T r0 r1 := by
  obtain ⟨hL, hb, t1, t2, a0, a1, x0, x1, u0, u1⟩ := h
  refine ⟨hL.of F.1, hb, fun i hi => ?_, fun i hi => ?_, a0, a1, fun s hs => ?_, fun s hs => ?_, u0, u1⟩
  · rw [F.2.2.2 14 h14]; exact t1 i hi
  · rw [F.2.2.2 63 h63]; exact t2 i hi
  · rw [F.2.2.2 16 h16]; exact x0 s hs
  · rw [F.2.2.2 17 h17]; exact x1 s hs
theorem Sc.fl {M M' : Mm} {L : List Nat} (F : Fl L M M') (h1 : relR.all (fun x => !L.contains x) = true) (h2 : relS.all (fun q => q.1 == 62 || !L.contains q.1) = true) (h62 : ∀ k, k < 23 ∨ 32 ≤ k → gI M' 62 k = gI M 62 k) (h3 : L.all (fun x => decide (x < 98)) = true) : Sc M M' := by
  refine ⟨F.1.x, by rw [F.2.1], by rw [F.2.1], by rw [F.2.1], fun a ha => F.2.2.2 a ?_, fun q hq => ?_, fun a ha _ => F.hi h3 a ha, fun a ha => F.2.2.1 a (by omega) (by omega)⟩
  · have := List.all_eq_true.mp h1 a ha
    simpa using this
  · have := List.all_eq_true.mp h2 q hq
    by_cases e : q.1 = 62
    · have hk := (by decide : ∀ q ∈ relS, q.1 = 62 → q.2 < 23 ∨ 32 ≤ q.2) q hq e
      rw [e]
      exact h62 _ hk
    · have h4 : L.contains q.1 = false := by
        simp only [Bool.or_eq_true, beq_iff_eq] at this
        rcases this with h | h
        · exact absurd h e
        · simpa using h
      rw [F.2.2.2 q.1 h4]
/-- a long's remainder -/
theorem K_rem {p q : Nat} (hp : p < 4611686018427387904) (hq : q < 4611686018427387904) : K (p : Int) - K (p : Int) / K (q : Int) * K (q : Int) = K ((p % q : Nat) : Int) := by
  have e : K (p : Int) / K (q : Int) = K ((p / q : Nat) : Int) := by
    rw [K_div (by omega) (by omega) (by omega) (by omega)]
    congr 1
  rw [e, K_mul, K_sub]
  congr 1
  have h1 := Nat.div_add_mod p q
  have h2 : ((p / q : Nat) : Int) * (q : Int) = ((q * (p / q) : Nat) : Int) := by rw [Nat.mul_comm, Int.natCast_mul]
  rw [h2]
  omega
theorem K_ne0 {q : Nat} (hq : q < 4611686018427387904) : (K (q : Int) = 0) ↔ q = 0 := by
  constructor
  · intro h
    simp (disch := omega) only [J_lit, J_add, J_sub, J_mul, J_neg, J_lt, J_le, J_eq, J_nat, J_in, J_div, K_lit, K_add, K_sub, K_mul, K_neg, K_lt, K_le, K_eq, J_i2l, K_l2i, K_div] at h
    omega
  · intro h
    subst h
    rfl
section
variable {D : GD} {d : Nat} {M : Mm}
theorem l_divisor {post : Option Value → Mm → Prop} (hL : Lay 62 98 M) : ∀ (n p q : Nat), q ≤ n → p < 4611686018427387904 → q < 4611686018427387904 → post (some (.long (K ((Nat.gcd p q : Nat) : Int)))) M → LX12_divisor_17 D d (K p) (K q) M post := by
  intro n
  induction n with
  | zero =>
    intro p q hn hp hq h
    obtain rfl : q = 0 := by omega
    refine rX12_divisor_17 D d _ _ M post hL ⟨fun _ => ?_, fun c => ?_⟩
    · rw [Nat.gcd_zero_right] at h
      exact h
    · exact absurd (by rw [lg_cmp_eq]; rfl) c
  | succ n ih =>
    intro p q hn hp hq h
    by_cases e : q = 0
    · subst e
      refine rX12_divisor_17 D d _ _ M post hL ⟨fun _ => ?_, fun c => ?_⟩
      · rw [Nat.gcd_zero_right] at h
        exact h
      · exact absurd (by rw [lg_cmp_eq]; rfl) c
    · have hm : p % q < q := Nat.mod_lt _ (by omega)
      refine rX12_divisor_17 D d _ _ M post hL ⟨fun c => ?_, fun _ => ⟨fun c => e ((K_ne0 hq).mp c), fun x3 e3 => ?_⟩⟩
      · rw [lg_cmp_eq] at c
        exact absurd ((K_ne0 hq).mp c) e
      · rw [e3, K_rem hp hq]
        refine ih q (p % q) (by omega) hq (by omega) ?_
        rw [Nat.gcd_comm, ← Nat.gcd_rec, Nat.gcd_comm]
        exact h
theorem c_divisor {a : Int} {q : Nat} {P : Int64 → Mm → Prop} (hL : Lay 62 98 M) (ha : -4611686018427387904 < a ∧ a < 4611686018427387904) (hq : q < 4611686018427387904) (h : P (K ((Nat.gcd a.natAbs q : Nat) : Int)) M) : AMl D d mX12_divisor [.ref 62, .long (K a), .long (K q)] M P := by
  refine rX12_divisor D d _ _ M _ hL ⟨fun c => ?_, fun c x2 e2 => ?_⟩
  · rw [lg_cmp_ge] at c
    simp (disch := omega) only [J_lit, J_add, J_sub, J_mul, J_neg, J_lt, J_le, J_eq, J_nat, J_in, J_div, K_lit, K_add, K_sub, K_mul, K_neg, K_lt, K_le, K_eq, J_i2l, K_l2i, K_div] at c
    have e : K a = K ((a.natAbs : Nat) : Int) := by congr 1; omega
    rw [e]
    exact l_divisor hL q _ q (Nat.le_refl q) (by omega) hq ⟨_, rfl, .refl M, h⟩
  · rw [lg_cmp_ge] at c
    simp (disch := omega) only [J_lit, J_add, J_sub, J_mul, J_neg, J_lt, J_le, J_eq, J_nat, J_in, J_div, K_lit, K_add, K_sub, K_mul, K_neg, K_lt, K_le, K_eq, J_i2l, K_l2i, K_div] at c
    have e : x2 = K ((a.natAbs : Nat) : Int) := by rw [e2, K_neg]; congr 1; omega
    rw [e]
    exact l_divisor hL q _ q (Nat.le_refl q) (by omega) hq ⟨_, rfl, .refl M, h⟩
theorem gcd_b {p q : Nat} (hq : 0 < q) : 0 < Nat.gcd p q ∧ Nat.gcd p q ≤ q := ⟨Nat.gcd_pos_of_pos_right p hq, Nat.gcd_le_right p hq⟩
/-- a fraction in lowest terms -/
def loA (a : Int) (b : Nat) : Int := a.tdiv ((Nat.gcd a.natAbs b : Nat) : Int)
def loB (a : Int) (b : Nat) : Int := (b : Int).tdiv ((Nat.gcd a.natAbs b : Nat) : Int)
theorem c_lower {a : Int} {b : Nat} {P : Mm → Prop} (hL : Lay 62 98 M) (e0 : gL M 62 30 = K a) (e1 : gL M 62 31 = K b) (ha : -4611686018427387904 < a ∧ a < 4611686018427387904) (hb0 : 0 < b) (hb : b < 4611686018427387904) (h : ∀ M', Fl [] M M' → gI M' = gI M → gL M' 62 30 = K (loA a b) → gL M' 62 31 = K (loB a b) → P M') : AMv D (d + 1) mX12_lower [.ref 62] M P := by
  have g := gcd_b (p := a.natAbs) hb0
  refine rX12_lower D d M _ hL ?_
  rw [e0, e1]
  refine c_divisor hL ha hb ⟨?_, fun M8 e8 => ⟨?_, fun M13 e13 => ?_⟩⟩
  · intro c
    have := (K_ne0 (by omega)).mp c
    omega
  · intro c
    have := (K_ne0 (by omega)).mp c
    omega
  · have f31 : gL M8 62 31 = K b := by rw [e8]; exact e1
    rw [f31] at e13
    rw [e0] at e8
    have F : Fl [] M M13 := by rw [e13, e8]; exact ((Fl.refl _ M).sl (by omega)).sl (by omega)
    refine ⟨rfl, F.1, h M13 F (by rw [e13, e8]; rfl) ?_ ?_⟩
    · rw [e13, gL_sL, if_neg (by omega), e8, gL_sL, if_pos ⟨rfl, rfl⟩, K_div (by omega) (by omega) (by omega) (by omega)]
      rfl
    · rw [e13, gL_sL, if_pos ⟨rfl, rfl⟩, K_div (by omega) (by omega) (by omega) (by omega)]
      rfl
/-- the class's Euclid: a hundred steps are enough -/
theorem l_reduce {a : Int} {b : Nat} {post : Option Value → Mm → Prop} (hL : Lay 13 25 M) (e0 : gL M 13 6 = K a) (e1 : gL M 13 7 = K b) (ha : -4611686018427387904 < a ∧ a < 4611686018427387904) (hb0 : 0 < b) (hb : b < 4611686018427387904) (h : ∀ M', Fl [] M M' → gI M' = gI M → gL M' 13 6 = K (loA a b) → gL M' 13 7 = K (loB a b) → post none M') : ∀ n, (∀ (p q i : Nat), i + n = 100 → p < 4611686018427387904 → q < 4611686018427387904 → q < fb n → Nat.gcd p q = Nat.gcd a.natAbs b → LX0_reduce_16 D d (K p) (K q) (J i) M post) ∧ (∀ (p q i : Nat), i + (n + 1) = 100 → p < 4611686018427387904 → q < 4611686018427387904 → q < fb (n + 1) → Nat.gcd p q = Nat.gcd a.natAbs b → LX0_reduce_16 D d (K p) (K q) (J i) M post) := by
  have g := gcd_b (p := a.natAbs) hb0
  -- the end
  have fin : ∀ G : Nat, G = Nat.gcd a.natAbs b → (((lg_cmp (K (G : Int)) (1 : Int64)) ≤ 0 → post none M) ∧ (¬ (lg_cmp (K (G : Int)) (1 : Int64)) ≤ 0 → (¬ K (G : Int) = 0) ∧ ∀ M4 : Mm, M4 = sL M 13 6 ((gL M 13 6) / K (G : Int)) → (¬ K (G : Int) = 0) ∧ ∀ M9 : Mm, M9 = sL M4 13 7 ((gL M4 13 7) / K (G : Int)) → post none M9)) := by
    intro G hG
    rw [lg_cmp_le]
    have hne : ¬ K (G : Int) = 0 := fun c => by
      have := (K_ne0 (q := G) (by omega)).mp c
      omega
    refine ⟨fun c => ?_, fun c => ⟨hne, fun M4 e4 => ⟨hne, fun M9 e9 => ?_⟩⟩⟩
    · simp (disch := omega) only [J_lit, J_add, J_sub, J_mul, J_neg, J_lt, J_le, J_eq, J_nat, J_in, J_div, K_lit, K_add, K_sub, K_mul, K_neg, K_lt, K_le, K_eq, J_i2l, K_l2i, K_div] at c
      have g1 : Nat.gcd a.natAbs b = 1 := by omega
      refine h M (Fl.refl _ M) rfl ?_ ?_
      · rw [e0]
        unfold loA
        rw [g1]
        congr 1
        exact (Int.tdiv_one a).symm
      · rw [e1]
        unfold loB
        rw [g1]
        congr 1
        exact (Int.tdiv_one _).symm
    · have f7 : gL M4 13 7 = K b := by rw [e4]; exact e1
      rw [f7] at e9
      rw [e0] at e4
      have F : Fl [] M M9 := by rw [e9, e4]; exact ((Fl.refl _ M).sl (by omega)).sl (by omega)
      refine h M9 F (by rw [e9, e4]; rfl) ?_ ?_
      · rw [e9, gL_sL, if_neg (by omega), e4, gL_sL, if_pos ⟨rfl, rfl⟩, K_div (by omega) (by omega) (by omega) (by omega), hG]
        rfl
      · rw [e9, gL_sL, if_pos ⟨rfl, rfl⟩, K_div (by omega) (by omega) (by omega) (by omega), hG]
        rfl
  have zero : ∀ (p i : Nat), i ≤ 100 → Nat.gcd p 0 = Nat.gcd a.natAbs b → LX0_reduce_16 D d (K p) (K ((0 : Nat) : Int)) (J i) M post := by
    intro p i hi hg
    rw [Nat.gcd_zero_right] at hg
    refine rX0_reduce_16 D d _ _ _ M post hL ⟨fun _ => fin p hg, fun _ => ⟨fun _ => fin p hg, fun c => ?_⟩⟩
    exact absurd (by rw [lg_cmp_eq]; rfl) c
  have step : ∀ (p q i : Nat), i < 100 → q ≠ 0 → p < 4611686018427387904 → q < 4611686018427387904 → LX0_reduce_16 D d (K q) (K ((p % q : Nat) : Int)) (J ((i + 1 : Nat) : Int)) M post → LX0_reduce_16 D d (K p) (K q) (J i) M post := by
    intro p q i hi hq0 hp hq hk
    refine rX0_reduce_16 D d _ _ _ M post hL ⟨fun c => ?_, fun _ => ⟨fun c => ?_, fun _ => ⟨fun c => hq0 ((K_ne0 hq).mp c), fun x26 e26 x27 e27 => ?_⟩⟩⟩
    · exfalso
      simp (disch := omega) only [J_lit, J_add, J_sub, J_mul, J_neg, J_lt, J_le, J_eq, J_nat, J_in, J_div] at c
      omega
    · rw [lg_cmp_eq] at c
      exact absurd ((K_ne0 hq).mp c) hq0
    · rw [e26, K_rem hp hq, e27, J_suc]
      exact hk
  have gs : ∀ p q : Nat, Nat.gcd q (p % q) = Nat.gcd p q := fun p q => by rw [Nat.gcd_comm, ← Nat.gcd_rec, Nat.gcd_comm]
  intro n
  induction n with
  | zero =>
    refine ⟨fun p q i hi hp hq hf _ => absurd hf (Nat.not_lt_zero q), fun p q i hi hp hq hf hg => ?_⟩
    have hq1 : q < 1 := hf
    obtain rfl : q = 0 := by omega
    exact zero p i (by omega) hg
  | succ n ih =>
    refine ⟨ih.2, fun p q i hi hp hq hf hg => ?_⟩
    by_cases e : q = 0
    · subst e
      exact zero p i (by omega) hg
    · have hm : p % q < q := Nat.mod_lt _ (by omega)
      refine step p q i (by omega) e hp hq ?_
      by_cases hr : p % q < fb (n + 1)
      · exact ih.2 q (p % q) (i + 1) (by omega) hq (by omega) hr (by rw [gs]; exact hg)
      · rw [fb_2] at hf
        have hr0 : p % q ≠ 0 := by
          intro hz
          rw [hz] at hr
          have hpos : ∀ k, 0 < fb (k + 1) ∧ 0 ≤ fb k := by
            intro k
            induction k with
            | zero => exact ⟨by decide, by decide⟩
            | succ k ihk =>
              rw [fb_2]
              exact ⟨by omega, Nat.zero_le _⟩
          exact hr (hpos n).1
        have hm2 : q % (p % q) < p % q := Nat.mod_lt _ (by omega)
        have hm3 : q % (p % q) + p % q ≤ q := by
          have h1 := Nat.div_add_mod q (p % q)
          have h2 : 1 ≤ q / (p % q) := (Nat.one_le_div_iff (by omega)).mpr (by omega)
          have h3 := Nat.mul_le_mul_left (p % q) h2
          omega
        refine step q (p % q) (i + 1) (by omega) hr0 hq (by omega) ?_
        exact ih.1 (p % q) (q % (p % q)) (i + 1 + 1) (by omega) (by omega) (by omega) (by omega) (by rw [gs, gs]; exact hg)
theorem c_reduce {a : Int} {b : Nat} {P : Mm → Prop} (hL : Lay 13 25 M) (e0 : gL M 13 6 = K a) (e1 : gL M 13 7 = K b) (ha : -4611686018427387904 < a ∧ a < 4611686018427387904) (hb0 : 0 < b) (hb : b < 4611686018427387904) (h : ∀ M', Fl [] M M' → gI M' = gI M → gL M' 13 6 = K (loA a b) → gL M' 13 7 = K (loB a b) → P M') : AMv D (d + 1) mX0_reduce [.ref 13] M P := by
  refine rX0_reduce D d M _ hL (fun x1 q1 x2 q2 => ?_)
  rw [e0] at q1
  rw [e1] at q2
  have ex : x1 = K ((a.natAbs : Nat) : Int) := by
    rw [q1]
    by_cases c : 0 < K a
    · rw [if_pos c]
      simp (disch := omega) only [J_lit, J_add, J_sub, J_mul, J_neg, J_lt, J_le, J_eq, J_nat, J_in, J_div, K_lit, K_add, K_sub, K_mul, K_neg, K_lt, K_le, K_eq, J_i2l, K_l2i, K_div] at c
      congr 1
      omega
    · rw [if_neg c, K_neg]
      simp (disch := omega) only [J_lit, J_add, J_sub, J_mul, J_neg, J_lt, J_le, J_eq, J_nat, J_in, J_div, K_lit, K_add, K_sub, K_mul, K_neg, K_lt, K_le, K_eq, J_i2l, K_l2i, K_div] at c
      congr 1
      omega
  rw [ex, q2]
  have hfb : 4611686018427387904 < fb 100 := by decide
  exact (l_reduce hL e0 e1 ha hb0 hb (fun M' F g0 l0 l1 => ⟨rfl, F.1, h M' F g0 l0 l1⟩) 100).1 _ b 0 (by omega) (by omega) hb (by omega) rfl
end
