/-! LIKELY: what is counted -/
/-- orders of so many sides: all of them (not f), or those with RUNS enough -/
def hC (f : Bool) : Nat → Int → Int → Nat → Nat → Nat → Nat
  | 0, _, ov, _, _, _ => if f = false ∨ 0 ≤ ov then 1 else 0
  | n + 1, w, ov, l, m, r => (if 0 < l then hC f n 0 (if w = 0 then ov else ov + 1) (l - 1) m r else 0) + (if 0 < m then hC f n 1 (if w = 1 then ov else ov + 1) l (m - 1) r else 0) + (if 0 < r then hC f n 2 (if w = 2 then ov else ov + 1) l m (r - 1) else 0)
theorem hC_le (f : Bool) : ∀ n w ov l m r, hC f n w ov l m r ≤ 3 ^ n := by
  intro n
  induction n with
  | zero =>
    intro w ov l m r
    unfold hC
    split <;> decide
  | succ n ih =>
    intro w ov l m r
    have h1 := ih 0 (if w = 0 then ov else ov + 1) (l - 1) m r
    have h2 := ih 1 (if w = 1 then ov else ov + 1) l (m - 1) r
    have h3 := ih 2 (if w = 2 then ov else ov + 1) l m (r - 1)
    have e : 3 ^ (n + 1) = 3 * 3 ^ n := by rw [Nat.pow_succ, Nat.mul_comm]
    unfold hC
    generalize hC f n 0 (if w = 0 then ov else ov + 1) (l - 1) m r = x at *
    generalize hC f n 1 (if w = 1 then ov else ov + 1) l (m - 1) r = y at *
    generalize hC f n 2 (if w = 2 then ov else ov + 1) l m (r - 1) = z at *
    split <;> split <;> split <;> omega
theorem hC_pos : ∀ n w ov l m r, l + m + r = n → 0 < hC false n w ov l m r := by
  intro n
  induction n with
  | zero =>
    intro w ov l m r _
    unfold hC
    rw [if_pos (Or.inl rfl)]
    omega
  | succ n ih =>
    intro w ov l m r h
    unfold hC
    by_cases h1 : 0 < l
    · have := ih 0 (if w = 0 then ov else ov + 1) (l - 1) m r (by omega)
      rw [if_pos h1]
      omega
    · by_cases h2 : 0 < m
      · have := ih 1 (if w = 1 then ov else ov + 1) l (m - 1) r (by omega)
        rw [if_pos h2]
        omega
      · have h3 : 0 < r := by omega
        have := ih 2 (if w = 2 then ov else ov + 1) l m (r - 1) (by omega)
        rw [if_pos h3]
        omega
theorem p9 {n : Nat} (h : n ≤ 9) : 3 ^ n ≤ 19683 := by
  have := Nat.pow_le_pow_right (n := 3) (by omega) h
  have e : 3 ^ 9 = 19683 := by decide
  omega
/-- how many below N are so -/
def cnt (p : Nat → Bool) : Nat → Nat
  | 0 => 0
  | n + 1 => cnt p n + (if p n = true then 1 else 0)
theorem cnt3 (p : Nat → Bool) : ∀ n, cnt p (3 * n) = cnt (fun c => p (3 * c)) n + cnt (fun c => p (3 * c + 1)) n + cnt (fun c => p (3 * c + 2)) n := by
  intro n
  induction n with
  | zero => rfl
  | succ n ih =>
    have cs : ∀ (q : Nat → Bool) (k : Nat), cnt q (k + 1) = cnt q k + (if q k = true then 1 else 0) := fun _ _ => rfl
    have e : 3 * (n + 1) = 3 * n + 1 + 1 + 1 := by omega
    have e2 : 3 * n + 1 + 1 = 3 * n + 2 := rfl
    rw [e, cs p (3 * n + 1 + 1), cs p (3 * n + 1), cs p (3 * n), ih, cs _ n, cs _ n, cs _ n, e2]
    omega
theorem cnt_le (p : Nat → Bool) : ∀ n, cnt p n ≤ n := by
  intro n
  induction n with
  | zero => exact Nat.le_refl 0
  | succ n ih =>
    unfold cnt
    split <;> omega
theorem cnt_ext {p q : Nat → Bool} : ∀ n, (∀ c, c < n → p c = q c) → cnt p n = cnt q n := by
  intro n
  induction n with
  | zero => intro _; rfl
  | succ n ih =>
    intro h
    unfold cnt
    rw [ih (fun c hc => h c (by omega)), h n (by omega)]
theorem cnt_0 {p : Nat → Bool} : ∀ n, (∀ c, c < n → p c = false) → cnt p n = 0 := by
  intro n
  induction n with
  | zero => intro _; rfl
  | succ n ih =>
    intro h
    unfold cnt
    rw [ih (fun c hc => h c (by omega)), h n (by omega)]
    rfl
/-- of a code's lowest digits: lefts, middles, RUNS -/
def cL : Nat → Nat → Nat
  | 0, _ => 0
  | n + 1, c => (if c % 3 = 0 then 1 else 0) + cL n (c / 3)
def cM : Nat → Nat → Nat
  | 0, _ => 0
  | n + 1, c => (if c % 3 = 1 then 1 else 0) + cM n (c / 3)
def cR : Nat → Int → Nat → Nat
  | 0, _, _ => 0
  | n + 1, w, c => (if ((c % 3 : Nat) : Int) = w then 0 else 1) + cR n ((c % 3 : Nat) : Int) (c / 3)
theorem cLM_le : ∀ n c, cL n c + cM n c ≤ n := by
  intro n
  induction n with
  | zero => intro c; exact Nat.le_refl 0
  | succ n ih =>
    intro c
    have := ih (c / 3)
    unfold cL cM
    split <;> split <;> omega
theorem cR_le : ∀ n w c, cR n w c ≤ n := by
  intro n
  induction n with
  | zero => intro w c; exact Nat.le_refl 0
  | succ n ih =>
    intro w c
    have := ih ((c % 3 : Nat) : Int) (c / 3)
    unfold cR
    split <;> omega
def good (f : Bool) (n : Nat) (w ov : Int) (l m : Nat) (c : Nat) : Bool := decide (cL n c = l ∧ cM n c = m ∧ (f = false ∨ 0 ≤ ov + (cR n w c : Int)))
theorem cnt_hC (f : Bool) : ∀ n w ov l m, cnt (good f n w ov l m) (3 ^ n) = if l + m ≤ n then hC f n w ov l m (n - l - m) else 0 := by
  intro n
  induction n with
  | zero =>
    intro w ov l m
    have e : (3 : Nat) ^ 0 = 0 + 1 := rfl
    rw [e]
    unfold cnt cnt
    by_cases h : l + m ≤ 0
    · have hl : l = 0 := by omega
      have hm : m = 0 := by omega
      subst hl hm
      rw [if_pos h]
      unfold hC good cL cM cR
      by_cases q : f = false ∨ 0 ≤ ov
      · rw [if_pos q, if_pos (decide_eq_true ⟨rfl, rfl, q.imp id (fun z => by simpa using z)⟩)]
      · rw [if_neg q, if_neg]
        intro z
        have := (of_decide_eq_true z).2.2
        exact q (this.imp id (fun z => by simpa using z))
    · rw [if_neg h, if_neg]
      intro z
      have := of_decide_eq_true z
      have h1 : (0 : Nat) = l := this.1
      have h2 : (0 : Nat) = m := this.2.1
      omega
  | succ n ih =>
    intro w ov l m
    have e : 3 ^ (n + 1) = 3 * 3 ^ n := by rw [Nat.pow_succ, Nat.mul_comm]
    rw [e, cnt3]
    -- by the lowest digit
    have d0 : cnt (fun c => good f (n + 1) w ov l m (3 * c)) (3 ^ n) = if 0 < l then cnt (good f n 0 (if w = 0 then ov else ov + 1) (l - 1) m) (3 ^ n) else 0 := by
      by_cases hl : 0 < l
      · rw [if_pos hl]
        refine cnt_ext _ (fun c _ => ?_)
        have a1 : 3 * c % 3 = 0 := by omega
        have a2 : 3 * c / 3 = c := by omega
        unfold good
        conv => lhs; unfold cL cM cR
        rw [a1, a2]
        congr 1
        apply propext
        by_cases hw : w = 0
        · simp [hw]
          omega
        · have hw' : ¬ (0 : Int) = w := fun z => hw z.symm
          cases f <;> simp [hw, hw'] <;> omega
      · rw [if_neg hl]
        refine cnt_0 _ (fun c _ => ?_)
        have a1 : 3 * c % 3 = 0 := by omega
        unfold good
        apply decide_eq_false
        intro z
        have := z.1
        unfold cL at this
        rw [a1, if_pos rfl] at this
        omega
    have d1 : cnt (fun c => good f (n + 1) w ov l m (3 * c + 1)) (3 ^ n) = if 0 < m then cnt (good f n 1 (if w = 1 then ov else ov + 1) l (m - 1)) (3 ^ n) else 0 := by
      by_cases hl : 0 < m
      · rw [if_pos hl]
        refine cnt_ext _ (fun c _ => ?_)
        have a1 : (3 * c + 1) % 3 = 1 := by omega
        have a2 : (3 * c + 1) / 3 = c := by omega
        unfold good
        conv => lhs; unfold cL cM cR
        rw [a1, a2]
        congr 1
        apply propext
        by_cases hw : w = 1
        · simp [hw]
          omega
        · have hw' : ¬ (1 : Int) = w := fun z => hw z.symm
          cases f <;> simp [hw, hw'] <;> omega
      · rw [if_neg hl]
        refine cnt_0 _ (fun c _ => ?_)
        have a1 : (3 * c + 1) % 3 = 1 := by omega
        unfold good
        apply decide_eq_false
        intro z
        have := z.2.1
        unfold cM at this
        rw [a1, if_pos rfl] at this
        omega
    have d2 : cnt (fun c => good f (n + 1) w ov l m (3 * c + 2)) (3 ^ n) = cnt (good f n 2 (if w = 2 then ov else ov + 1) l m) (3 ^ n) := by
      refine cnt_ext _ (fun c _ => ?_)
      have a1 : (3 * c + 2) % 3 = 2 := by omega
      have a2 : (3 * c + 2) / 3 = c := by omega
      unfold good
      conv => lhs; unfold cL cM cR
      rw [a1, a2]
      congr 1
      apply propext
      by_cases hw : w = 2
      · simp [hw]
      · have hw' : ¬ (2 : Int) = w := fun z => hw z.symm
        cases f <;> simp [hw, hw'] <;> omega
    rw [d0, d1, d2, ih, ih, ih]
    by_cases h : l + m ≤ n + 1
    · rw [if_pos h]
      conv => rhs; unfold hC
      by_cases h3 : l + m ≤ n
      · have e3 : n + 1 - l - m - 1 = n - l - m := by omega
        have e4 : 0 < n + 1 - l - m := by omega
        rw [if_pos h3, if_pos e4, e3]
        congr 1
        congr 1
        · by_cases q : 0 < l
          · have e5 : n - (l - 1) - m = n + 1 - l - m := by omega
            rw [if_pos q, if_pos q, if_pos (by omega), e5]
          · rw [if_neg q, if_neg q]
        · by_cases q : 0 < m
          · have e5 : n - l - (m - 1) = n + 1 - l - m := by omega
            rw [if_pos q, if_pos q, if_pos (by omega), e5]
          · rw [if_neg q, if_neg q]
      · have e4 : ¬ 0 < n + 1 - l - m := by omega
        rw [if_neg h3, if_neg e4]
        congr 1
        congr 1
        · by_cases q : 0 < l
          · have e5 : n - (l - 1) - m = n + 1 - l - m := by omega
            rw [if_pos q, if_pos q, if_pos (by omega), e5]
          · rw [if_neg q, if_neg q]
        · by_cases q : 0 < m
          · have e5 : n - l - (m - 1) = n + 1 - l - m := by omega
            rw [if_pos q, if_pos q, if_pos (by omega), e5]
          · rw [if_neg q, if_neg q]
    · have z1 : (if 0 < l then (if l - 1 + m ≤ n then hC f n 0 (if w = 0 then ov else ov + 1) (l - 1) m (n - (l - 1) - m) else 0) else 0) = 0 := by
        split
        · rw [if_neg (by omega)]
        · rfl
      have z2 : (if 0 < m then (if l + (m - 1) ≤ n then hC f n 1 (if w = 1 then ov else ov + 1) l (m - 1) (n - l - (m - 1)) else 0) else 0) = 0 := by
        split
        · rw [if_neg (by omega)]
        · rfl
      have z3 : (if l + m ≤ n then hC f n 2 (if w = 2 then ov else ov + 1) l m (n - l - m) else 0) = 0 := if_neg (by omega)
      rw [if_neg h, z1, z2, z3]
