/-! the two systems side by side: what the calls keep -/
/-- THE TABLE, and the class's REST -/
def Rtb (M : Mm) : Prop := ∃ T, Tb T ∧ Ro M 14 9 T ∧ Ro M 63 9 T ∧ Mix M T
/-- THE TEXT: the class keeps bytes from 0 to 255, the reference from -128 to 127 -/
def sby (b : Nat) : Int := if b < 128 then b else (b : Int) - 256
def Rtx (M : Mm) : Prop := ∃ n : Nat, n ≤ 100 ∧ gI M 1 2 = J n ∧ gI M 62 2 = J n ∧ ∀ k, k < n → ∃ b : Nat, b < 256 ∧ gI M 2 k = J b ∧ gI M 64 k = J (sby b)
def Kq (n : Nat) (s g s' g' : Nat → Int32) : Prop := ∀ k, k < n → (∃ x : Nat, x < 3 ∧ s k = J x ∧ s' k = J x) ∧ ∃ b : Nat, b < 2 ∧ g k = J b ∧ g' k = J b
def Rki (M : Mm) : Prop := ∃ n : Nat, n ≤ 30 ∧ gI M 25 2 = J n ∧ gI M 62 32 = J n ∧ Kq n (gI M 26) (gI M 27) (gI M 79) (gI M 81)
def Rlo (M : Mm) : Prop := ∃ n : Nat, n ≤ 1000 ∧ gI M 46 0 = J n ∧ gI M 62 49 = J n ∧ ∀ k, k < n → k < 20 → gI M 46 (1 + k) = gI M 93 k
def Rta (M : Mm) : Prop := ∀ t, t < 6 → ∃ (s : Int) (n : Nat), -1 ≤ s ∧ s ≤ 4 ∧ n ≤ 60 ∧ gI M 53 t = J s ∧ gI M 94 t = J s ∧ gI M 54 t = J n ∧ gI M 95 t = J n ∧ (s = -1 → n = 0) ∧ (0 ≤ s → ∀ k, k < 60 → gL M (56 + t) k = gL M 96 (60 * t + k))
/-- a sign of a clause, and the class's code for it -/
def tkC (t : Int) : Int := if t = -33 then 2 else if t = -38 then 3 else if t = -124 then 4 else 1 + 8 * (t / 1000) + 32 * (t / 100 % 10) + 128 * (t % 100)
def tkOk (t : Int) : Prop := t = -33 ∨ t = -38 ∨ t = -124 ∨ (0 ≤ t ∧ t < 4000 ∧ t / 100 % 10 ≤ 2)
/-- how high the stack stands behind so many signs; none: a sign finds too little, or it is too high -/
def hgt : List Int → Nat → Option Nat
  | [], n => some n
  | t :: r, n => if t = -33 then (if n = 0 then none else hgt r n) else if t < 0 then (if n < 2 then none else hgt r (n - 1)) else (if 20 ≤ n then none else hgt r (n + 1))
abbrev Cls : Type := Nat × Nat × List Int
def ClOk (c : Cls) : Prop := c.1 ≤ 3 ∧ c.2.1 ≤ 99 ∧ (∀ t ∈ c.2.2, tkOk t) ∧ hgt c.2.2 0 = some 1
def encC (c : Cls) : List Int := c.2.2.map tkC ++ [(5 + 8 * (c.1 : Int) + 128 * (c.2.1 : Int) : Int)]
def encR (R : List Cls) : List Int := (R.map encC).flatten
/-- both keep the same RULE -/
def RuOk (M : Mm) (j : Nat) : Prop := ∃ R : List Cls, 1 ≤ R.length ∧ R.length ≤ 8 ∧ (∀ c ∈ R, ClOk c) ∧ (encR R).length ≤ 100 ∧ (∀ k, k < 100 → gI M (5 + j) k = J ((encR R).getD k 0)) ∧ gI M 65 j = J R.length ∧
  ∀ i c, R[i]? = some c → gI M 66 (8 * j + i) = J c.1 ∧ gI M 67 (8 * j + i) = J c.2.1 ∧ ∃ a : Nat, a + c.2.2.length ≤ 100 * j + 100 ∧ gI M 68 (8 * j + i) = J a ∧ gI M 69 (8 * j + i) = J ((a + c.2.2.length : Nat) : Int) ∧ ∀ k t, c.2.2[k]? = some t → gI M 70 (a + k) = J t
def Rru (M : Mm) (nr : Nat) : Prop := nr ≤ 7 ∧ gI M 0 2 = J nr ∧ gI M 62 1 = J nr ∧ (∀ j, j < nr → RuOk M j) ∧ ∀ j, nr ≤ j → j < 7 → ∀ k, k < 100 → gI M (5 + j) k = 0
/-- the class of a KIND -/
def kcl (k : Nat) : Nat := [5, 4, 2, 9, 10, 3, 8].getD k 5
def PlOk (M : Mm) (nr p q : Nat) : Prop := 98 ≤ q ∧ ∃ k v j : Nat, k ≤ 6 ∧ v ≤ 2 ∧ j < nr ∧ Pl M q (kcl k) j ∧ gI M q 0 = J k ∧ gI M q 1 = J p ∧ gI M q 2 = J v ∧ gI M q 3 = J j ∧ gI M 74 p = J k ∧ gI M 75 p = J v ∧ gI M 76 p = J j
def Rpl (M : Mm) (nr np : Nat) : Prop := np ≤ 10 ∧ gI M 0 4 = J np ∧ gI M 62 18 = J np ∧ ∀ p, p < np → ∃ q, gP M 12 p = some q ∧ PlOk M nr p q
def Te (M : Mm) (np a b : Nat) : Prop := ∀ i, i < 12 → (gP M a i = none ∧ gI M b i = -1) ∨ ∃ p q : Nat, p < np ∧ gP M 12 p = some q ∧ gP M a i = some q ∧ gI M b i = J p
def Rim (M : Mm) (np : Nat) : Prop := (gI M 0 9 = 0 ∧ gI M 62 42 = 0) ∨ (gI M 0 9 = 1 ∧ gI M 62 42 = 1 ∧ (∃ T, Tb T ∧ Ro M 47 9 T ∧ Ro M 88 9 T) ∧ (∃ n : Nat, n ≤ 30 ∧ gI M 48 2 = J n ∧ gI M 62 43 = J n ∧ Kq n (gI M 49) (gI M 50) (gI M 89) (gI M 91)) ∧ Te M np 52 92)
def Rall (M : Mm) : Prop := Lay 0 98 M ∧ Rtb M ∧ Rtx M ∧ Rki M ∧ Rlo M ∧ Rta M ∧ Wh (gI M 45) ∧ ∃ nr np, Rru M nr ∧ Rpl M nr np ∧ Te M np 30 82 ∧ Rim M np
theorem Rpl.fr {M M' : Mm} {nr np : Nat} (h : Rpl M nr np) (hs : Sx M M') (hp : ∀ k, gP M' 12 k = gP M 12 k) (h0 : gI M' 0 4 = gI M 0 4) (h1 : gI M' 62 18 = gI M 62 18) (h2 : gI M' 74 = gI M 74) (h3 : gI M' 75 = gI M 75) (h4 : gI M' 76 = gI M 76) (h5 : ∀ a, 98 ≤ a → a < mN M → gI M' a = gI M a) : Rpl M' nr np := by
  obtain ⟨g1, g2, g3, g4⟩ := h
  refine ⟨g1, h0.trans g2, h1.trans g3, fun p hp' => ?_⟩
  obtain ⟨q, e, hq, k, v, j, a1, a2, a3, a4, a5, a6, a7, a8, a9, a10, a11⟩ := g4 p hp'
  have e5 := h5 q hq a4.1.1
  exact ⟨q, (hp p).trans e, hq, k, v, j, a1, a2, a3, a4.ofx hs, by rw [e5]; exact a5, by rw [e5]; exact a6, by rw [e5]; exact a7, by rw [e5]; exact a8, by rw [h2]; exact a9, by rw [h3]; exact a10, by rw [h4]; exact a11⟩
theorem start_all {f f' g h : Nat → Int32} (h1 : Rst (fun _ => 50) 0 f (g 0)) (h2 : Rst (fun _ => 50) 1 f' (g 1)) (hw : Wh h) : Rall (st_199 f f' g h) := by
  refine ⟨start_lay f f' g h, ⟨fun _ => 50, fun k hk => ⟨by show (0 : Int) ≤ 50; decide, by show (50 : Int) ≤ 100; decide⟩, fun k hk => s14 f f' g h k hk, fun k hk => s63 f f' g h k hk, ?_⟩, ⟨0, by omega, s1_2 f f' g h, s62_2 f f' g h, fun k hk => absurd hk (Nat.not_lt_zero k)⟩, ⟨0, by omega, s25_2 f f' g h, s62_32 f f' g h, fun k hk => absurd hk (Nat.not_lt_zero k)⟩, ⟨0, by omega, s46_0 f f' g h, s62_49 f f' g h, fun k hk => absurd hk (Nat.not_lt_zero k)⟩, fun t ht => ⟨-1, 0, by omega, by omega, by omega, (s53 f f' g h t ht).trans (by decide), (s94 f f' g h t ht).trans (by decide), s54 f f' g h t, s95 f f' g h t, fun _ => rfl, fun hn => by omega⟩, ?_, 0, 0, ⟨by omega, s0_2 f f' g h, s62_1 f f' g h, fun j hj => absurd hj (Nat.not_lt_zero j), fun j _ hj k _ => ?_⟩, ⟨by omega, s0_4 f f' g h, s62_18 f f' g h, fun p hp => absurd hp (Nat.not_lt_zero p)⟩, fun i hi => Or.inl ⟨s30 f f' g h i, s82 f f' g h i hi⟩, Or.inl ⟨s0_9 f f' g h, s62_42 f f' g h⟩⟩
  · unfold Mix
    rw [s16, s17, s18]
    exact ⟨h1, h2⟩
  · rw [s45]
    exact hw
  · rcases (by omega : j = 0 ∨ j = 1 ∨ j = 2 ∨ j = 3 ∨ j = 4 ∨ j = 5 ∨ j = 6) with rfl | rfl | rfl | rfl | rfl | rfl | rfl
    · exact s5 f f' g h k
    · exact s6 f f' g h k
    · exact s7 f f' g h k
    · exact s8 f f' g h k
    · exact s9 f f' g h k
    · exact s10 f f' g h k
    · exact s11 f f' g h k
theorem RuOk.fr {M M' : Mm} {j : Nat} (h : RuOk M j) (h2 : gI M' (5 + j) = gI M (5 + j)) (h3 : gI M' 65 = gI M 65) (h4 : gI M' 66 = gI M 66) (h5 : gI M' 67 = gI M 67) (h6 : gI M' 68 = gI M 68) (h7 : gI M' 69 = gI M 69) (h8 : gI M' 70 = gI M 70) : RuOk M' j := by
  unfold RuOk at h ⊢
  rw [h2, h3, h4, h5, h6, h7, h8]
  exact h
theorem Rru.fr {M M' : Mm} {nr : Nat} (h : Rru M nr) (h0 : gI M' 0 2 = gI M 0 2) (h1 : gI M' 62 1 = gI M 62 1) (h2 : ∀ j, j < 7 → gI M' (5 + j) = gI M (5 + j)) (h3 : gI M' 65 = gI M 65) (h4 : gI M' 66 = gI M 66) (h5 : gI M' 67 = gI M 67) (h6 : gI M' 68 = gI M 68) (h7 : gI M' 69 = gI M 69) (h8 : gI M' 70 = gI M 70) : Rru M' nr := by
  obtain ⟨g1, g2, g3, g4, g5⟩ := h
  exact ⟨g1, h0.trans g2, h1.trans g3, fun j hj => (g4 j hj).fr (h2 j (by omega)) h3 h4 h5 h6 h7 h8, fun j hj hj7 k hk => by rw [h2 j hj7]; exact g5 j hj hj7 k hk⟩
/-- a row of ints, written anew, that is none of these -/
theorem fr_r {M : Mm} {a b : Nat} {f : Nat → Int32} (h : b ≠ a) : gI (rI M a f) b = gI M b := va_up_ne _ _ h
theorem fr_s {M : Mm} {a b k : Nat} {x : Int32} (h : b ≠ a) : gI (sI M a k x) b = gI M b := va_up_ne _ _ h
