/-! numbers and small contracts -/
def b2 (p : Prop) [Decidable p] : Int32 := if p then 1 else 0
theorem b2_t {p : Prop} [Decidable p] (h : p) : b2 p = 1 := if_pos h
theorem b2_f {p : Prop} [Decidable p] (h : ¬ p) : b2 p = 0 := if_neg h
theorem b2_01 (p : Prop) [Decidable p] : b2 p = 0 ∨ b2 p = 1 := by
  by_cases h : p
  · exact Or.inr (b2_t h)
  · exact Or.inl (b2_f h)
theorem b2_eq0 {p : Prop} [Decidable p] : b2 p = 0 ↔ ¬ p := by
  by_cases h : p
  · rw [b2_t h]; simp [h]
  · rw [b2_f h]; simp [h]
theorem b2_ne0 {p : Prop} [Decidable p] : ¬ b2 p = 0 ↔ p := by rw [b2_eq0, Decidable.not_not]
theorem iret {P : Int32 → Mm → Prop} {M0 M : Mm} {x : Int32} (hs : Sm M0 M) (h : P x M) : ∃ y, some (Value.int x) = some (.int y) ∧ Sm M0 M ∧ P y M := ⟨x, rfl, hs, h⟩
theorem lret {P : Int64 → Mm → Prop} {M0 M : Mm} {x : Int64} (hs : Sm M0 M) (h : P x M) : ∃ y, some (Value.long x) = some (.long y) ∧ Sm M0 M ∧ P y M := ⟨x, rfl, hs, h⟩
theorem vret {P : Mm → Prop} {M0 M : Mm} (hs : Sm M0 M) (h : P M) : (none : Option Value) = none ∧ Sm M0 M ∧ P M := ⟨rfl, hs, h⟩
theorem qret {P : Option Nat → Mm → Prop} {M0 M : Mm} {x : Option Nat} (hs : Sm M0 M) (h : P x M) : ∃ y, some (va_rf x) = some (va_rf y) ∧ Sm M0 M ∧ P y M := ⟨x, rfl, hs, h⟩
theorem ilt (a b : Int32) : a < b ↔ a.toInt < b.toInt := Int32.lt_iff_toInt_lt
theorem ile (a b : Int32) : a ≤ b ↔ a.toInt ≤ b.toInt := Int32.le_iff_toInt_le
theorem ieq (a b : Int32) : a = b ↔ a.toInt = b.toInt := Int32.toInt_inj.symm
theorem ibd (a : Int32) : -2147483648 ≤ a.toInt ∧ a.toInt ≤ 2147483647 := by
  have h1 := Int32.le_toInt a
  have h2 := Int32.toInt_lt a
  omega
theorem iadd_s {a b : Int32} (h1 : -2147483648 ≤ a.toInt + b.toInt) (h2 : a.toInt + b.toInt ≤ 2147483647) : (a + b).toInt = a.toInt + b.toInt := by
  rw [Int32.toInt_add, Int.bmod_eq_of_le (by omega) (by omega)]
theorem isub_s {a b : Int32} (h1 : -2147483648 ≤ a.toInt - b.toInt) (h2 : a.toInt - b.toInt ≤ 2147483647) : (a - b).toInt = a.toInt - b.toInt := by
  rw [Int32.toInt_sub, Int.bmod_eq_of_le (by omega) (by omega)]
theorem imul_s {a b : Int32} (h1 : -2147483648 ≤ a.toInt * b.toInt) (h2 : a.toInt * b.toInt ≤ 2147483647) : (a * b).toInt = a.toInt * b.toInt := by
  rw [Int32.toInt_mul, Int.bmod_eq_of_le (by omega) (by omega)]
/-- an int that is a small whole number -/
def J (z : Int) : Int32 := Int32.ofInt z
def K (z : Int) : Int64 := Int64.ofInt z
theorem J_of (x : Int32) : x = J x.toInt := (Int32.ofInt_toInt x).symm
theorem K_of (x : Int64) : x = K x.toInt := (Int64.ofInt_toInt x).symm
theorem J_add (a b : Int) : J a + J b = J (a + b) := (Int32.ofInt_add a b).symm
theorem J_sub (a b : Int) : J a - J b = J (a - b) := (Int32.ofInt_sub a b).symm
theorem J_mul (a b : Int) : J a * J b = J (a * b) := (Int32.ofInt_mul a b).symm
theorem J_neg (a : Int) : - J a = J (- a) := Int32.neg_ofInt
theorem K_add (a b : Int) : K a + K b = K (a + b) := (Int64.ofInt_add a b).symm
theorem K_sub (a b : Int) : K a - K b = K (a - b) := (Int64.ofInt_sub a b).symm
theorem K_mul (a b : Int) : K a * K b = K (a * b) := (Int64.ofInt_mul a b).symm
theorem K_neg (a : Int) : - K a = K (- a) := Int64.neg_ofInt
theorem J_int {a : Int} (h1 : -2147483648 ≤ a) (h2 : a ≤ 2147483647) : (J a).toInt = a := Int32.toInt_ofInt_of_le (by omega) (by omega)
theorem K_int {a : Int} (h1 : -9223372036854775808 ≤ a) (h2 : a ≤ 9223372036854775807) : (K a).toInt = a := Int64.toInt_ofInt_of_le (by omega) (by omega)
theorem J_lt {a b : Int} (h1 : -2147483648 ≤ a) (h2 : a ≤ 2147483647) (h3 : -2147483648 ≤ b) (h4 : b ≤ 2147483647) : (J a < J b) = (a < b) := by rw [Int32.lt_iff_toInt_lt, J_int h1 h2, J_int h3 h4]
theorem J_le {a b : Int} (h1 : -2147483648 ≤ a) (h2 : a ≤ 2147483647) (h3 : -2147483648 ≤ b) (h4 : b ≤ 2147483647) : (J a ≤ J b) = (a ≤ b) := by rw [Int32.le_iff_toInt_le, J_int h1 h2, J_int h3 h4]
theorem J_eq {a b : Int} (h1 : -2147483648 ≤ a) (h2 : a ≤ 2147483647) (h3 : -2147483648 ≤ b) (h4 : b ≤ 2147483647) : (J a = J b) = (a = b) := by rw [← Int32.toInt_inj, J_int h1 h2, J_int h3 h4]
theorem K_lt {a b : Int} (h1 : -9223372036854775808 ≤ a) (h2 : a ≤ 9223372036854775807) (h3 : -9223372036854775808 ≤ b) (h4 : b ≤ 9223372036854775807) : (K a < K b) = (a < b) := by rw [Int64.lt_iff_toInt_lt, K_int h1 h2, K_int h3 h4]
theorem K_le {a b : Int} (h1 : -9223372036854775808 ≤ a) (h2 : a ≤ 9223372036854775807) (h3 : -9223372036854775808 ≤ b) (h4 : b ≤ 9223372036854775807) : (K a ≤ K b) = (a ≤ b) := by rw [Int64.le_iff_toInt_le, K_int h1 h2, K_int h3 h4]
theorem K_eq {a b : Int} (h1 : -9223372036854775808 ≤ a) (h2 : a ≤ 9223372036854775807) (h3 : -9223372036854775808 ≤ b) (h4 : b ≤ 9223372036854775807) : (K a = K b) = (a = b) := by rw [← Int64.toInt_inj, K_int h1 h2, K_int h3 h4]
theorem J_nat {a : Int} (h1 : -2147483648 ≤ a) (h2 : a ≤ 2147483647) : (J a).toNatClampNeg = a.toNat := by
  show (J a).toInt.toNat = _
  rw [J_int h1 h2]
theorem J_0 : (0 : Int32) = J 0 := rfl
theorem J_lit (n : Nat) : (OfNat.ofNat n : Int32) = J (OfNat.ofNat n) := by
  show Int32.ofNat n = Int32.ofInt n
  exact Int32.ofInt_eq_ofNat.symm
theorem K_lit (n : Nat) : (OfNat.ofNat n : Int64) = K (OfNat.ofNat n) := by
  show Int64.ofNat n = Int64.ofInt n
  exact Int64.ofInt_eq_ofNat.symm
theorem J_in {a : Int} {n : Nat} (h1 : -2147483648 ≤ a) (h2 : a ≤ 2147483647) : vp_in (J a) n = (0 ≤ a ∧ a < n) := by
  unfold vp_in
  rw [J_nat h1 h2, J_0, J_lt h1 h2 (by omega) (by omega)]
  apply propext
  omega
theorem J_i2l {a : Int} (h1 : -2147483648 ≤ a) (h2 : a ≤ 2147483647) : (J a).toInt64 = K a := by
  rw [← Int64.toInt_inj, Int32.toInt_toInt64, J_int h1 h2, K_int (by omega) (by omega)]
theorem K_l2i (a : Int) : (K a).toInt32 = J a := Int64.toInt32_ofInt
theorem J_div {a b : Int} (h1 : -2147483648 < a) (h2 : a ≤ 2147483647) (h3 : -2147483648 ≤ b) (h4 : b ≤ 2147483647) : J a / J b = J (a.tdiv b) := by
  have h5 : J a ≠ Int32.minValue := by
    intro h
    have := congrArg Int32.toInt h
    rw [J_int (by omega) h2] at this
    have e : Int32.minValue.toInt = -2147483648 := rfl
    omega
  rw [J_of (J a / J b), Int32.toInt_div_of_ne_left _ _ h5, J_int (by omega) h2, J_int h3 h4]
theorem K_div {a b : Int} (h1 : -9223372036854775808 < a) (h2 : a ≤ 9223372036854775807) (h3 : -9223372036854775808 ≤ b) (h4 : b ≤ 9223372036854775807) : K a / K b = K (a.tdiv b) := by
  have h5 : K a ≠ Int64.minValue := by
    intro h
    have := congrArg Int64.toInt h
    rw [K_int (by omega) h2] at this
    have e : Int64.minValue.toInt = -9223372036854775808 := rfl
    omega
  rw [K_of (K a / K b), Int64.toInt_div_of_ne_left _ _ h5, K_int (by omega) h2, K_int h3 h4]
example (i : Int) (h : 0 ≤ i) (h2 : i ≤ 20) (c : ¬ ((20 : Int32) - J i) < J 3) : i ≤ 17 := by
  simp (disch := omega) only [J_lit, J_add, J_sub, J_mul, J_neg, J_lt, J_le, J_eq, J_nat, J_in, J_div] at *
  omega
example (i : Int) (h : 0 ≤ i) (h2 : i < 20) : vp_in (J i + (1 : Int32)) 21 := by
  simp (disch := omega) only [J_lit, J_add, J_sub, J_mul, J_neg, J_lt, J_le, J_eq, J_nat, J_in, J_div]
  omega
theorem c_isSide {D : GD} {d : Nat} {x : Int32} {M : Mm} {P : Int32 → Mm → Prop} (hL : Lay 0 62 M) (h : P (b2 (0 ≤ x ∧ x < 3)) M) : AMi D d mX11_isSide [.int x] M P := by
  refine rX11_isSide D d x M _ hL ⟨fun c => iret (.refl M) ?_, fun c => ⟨fun c2 => iret (.refl M) ?_, fun c2 => iret (.refl M) ?_⟩⟩
  · rwa [b2_f (by simp only [ilt, ile, Int32.reduceToInt] at *; omega)] at h
  · rwa [b2_f (by simp only [ilt, ile, Int32.reduceToInt] at *; omega)] at h
  · rwa [b2_t (by simp only [ilt, ile, Int32.reduceToInt] at *; omega)] at h
theorem c_in {D : GD} {d : Nat} {x y z : Int32} {M : Mm} {P : Int32 → Mm → Prop} (hL : Lay 62 98 M) (h : P (b2 (y ≤ x ∧ x ≤ z)) M) : AMi D d mX12_in [.ref 62, .int x, .int y, .int z] M P := by
  refine rX12_in D d x y z M _ hL ⟨fun c => iret (.refl M) ?_, fun c => ⟨fun c2 => iret (.refl M) ?_, fun c2 => iret (.refl M) ?_⟩⟩
  · rwa [b2_f (by simp only [ilt, ile, Int32.reduceToInt] at *; omega)] at h
  · rwa [b2_f (by simp only [ilt, ile, Int32.reduceToInt] at *; omega)] at h
  · rwa [b2_t (by simp only [ilt, ile, Int32.reduceToInt] at *; omega)] at h
theorem c_mSide {D : GD} {d : Nat} {x : Int32} {M : Mm} {P : Int32 → Mm → Prop} (hL : Lay 62 98 M) (h : P (b2 (0 ≤ x ∧ x ≤ 2)) M) : AMi D (d + 1) mX12_isSide [.ref 62, .int x] M P :=
  rX12_isSide D d x M _ hL (c_in hL ⟨b2_01 _, iret (.refl M) h⟩)
theorem c_isState {D : GD} {d : Nat} {l o t q : Int32} {M : Mm} {P : Int32 → Mm → Prop} (hL : Lay 0 62 M) (h : P (b2 (0 ≤ l ∧ l ≤ 3 ∧ 0 ≤ o ∧ o ≤ 3 ∧ 0 ≤ t ∧ t ≤ 99 ∧ 0 ≤ q ∧ q ≤ 20)) M) : AMi D d mX11_isState [.int l, .int o, .int t, .int q] M P := by
  refine rX11_isState D d l o t q M _ hL ⟨fun c => iret (.refl M) ?_, fun c1 => ⟨fun c => iret (.refl M) ?_, fun c2 => ⟨fun c => iret (.refl M) ?_, fun c3 => ⟨fun c => iret (.refl M) ?_, fun c4 => ⟨fun c => iret (.refl M) ?_, fun c5 => ⟨fun c => iret (.refl M) ?_, fun c6 => ⟨fun c => iret (.refl M) ?_, fun c7 => ⟨fun c => iret (.refl M) ?_, fun c8 => iret (.refl M) ?_⟩⟩⟩⟩⟩⟩⟩⟩
  all_goals first
    | (rwa [b2_f (by simp only [ilt, ile, Int32.reduceToInt] at *; omega)] at h; done)
    | (rwa [b2_t (by simp only [ilt, ile, Int32.reduceToInt] at *; omega)] at h; done)
