/-! does, shows -/
def cTo (f : Nat → Int32) (s : Int32) : Nat → Nat
  | 0 => 0
  | i + 1 => cTo f s i + (if f i = s then 1 else 0)
def cGo (f g : Nat → Int32) (s : Int32) : Nat → Nat
  | 0 => 0
  | i + 1 => cGo f g s i + (if f i = s then (g i).toNatClampNeg else 0)
def rnF (f : Nat → Int32) : Nat → Nat
  | 0 => 0
  | i + 1 => rnF f i + (if i = 0 ∨ ¬ f i = f (i - 1) then 1 else 0)
theorem cTo_le (f : Nat → Int32) (s : Int32) (n : Nat) : cTo f s n ≤ n := by
  induction n with
  | zero => exact Nat.le_refl 0
  | succ n ih =>
    unfold cTo
    split <;> omega
theorem rnF_le (f : Nat → Int32) (n : Nat) : rnF f n ≤ n := by
  induction n with
  | zero => exact Nat.le_refl 0
  | succ n ih =>
    unfold rnF
    split <;> omega
theorem cGo_le (f g : Nat → Int32) (s : Int32) (n : Nat) (h : ∀ k, k < n → ∃ b : Nat, b < 2 ∧ g k = J b) : cGo f g s n ≤ cTo f s n := by
  induction n with
  | zero => exact Nat.le_refl 0
  | succ n ih =>
    have := ih (fun k hk => h k (by omega))
    obtain ⟨b, hb, e⟩ := h n (by omega)
    have eb : (g n).toNatClampNeg = b := by rw [e]; simp (disch := omega) only [J_lit, J_add, J_sub, J_mul, J_neg, J_lt, J_le, J_eq, J_nat, J_in, J_div]; omega
    unfold cGo cTo
    rw [eb]
    split <;> omega
theorem cTo_eq {f f' : Nat → Int32} {s : Int32} {n : Nat} (h : ∀ k, k < n → f k = f' k) : cTo f s n = cTo f' s n := by
  induction n with
  | zero => rfl
  | succ n ih =>
    unfold cTo
    rw [ih (fun k hk => h k (by omega)), h n (by omega)]
theorem cGo_eq {f f' g g' : Nat → Int32} {s : Int32} {n : Nat} (h : ∀ k, k < n → f k = f' k) (h2 : ∀ k, k < n → g k = g' k) : cGo f g s n = cGo f' g' s n := by
  induction n with
  | zero => rfl
  | succ n ih =>
    unfold cGo
    rw [ih (fun k hk => h k (by omega)) (fun k hk => h2 k (by omega)), h n (by omega), h2 n (by omega)]
theorem rnF_eq {f f' : Nat → Int32} {n : Nat} (h : ∀ k, k < n → f k = f' k) : rnF f n = rnF f' n := by
  induction n with
  | zero => rfl
  | succ n ih =>
    unfold rnF
    rw [ih (fun k hk => h k (by omega)), h n (by omega)]
    by_cases e : n = 0
    · simp [e]
    · rw [h (n - 1) (by omega)]
def doF (f g : Nat → Int32) (s : Int32) (n : Nat) : Int := if cTo f s n = 0 then -5 else ((cGo f g s n * 1000 / cTo f s n : Nat) : Int)
theorem doF_bd {f g : Nat → Int32} {s : Int32} {n : Nat} (h : ∀ k, k < n → ∃ b : Nat, b < 2 ∧ g k = J b) : doF f g s n = -5 ∨ (0 ≤ doF f g s n ∧ doF f g s n ≤ 1000) := by
  unfold doF
  have h1 := cGo_le f g s n h
  by_cases e : cTo f s n = 0
  · rw [if_pos e]
    exact Or.inl rfl
  · rw [if_neg e]
    refine Or.inr ⟨Int.natCast_nonneg _, ?_⟩
    have : cGo f g s n * 1000 / cTo f s n ≤ 1000 := by
      rw [Nat.div_le_iff_le_mul_add_pred (by omega)]
      have := Nat.mul_le_mul_right 1000 h1
      rw [Nat.mul_comm (cTo f s n) 1000] at this
      have h3 : cTo f s n * 1000 = 1000 * cTo f s n := Nat.mul_comm _ _
      omega
    exact Int.ofNat_le.mpr this
section
variable {D : GD} {d : Nat} {M : Mm}
theorem do_end {f g : Nat → Int32} {s : Int32} {n : Nat} (hn : n ≤ 30) (h : ∀ k, k < n → ∃ b : Nat, b < 2 ∧ g k = J b) (h0 : ¬ (J (cTo f s n) : Int32) = 0) : (J (cGo f g s n) * (1000 : Int32)) / J (cTo f s n) = J (doF f g s n) ∧ ((1000 : Int32) * J (cGo f g s n)) / J (cTo f s n) = J (doF f g s n) := by
  have h1 := cGo_le f g s n h
  have h2 := cTo_le f s n
  have e : cTo f s n ≠ 0 := fun e => h0 (by rw [e]; rfl)
  unfold doF
  rw [if_neg e]
  generalize cGo f g s n = x at *
  generalize cTo f s n = y at *
  constructor
  · simp (disch := omega) only [J_lit, J_add, J_sub, J_mul, J_neg, J_lt, J_le, J_eq, J_nat, J_in, J_div]
    congr 1
  · simp (disch := omega) only [J_lit, J_add, J_sub, J_mul, J_neg, J_lt, J_le, J_eq, J_nat, J_in, J_div]
    congr 1
    rw [Int.natCast_ediv]
    have : (1000 : Int) * (x : Int) = ((x * 1000 : Nat) : Int) := by omega
    rw [this]
    exact Int.tdiv_eq_ediv_of_nonneg (by omega)
theorem l_goals {n : Nat} {s : Int32} {post : Option Value → Mm → Prop} (hL : Lay 25 29 M) (hn : n ≤ 30) (e : gI M 25 2 = J n) (hg : ∀ k, k < n → ∃ b : Nat, b < 2 ∧ gI M 27 k = J b) (h : post (some (.int (J (doF (gI M 26) (gI M 27) s n)))) M) : ∀ (m i : Nat), i + m = n → LX1_goalsOfThousand_7 D d s (J (cTo (gI M 26) s i)) (J (cGo (gI M 26) (gI M 27) s i)) (J i) M post := by
  intro m
  induction m with
  | zero =>
    intro i hi
    obtain rfl : i = n := by omega
    refine rX1_goalsOfThousand_7 D d _ _ _ _ M post hL ⟨fun _ => ⟨fun c => ⟨c, ?_⟩, fun c => ?_⟩, fun c => ?_⟩
    · rw [(do_end hn hg c).1]
      exact h
    · unfold doF at h
      have := cTo_le (gI M 26) s i
      simp (disch := omega) only [J_lit, J_add, J_sub, J_mul, J_neg, J_lt, J_le, J_eq, J_nat, J_in, J_div] at c
      rw [if_pos (by omega)] at h
      exact h
    · rw [e] at c
      exfalso
      simp (disch := omega) only [J_lit, J_add, J_sub, J_mul, J_neg, J_lt, J_le, J_eq, J_nat, J_in, J_div] at c
      omega
  | succ m ih =>
    intro i hi
    have ei : (J (i : Int)).toNatClampNeg = i := by simp (disch := omega) only [J_lit, J_add, J_sub, J_mul, J_neg, J_lt, J_le, J_eq, J_nat, J_in, J_div]; omega
    have b1 := cTo_le (gI M 26) s i
    have b2 := cGo_le (gI M 26) (gI M 27) s i (fun k hk => hg k (by omega))
    have h1 := ih (i + 1) (by omega)
    have ej : ∀ x, x = (J (i : Int)) + (1 : Int32) → x = J ((i + 1 : Nat) : Int) := fun x e => by rw [e]; simp (disch := omega) only [J_lit, J_add, J_sub, J_mul, J_neg, J_lt, J_le, J_eq, J_nat, J_in, J_div]; congr 1
    obtain ⟨b, hb, eb⟩ := hg i (by omega)
    refine rX1_goalsOfThousand_7 D d _ _ _ _ M post hL ⟨fun c => ?_, fun _ => ⟨by simp (disch := omega) only [J_lit, J_add, J_sub, J_mul, J_neg, J_lt, J_le, J_eq, J_nat, J_in, J_div]; omega, fun c x6 e6 => ?_, fun c x7 e7 x8 e8 x9 e9 => ?_⟩⟩
    · rw [e] at c
      exfalso
      simp (disch := omega) only [J_lit, J_add, J_sub, J_mul, J_neg, J_lt, J_le, J_eq, J_nat, J_in, J_div] at c
      omega
    · rw [ei] at c
      rw [ej x6 e6]
      unfold cTo cGo at h1
      rw [if_neg c, if_neg c] at h1
      exact h1
    · rw [ei] at c e8
      rw [ej x9 e9]
      unfold cTo cGo at h1
      rw [if_pos c, if_pos c] at h1
      have q7 : x7 = J ((cTo (gI M 26) s i + 1 : Nat) : Int) := by rw [e7]; simp (disch := omega) only [J_lit, J_add, J_sub, J_mul, J_neg, J_lt, J_le, J_eq, J_nat, J_in, J_div]; congr 1
      have q8 : x8 = J ((cGo (gI M 26) (gI M 27) s i + (gI M 27 i).toNatClampNeg : Nat) : Int) := by
        rw [e8, eb]
        have : (J (b : Int)).toNatClampNeg = b := by simp (disch := omega) only [J_lit, J_add, J_sub, J_mul, J_neg, J_lt, J_le, J_eq, J_nat, J_in, J_div]; omega
        rw [this]
        simp (disch := omega) only [J_lit, J_add, J_sub, J_mul, J_neg, J_lt, J_le, J_eq, J_nat, J_in, J_div]
        congr 1
      rw [q7, q8]
      exact h1
theorem c_goals {n : Nat} {s : Int32} {P : Int32 → Mm → Prop} (hL : Lay 25 29 M) (hn : n ≤ 30) (e : gI M 25 2 = J n) (hg : ∀ k, k < n → ∃ b : Nat, b < 2 ∧ gI M 27 k = J b) (h : P (J (doF (gI M 26) (gI M 27) s n)) M) : AMi D d mX1_goalsOfThousand [.ref 25, .int s] M P :=
  rX1_goalsOfThousand D d s M _ hL (l_goals hL hn e hg ⟨_, rfl, .refl M, h⟩ n 0 (by omega))
theorem l_doesOf {n : Nat} {s : Int32} {post : Option Value → Mm → Prop} (hL : Lay 62 98 M) (hn : n ≤ 30) (e : gI M 62 32 = J n) (hg : ∀ k, k < n → ∃ b : Nat, b < 2 ∧ gI M 81 k = J b) (h : post (some (.int (J (doF (gI M 79) (gI M 81) s n)))) M) : ∀ (m i : Nat), i + m = n → LX12_doesOf_7 D d s (J (cTo (gI M 79) s i)) (J (cGo (gI M 79) (gI M 81) s i)) (J i) M post := by
  intro m
  induction m with
  | zero =>
    intro i hi
    obtain rfl : i = n := by omega
    refine rX12_doesOf_7 D d _ _ _ _ M post hL ⟨fun _ => ⟨fun c => ⟨c, ?_⟩, fun c => ?_⟩, fun c => ?_⟩
    · rw [(do_end hn hg c).2]
      exact h
    · unfold doF at h
      have := cTo_le (gI M 79) s i
      simp (disch := omega) only [J_lit, J_add, J_sub, J_mul, J_neg, J_lt, J_le, J_eq, J_nat, J_in, J_div] at c
      rw [if_pos (by omega)] at h
      exact h
    · rw [e] at c
      exfalso
      simp (disch := omega) only [J_lit, J_add, J_sub, J_mul, J_neg, J_lt, J_le, J_eq, J_nat, J_in, J_div] at c
      omega
  | succ m ih =>
    intro i hi
    have ei : (J (i : Int)).toNatClampNeg = i := by simp (disch := omega) only [J_lit, J_add, J_sub, J_mul, J_neg, J_lt, J_le, J_eq, J_nat, J_in, J_div]; omega
    have b1 := cTo_le (gI M 79) s i
    have b2 := cGo_le (gI M 79) (gI M 81) s i (fun k hk => hg k (by omega))
    have h1 := ih (i + 1) (by omega)
    have ej : ∀ x, x = (J (i : Int)) + (1 : Int32) → x = J ((i + 1 : Nat) : Int) := fun x e => by rw [e]; simp (disch := omega) only [J_lit, J_add, J_sub, J_mul, J_neg, J_lt, J_le, J_eq, J_nat, J_in, J_div]; congr 1
    obtain ⟨b, hb, eb⟩ := hg i (by omega)
    have z1 : ∀ z : Int, J z + (0 : Int32) = J z := fun z => by simp (disch := omega) only [J_lit, J_add, J_sub, J_mul, J_neg, J_lt, J_le, J_eq, J_nat, J_in, J_div]; congr 1; omega
    refine rX12_doesOf_7 D d _ _ _ _ M post hL ⟨fun c => ?_, fun _ => ⟨by simp (disch := omega) only [J_lit, J_add, J_sub, J_mul, J_neg, J_lt, J_le, J_eq, J_nat, J_in, J_div]; omega, fun c x6 e6 => ⟨fun _ x8 e8 x9 e9 => ?_, fun c2 => absurd c2 c⟩, fun c x7 e7 => ⟨fun c2 => absurd c c2, fun _ x8 e8 x9 e9 => ?_⟩⟩⟩
    · rw [e] at c
      exfalso
      simp (disch := omega) only [J_lit, J_add, J_sub, J_mul, J_neg, J_lt, J_le, J_eq, J_nat, J_in, J_div] at c
      omega
    · rw [ei] at c
      rw [z1] at e6 e8
      rw [ej x9 e9, e6, e8]
      unfold cTo cGo at h1
      rw [if_neg c, if_neg c] at h1
      exact h1
    · rw [ei] at c e8
      rw [ej x9 e9]
      unfold cTo cGo at h1
      rw [if_pos c, if_pos c] at h1
      have q7 : x7 = J ((cTo (gI M 79) s i + 1 : Nat) : Int) := by rw [e7]; simp (disch := omega) only [J_lit, J_add, J_sub, J_mul, J_neg, J_lt, J_le, J_eq, J_nat, J_in, J_div]; congr 1
      have q8 : x8 = J ((cGo (gI M 79) (gI M 81) s i + (gI M 81 i).toNatClampNeg : Nat) : Int) := by
        rw [e8, eb]
        have : (J (b : Int)).toNatClampNeg = b := by simp (disch := omega) only [J_lit, J_add, J_sub, J_mul, J_neg, J_lt, J_le, J_eq, J_nat, J_in, J_div]; omega
        rw [this]
        simp (disch := omega) only [J_lit, J_add, J_sub, J_mul, J_neg, J_lt, J_le, J_eq, J_nat, J_in, J_div]
        congr 1
      rw [q7, q8]
      exact h1
theorem c_doesOf {n : Nat} {s : Int32} {P : Int32 → Mm → Prop} (hL : Lay 62 98 M) (hn : n ≤ 30) (e : gI M 62 32 = J n) (hg : ∀ k, k < n → ∃ b : Nat, b < 2 ∧ gI M 81 k = J b) (h : P (J (doF (gI M 79) (gI M 81) s n)) M) : AMi D d mX12_doesOf [.ref 62, .int s] M P :=
  rX12_doesOf D d s M _ hL (l_doesOf hL hn e hg ⟨_, rfl, .refl M, h⟩ n 0 (by omega))
theorem Kq.f {n : Nat} {s g s' g' : Nat → Int32} (h : Kq n s g s' g') : (∀ k, k < n → s k = s' k) ∧ (∀ k, k < n → g k = g' k) ∧ (∀ k, k < n → ∃ b : Nat, b < 2 ∧ g k = J b) ∧ (∀ k, k < n → ∃ b : Nat, b < 2 ∧ g' k = J b) ∧ (∀ k, k < n → ∃ x : Nat, x < 3 ∧ s k = J x) := by
  refine ⟨fun k hk => ?_, fun k hk => ?_, fun k hk => ?_, fun k hk => ?_, fun k hk => ?_⟩
  all_goals obtain ⟨⟨x, h1, h2, h3⟩, ⟨b, h4, h5, h6⟩⟩ := h k hk
  · rw [h2, h3]
  · rw [h5, h6]
  · exact ⟨b, h4, h5⟩
  · exact ⟨b, h4, h6⟩
  · exact ⟨x, h1, h2⟩
theorem k_does {a : Int32} (hR : Rall M) : Ki D (d + 8) mX11_does mX12_does [.int a] M := by
  obtain ⟨hL, htb, htx, ⟨n, hn, e1, e2, hq⟩, hr⟩ := id hR
  have hL1 : Lay 0 62 M := hL.sub (by omega) (by omega)
  have hL2 : Lay 62 98 M := hL.sub (by omega) (by omega)
  obtain ⟨f1, f2, f3, f4, f5⟩ := hq.f
  refine rX11_does D (d + 7) a M _ hL1 (c_isSide hL1 ⟨fun c => ⟨_, rfl, .refl M, ?_⟩, fun c => c_goals (hL.sub (by omega) (by omega)) hn e1 f3 ⟨_, rfl, .refl M, ?_⟩⟩)
  · refine rX12_does D (d + 7) a M _ hL2 (c_mSide' hL2 ⟨fun _ => ⟨_, rfl, .refl M, rfl, hR⟩, fun c2 => absurd c c2⟩)
  · refine rX12_does D (d + 7) a M _ hL2 (c_mSide' hL2 ⟨fun c2 => absurd c2 c, fun _ => c_doesOf hL2 hn e2 f4 ⟨_, rfl, .refl M, ?_, hR⟩⟩)
    unfold doF
    rw [cTo_eq f1, cGo_eq f1 f2]
theorem l_runs {n : Nat} {post : Option Value → Mm → Prop} (hL : Lay 25 29 M) (hn : n ≤ 30) (e : gI M 25 2 = J n) (h : post (some (.int (J (rnF (gI M 26) n)))) M) : ∀ (m i : Nat), i + m = n → LX1_runs_4 D d (J (rnF (gI M 26) i)) (J i) M post := by
  intro m
  induction m with
  | zero =>
    intro i hi
    obtain rfl : i = n := by omega
    refine rX1_runs_4 D d _ _ M post hL ⟨fun _ => h, fun c => ?_⟩
    rw [e] at c
    exfalso
    simp (disch := omega) only [J_lit, J_add, J_sub, J_mul, J_neg, J_lt, J_le, J_eq, J_nat, J_in, J_div] at c
    omega
  | succ m ih =>
    intro i hi
    have ei : (J (i : Int)).toNatClampNeg = i := by simp (disch := omega) only [J_lit, J_add, J_sub, J_mul, J_neg, J_lt, J_le, J_eq, J_nat, J_in, J_div]; omega
    have b1 := rnF_le (gI M 26) i
    have h1 := ih (i + 1) (by omega)
    have ej : ∀ x, x = (J (i : Int)) + (1 : Int32) → x = J ((i + 1 : Nat) : Int) := fun x e => by rw [e]; simp (disch := omega) only [J_lit, J_add, J_sub, J_mul, J_neg, J_lt, J_le, J_eq, J_nat, J_in, J_div]; congr 1
    have ek : ∀ x, x = (J (rnF (gI M 26) i : Int)) + (1 : Int32) → x = J ((rnF (gI M 26) i + 1 : Nat) : Int) := fun x e => by rw [e]; simp (disch := omega) only [J_lit, J_add, J_sub, J_mul, J_neg, J_lt, J_le, J_eq, J_nat, J_in, J_div]; congr 1
    unfold rnF at h1
    refine rX1_runs_4 D d _ _ M post hL ⟨fun c => ?_, fun _ => ⟨fun c x3 e3 x4 e4 => ?_, fun c => ?_⟩⟩
    · rw [e] at c
      exfalso
      simp (disch := omega) only [J_lit, J_add, J_sub, J_mul, J_neg, J_lt, J_le, J_eq, J_nat, J_in, J_div] at c
      omega
    · simp (disch := omega) only [J_lit, J_add, J_sub, J_mul, J_neg, J_lt, J_le, J_eq, J_nat, J_in, J_div] at c
      rw [ej x4 e4, ek x3 e3]
      rw [if_pos (by omega)] at h1
      exact h1
    · simp (disch := omega) only [J_lit, J_add, J_sub, J_mul, J_neg, J_lt, J_le, J_eq, J_nat, J_in, J_div] at c
      have ei2 : (J (i : Int) - (1 : Int32)).toNatClampNeg = i - 1 := by simp (disch := omega) only [J_lit, J_add, J_sub, J_mul, J_neg, J_lt, J_le, J_eq, J_nat, J_in, J_div]; omega
      rw [ei, ei2]
      refine ⟨by simp (disch := omega) only [J_lit, J_add, J_sub, J_mul, J_neg, J_lt, J_le, J_eq, J_nat, J_in, J_div]; omega, by simp (disch := omega) only [J_lit, J_add, J_sub, J_mul, J_neg, J_lt, J_le, J_eq, J_nat, J_in, J_div]; omega, fun c2 x8 e8 => ?_, fun c2 x9 e9 x10 e10 => ?_⟩
      · rw [ej x8 e8]
        rw [if_neg (by rintro (h | h); · omega
                       · exact h c2)] at h1
        exact h1
      · rw [ej x10 e10, ek x9 e9]
        rw [if_pos (Or.inr c2)] at h1
        exact h1
theorem c_runs {n : Nat} {P : Int32 → Mm → Prop} (hL : Lay 25 29 M) (hn : n ≤ 30) (e : gI M 25 2 = J n) (h : P (J (rnF (gI M 26) n)) M) : AMi D d mX1_runs [.ref 25] M P :=
  rX1_runs D d M _ hL (l_runs hL hn e ⟨_, rfl, .refl M, h⟩ n 0 (by omega))
theorem l_mRuns {n : Nat} {post : Option Value → Mm → Prop} (hL : Lay 62 98 M) (hn : n ≤ 30) (e : gI M 62 32 = J n) (h : post (some (.int (J (rnF (gI M 79) n)))) M) : ∀ (m i : Nat), i + m = n → LX12_shows_21 D d (J (rnF (gI M 79) i)) (J i) M post := by
  intro m
  induction m with
  | zero =>
    intro i hi
    obtain rfl : i = n := by omega
    refine rX12_shows_21 D d _ _ M post hL ⟨fun _ => h, fun c => ?_⟩
    rw [e] at c
    exfalso
    simp (disch := omega) only [J_lit, J_add, J_sub, J_mul, J_neg, J_lt, J_le, J_eq, J_nat, J_in, J_div] at c
    omega
  | succ m ih =>
    intro i hi
    have ei : (J (i : Int)).toNatClampNeg = i := by simp (disch := omega) only [J_lit, J_add, J_sub, J_mul, J_neg, J_lt, J_le, J_eq, J_nat, J_in, J_div]; omega
    have b1 := rnF_le (gI M 79) i
    have h1 := ih (i + 1) (by omega)
    have ej : ∀ x, x = (J (i : Int)) + (1 : Int32) → x = J ((i + 1 : Nat) : Int) := fun x e => by rw [e]; simp (disch := omega) only [J_lit, J_add, J_sub, J_mul, J_neg, J_lt, J_le, J_eq, J_nat, J_in, J_div]; congr 1
    have ek : ∀ x, x = (J (rnF (gI M 79) i : Int)) + (1 : Int32) → x = J ((rnF (gI M 79) i + 1 : Nat) : Int) := fun x e => by rw [e]; simp (disch := omega) only [J_lit, J_add, J_sub, J_mul, J_neg, J_lt, J_le, J_eq, J_nat, J_in, J_div]; congr 1
    have z1 : ∀ z : Int, J z + (0 : Int32) = J z := fun z => by simp (disch := omega) only [J_lit, J_add, J_sub, J_mul, J_neg, J_lt, J_le, J_eq, J_nat, J_in, J_div]; congr 1; omega
    unfold rnF at h1
    refine rX12_shows_21 D d _ _ M post hL ⟨fun c => ?_, fun _ => ⟨fun c x3 e3 x4 e4 => ?_, fun c => ?_⟩⟩
    · rw [e] at c
      exfalso
      simp (disch := omega) only [J_lit, J_add, J_sub, J_mul, J_neg, J_lt, J_le, J_eq, J_nat, J_in, J_div] at c
      omega
    · simp (disch := omega) only [J_lit, J_add, J_sub, J_mul, J_neg, J_lt, J_le, J_eq, J_nat, J_in, J_div] at c
      rw [ej x4 e4, ek x3 e3]
      rw [if_pos (by omega)] at h1
      exact h1
    · simp (disch := omega) only [J_lit, J_add, J_sub, J_mul, J_neg, J_lt, J_le, J_eq, J_nat, J_in, J_div] at c
      have ei2 : (J (i : Int) - (1 : Int32)).toNatClampNeg = i - 1 := by simp (disch := omega) only [J_lit, J_add, J_sub, J_mul, J_neg, J_lt, J_le, J_eq, J_nat, J_in, J_div]; omega
      rw [ei, ei2]
      refine ⟨by simp (disch := omega) only [J_lit, J_add, J_sub, J_mul, J_neg, J_lt, J_le, J_eq, J_nat, J_in, J_div]; omega, by simp (disch := omega) only [J_lit, J_add, J_sub, J_mul, J_neg, J_lt, J_le, J_eq, J_nat, J_in, J_div]; omega, fun c2 x8 e8 x9 e9 => ?_, fun c2 x9 e9 x10 e10 => ?_⟩
      · rw [z1] at e8
        rw [ej x9 e9, e8]
        rw [if_neg (by rintro (h | h); · omega
                       · exact h c2)] at h1
        exact h1
      · rw [ej x10 e10, ek x9 e9]
        rw [if_pos (Or.inr c2)] at h1
        exact h1
/-- the best and the worst so far -/
def hiF (x p : Int) : Int := if x = -5 then p else if p < x then x else p
def loF (x p : Int) : Int := if x = -5 then p else if x < p then x else p
def okD (x : Int) : Prop := x = -5 ∨ (0 ≤ x ∧ x ≤ 1000)
theorem c_farApart {n : Nat} {P : Int32 → Mm → Prop} (hL : Lay 25 29 M) (hn : n ≤ 30) (e : gI M 25 2 = J n) (hg : ∀ k, k < n → ∃ b : Nat, b < 2 ∧ gI M 27 k = J b) (x : Nat → Int) (hx : ∀ i : Nat, x i = doF (gI M 26) (gI M 27) (J i) n) (h : P (J (if 0 < hiF (x 2) (hiF (x 1) (hiF (x 0) (-1))) - loF (x 2) (loF (x 1) (loF (x 0) 1001)) then hiF (x 2) (hiF (x 1) (hiF (x 0) (-1))) - loF (x 2) (loF (x 1) (loF (x 0) 1001)) else 0)) M) : AMi D (d + 1) mX1_farApart [.ref 25] M P := by
  have ho : ∀ i, okD (x i) := fun i => by rw [hx]; exact doF_bd hg
  have st : ∀ (i : Nat) (p q : Int) (post : Option Value → Mm → Prop), i < 3 → -1 ≤ p → p ≤ 1001 → -1 ≤ q → q ≤ 1001 → LX1_farApart_8 D d (J (hiF (x i) p)) (J (loF (x i) q)) (J ((i + 1 : Nat) : Int)) M post → LX1_farApart_8 D d (J p) (J q) (J i) M post := by
    intro i p q post hi p1 p2 q1 q2 hh
    have hxi := ho i
    unfold okD at hxi
    unfold hiF loF at hh
    refine rX1_farApart_8 D d _ _ _ M post hL ⟨fun c => ?_, fun _ => c_goals hL hn e hg ?_⟩
    · exfalso
      simp (disch := omega) only [J_lit, J_add, J_sub, J_mul, J_neg, J_lt, J_le, J_eq, J_nat, J_in, J_div] at c
      omega
    · rw [← hx i]
      have ej : ∀ y, y = (J (i : Int)) + (1 : Int32) → y = J ((i + 1 : Nat) : Int) := fun y e => by rw [e]; simp (disch := omega) only [J_lit, J_add, J_sub, J_mul, J_neg, J_lt, J_le, J_eq, J_nat, J_in, J_div]; congr 1
      have e5 : (-5 : Int32) = J (-5) := by decide
      rw [e5]
      refine ⟨fun c y ey => ?_, fun c y10 e10 y11 e11 y12 e12 => ?_⟩
      · simp (disch := omega) only [J_lit, J_add, J_sub, J_mul, J_neg, J_lt, J_le, J_eq, J_nat, J_in, J_div] at c
        rw [ej y ey]
        rw [if_pos c, if_pos c] at hh
        exact hh
      · simp (disch := omega) only [J_lit, J_add, J_sub, J_mul, J_neg, J_lt, J_le, J_eq, J_nat, J_in, J_div] at c e10 e11
        rw [ej y12 e12, e10, e11]
        rw [if_neg c, if_neg c] at hh
        have a1 : (if p < x i then J (x i) else J p) = J (if p < x i then x i else p) := by split <;> rfl
        have a2 : (if x i < q then J (x i) else J q) = J (if x i < q then x i else q) := by split <;> rfl
        rw [a1, a2]
        exact hh
  have bh : ∀ y p, okD y → -1 ≤ p → p ≤ 1001 → -1 ≤ hiF y p ∧ hiF y p ≤ 1001 := by
    intro y p hy h1 h2
    unfold okD at hy
    unfold hiF
    split
    · omega
    · split <;> omega
  have bl : ∀ y p, okD y → -1 ≤ p → p ≤ 1001 → -1 ≤ loF y p ∧ loF y p ≤ 1001 := by
    intro y p hy h1 h2
    unfold okD at hy
    unfold loF
    split
    · omega
    · split <;> omega
  have u0 := bh (x 0) (-1) (ho 0) (by omega) (by omega)
  have u1 := bh (x 1) _ (ho 1) u0.1 u0.2
  have u2 := bh (x 2) _ (ho 2) u1.1 u1.2
  have w0 := bl (x 0) 1001 (ho 0) (by omega) (by omega)
  have w1 := bl (x 1) _ (ho 1) w0.1 w0.2
  have w2 := bl (x 2) _ (ho 2) w1.1 w1.2
  refine rX1_farApart D d M _ hL ?_
  refine st 0 (-1) 1001 _ (by omega) (by omega) (by omega) (by omega) (by omega) ?_
  refine st 1 _ _ _ (by omega) u0.1 u0.2 w0.1 w0.2 ?_
  refine st 2 _ _ _ (by omega) u1.1 u1.2 w1.1 w1.2 ?_
  generalize hiF (x 2) (hiF (x 1) (hiF (x 0) (-1))) = p at *
  generalize loF (x 2) (loF (x 1) (loF (x 0) 1001)) = q at *
  refine rX1_farApart_8 D d _ _ _ M _ hL ⟨fun _ => ⟨_, rfl, .refl M, ?_⟩, fun c => absurd (by decide) c⟩
  have a : (if (0 : Int32) < J p - J q then J p - J q else (0 : Int32)) = J (if 0 < p - q then p - q else 0) := by
    simp (disch := omega) only [J_lit, J_add, J_sub, J_mul, J_neg, J_lt, J_le, J_eq, J_nat, J_in, J_div]
    split <;> rfl
  rw [a]
  exact h
theorem c_mFar {n : Nat} {post : Option Value → Mm → Prop} (hL : Lay 62 98 M) (hn : n ≤ 30) (e : gI M 62 32 = J n) (hg : ∀ k, k < n → ∃ b : Nat, b < 2 ∧ gI M 81 k = J b) (x : Nat → Int) (hx : ∀ i : Nat, x i = doF (gI M 79) (gI M 81) (J i) n) (h : post (some (.int (J (if 0 < hiF (x 2) (hiF (x 1) (hiF (x 0) (-1))) - loF (x 2) (loF (x 1) (loF (x 0) 1001)) then hiF (x 2) (hiF (x 1) (hiF (x 0) (-1))) - loF (x 2) (loF (x 1) (loF (x 0) 1001)) else 0)))) M) : LX12_shows_75 D d (1001 : Int32) (-1 : Int32) (0 : Int32) M post := by
  have ho : ∀ i, okD (x i) := fun i => by rw [hx]; exact doF_bd hg
  have st : ∀ (i : Nat) (p q : Int) (post : Option Value → Mm → Prop), i < 3 → -1 ≤ p → p ≤ 1001 → -1 ≤ q → q ≤ 1001 → LX12_shows_75 D d (J (loF (x i) q)) (J (hiF (x i) p)) (J ((i + 1 : Nat) : Int)) M post → LX12_shows_75 D d (J q) (J p) (J i) M post := by
    intro i p q post hi p1 p2 q1 q2 hh
    have hxi := ho i
    unfold okD at hxi
    unfold hiF loF at hh
    refine rX12_shows_75 D d _ _ _ M post hL ⟨fun c => ?_, fun _ => c_doesOf hL hn e hg ?_⟩
    · exfalso
      simp (disch := omega) only [J_lit, J_add, J_sub, J_mul, J_neg, J_lt, J_le, J_eq, J_nat, J_in, J_div] at c
      omega
    · rw [← hx i]
      have ej : ∀ y, y = (J (i : Int)) + (1 : Int32) → y = J ((i + 1 : Nat) : Int) := fun y e => by rw [e]; simp (disch := omega) only [J_lit, J_add, J_sub, J_mul, J_neg, J_lt, J_le, J_eq, J_nat, J_in, J_div]; congr 1
      refine ⟨fun c => ⟨fun c2 => ⟨fun c3 y ey => ?_, fun c3 y ey => ?_⟩, fun c2 => ⟨fun c3 y ey => ?_, fun c3 y ey => ?_⟩⟩, fun c y ey => ?_⟩
      all_goals rw [ej y ey]
      · simp (disch := omega) only [J_lit, J_add, J_sub, J_mul, J_neg, J_lt, J_le, J_eq, J_nat, J_in, J_div] at c c2 c3
        rw [if_neg (by omega), if_neg (by omega), if_neg (by omega), if_neg (by omega)] at hh
        exact hh
      · simp (disch := omega) only [J_lit, J_add, J_sub, J_mul, J_neg, J_lt, J_le, J_eq, J_nat, J_in, J_div] at c c2 c3
        rw [if_neg (by omega), if_neg (by omega), if_neg (by omega), if_pos (by omega)] at hh
        exact hh
      · simp (disch := omega) only [J_lit, J_add, J_sub, J_mul, J_neg, J_lt, J_le, J_eq, J_nat, J_in, J_div] at c c2 c3
        rw [if_neg (by omega), if_pos (by omega), if_neg (by omega), if_neg (by omega)] at hh
        exact hh
      · simp (disch := omega) only [J_lit, J_add, J_sub, J_mul, J_neg, J_lt, J_le, J_eq, J_nat, J_in, J_div] at c c2 c3
        rw [if_neg (by omega), if_pos (by omega), if_neg (by omega), if_pos (by omega)] at hh
        exact hh
      · simp (disch := omega) only [J_lit, J_add, J_sub, J_mul, J_neg, J_lt, J_le, J_eq, J_nat, J_in, J_div] at c
        rw [if_pos (by omega), if_pos (by omega)] at hh
        exact hh
  have bh : ∀ y p, okD y → -1 ≤ p → p ≤ 1001 → -1 ≤ hiF y p ∧ hiF y p ≤ 1001 := by
    intro y p hy h1 h2
    unfold okD at hy
    unfold hiF
    split
    · omega
    · split <;> omega
  have bl : ∀ y p, okD y → -1 ≤ p → p ≤ 1001 → -1 ≤ loF y p ∧ loF y p ≤ 1001 := by
    intro y p hy h1 h2
    unfold okD at hy
    unfold loF
    split
    · omega
    · split <;> omega
  have u0 := bh (x 0) (-1) (ho 0) (by omega) (by omega)
  have u1 := bh (x 1) _ (ho 1) u0.1 u0.2
  have u2 := bh (x 2) _ (ho 2) u1.1 u1.2
  have w0 := bl (x 0) 1001 (ho 0) (by omega) (by omega)
  have w1 := bl (x 1) _ (ho 1) w0.1 w0.2
  have w2 := bl (x 2) _ (ho 2) w1.1 w1.2
  refine st 0 (-1) 1001 _ (by omega) (by omega) (by omega) (by omega) (by omega) ?_
  refine st 1 _ _ _ (by omega) u0.1 u0.2 w0.1 w0.2 ?_
  refine st 2 _ _ _ (by omega) u1.1 u1.2 w1.1 w1.2 ?_
  generalize hiF (x 2) (hiF (x 1) (hiF (x 0) (-1))) = p at *
  generalize loF (x 2) (loF (x 1) (loF (x 0) 1001)) = q at *
  refine rX12_shows_75 D d _ _ _ M _ hL ⟨fun _ => ⟨fun c => ?_, fun c => ?_⟩, fun c => absurd (by decide) c⟩
  · simp (disch := omega) only [J_lit, J_add, J_sub, J_mul, J_neg, J_lt, J_le, J_eq, J_nat, J_in, J_div] at c
    have a : J p - J q = J (if 0 < p - q then p - q else 0) := by
      simp (disch := omega) only [J_lit, J_add, J_sub, J_mul, J_neg, J_lt, J_le, J_eq, J_nat, J_in, J_div]
      congr 1
      split <;> omega
    rw [a]
    exact h
  · simp (disch := omega) only [J_lit, J_add, J_sub, J_mul, J_neg, J_lt, J_le, J_eq, J_nat, J_in, J_div] at c
    rw [if_neg (by omega)] at h
    exact h
theorem k_shows {a : Int32} (hR : Rall M) : Ki D (d + 8) mX11_shows mX12_shows [.int a] M := by
  obtain ⟨hL, htb, htx, ⟨n, hn, e1, e2, hq⟩, hr⟩ := id hR
  have hL1 : Lay 0 62 M := hL.sub (by omega) (by omega)
  have hL2 : Lay 62 98 M := hL.sub (by omega) (by omega)
  have hL3 : Lay 25 29 M := hL.sub (by omega) (by omega)
  obtain ⟨f1, f2, f3, f4, f5⟩ := hq.f
  refine rX11_shows D (d + 7) a M _ hL1 ⟨fun c => ?_, fun c => ?_, fun c0 c1 => ⟨_, rfl, .refl M, ?_⟩⟩
  · subst c
    refine c_farApart hL3 hn e1 f3 (fun i => doF (gI M 26) (gI M 27) (J i) n) (fun _ => rfl) ⟨_, rfl, .refl M, ?_⟩
    refine rX12_shows D (d + 7) _ M _ hL2 (c_in hL2 ?_)
    rw [b2_t (by decide)]
    refine ⟨fun _ => ⟨fun _ => c_mFar hL2 hn e2 f4 (fun i => doF (gI M 26) (gI M 27) (J i) n) (fun i => ?_) ⟨_, rfl, .refl M, rfl, hR⟩, fun c => absurd c (by decide)⟩, fun c => absurd c (by decide)⟩
    unfold doF
    rw [cTo_eq f1, cGo_eq f1 f2]
  · subst c
    refine c_runs hL3 hn e1 ⟨_, rfl, .refl M, ?_⟩
    refine rX12_shows D (d + 7) _ M _ hL2 (c_in hL2 ?_)
    rw [b2_t (by decide)]
    refine ⟨fun _ => ⟨fun c => absurd rfl c, fun _ => l_mRuns hL2 hn e2 ⟨_, rfl, .refl M, ?_, hR⟩ n 0 (by omega)⟩, fun c => absurd c (by decide)⟩
    rw [rnF_eq f1]
  · refine rX12_shows D (d + 7) _ M _ hL2 (c_in hL2 ?_)
    rw [b2_f ?_]
    · exact ⟨fun c => absurd rfl c, fun _ => ⟨_, rfl, .refl M, rfl, hR⟩⟩
    · intro h
      simp only [ile, ieq, Int32.reduceToInt] at h c0 c1
      omega
end
