/-! judge -/
theorem J_half {t : Nat} (h : t ≤ 1000000) : (J (t : Int)) / (2 : Int32) = J ((t / 2 : Nat) : Int) := by
  simp (disch := omega) only [J_lit, J_add, J_sub, J_mul, J_neg, J_lt, J_le, J_eq, J_nat, J_in, J_div]
  congr 1
theorem J_par {t : Nat} (h : t ≤ 1000000) : (J (t : Int)) - (J (t : Int)) / (2 : Int32) * (2 : Int32) = J ((t % 2 : Nat) : Int) := by
  rw [J_half h]
  simp (disch := omega) only [J_lit, J_add, J_sub, J_mul, J_neg, J_lt, J_le, J_eq, J_nat, J_in, J_div]
  congr 1
  omega
theorem J_suc (t : Nat) : (J (t : Int)) + (1 : Int32) = J ((t + 1 : Nat) : Int) := by
  simp (disch := omega) only [J_lit, J_add, J_sub, J_mul, J_neg, J_lt, J_le, J_eq, J_nat, J_in, J_div]
  congr 1
def gv (x : Int64) : Nat := if x = 0 then 0 else 1
def jA (g : Nat → Int64) (t a : Nat) : Nat := if t % 2 = 0 then a + gv (g t) else a
def jB (g : Nat → Int64) (t b : Nat) : Nat := if t % 2 = 0 then b else b + gv (g t)
def jS (g : Nat → Int64) (av : Nat) : Nat → Nat → Nat → Nat → Int
  | 0, _, _, _ => 3
  | m + 1, t, a, b => if av ≤ t then 1000 + (t : Int) else if g t = 0 ∨ g t = 1 then (if jB g t b + 5 < jA g t a + (t + 1) / 2 then 1 else if jA g t a + 4 < jB g t b + t / 2 then 2 else jS g av m (t + 1) (jA g t a) (jB g t b)) else -10 - (t : Int)
def jE (g : Nat → Int64) (av m t a b : Nat) : Int := if b + 5 < a + t / 2 then 1 else if a + 5 < b + (t + 1) / 2 then 2 else jS g av m t a b
theorem jS_E (g : Nat → Int64) (av m t a b : Nat) : jS g av (m + 1) t a b = if av ≤ t then 1000 + (t : Int) else if g t = 0 ∨ g t = 1 then jE g av m (t + 1) (jA g t a) (jB g t b) else -10 - (t : Int) := by
  unfold jE
  conv => lhs; unfold jS
  by_cases h : av ≤ t
  · rw [if_pos h, if_pos h]
  · rw [if_neg h, if_neg h]
    by_cases h2 : g t = 0 ∨ g t = 1
    · rw [if_pos h2, if_pos h2]
      by_cases h3 : jB g t b + 5 < jA g t a + (t + 1) / 2
      · rw [if_pos h3, if_pos h3]
      · rw [if_neg h3, if_neg h3]
        by_cases h4 : jA g t a + 4 < jB g t b + t / 2
        · rw [if_pos h4, if_pos (by omega)]
        · rw [if_neg h4, if_neg (by omega)]
    · rw [if_neg h2, if_neg h2]
theorem jS_eq {g g' : Nat → Int64} {av : Nat} : ∀ (m t a b : Nat), (∀ k, k < av → g k = g' k) → jS g av m t a b = jS g' av m t a b := by
  intro m
  induction m with
  | zero => intro t a b _; rfl
  | succ m ih =>
    intro t a b h
    unfold jS
    by_cases c : av ≤ t
    · rw [if_pos c, if_pos c]
    · rw [if_neg c, if_neg c]
      unfold jA jB
      rw [h t (by omega), ih _ _ _ h]
section
variable {D : GD} {d : Nat} {M : Mm}
theorem l_judged {row sz fr : Nat} {post : Option Value → Mm → Prop} (hs : Sh M row (2, 60)) (h1 : fr < sz) (h2 : sz ≤ 60) : ∀ (m t a b : Nat), t + m = 10 → a ≤ t → b ≤ t → post (some (.int (J (jS (fun k => gL M row (fr + k)) (sz - fr) m t a b)))) M → LX7_judged_27 D d row (J sz) (J fr) (K a) (K b) (J t) M post := by
  intro m
  induction m with
  | zero =>
    intro t a b ht ha hb h
    refine rX7_judged_27 D d row _ _ _ _ _ M post (.nil M) hs ⟨fun _ => h, fun c => ?_⟩
    exfalso
    simp (disch := omega) only [J_lit, J_add, J_sub, J_mul, J_neg, J_lt, J_le, J_eq, J_nat, J_in, J_div] at c
    omega
  | succ m ih =>
    intro t a b ht ha hb h
    have et : (J (fr : Int) + J t).toNatClampNeg = fr + t := by simp (disch := omega) only [J_lit, J_add, J_sub, J_mul, J_neg, J_lt, J_le, J_eq, J_nat, J_in, J_div]; omega
    have p1 := J_par (t := t) (by omega)
    have p2 := J_half (t := t) (by omega)
    have p3 : (J (t : Int) + (1 : Int32)) / (2 : Int32) = J (((t + 1) / 2 : Nat) : Int) := by rw [J_suc, J_half (by omega)]
    refine rX7_judged_27 D d row _ _ _ _ _ M post (.nil M) hs ?_
    rw [p1, p2, p3, et]
    refine ⟨fun c => ?_, fun _ => ⟨fun c1 => ⟨by simp (disch := omega) only [J_lit, J_add, J_sub, J_mul, J_neg, J_lt, J_le, J_eq, J_nat, J_in, J_div] at c1; simp (disch := omega) only [J_lit, J_add, J_sub, J_mul, J_neg, J_lt, J_le, J_eq, J_nat, J_in, J_div]; omega, fun x4 e4 => ?_⟩, fun c1 => ?_⟩⟩
    · exfalso
      simp (disch := omega) only [J_lit, J_add, J_sub, J_mul, J_neg, J_lt, J_le, J_eq, J_nat, J_in, J_div] at c
      omega
    · simp (disch := omega) only [J_lit, J_add, J_sub, J_mul, J_neg, J_lt, J_le, J_eq, J_nat, J_in, J_div] at c1
      unfold jS at h
      rw [if_neg (by omega)] at h
      have h : post (some (.int (J (if gL M row (fr + t) = 0 ∨ gL M row (fr + t) = 1 then (if jB (fun k => gL M row (fr + k)) t b + 5 < jA (fun k => gL M row (fr + k)) t a + (t + 1) / 2 then 1 else if jA (fun k => gL M row (fr + k)) t a + 4 < jB (fun k => gL M row (fr + k)) t b + t / 2 then 2 else jS (fun k => gL M row (fr + k)) (sz - fr) m (t + 1) (jA (fun k => gL M row (fr + k)) t a) (jB (fun k => gL M row (fr + k)) t b)) else -10 - (t : Int))))) M := h
      rw [← e4] at h
      have hA : jA (fun k => gL M row (fr + k)) t a = if t % 2 = 0 then a + gv x4 else a := by rw [e4]; rfl
      have hB : jB (fun k => gL M row (fr + k)) t b = if t % 2 = 0 then b else b + gv x4 := by rw [e4]; rfl
      have g1 : gv x4 ≤ 1 := by unfold gv; split <;> omega
      have bA : jA (fun k => gL M row (fr + k)) t a ≤ t + 1 := by rw [hA]; split <;> omega
      have bB : jB (fun k => gL M row (fr + k)) t b ≤ t + 1 := by rw [hB]; split <;> omega
      have ihh := ih (t + 1) (jA (fun k => gL M row (fr + k)) t a) (jB (fun k => gL M row (fr + k)) t b) (by omega) bA bB
      generalize jA (fun k => gL M row (fr + k)) t a = a' at *
      generalize jB (fun k => gL M row (fr + k)) t b = b' at *
      have fin : (x4 = 0 ∨ x4 = 1) → ∀ x7 x9 : Int64, x7 = K a' → x9 = K b' → (((lg_cmp x7 ((x9 + (5 : Int64)) - (J (((t + 1) / 2 : Nat) : Int)).toInt64)) ≤ 0 → (((lg_cmp x9 (((x7 + (5 : Int64)) - (1 : Int64)) - (J ((t / 2 : Nat) : Int)).toInt64)) ≤ 0 → ∀ x12 : Int32, x12 = J t + (1 : Int32) → LX7_judged_27 D d row (J sz) (J fr) x7 x9 x12 M post) ∧ (¬ (lg_cmp x9 (((x7 + (5 : Int64)) - (1 : Int64)) - (J ((t / 2 : Nat) : Int)).toInt64)) ≤ 0 → post (some (.int (2 : Int32))) M))) ∧ (¬ (lg_cmp x7 ((x9 + (5 : Int64)) - (J (((t + 1) / 2 : Nat) : Int)).toInt64)) ≤ 0 → post (some (.int (1 : Int32))) M)) := by
        intro h01 x7 x9 e7 e9
        rw [if_pos h01] at h
        rw [e7, e9, lg_cmp_le, lg_cmp_le]
        refine ⟨fun c2 => ⟨fun c3 x12 e12 => ?_, fun c3 => ?_⟩, fun c2 => ?_⟩
        · simp (disch := omega) only [J_lit, J_add, J_sub, J_mul, J_neg, J_lt, J_le, J_eq, J_nat, J_in, J_div, K_lit, K_add, K_sub, K_mul, K_neg, K_lt, K_le, K_eq, J_i2l, K_l2i, K_div] at c2 c3
          rw [e12, J_suc]
          rw [if_neg (by omega), if_neg (by omega)] at h
          exact ihh h
        · simp (disch := omega) only [J_lit, J_add, J_sub, J_mul, J_neg, J_lt, J_le, J_eq, J_nat, J_in, J_div, K_lit, K_add, K_sub, K_mul, K_neg, K_lt, K_le, K_eq, J_i2l, K_l2i, K_div] at c2 c3
          rw [if_neg (by omega), if_pos (by omega)] at h
          exact h
        · simp (disch := omega) only [J_lit, J_add, J_sub, J_mul, J_neg, J_lt, J_le, J_eq, J_nat, J_in, J_div, K_lit, K_add, K_sub, K_mul, K_neg, K_lt, K_le, K_eq, J_i2l, K_l2i, K_div] at c2
          rw [if_pos (by omega)] at h
          exact h
      have k0 : ∀ z : Nat, K (z : Int) + (0 : Int64) = K z := fun z => by simp (disch := omega) only [J_lit, J_add, J_sub, J_mul, J_neg, J_lt, J_le, J_eq, J_nat, J_in, J_div, K_lit, K_add, K_sub, K_mul, K_neg, K_lt, K_le, K_eq, J_i2l, K_l2i, K_div]; congr 1
      rw [lg_cmp_eq, lg_cmp_eq]
      refine ⟨fun c2 => ?_, fun c2 => ⟨fun c3 => ?_, fun c3 => ?_⟩⟩
      · have gz : gv x4 = 0 := by unfold gv; rw [if_pos c2]
        have f := fin (Or.inl c2)
        rw [gz] at hA hB
        refine ⟨fun c4 x7 e7 => ⟨fun _ x9 e9 => f _ _ ?_ ?_, fun c5 => absurd c5 c4⟩, fun c4 x7 e7 => ⟨fun c5 => absurd c4 c5, fun _ x9 e9 => f _ _ ?_ ?_⟩⟩
        all_goals simp (disch := omega) only [J_lit, J_add, J_sub, J_mul, J_neg, J_lt, J_le, J_eq, J_nat, J_in, J_div] at c4
        · rw [e7, k0, hA, if_neg (by omega)]
        · rw [e9, c2, k0, hB, if_neg (by omega), Nat.add_zero]
        · rw [e7, c2, k0, hA, if_pos (by omega), Nat.add_zero]
        · rw [e9, k0, hB, if_pos (by omega)]
      · have gz : gv x4 = 1 := by unfold gv; rw [if_neg c2]
        have f := fin (Or.inr c3)
        rw [gz] at hA hB
        have k1 : ∀ z : Nat, K (z : Int) + (1 : Int64) = K ((z + 1 : Nat) : Int) := fun z => by simp (disch := omega) only [J_lit, J_add, J_sub, J_mul, J_neg, J_lt, J_le, J_eq, J_nat, J_in, J_div, K_lit, K_add, K_sub, K_mul, K_neg, K_lt, K_le, K_eq, J_i2l, K_l2i, K_div]; congr 1
        refine ⟨fun c4 x7 e7 => ⟨fun _ x9 e9 => f _ _ ?_ ?_, fun c5 => absurd c5 c4⟩, fun c4 x7 e7 => ⟨fun c5 => absurd c4 c5, fun _ x9 e9 => f _ _ ?_ ?_⟩⟩
        all_goals simp (disch := omega) only [J_lit, J_add, J_sub, J_mul, J_neg, J_lt, J_le, J_eq, J_nat, J_in, J_div] at c4
        · rw [e7, k0, hA, if_neg (by omega)]
        · rw [e9, c3, k1, hB, if_neg (by omega)]
        · rw [e7, c3, k1, hA, if_pos (by omega)]
        · rw [e9, k0, hB, if_pos (by omega)]
      · rw [if_neg (fun q => q.elim c2 c3)] at h
        have : (-10 : Int32) - J t = J (-10 - (t : Int)) := by
          have e : (-10 : Int32) = J (-10) := by decide
          rw [e]
          simp (disch := omega) only [J_lit, J_add, J_sub, J_mul, J_neg, J_lt, J_le, J_eq, J_nat, J_in, J_div]
        rw [this]
        exact h
    · simp (disch := omega) only [J_lit, J_add, J_sub, J_mul, J_neg, J_lt, J_le, J_eq, J_nat, J_in, J_div] at c1
      unfold jS at h
      rw [if_pos (by omega)] at h
      have : (1000 : Int32) + J t = J (1000 + (t : Int)) := by simp (disch := omega) only [J_lit, J_add, J_sub, J_mul, J_neg, J_lt, J_le, J_eq, J_nat, J_in, J_div]
      rw [this]
      exact h
theorem c_judged {row sz : Nat} {a : Int32} {P : Int32 → Mm → Prop} (hs : Sh M row (2, 60)) (h2 : sz ≤ 60) (ha : a < 0 → P (1000 : Int32) M) (hb : ∀ fr : Nat, fr ≤ 2147483647 → a = J fr → P (J (jS (fun k => gL M row (fr + k)) (sz - fr) 10 0 0 0)) M) : AMi D d mX7_judged [.ref row, .int (J sz), .int a] M P := by
  refine rX7_judged D d row (J sz) a M _ (.nil M) hs ⟨fun c => ⟨_, rfl, .refl M, ha c⟩, fun c => ?_⟩
  have ba := ibd a
  have e := J_of a
  generalize a.toInt = z at *
  subst e
  simp (disch := omega) only [J_lit, J_add, J_sub, J_mul, J_neg, J_lt, J_le, J_eq, J_nat, J_in, J_div] at c
  obtain ⟨fr, rfl⟩ : ∃ fr : Nat, z = fr := ⟨z.toNat, by omega⟩
  have hh := hb fr (by omega) rfl
  refine ⟨fun c1 => ⟨_, rfl, .refl M, ?_⟩, fun c1 => ⟨fun c2 => ?_, fun c2 => ?_⟩⟩
  · simp (disch := omega) only [J_lit, J_add, J_sub, J_mul, J_neg, J_lt, J_le, J_eq, J_nat, J_in, J_div] at c1
    have e : jS (fun k => gL M row (fr + k)) (sz - fr) 10 0 0 0 = 1000 := by
      unfold jS
      rw [if_pos (by omega)]
      rfl
    rw [e] at hh
    exact hh
  · simp (disch := omega) only [J_lit, J_add, J_sub, J_mul, J_neg, J_lt, J_le, J_eq, J_nat, J_in, J_div] at c1
    exact l_judged hs (by omega) h2 10 0 0 0 (by omega) (by omega) (by omega) ⟨_, rfl, .refl M, hh⟩
  · exfalso
    simp (disch := omega) only [J_lit, J_add, J_sub, J_mul, J_neg, J_lt, J_le, J_eq, J_nat, J_in, J_div] at c2
    omega
def enF (t a b : Nat) : Int := if b + 5 < a + t / 2 then 1 else if a + 5 < b + (t + 1) / 2 then 2 else if t = 10 then 3 else 0
theorem c_ended {t a b : Nat} {P : Int32 → Mm → Prop} (hL : Lay 62 98 M) (ht : t ≤ 10) (ha : a ≤ 10) (hb : b ≤ 10) (h : P (J (enF t a b)) M) : AMi D d mX12_ended [.ref 62, .int (J t), .int (J a), .int (J b)] M P := by
  refine rX12_ended D d _ _ _ M _ hL (fun x1 e1 x2 e2 => ?_)
  rw [J_suc, J_half (by omega)] at e1
  rw [J_half (by omega)] at e2
  subst e1 e2
  unfold enF at h
  refine ⟨fun c => ⟨fun c2 => ⟨fun c3 => ⟨_, rfl, .refl M, ?_⟩, fun c3 => ⟨_, rfl, .refl M, ?_⟩⟩, fun c2 => ⟨_, rfl, .refl M, ?_⟩⟩, fun c => ⟨_, rfl, .refl M, ?_⟩⟩
  · simp (disch := omega) only [J_lit, J_add, J_sub, J_mul, J_neg, J_lt, J_le, J_eq, J_nat, J_in, J_div] at c c2 c3
    rw [if_neg (by omega), if_neg (by omega), if_neg (by omega)] at h
    exact h
  · simp (disch := omega) only [J_lit, J_add, J_sub, J_mul, J_neg, J_lt, J_le, J_eq, J_nat, J_in, J_div] at c c2 c3
    rw [if_neg (by omega), if_neg (by omega), if_pos (by omega)] at h
    exact h
  · simp (disch := omega) only [J_lit, J_add, J_sub, J_mul, J_neg, J_lt, J_le, J_eq, J_nat, J_in, J_div] at c c2
    rw [if_neg (by omega), if_pos (by omega)] at h
    exact h
  · simp (disch := omega) only [J_lit, J_add, J_sub, J_mul, J_neg, J_lt, J_le, J_eq, J_nat, J_in, J_div] at c
    rw [if_pos (by omega)] at h
    exact h
theorem l_mJudge {tp fr sz : Nat} {post : Option Value → Mm → Prop} (hL : Lay 62 98 M) (htp : tp < 6) (hsz : sz ≤ 60) (hfr : fr ≤ 2147483647) (e94 : gI M 94 tp = J 0) (e95 : gI M 95 tp = J sz) : ∀ (m t a b : Nat), t + m = 10 → a ≤ t → b ≤ t → post (some (.int (J (jE (fun k => gL M 96 (60 * tp + (fr + k))) (sz - fr) m t a b)))) M → LX12_judge_30 D d (J tp) (J fr) (J a) (J b) (J t) M post := by
  intro m
  induction m with
  | zero =>
    intro t a b ht ha hb h
    refine rX12_judge_30 D d _ _ _ _ _ M post hL (c_ended hL (by omega) (by omega) (by omega) ⟨fun c => ?_, fun c => ?_⟩)
    · exfalso
      unfold enF at c
      split at c
      · exact absurd c (by decide)
      · split at c
        · exact absurd c (by decide)
        · rw [if_pos (by omega)] at c
          exact absurd c (by decide)
    · have e : jE (fun k => gL M 96 (60 * tp + (fr + k))) (sz - fr) 0 t a b = enF t a b := by
        unfold jE enF jS
        rw [if_pos (by omega : t = 10)]
      rw [e] at h
      exact h
  | succ m ih =>
    intro t a b ht ha hb h
    have etp : (J (tp : Int)).toNatClampNeg = tp := by simp (disch := omega) only [J_lit, J_add, J_sub, J_mul, J_neg, J_lt, J_le, J_eq, J_nat, J_in, J_div]; omega
    have p1 := J_par (t := t) (by omega)
    refine rX12_judge_30 D d _ _ _ _ _ M post hL (c_ended hL (by omega) (by omega) (by omega) ⟨fun c => ?_, fun c => ?_⟩)
    · have hne : ¬ b + 5 < a + t / 2 ∧ ¬ a + 5 < b + (t + 1) / 2 := by
        unfold enF at c
        constructor
        · intro q
          rw [if_pos q] at c
          exact absurd c (by decide)
        · intro q
          by_cases q2 : b + 5 < a + t / 2
          · rw [if_pos q2] at c
            exact absurd c (by decide)
          · rw [if_neg q2, if_pos q] at c
            exact absurd c (by decide)
      unfold jE at h
      rw [if_neg hne.1, if_neg hne.2, jS_E] at h
      rw [etp, e94, e95, p1]
      refine ⟨by simp (disch := omega) only [J_lit, J_add, J_sub, J_mul, J_neg, J_lt, J_le, J_eq, J_nat, J_in, J_div]; omega, fun c1 => absurd c1 (by decide), fun _ => ⟨fun c1 => ?_, fun _ => ⟨fun c1 => ?_, fun c1 => ?_⟩⟩⟩
      · exfalso
        simp (disch := omega) only [J_lit, J_add, J_sub, J_mul, J_neg, J_lt, J_le, J_eq, J_nat, J_in, J_div] at c1
        omega
      · simp (disch := omega) only [J_lit, J_add, J_sub, J_mul, J_neg, J_lt, J_le, J_eq, J_nat, J_in, J_div] at c1
        rw [if_neg (by omega)] at h
        have ew : (((60 : Int32) * J tp + J fr) + J t).toNatClampNeg = 60 * tp + (fr + t) := by simp (disch := omega) only [J_lit, J_add, J_sub, J_mul, J_neg, J_lt, J_le, J_eq, J_nat, J_in, J_div]; omega
        rw [ew]
        refine ⟨by simp (disch := omega) only [J_lit, J_add, J_sub, J_mul, J_neg, J_lt, J_le, J_eq, J_nat, J_in, J_div]; omega, fun x4 e4 => ?_⟩
        have h : post (some (.int (J (if gL M 96 (60 * tp + (fr + t)) = 0 ∨ gL M 96 (60 * tp + (fr + t)) = 1 then jE (fun k => gL M 96 (60 * tp + (fr + k))) (sz - fr) m (t + 1) (jA (fun k => gL M 96 (60 * tp + (fr + k))) t a) (jB (fun k => gL M 96 (60 * tp + (fr + k))) t b) else -10 - (t : Int))))) M := h
        rw [← e4] at h
        have hA : jA (fun k => gL M 96 (60 * tp + (fr + k))) t a = if t % 2 = 0 then a + gv x4 else a := by rw [e4]; rfl
        have hB : jB (fun k => gL M 96 (60 * tp + (fr + k))) t b = if t % 2 = 0 then b else b + gv x4 := by rw [e4]; rfl
        have g1 : gv x4 ≤ 1 := by unfold gv; split <;> omega
        have bA : jA (fun k => gL M 96 (60 * tp + (fr + k))) t a ≤ t + 1 := by rw [hA]; split <;> omega
        have bB : jB (fun k => gL M 96 (60 * tp + (fr + k))) t b ≤ t + 1 := by rw [hB]; split <;> omega
        have ihh := ih (t + 1) (jA (fun k => gL M 96 (60 * tp + (fr + k))) t a) (jB (fun k => gL M 96 (60 * tp + (fr + k))) t b) (by omega) bA bB
        generalize jA (fun k => gL M 96 (60 * tp + (fr + k))) t a = a' at *
        generalize jB (fun k => gL M 96 (60 * tp + (fr + k))) t b = b' at *
        have fin : (x4 = 0 ∨ x4 = 1) → ∀ x7 x9 x12 : Int32, x7 = J a' → x9 = J b' → x12 = J t + (1 : Int32) → LX12_judge_30 D d (J tp) (J fr) x7 x9 x12 M post := by
          intro h01 x7 x9 x12 e7 e9 e12
          rw [if_pos h01] at h
          rw [e7, e9, e12, J_suc]
          exact ihh h
        have k0 : ∀ z : Nat, J (z : Int) + (0 : Int32) = J z := fun z => by simp (disch := omega) only [J_lit, J_add, J_sub, J_mul, J_neg, J_lt, J_le, J_eq, J_nat, J_in, J_div]; congr 1
        rw [lg_cmp_eq, lg_cmp_eq]
        refine ⟨fun c2 => ?_, fun c2 => ⟨fun c3 => ?_, fun c3 => ?_⟩⟩
        · have gz : gv x4 = 0 := by unfold gv; rw [if_pos c2]
          have f := fin (Or.inl c2)
          rw [gz] at hA hB
          have hv : x4.toInt32 = 0 := by rw [c2]; rfl
          rw [hv]
          refine ⟨fun c4 x7 e7 => ⟨fun c5 x9 e9 x12 e12 => ?_, fun c5 x9 e9 x12 e12 => f _ _ _ ?_ ?_ e12⟩, fun c4 x7 e7 => ⟨fun c5 x9 e9 x12 e12 => f _ _ _ ?_ ?_ e12, fun c5 x9 e9 x12 e12 => ?_⟩⟩
          all_goals simp (disch := omega) only [J_lit, J_add, J_sub, J_mul, J_neg, J_lt, J_le, J_eq, J_nat, J_in, J_div] at c4 c5
          · omega
          · rw [e7, k0, hA, if_neg (by omega)]
          · rw [e9, k0, hB, if_neg (by omega), Nat.add_zero]
          · rw [e7, k0, hA, if_pos (by omega), Nat.add_zero]
          · rw [e9, k0, hB, if_pos (by omega)]
          · omega
        · have gz : gv x4 = 1 := by unfold gv; rw [if_neg c2]
          have f := fin (Or.inr c3)
          rw [gz] at hA hB
          have hv : x4.toInt32 = 1 := by rw [c3]; rfl
          rw [hv]
          refine ⟨fun c4 x7 e7 => ⟨fun c5 x9 e9 x12 e12 => ?_, fun c5 x9 e9 x12 e12 => f _ _ _ ?_ ?_ e12⟩, fun c4 x7 e7 => ⟨fun c5 x9 e9 x12 e12 => f _ _ _ ?_ ?_ e12, fun c5 x9 e9 x12 e12 => ?_⟩⟩
          all_goals simp (disch := omega) only [J_lit, J_add, J_sub, J_mul, J_neg, J_lt, J_le, J_eq, J_nat, J_in, J_div] at c4 c5
          · omega
          · rw [e7, k0, hA, if_neg (by omega)]
          · rw [e9, J_suc, hB, if_neg (by omega)]
          · rw [e7, J_suc, hA, if_pos (by omega)]
          · rw [e9, k0, hB, if_pos (by omega)]
          · omega
        · rw [if_neg (fun q => q.elim c2 c3)] at h
          have : (-10 : Int32) - J t = J (-10 - (t : Int)) := by
            have e : (-10 : Int32) = J (-10) := by decide
            rw [e]
            simp (disch := omega) only [J_lit, J_add, J_sub, J_mul, J_neg, J_lt, J_le, J_eq, J_nat, J_in, J_div]
          rw [this]
          exact h
      · simp (disch := omega) only [J_lit, J_add, J_sub, J_mul, J_neg, J_lt, J_le, J_eq, J_nat, J_in, J_div] at c1
        rw [if_pos (by omega)] at h
        have : (1000 : Int32) + J t = J (1000 + (t : Int)) := by simp (disch := omega) only [J_lit, J_add, J_sub, J_mul, J_neg, J_lt, J_le, J_eq, J_nat, J_in, J_div]
        rw [this]
        exact h
    · have e : jE (fun k => gL M 96 (60 * tp + (fr + k))) (sz - fr) (m + 1) t a b = enF t a b := by
        unfold enF at c
        unfold jE enF
        by_cases q : b + 5 < a + t / 2
        · rw [if_pos q, if_pos q]
        · by_cases q2 : a + 5 < b + (t + 1) / 2
          · rw [if_neg q, if_pos q2, if_neg q, if_pos q2]
          · rw [if_neg q, if_neg q2, if_neg (by omega)] at c
            exact absurd (by decide) c
      rw [e] at h
      exact h
theorem k_judge {a b : Int32} (hR : Rall M) : Ki D (d + 8) mX11_judge mX12_judge [.int a, .int b] M := by
  obtain ⟨hL, htb, htx, hki, hlo, hta, hw, nr, np, hru, hpl, hte, him⟩ := id hR
  have hL1 : Lay 0 62 M := hL.sub (by omega) (by omega)
  have hL2 : Lay 62 98 M := hL.sub (by omega) (by omega)
  by_cases ht : 0 ≤ a ∧ a < 6
  rotate_left
  · refine rX11_judge D (d + 7) _ _ M _ hL1 (c_isTape hL1 ?_)
    rw [b2_f ht]
    refine ⟨fun q => absurd rfl q, fun _ => ⟨_, rfl, .refl M, ?_⟩⟩
    refine rX12_judge D (d + 7) _ _ M _ hL2 (c_mTape hL2 ?_)
    rw [b2_f ht]
    exact ⟨fun q => absurd rfl q, fun _ => ⟨_, rfl, .refl M, rfl, hR⟩⟩
  have ht' := b2_t ht
  obtain ⟨t, ht6, rfl⟩ := td ht
  have et : (J (t : Int)).toNatClampNeg = t := by simp (disch := omega) only [J_lit, J_add, J_sub, J_mul, J_neg, J_lt, J_le, J_eq, J_nat, J_in, J_div]; omega
  obtain ⟨s, n, s1, s2, hn, f1, f2, f3, f4, h0, hit⟩ := hta t ht6
  -- where the reference's first look ends it
  have fst : ∀ x : Int32, (s ≤ 0 ∧ (s < 0 ∨ b < 0)) → AMi D (d + 8) mX12_judge [.ref 62, .int (J t), .int b] M (fun y M2 => (1000 : Int32) = y ∧ Rall M2) := by
    intro _ hx
    refine rX12_judge D (d + 7) _ _ M _ hL2 (c_mTape hL2 ?_)
    rw [ht', et, f2]
    refine ⟨fun _ => ⟨by simp (disch := omega) only [J_lit, J_add, J_sub, J_mul, J_neg, J_lt, J_le, J_eq, J_nat, J_in, J_div]; omega, fun _ => ?_, fun c => ?_⟩, fun q => absurd q (by decide)⟩
    · refine rX12_judge_30 D (d + 7) _ _ _ _ _ M _ hL2 (c_ended (t := 0) (a := 0) (b := 0) hL2 (by omega) (by omega) (by omega) ⟨fun _ => ?_, fun c => absurd (by decide) c⟩)
      rw [et, f2]
      refine ⟨by simp (disch := omega) only [J_lit, J_add, J_sub, J_mul, J_neg, J_lt, J_le, J_eq, J_nat, J_in, J_div]; omega, fun _ => ⟨_, rfl, .refl M, rfl, hR⟩, fun c => ⟨fun _ => ⟨_, rfl, .refl M, rfl, hR⟩, fun c2 => ?_⟩⟩
      exfalso
      simp (disch := omega) only [J_lit, J_add, J_sub, J_mul, J_neg, J_lt, J_le, J_eq, J_nat, J_in, J_div] at c
      exact hx.2.elim (fun q => by omega) (fun q => c2 q)
    · exfalso
      simp (disch := omega) only [J_lit, J_add, J_sub, J_mul, J_neg, J_lt, J_le, J_eq, J_nat, J_in, J_div] at c
      omega
  refine rX11_judge D (d + 7) _ _ M _ hL1 (c_isTape hL1 ?_)
  rw [ht', et, f1, f3]
  refine ⟨fun _ => ⟨by simp (disch := omega) only [J_lit, J_add, J_sub, J_mul, J_neg, J_lt, J_le, J_eq, J_nat, J_in, J_div]; omega, fun c1 => ⟨fun c2 => ⟨_, rfl, .refl M, ?_⟩, fun c2 => ?_⟩, fun c1 => ⟨_, rfl, .refl M, fst 0 ?_⟩⟩, fun q => absurd q (by decide)⟩
  · simp (disch := omega) only [J_lit, J_add, J_sub, J_mul, J_neg, J_lt, J_le, J_eq, J_nat, J_in, J_div] at c1 c2
    refine rX12_judge D (d + 7) _ _ M _ hL2 (c_mTape hL2 ?_)
    rw [ht', et, f2]
    refine ⟨fun _ => ⟨by simp (disch := omega) only [J_lit, J_add, J_sub, J_mul, J_neg, J_lt, J_le, J_eq, J_nat, J_in, J_div]; omega, fun c => ?_, fun _ => ⟨_, rfl, .refl M, rfl, hR⟩⟩, fun q => absurd q (by decide)⟩
    exfalso
    simp (disch := omega) only [J_lit, J_add, J_sub, J_mul, J_neg, J_lt, J_le, J_eq, J_nat, J_in, J_div] at c
    omega
  · simp (disch := omega) only [J_lit, J_add, J_sub, J_mul, J_neg, J_lt, J_le, J_eq, J_nat, J_in, J_div] at c1 c2
    subst c2
    refine c_judged (hL.sh (56 + t) ?_ (by omega) (by omega)) hn (fun cb => ⟨_, rfl, .refl M, fst 0 ⟨by omega, Or.inr cb⟩⟩) (fun fr hfr efr => ⟨_, rfl, .refl M, ?_⟩)
    · rcases (by omega : t = 0 ∨ t = 1 ∨ t = 2 ∨ t = 3 ∨ t = 4 ∨ t = 5) with rfl | rfl | rfl | rfl | rfl | rfl <;> rfl
    · subst efr
      refine rX12_judge D (d + 7) _ _ M _ hL2 (c_mTape hL2 ?_)
      rw [ht', et, f2]
      refine ⟨fun _ => ⟨by simp (disch := omega) only [J_lit, J_add, J_sub, J_mul, J_neg, J_lt, J_le, J_eq, J_nat, J_in, J_div]; omega, fun _ => ?_, fun c => absurd (by decide) c⟩, fun q => absurd q (by decide)⟩
      refine l_mJudge (sz := n) hL2 ht6 hn hfr f2 f4 10 0 0 0 (by omega) (by omega) (by omega) ⟨_, rfl, .refl M, ?_, hR⟩
      congr 1
      unfold jE
      rw [if_neg (by omega), if_neg (by omega)]
      refine jS_eq 10 0 0 0 (fun k hk => ?_)
      exact hit (by omega) _ (by omega)
  · simp (disch := omega) only [J_lit, J_add, J_sub, J_mul, J_neg, J_lt, J_le, J_eq, J_nat, J_in, J_div] at c1
    omega
end
