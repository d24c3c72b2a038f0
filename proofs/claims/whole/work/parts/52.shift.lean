/-! shift -/
section
variable {D : GD} {d : Nat}
theorem l_sh2 {o j n : Nat} {post : Option Value → Mm → Prop} (ho : o < 6) (hj : j + n ≤ 60) : ∀ (m k : Nat) (M : Mm), k + m = n → Lay 62 98 M → (∀ M', Sm M M' → gI M' = gI M → gP M' = gP M → (∀ a, a ≠ 96 → gL M' a = gL M a) → (∀ x, gL M' 96 x = if 60 * o + j + k ≤ x ∧ x < 60 * o + j + n then gL M 97 (x - (60 * o + j)) else gL M 96 x) → post (some (.int (J n))) M') → LX12_shift_141 D d (J o) (J j) (J n) (J k) M post := by
  intro m
  induction m with
  | zero =>
    intro k M hk hL h
    refine rX12_shift_141 D d _ _ _ _ M post hL ⟨fun _ => h M (.refl M) rfl rfl (fun _ _ => rfl) (fun x => ?_), fun c => ?_⟩
    · rw [if_neg (by omega)]
    · exfalso
      simp (disch := omega) only [J_lit, J_add, J_sub, J_mul, J_neg, J_lt, J_le, J_eq, J_nat, J_in, J_div] at c
      omega
  | succ m ih =>
    intro k M hk hL h
    have ek : (J (k : Int)).toNatClampNeg = k := by simp (disch := omega) only [J_lit, J_add, J_sub, J_mul, J_neg, J_lt, J_le, J_eq, J_nat, J_in, J_div]; omega
    have ew : (((60 : Int32) * J o + J j) + J k).toNatClampNeg = 60 * o + j + k := by simp (disch := omega) only [J_lit, J_add, J_sub, J_mul, J_neg, J_lt, J_le, J_eq, J_nat, J_in, J_div]; omega
    refine rX12_shift_141 D d _ _ _ _ M post hL ⟨fun c => ?_, fun _ => ⟨by simp (disch := omega) only [J_lit, J_add, J_sub, J_mul, J_neg, J_lt, J_le, J_eq, J_nat, J_in, J_div]; omega, by simp (disch := omega) only [J_lit, J_add, J_sub, J_mul, J_neg, J_lt, J_le, J_eq, J_nat, J_in, J_div]; omega, fun M4 e4 x8 e8 => ?_⟩⟩
    · exfalso
      simp (disch := omega) only [J_lit, J_add, J_sub, J_mul, J_neg, J_lt, J_le, J_eq, J_nat, J_in, J_div] at c
      omega
    · rw [ew, ek] at e4
      subst e4
      have e8' : x8 = J ((k + 1 : Nat) : Int) := by rw [e8]; simp (disch := omega) only [J_lit, J_add, J_sub, J_mul, J_neg, J_lt, J_le, J_eq, J_nat, J_in, J_div]; congr 1
      rw [e8']
      refine ih (k + 1) _ (by omega) (hL.of (Sm.refl M).l) (fun M' hs g1 g2 g3 g4 => h M' ((Sm.refl M).l.trans hs) (g1.trans rfl) (g2.trans rfl) (fun a ha => (g3 a ha).trans (fr_l ha)) (fun x => ?_))
      rw [g4 x]
      have q97 : gL (sL M 96 (60 * o + j + k) (gL M 97 k)) 97 = gL M 97 := fr_l (by omega)
      have q96 : gL (sL M 96 (60 * o + j + k) (gL M 97 k)) 96 = va_up (gL M 96) (60 * o + j + k) (gL M 97 k) := rfl
      rw [q97, q96]
      by_cases e : x = 60 * o + j + k
      · subst e
        rw [if_neg (by omega), va_up_self, if_pos (by omega)]
        congr 1
        omega
      · rw [va_up_ne _ _ e]
        by_cases e2 : 60 * o + j + (k + 1) ≤ x ∧ x < 60 * o + j + n
        · rw [if_pos e2, if_pos (by omega)]
        · rw [if_neg e2, if_neg (by omega)]
theorem l_sh1 {t i o j n : Nat} {post : Option Value → Mm → Prop} (ht : t < 6) (hi : i + n ≤ 60) : ∀ (m k : Nat) (M : Mm), k + m = n → Lay 62 98 M → (∀ M', Sm M M' → gI M' = gI M → gP M' = gP M → (∀ a, a ≠ 97 → gL M' a = gL M a) → (∀ x, gL M' 97 x = if k ≤ x ∧ x < n then gL M 96 (60 * t + i + x) else gL M 97 x) → LX12_shift_141 D d (J o) (J j) (J n) (0 : Int32) M' post) → LX12_shift_104 D d (J t) (J i) (J o) (J j) (J n) (J k) M post := by
  intro m
  induction m with
  | zero =>
    intro k M hk hL h
    refine rX12_shift_104 D d _ _ _ _ _ _ M post hL ⟨fun _ => h M (.refl M) rfl rfl (fun _ _ => rfl) (fun x => ?_), fun c => ?_⟩
    · rw [if_neg (by omega)]
    · exfalso
      simp (disch := omega) only [J_lit, J_add, J_sub, J_mul, J_neg, J_lt, J_le, J_eq, J_nat, J_in, J_div] at c
      omega
  | succ m ih =>
    intro k M hk hL h
    have ek : (J (k : Int)).toNatClampNeg = k := by simp (disch := omega) only [J_lit, J_add, J_sub, J_mul, J_neg, J_lt, J_le, J_eq, J_nat, J_in, J_div]; omega
    have ew : (((60 : Int32) * J t + J i) + J k).toNatClampNeg = 60 * t + i + k := by simp (disch := omega) only [J_lit, J_add, J_sub, J_mul, J_neg, J_lt, J_le, J_eq, J_nat, J_in, J_div]; omega
    refine rX12_shift_104 D d _ _ _ _ _ _ M post hL ⟨fun c => ?_, fun _ => ⟨by simp (disch := omega) only [J_lit, J_add, J_sub, J_mul, J_neg, J_lt, J_le, J_eq, J_nat, J_in, J_div]; omega, by simp (disch := omega) only [J_lit, J_add, J_sub, J_mul, J_neg, J_lt, J_le, J_eq, J_nat, J_in, J_div]; omega, fun M4 e4 x8 e8 => ?_⟩⟩
    · exfalso
      simp (disch := omega) only [J_lit, J_add, J_sub, J_mul, J_neg, J_lt, J_le, J_eq, J_nat, J_in, J_div] at c
      omega
    · rw [ew, ek] at e4
      subst e4
      have e8' : x8 = J ((k + 1 : Nat) : Int) := by rw [e8]; simp (disch := omega) only [J_lit, J_add, J_sub, J_mul, J_neg, J_lt, J_le, J_eq, J_nat, J_in, J_div]; congr 1
      rw [e8']
      refine ih (k + 1) _ (by omega) (hL.of (Sm.refl M).l) (fun M' hs g1 g2 g3 g4 => h M' ((Sm.refl M).l.trans hs) (g1.trans rfl) (g2.trans rfl) (fun a ha => (g3 a ha).trans (fr_l ha)) (fun x => ?_))
      rw [g4 x]
      have q96 : gL (sL M 97 k (gL M 96 (60 * t + i + k))) 96 = gL M 96 := fr_l (by omega)
      have q97 : gL (sL M 97 k (gL M 96 (60 * t + i + k))) 97 = va_up (gL M 97) k (gL M 96 (60 * t + i + k)) := rfl
      rw [q97, q96]
      by_cases e : x = k
      · subst e
        rw [if_neg (by omega), va_up_self, if_pos (by omega)]
      · rw [va_up_ne _ _ e]
        by_cases e2 : k + 1 ≤ x ∧ x < n
        · rw [if_pos e2, if_pos (by omega)]
        · rw [if_neg e2, if_neg (by omega)]
theorem c_stretch {M : Mm} {a b : Int32} {n : Nat} {P : Int32 → Mm → Prop} (hL : Lay 0 62 M) (hn : n ≤ 60) (h : P (b2 (0 ≤ a.toInt ∧ 0 ≤ b.toInt ∧ a.toInt + b.toInt ≤ n)) M) : AMi D d mX11_isStretch [.int a, .int b, .int (J n)] M P := by
  have ba := ibd a
  have bb := ibd b
  have qa := J_of a
  have qb := J_of b
  have na : (J a.toInt).toInt = a.toInt := by rw [← qa]
  have nb : (J b.toInt).toInt = b.toInt := by rw [← qb]
  generalize a.toInt = x at *
  generalize b.toInt = y at *
  subst qa qb
  refine rX11_isStretch D d _ _ _ M _ hL ⟨fun c1 => ⟨_, rfl, .refl M, ?_⟩, fun c1 => ⟨fun c2 => ⟨_, rfl, .refl M, ?_⟩, fun c2 => ⟨fun c3 => ⟨_, rfl, .refl M, ?_⟩, fun c3 => ⟨fun c4 => ⟨_, rfl, .refl M, ?_⟩, fun c4 => ⟨_, rfl, .refl M, ?_⟩⟩⟩⟩⟩
  · simp (disch := omega) only [J_lit, J_add, J_sub, J_mul, J_neg, J_lt, J_le, J_eq, J_nat, J_in, J_div] at c1
    rwa [b2_f (by omega)] at h
  · simp (disch := omega) only [J_lit, J_add, J_sub, J_mul, J_neg, J_lt, J_le, J_eq, J_nat, J_in, J_div] at c1 c2
    rwa [b2_f (by omega)] at h
  · simp (disch := omega) only [J_lit, J_add, J_sub, J_mul, J_neg, J_lt, J_le, J_eq, J_nat, J_in, J_div] at c1 c2 c3
    rwa [b2_f (by omega)] at h
  · simp (disch := omega) only [J_lit, J_add, J_sub, J_mul, J_neg, J_lt, J_le, J_eq, J_nat, J_in, J_div] at c1 c2 c3
    simp (disch := omega) only [J_lit, J_add, J_sub, J_mul, J_neg, J_lt, J_le, J_eq, J_nat, J_in, J_div] at c4
    rwa [b2_f (by omega)] at h
  · simp (disch := omega) only [J_lit, J_add, J_sub, J_mul, J_neg, J_lt, J_le, J_eq, J_nat, J_in, J_div] at c1 c2 c3
    simp (disch := omega) only [J_lit, J_add, J_sub, J_mul, J_neg, J_lt, J_le, J_eq, J_nat, J_in, J_div] at c4
    rwa [b2_t (by omega)] at h
theorem k_shift {M : Mm} {a b c e n0 : Int32} (hR : Rall M) : Ki D (d + 8) mX11_shift mX12_shift [.int a, .int b, .int c, .int e, .int n0] M := by
  obtain ⟨hL, htb, htx, hki, hlo, hta, hw, nr, np, hru, hpl, hte, him⟩ := id hR
  have hL1 : Lay 0 62 M := hL.sub (by omega) (by omega)
  have hL2 : Lay 62 98 M := hL.sub (by omega) (by omega)
  by_cases ht : 0 ≤ a ∧ a < 6
  rotate_left
  · refine rX11_shift D (d + 7) _ _ _ _ _ M _ hL1 (c_isTape hL1 ?_)
    rw [b2_f ht]
    refine ⟨fun _ => ⟨_, rfl, .refl M, ?_⟩, fun q => absurd rfl q⟩
    refine rX12_shift D (d + 7) _ _ _ _ _ M _ hL2 (c_mTape hL2 ?_)
    rw [b2_f ht]
    exact ⟨fun _ => ⟨_, rfl, .refl M, rfl, hR⟩, fun q => absurd rfl q⟩
  by_cases ho : 0 ≤ c ∧ c < 6
  rotate_left
  · refine rX11_shift D (d + 7) _ _ _ _ _ M _ hL1 (c_isTape hL1 ?_)
    rw [b2_t ht]
    refine ⟨fun q => absurd q (by decide), fun _ => c_isTape hL1 ?_⟩
    rw [b2_f ho]
    refine ⟨fun q => absurd rfl q, fun _ => ⟨_, rfl, .refl M, ?_⟩⟩
    refine rX12_shift D (d + 7) _ _ _ _ _ M _ hL2 (c_mTape hL2 ?_)
    rw [b2_t ht]
    refine ⟨fun q => absurd q (by decide), fun _ => c_mTape hL2 ?_⟩
    rw [b2_f ho]
    exact ⟨fun q => absurd rfl q, fun _ => ⟨_, rfl, .refl M, rfl, hR⟩⟩
  have ht' := b2_t ht
  have ho' := b2_t ho
  obtain ⟨t, ht6, rfl⟩ := td ht
  obtain ⟨o, ho6, rfl⟩ := td ho
  have et : (J (t : Int)).toNatClampNeg = t := by simp (disch := omega) only [J_lit, J_add, J_sub, J_mul, J_neg, J_lt, J_le, J_eq, J_nat, J_in, J_div]; omega
  have eo : (J (o : Int)).toNatClampNeg = o := by simp (disch := omega) only [J_lit, J_add, J_sub, J_mul, J_neg, J_lt, J_le, J_eq, J_nat, J_in, J_div]; omega
  obtain ⟨s, n, s1, s2, hn, f1, f2, f3, f4, h0, hit⟩ := hta t ht6
  obtain ⟨s', n', s1', s2', hn', f1', f2', f3', f4', h0', hit'⟩ := hta o ho6
  -- the reference behind its first questions
  have mm : ∀ (x : Int32) (M1 : Mm), Sm M M1 → gI M1 94 = gI M 94 → gI M1 95 = gI M 95 → (((s < 0 → x = -11 ∧ Rall M1) ∧ (0 ≤ s → (s' < 0 → x = -11 ∧ Rall M1) ∧ (0 ≤ s' → (s ≠ s' → x = -12 ∧ Rall M1) ∧ (s = s' → (¬ (0 ≤ b.toInt ∧ 0 ≤ n0.toInt ∧ b.toInt + n0.toInt ≤ n ∧ 0 ≤ e.toInt ∧ e.toInt + n0.toInt ≤ n') → x = -13 ∧ Rall M1) ∧ ((0 ≤ b.toInt ∧ 0 ≤ n0.toInt ∧ b.toInt + n0.toInt ≤ n ∧ 0 ≤ e.toInt ∧ e.toInt + n0.toInt ≤ n') → LX12_shift_104 D (d + 7) (J t) b (J o) e n0 (0 : Int32) M1 (fun r M2 => ∃ y, r = some (.int y) ∧ Sm M1 M2 ∧ x = y ∧ Rall M2))))))) → AMi D (d + 8) mX12_shift [.ref 62, .int (J t), .int b, .int (J o), .int e, .int n0] M1 (fun y M2 => x = y ∧ Rall M2) := by
    intro x M1 hs g94 g95 h
    have hL3 := hL2.of hs
    have bb := ibd b
    have be := ibd e
    have bn := ibd n0
    have qb := J_of b
    have qe := J_of e
    have qn := J_of n0
    refine rX12_shift D (d + 7) _ _ _ _ _ M1 _ hL3 (c_mTape hL3 ?_)
    rw [ht']
    refine ⟨fun q => absurd q (by decide), fun _ => c_mTape hL3 ?_⟩
    rw [ho', et, eo, g94, g95, f2, f2', f4, f4']
    generalize b.toInt = zb at *
    generalize e.toInt = ze at *
    generalize n0.toInt = zn at *
    subst qb qe qn
    refine ⟨fun _ => ⟨by simp (disch := omega) only [J_lit, J_add, J_sub, J_mul, J_neg, J_lt, J_le, J_eq, J_nat, J_in, J_div]; omega, fun c1 => ?_, fun c1 => ⟨by simp (disch := omega) only [J_lit, J_add, J_sub, J_mul, J_neg, J_lt, J_le, J_eq, J_nat, J_in, J_div]; omega, fun c2 => ⟨fun c3 => ⟨fun c4 => ?_, fun c4 => ⟨fun c5 => ?_, fun c5 => ⟨fun c6 => ?_, fun c6 => ⟨fun c7 => ?_, fun c7 => ⟨fun c8 => ?_, fun c8 => ?_⟩⟩⟩⟩⟩, fun c3 => ?_⟩, fun c2 => ?_⟩⟩, fun q => absurd q (by decide)⟩
    · simp (disch := omega) only [J_lit, J_add, J_sub, J_mul, J_neg, J_lt, J_le, J_eq, J_nat, J_in, J_div] at c1
      exact ⟨_, rfl, .refl M1, h.1 (by omega)⟩
    · simp (disch := omega) only [J_lit, J_add, J_sub, J_mul, J_neg, J_lt, J_le, J_eq, J_nat, J_in, J_div] at c1 c2 c3 c4
      exact ⟨_, rfl, .refl M1, (((h.2 (by omega)).2 (by omega)).2 (by omega)).1 (by omega)⟩
    · simp (disch := omega) only [J_lit, J_add, J_sub, J_mul, J_neg, J_lt, J_le, J_eq, J_nat, J_in, J_div] at c1 c2 c3 c4 c5
      exact ⟨_, rfl, .refl M1, (((h.2 (by omega)).2 (by omega)).2 (by omega)).1 (by omega)⟩
    · simp (disch := omega) only [J_lit, J_add, J_sub, J_mul, J_neg, J_lt, J_le, J_eq, J_nat, J_in, J_div] at c1 c2 c3 c4 c5 c6
      exact ⟨_, rfl, .refl M1, (((h.2 (by omega)).2 (by omega)).2 (by omega)).1 (by omega)⟩
    · simp (disch := omega) only [J_lit, J_add, J_sub, J_mul, J_neg, J_lt, J_le, J_eq, J_nat, J_in, J_div] at c1 c2 c3 c4 c5 c6
      simp (disch := omega) only [J_lit, J_add, J_sub, J_mul, J_neg, J_lt, J_le, J_eq, J_nat, J_in, J_div] at c7
      exact ⟨_, rfl, .refl M1, (((h.2 (by omega)).2 (by omega)).2 (by omega)).1 (by omega)⟩
    · simp (disch := omega) only [J_lit, J_add, J_sub, J_mul, J_neg, J_lt, J_le, J_eq, J_nat, J_in, J_div] at c1 c2 c3 c4 c5 c6
      simp (disch := omega) only [J_lit, J_add, J_sub, J_mul, J_neg, J_lt, J_le, J_eq, J_nat, J_in, J_div] at c7 c8
      exact (((h.2 (by omega)).2 (by omega)).2 (by omega)).2 (by omega)
    · simp (disch := omega) only [J_lit, J_add, J_sub, J_mul, J_neg, J_lt, J_le, J_eq, J_nat, J_in, J_div] at c1 c2 c3 c4 c5 c6
      simp (disch := omega) only [J_lit, J_add, J_sub, J_mul, J_neg, J_lt, J_le, J_eq, J_nat, J_in, J_div] at c7 c8
      exact ⟨_, rfl, .refl M1, (((h.2 (by omega)).2 (by omega)).2 (by omega)).1 (by omega)⟩
    · simp (disch := omega) only [J_lit, J_add, J_sub, J_mul, J_neg, J_lt, J_le, J_eq, J_nat, J_in, J_div] at c1 c2 c3
      exact ⟨_, rfl, .refl M1, ((h.2 (by omega)).2 (by omega)).1 (by omega)⟩
    · simp (disch := omega) only [J_lit, J_add, J_sub, J_mul, J_neg, J_lt, J_le, J_eq, J_nat, J_in, J_div] at c1 c2
      exact ⟨_, rfl, .refl M1, (h.2 (by omega)).1 (by omega)⟩
  refine rX11_shift D (d + 7) _ _ _ _ _ M _ hL1 (c_isTape hL1 ?_)
  rw [ht']
  refine ⟨fun q => absurd q (by decide), fun _ => c_isTape hL1 ?_⟩
  rw [ho', et, eo, f1, f1', f3]
  refine ⟨fun _ => ⟨by simp (disch := omega) only [J_lit, J_add, J_sub, J_mul, J_neg, J_lt, J_le, J_eq, J_nat, J_in, J_div]; omega, fun c1 => ⟨_, rfl, .refl M, mm _ M (.refl M) rfl rfl ?_⟩, fun c1 => ⟨by simp (disch := omega) only [J_lit, J_add, J_sub, J_mul, J_neg, J_lt, J_le, J_eq, J_nat, J_in, J_div]; omega, fun c2 => ⟨fun c3 => c_stretch hL1 hn ⟨fun c4 => ⟨_, rfl, .refl M, mm _ M (.refl M) rfl rfl ?_⟩, fun c4 => ?_⟩, fun c3 => ⟨_, rfl, .refl M, mm _ M (.refl M) rfl rfl ?_⟩⟩, fun c2 => ⟨_, rfl, .refl M, mm _ M (.refl M) rfl rfl ?_⟩⟩⟩, fun q => absurd q (by decide)⟩
  · simp (disch := omega) only [J_lit, J_add, J_sub, J_mul, J_neg, J_lt, J_le, J_eq, J_nat, J_in, J_div] at c1
    exact ⟨fun _ => ⟨rfl, hR⟩, fun _ => by omega⟩
  · simp (disch := omega) only [J_lit, J_add, J_sub, J_mul, J_neg, J_lt, J_le, J_eq, J_nat, J_in, J_div] at c1 c2 c3
    have c4 := b2_eq0.mp c4
    exact ⟨fun _ => by omega, fun _ => ⟨fun _ => by omega, fun _ => ⟨fun _ => by omega, fun _ => ⟨fun _ => ⟨rfl, hR⟩, fun _ => by omega⟩⟩⟩⟩
  · rw [f3']
    simp (disch := omega) only [J_lit, J_add, J_sub, J_mul, J_neg, J_lt, J_le, J_eq, J_nat, J_in, J_div] at c1 c2 c3
    have c4 := b2_ne0.mp c4
    refine c_stretch hL1 hn' ⟨fun c5 => ?_, fun c5 => ⟨_, rfl, .refl M, mm _ M (.refl M) rfl rfl ?_⟩⟩
    · have c5 := b2_ne0.mp c5
      have bb := ibd b
      have be := ibd e
      have bn := ibd n0
      have qb := J_of b
      have qe := J_of e
      have qn := J_of n0
      obtain ⟨i, hi⟩ : ∃ i : Nat, b.toInt = i := ⟨b.toInt.toNat, by omega⟩
      obtain ⟨j, hj⟩ : ∃ i : Nat, e.toInt = i := ⟨e.toInt.toNat, by omega⟩
      obtain ⟨m, hm⟩ : ∃ i : Nat, n0.toInt = i := ⟨n0.toInt.toNat, by omega⟩
      rw [hi] at qb c4
      rw [hj] at qe c5
      rw [hm] at qn c4 c5
      have ei : b.toNatClampNeg = i := by rw [qb]; simp (disch := omega) only [J_lit, J_add, J_sub, J_mul, J_neg, J_lt, J_le, J_eq, J_nat, J_in, J_div]; omega
      have ej : e.toNatClampNeg = j := by rw [qe]; simp (disch := omega) only [J_lit, J_add, J_sub, J_mul, J_neg, J_lt, J_le, J_eq, J_nat, J_in, J_div]; omega
      have em : n0.toNatClampNeg = m := by rw [qn]; simp (disch := omega) only [J_lit, J_add, J_sub, J_mul, J_neg, J_lt, J_le, J_eq, J_nat, J_in, J_div]; omega
      rw [ei, ej, em]
      refine ⟨?_, ?_, ?_, by omega, by omega, fun M39 e39 => ?_⟩
      · rw [qb]; simp (disch := omega) only [J_lit, J_add, J_sub, J_mul, J_neg, J_lt, J_le, J_eq, J_nat, J_in, J_div]; omega
      · rw [qe]; simp (disch := omega) only [J_lit, J_add, J_sub, J_mul, J_neg, J_lt, J_le, J_eq, J_nat, J_in, J_div]; omega
      · rw [qn]; simp (disch := omega) only [J_lit, J_add, J_sub, J_mul, J_neg, J_lt, J_le, J_eq, J_nat, J_in, J_div]; omega
      · have hs1 : Sm M M39 := by rw [e39]; exact (Sm.refl M).rl
        have g1 : gI M39 = gI M := by rw [e39]; rfl
        have p1 : gP M39 = gP M := by rw [e39]; rfl
        have l1 : ∀ a, a ≠ 56 + o → gL M39 a = gL M a := fun a ha => by rw [e39, gL_rL, if_neg ha]
        have l1' : ∀ k, gL M39 (56 + o) k = if j ≤ k ∧ k < j + m then gL M (56 + t) (i + (k - j)) else gL M (56 + o) k := fun k => by rw [e39, gL_rL, if_pos rfl]; rfl
        refine ⟨_, rfl, hs1, mm _ M39 hs1 (by rw [g1]) (by rw [g1]) ?_⟩
        refine ⟨fun _ => by omega, fun _ => ⟨fun _ => by omega, fun _ => ⟨fun _ => by omega, fun _ => ⟨fun _ => by omega, fun _ => ?_⟩⟩⟩⟩
        rw [qb, qe, qn]
        refine l_sh1 (n := m) ht6 (by omega) m 0 M39 (by omega) (hL2.of hs1) (fun M2 hs2 g2 p2 l2 l2' => ?_)
        refine l_sh2 (n := m) ho6 (by omega) m 0 M2 (by omega) (hL2.of (hs1.trans hs2)) (fun M3 hs3 g3 p3 l3 l3' => ⟨_, rfl, hs2.trans hs3, rfl, ?_⟩)
        have s := (hs1.trans hs2).trans hs3
        have g : gI M3 = gI M := g3.trans (g2.trans g1)
        have pp : gP M3 = gP M := p3.trans (p2.trans p1)
        have G : ∀ x, gI M3 x = gI M x := fun x => by rw [g]
        refine ⟨hL.of s, htb.fr (G _) (G _) (G _) (G _) (G _), htx.fr (by rw [g]) (by rw [g]) (G _) (G _), hki.fr (by rw [g]) (by rw [g]) (G _) (G _) (G _) (G _), hlo.fr (G _) (by rw [g]) (G _), ?_, by rw [g]; exact hw, nr, np, hru.fr (by rw [g]) (by rw [g]) (fun j hj => G _) (G _) (G _) (G _) (G _) (G _) (G _), hpl.fr s.x (fun k => by rw [pp]) (by rw [g]) (by rw [g]) (G _) (G _) (G _) (fun a ha _ => G _), hte.fr (by rw [pp]) (by rw [pp]) (G _), him.fr (by rw [g]) (by rw [g]) (G _) (G _) (by rw [g]) (by rw [g]) (G _) (G _) (G _) (G _) (by rw [pp]) (by rw [pp]) (G _)⟩
        intro u hu
        obtain ⟨su, nu, q1, q2, q3, q4, q5, q6, q7, q8, q9⟩ := hta u hu
        rw [g]
        refine ⟨su, nu, q1, q2, q3, q4, q5, q6, q7, q8, fun hsu k hk => ?_⟩
        have e3 : gL M3 (56 + u) k = gL M39 (56 + u) k := by rw [l3 _ (by omega), l2 _ (by omega)]
        have e96 : ∀ x, gL M2 96 x = gL M 96 x := fun x => by rw [l2 96 (by omega), l1 96 (by omega)]
        have e96' : ∀ x, gL M39 96 x = gL M 96 x := fun x => by rw [l1 96 (by omega)]
        rw [e3, l3']
        by_cases eu : u = o
        · subst eu
          rw [l1' k]
          by_cases hk2 : j ≤ k ∧ k < j + m
          · rw [if_pos hk2, if_pos (by omega), l2', if_pos (by omega), e96', hit (by omega) _ (by omega)]
            congr 1
            omega
          · rw [if_neg hk2, if_neg (by omega), e96]
            exact q9 hsu k hk
        · rw [l1 _ (by omega), if_neg (by omega), e96]
          exact q9 hsu k hk
    · have c5 := b2_eq0.mp c5
      exact ⟨fun _ => by omega, fun _ => ⟨fun _ => by omega, fun _ => ⟨fun _ => by omega, fun _ => ⟨fun _ => ⟨rfl, hR⟩, fun _ => by omega⟩⟩⟩⟩
  · simp (disch := omega) only [J_lit, J_add, J_sub, J_mul, J_neg, J_lt, J_le, J_eq, J_nat, J_in, J_div] at c1 c2 c3
    exact ⟨fun _ => by omega, fun _ => ⟨fun _ => by omega, fun _ => ⟨fun _ => ⟨rfl, hR⟩, fun _ => by omega⟩⟩⟩
  · simp (disch := omega) only [J_lit, J_add, J_sub, J_mul, J_neg, J_lt, J_le, J_eq, J_nat, J_in, J_div] at c1 c2
    exact ⟨fun _ => by omega, fun _ => ⟨fun _ => ⟨rfl, hR⟩, fun _ => by omega⟩⟩
end
