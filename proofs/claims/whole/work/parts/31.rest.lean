/-! rows written anew; Arrays.fill; what neither would leave (the class) -/
theorem Lay.nil (M : Mm) : Lay 0 0 M := ⟨Nat.zero_le _, fun a _ h => absurd h (Nat.not_lt_zero a), fun q _ _ h => absurd h (Nat.not_lt_zero _)⟩
theorem gI_rI {M : Mm} {a b : Nat} {f : Nat → Int32} : gI (rI M a f) b = if b = a then f else gI M b := rfl
theorem gL_rL {M : Mm} {a b : Nat} {f : Nat → Int64} : gL (rL M a f) b = if b = a then f else gL M b := rfl
theorem gI_rL {M : Mm} {a b : Nat} {f : Nat → Int64} : gI (rL M a f) b = gI M b := rfl
theorem gL_rI {M : Mm} {a b : Nat} {f : Nat → Int32} : gL (rI M a f) b = gL M b := rfl
theorem gP_rI {M : Mm} {a : Nat} {f : Nat → Int32} : gP (rI M a f) = gP M := rfl
theorem gP_rL {M : Mm} {a : Nat} {f : Nat → Int64} : gP (rL M a f) = gP M := rfl
theorem va_up_up {α : Type} (f : Nat → α) (k : Nat) (v w : α) : va_up (va_up f k v) k w = va_up f k w := by
  funext j
  unfold va_up
  by_cases h : j = k <;> simp [h]
theorem va_up_id {α : Type} (f : Nat → α) (k : Nat) : va_up f k (f k) = f := by
  funext j
  unfold va_up
  by_cases h : j = k <;> simp [h]
theorem va_up_cm {α : Type} (f : Nat → α) {k j : Nat} (v w : α) (h : k ≠ j) : va_up (va_up f k v) j w = va_up (va_up f j w) k v := by
  funext i
  unfold va_up
  by_cases h1 : i = k
  · subst h1; simp [h]
  · simp [h1]
theorem rI_rI {M : Mm} {a : Nat} {f g : Nat → Int32} : rI (rI M a f) a g = rI M a g := by
  show (M.1, M.2.1, va_up (va_up M.2.2.1 a f) a g, M.2.2.2.1, M.2.2.2.2) = _
  rw [va_up_up]
  rfl
theorem rL_rL {M : Mm} {a : Nat} {f g : Nat → Int64} : rL (rL M a f) a g = rL M a g := by
  show (M.1, M.2.1, M.2.2.1, va_up (va_up M.2.2.2.1 a f) a g, M.2.2.2.2) = _
  rw [va_up_up]
  rfl
theorem rI_id {M : Mm} {a : Nat} : rI M a (gI M a) = M := by
  show (M.1, M.2.1, va_up M.2.2.1 a (M.2.2.1 a), M.2.2.2.1, M.2.2.2.2) = _
  rw [va_up_id]
theorem rL_id {M : Mm} {a : Nat} : rL M a (gL M a) = M := by
  show (M.1, M.2.1, M.2.2.1, va_up M.2.2.2.1 a (M.2.2.2.1 a), M.2.2.2.2) = _
  rw [va_up_id]
theorem rI_cm {M : Mm} {a b : Nat} {f g : Nat → Int32} (h : a ≠ b) : rI (rI M a f) b g = rI (rI M b g) a f := by
  show (M.1, M.2.1, va_up (va_up M.2.2.1 a f) b g, M.2.2.2.1, M.2.2.2.2) = _
  rw [va_up_cm _ _ _ h]
  rfl
theorem sI_rI {M : Mm} {a k : Nat} {f : Nat → Int32} {x : Int32} : sI (rI M a f) a k x = rI M a (va_up f k x) := by
  unfold sI
  rw [gI_rI, if_pos rfl, rI_rI]
theorem sI_rI' {M : Mm} {a b k : Nat} {f : Nat → Int32} {x : Int32} (h : a ≠ b) : sI (rI M a f) b k x = rI (sI M b k x) a f := by
  unfold sI
  rw [gI_rI, if_neg (Ne.symm h), rI_cm h]
theorem sL_rL {M : Mm} {a k : Nat} {f : Nat → Int64} {x : Int64} : sL (rL M a f) a k x = rL M a (va_up f k x) := by
  unfold sL
  rw [gL_rL, if_pos rfl, rL_rL]
theorem J_ofNat (n : Nat) : Int32.ofNat n = J n := Int32.ofInt_eq_ofNat.symm
theorem l_fill {D : GD} {d n a : Nat} {v : Int32} {post : Option Value → Mm → Prop} (hn : n ≤ 1000000) : ∀ (m i : Nat) (M : Mm), i + m = n → Sh M a (1, n) → post none (rI M a (fun k => if i ≤ k ∧ k < n then v else gI M a k)) → LJ7_fill_53178_5 D d a v (J i) (J n) M post := by
  intro m
  induction m with
  | zero =>
    intro i M hi hs h
    refine rJ7_fill_53178_5 D d n a v (J i) (J n) M post (.nil M) hs ⟨fun c => ?_, fun c => ?_⟩
    · have e : (fun k => if i ≤ k ∧ k < n then v else gI M a k) = gI M a := by
        funext k
        rw [if_neg (by omega)]
      rw [e, rI_id] at h
      exact h
    · simp (disch := omega) only [J_lit, J_add, J_sub, J_mul, J_neg, J_lt, J_le, J_eq, J_nat, J_in, J_div] at c
      omega
  | succ m ih =>
    intro i M hi hs h
    refine rJ7_fill_53178_5 D d n a v (J i) (J n) M post (.nil M) hs ⟨fun c => ?_, fun c => ?_⟩
    · simp (disch := omega) only [J_lit, J_add, J_sub, J_mul, J_neg, J_lt, J_le, J_eq, J_nat, J_in, J_div] at c
      omega
    · refine ⟨by simp (disch := omega) only [J_lit, J_add, J_sub, J_mul, J_neg, J_lt, J_le, J_eq, J_nat, J_in, J_div]; omega, ?_⟩
      intro M3 e3 x7 e7
      subst e3
      have e7' : x7 = J ((i + 1 : Nat) : Int) := by rw [e7]; simp (disch := omega) only [J_lit, J_add, J_sub, J_mul, J_neg, J_lt, J_le, J_eq, J_nat, J_in, J_div]; congr 1
      rw [e7']
      refine ih (i + 1) _ (by omega) (hs.of (Sm.refl M).i) ?_
      have ei : (J (i : Int)).toNatClampNeg = i := by simp (disch := omega) only [J_lit, J_add, J_sub, J_mul, J_neg, J_lt, J_le, J_eq, J_nat, J_in, J_div]; omega
      rw [ei]
      have e : rI (sI M a i v) a (fun k => if i + 1 ≤ k ∧ k < n then v else gI (sI M a i v) a k) = rI M a (fun k => if i ≤ k ∧ k < n then v else gI M a k) := by
        unfold sI
        rw [rI_rI]
        congr 1
        funext k
        rw [gI_rI, if_pos rfl]
        by_cases hk : k = i
        · subst hk
          rw [if_neg (by omega), va_up_self, if_pos (by omega)]
        · rw [va_up_ne _ _ hk]
          by_cases hk2 : i ≤ k ∧ k < n
          · rw [if_pos (by omega), if_pos hk2]
          · rw [if_neg (by omega), if_neg hk2]
      rw [e]
      exact h
theorem c_fill {D : GD} {d n a : Nat} {v : Int32} {M : Mm} {P : Mm → Prop} (hn : n ≤ 1000000) (hs : Sh M a (1, n)) (h : P (rI M a (fun k => if k < n then v else gI M a k))) : AMv D d mJ7_fill_53178 [.ref a, .int v] M P := by
  refine rJ7_fill_53178 D d n a v M _ (.nil M) hs ?_
  intro x1 e1
  rw [e1, J_ofNat]
  refine l_fill hn n 0 M (by omega) hs (vret (Sm.refl M).ri ?_)
  simpa using h
theorem l_fillL {D : GD} {d n a : Nat} {v : Int64} {post : Option Value → Mm → Prop} (hn : n ≤ 1000000) : ∀ (m i : Nat) (M : Mm), i + m = n → Sh M a (2, n) → post none (rL M a (fun k => if i ≤ k ∧ k < n then v else gL M a k)) → LJ7_fill_d0a16_6 D d a v (J i) (J n) M post := by
  intro m
  induction m with
  | zero =>
    intro i M hi hs h
    refine rJ7_fill_d0a16_6 D d n a v (J i) (J n) M post (.nil M) hs ⟨fun c => ?_, fun c => ?_⟩
    · have e : (fun k => if i ≤ k ∧ k < n then v else gL M a k) = gL M a := by
        funext k
        rw [if_neg (by omega)]
      rw [e, rL_id] at h
      exact h
    · simp (disch := omega) only [J_lit, J_add, J_sub, J_mul, J_neg, J_lt, J_le, J_eq, J_nat, J_in, J_div] at c
      omega
  | succ m ih =>
    intro i M hi hs h
    refine rJ7_fill_d0a16_6 D d n a v (J i) (J n) M post (.nil M) hs ⟨fun c => ?_, fun c => ?_⟩
    · simp (disch := omega) only [J_lit, J_add, J_sub, J_mul, J_neg, J_lt, J_le, J_eq, J_nat, J_in, J_div] at c
      omega
    · refine ⟨by simp (disch := omega) only [J_lit, J_add, J_sub, J_mul, J_neg, J_lt, J_le, J_eq, J_nat, J_in, J_div]; omega, ?_⟩
      intro M3 e3 x7 e7
      subst e3
      have e7' : x7 = J ((i + 1 : Nat) : Int) := by rw [e7]; simp (disch := omega) only [J_lit, J_add, J_sub, J_mul, J_neg, J_lt, J_le, J_eq, J_nat, J_in, J_div]; congr 1
      rw [e7']
      refine ih (i + 1) _ (by omega) (hs.of (Sm.refl M).l) ?_
      have ei : (J (i : Int)).toNatClampNeg = i := by simp (disch := omega) only [J_lit, J_add, J_sub, J_mul, J_neg, J_lt, J_le, J_eq, J_nat, J_in, J_div]; omega
      rw [ei]
      have e : rL (sL M a i v) a (fun k => if i + 1 ≤ k ∧ k < n then v else gL (sL M a i v) a k) = rL M a (fun k => if i ≤ k ∧ k < n then v else gL M a k) := by
        unfold sL
        rw [rL_rL]
        congr 1
        funext k
        rw [gL_rL, if_pos rfl]
        by_cases hk : k = i
        · subst hk
          rw [if_neg (by omega), va_up_self, if_pos (by omega)]
        · rw [va_up_ne _ _ hk]
          by_cases hk2 : i ≤ k ∧ k < n
          · rw [if_pos (by omega), if_pos hk2]
          · rw [if_neg (by omega), if_neg hk2]
      rw [e]
      exact h
theorem c_fillL {D : GD} {d n a : Nat} {v : Int64} {M : Mm} {P : Mm → Prop} (hn : n ≤ 1000000) (hs : Sh M a (2, n)) (h : P (rL M a (fun k => if k < n then v else gL M a k))) : AMv D d mJ7_fill_d0a16 [.ref a, .long v] M P := by
  refine rJ7_fill_d0a16 D d n a v M _ (.nil M) hs ?_
  intro x1 e1
  rw [e1, J_ofNat]
  refine l_fillL hn n 0 M (by omega) hs (vret (Sm.refl M).rl ?_)
  simpa using h
