/-! copies -/
section
variable {D : GD} {d : Nat}
theorem l_copy {a b n : Nat} {post : Option Value → Mm → Prop} (hab : a ≠ b) (hn : n ≤ 1000000) : ∀ (m i : Nat) (M : Mm), i + m = n → Lay 62 98 M → Sh M a (1, n) → Sh M b (1, n) → post none (rI M b (fun k => if i ≤ k ∧ k < n then gI M a k else gI M b k)) → LX12_copy_2 D d a b (J i) M post := by
  intro m
  induction m with
  | zero =>
    intro i M hi hL hs ht h
    refine rX12_copy_2 D d n a b (J i) M post hL hs ht ⟨fun c => ?_, fun c => ?_⟩
    · have e : (fun k => if i ≤ k ∧ k < n then gI M a k else gI M b k) = gI M b := by
        funext k
        rw [if_neg (by omega)]
      rw [e, rI_id] at h
      exact h
    · rw [J_ofNat] at c
      exfalso
      simp (disch := omega) only [J_lit, J_add, J_sub, J_mul, J_neg, J_lt, J_le, J_eq, J_nat, J_in, J_div] at c
      omega
  | succ m ih =>
    intro i M hi hL hs ht h
    have ei : (J (i : Int)).toNatClampNeg = i := by simp (disch := omega) only [J_lit, J_add, J_sub, J_mul, J_neg, J_lt, J_le, J_eq, J_nat, J_in, J_div]; omega
    refine rX12_copy_2 D d n a b (J i) M post hL hs ht ⟨fun c => ?_, fun c => ⟨by simp (disch := omega) only [J_lit, J_add, J_sub, J_mul, J_neg, J_lt, J_le, J_eq, J_nat, J_in, J_div]; omega, fun M3 e3 x7 e7 => ?_⟩⟩
    · rw [J_ofNat] at c
      exfalso
      simp (disch := omega) only [J_lit, J_add, J_sub, J_mul, J_neg, J_lt, J_le, J_eq, J_nat, J_in, J_div] at c
      omega
    · rw [ei] at e3
      subst e3
      have e7' : x7 = J ((i + 1 : Nat) : Int) := by rw [e7]; simp (disch := omega) only [J_lit, J_add, J_sub, J_mul, J_neg, J_lt, J_le, J_eq, J_nat, J_in, J_div]; congr 1
      rw [e7']
      refine ih (i + 1) _ (by omega) (hL.of (Sm.refl M).i) (hs.of (Sm.refl M).i) (ht.of (Sm.refl M).i) ?_
      have e : rI (sI M b i (gI M a i)) b (fun k => if i + 1 ≤ k ∧ k < n then gI (sI M b i (gI M a i)) a k else gI (sI M b i (gI M a i)) b k) = rI M b (fun k => if i ≤ k ∧ k < n then gI M a k else gI M b k) := by
        rw [fr_s hab]
        unfold sI
        rw [rI_rI]
        congr 1
        funext k
        rw [gI_rI, if_pos rfl]
        by_cases hk : k = i
        · subst hk
          rw [if_neg (by omega), va_up_self, if_pos (by omega)]
        · rw [va_up_ne _ _ hk]
          by_cases hk2 : i ≤ k ∧ k < n
          · rw [if_pos (by omega), if_pos hk2]
          · rw [if_neg (by omega), if_neg hk2]
      rw [e]
      exact h
theorem c_copy {M : Mm} {a b n : Nat} {P : Mm → Prop} (hab : a ≠ b) (hn : n ≤ 1000000) (hL : Lay 62 98 M) (hs : Sh M a (1, n)) (ht : Sh M b (1, n)) (h : P (rI M b (fun k => if k < n then gI M a k else gI M b k))) : AMv D d mX12_copy [.ref 62, .ref a, .ref b] M P := by
  refine rX12_copy D d n a b M _ hL hs ht (l_copy hab hn n 0 M (by omega) hL hs ht ⟨rfl, (Sm.refl M).ri, ?_⟩)
  simpa using h
theorem gP_rP {M : Mm} {a b : Nat} {f : Nat → Option Nat} : gP (rP M a f) b = if b = a then f else gP M b := rfl
theorem rP_rP {M : Mm} {a : Nat} {f g : Nat → Option Nat} : rP (rP M a f) a g = rP M a g := by
  show (M.1, M.2.1, M.2.2.1, M.2.2.2.1, va_up (va_up M.2.2.2.2 a f) a g) = _
  rw [va_up_up]
  rfl
theorem rP_id {M : Mm} {a : Nat} : rP M a (gP M a) = M := by
  show (M.1, M.2.1, M.2.2.1, M.2.2.2.1, va_up M.2.2.2.2 a (M.2.2.2.2 a)) = _
  rw [va_up_id]
theorem Sm.rp {M M1 : Mm} (h : Sm M M1) {a : Nat} {f : Nat → Option Nat} (ha : (mS M a).1 = 6) : Sm M (rP M1 a f) := ⟨h.1, h.2.1, fun b k hb => by
  have hne : b ≠ a := fun e => hb (e ▸ ha)
  rw [gP_rP, if_neg hne]
  exact h.2.2 b k hb⟩
theorem l_copyM {a b : Nat} {post : Option Value → Mm → Prop} (hab : a ≠ b) : ∀ (m i : Nat) (M : Mm), i + m = 12 → Sh M a (6, 12) → Sh M b (6, 12) → (∀ k p, k < 12 → gP M a k = some p → ∃ c, plc c ∧ Sh M p (0, c)) → post none (rP M b (fun k => if i ≤ k ∧ k < 12 then gP M a k else gP M b k)) → LX11_copyMembers_2 D d a b (J i) M post := by
  intro m
  induction m with
  | zero =>
    intro i M hi hs ht hp h
    have hh : post none M := by
      have e : (fun k => if i ≤ k ∧ k < 12 then gP M a k else gP M b k) = gP M b := by
        funext k
        rw [if_neg (by omega)]
      rw [e, rP_id] at h
      exact h
    refine rX11_copyMembers_2 D d a b (J i) M post (.nil M) hs ht ⟨fun _ => hh, fun _ => ⟨fun _ => hh, fun c => ?_⟩⟩
    exfalso
    simp (disch := omega) only [J_lit, J_add, J_sub, J_mul, J_neg, J_lt, J_le, J_eq, J_nat, J_in, J_div] at c
    omega
  | succ m ih =>
    intro i M hi hs ht hp h
    have ei : (J (i : Int)).toNatClampNeg = i := by simp (disch := omega) only [J_lit, J_add, J_sub, J_mul, J_neg, J_lt, J_le, J_eq, J_nat, J_in, J_div]; omega
    refine rX11_copyMembers_2 D d a b (J i) M post (.nil M) hs ht ⟨fun c => ?_, fun _ => ⟨fun c => ?_, fun c => ⟨by simp (disch := omega) only [J_lit, J_add, J_sub, J_mul, J_neg, J_lt, J_le, J_eq, J_nat, J_in, J_div]; omega, ?_, fun M5 e5 x9 e9 => ?_⟩⟩⟩
    · exfalso
      simp (disch := omega) only [J_lit, J_add, J_sub, J_mul, J_neg, J_lt, J_le, J_eq, J_nat, J_in, J_div] at c
      omega
    · exfalso
      simp (disch := omega) only [J_lit, J_add, J_sub, J_mul, J_neg, J_lt, J_le, J_eq, J_nat, J_in, J_div] at c
      omega
    · rw [ei]
      exact fun p hq => hp i p (by omega) hq
    · rw [ei] at e5
      subst e5
      have e9' : x9 = J ((i + 1 : Nat) : Int) := by rw [e9]; simp (disch := omega) only [J_lit, J_add, J_sub, J_mul, J_neg, J_lt, J_le, J_eq, J_nat, J_in, J_div]; congr 1
      rw [e9']
      have hsm : Sm M (sP M b i (gP M a i)) := (Sm.refl M).p (by rw [ht.2])
      have hga : gP (sP M b i (gP M a i)) a = gP M a := va_up_ne _ _ hab
      refine ih (i + 1) _ (by omega) (hs.of hsm) (ht.of hsm) (fun k p hk hq => ?_) ?_
      · rw [hga] at hq
        obtain ⟨c, h1, h2⟩ := hp k p hk hq
        exact ⟨c, h1, h2.of hsm⟩
      · have e : rP (sP M b i (gP M a i)) b (fun k => if i + 1 ≤ k ∧ k < 12 then gP (sP M b i (gP M a i)) a k else gP (sP M b i (gP M a i)) b k) = rP M b (fun k => if i ≤ k ∧ k < 12 then gP M a k else gP M b k) := by
          rw [hga]
          unfold sP
          rw [rP_rP]
          congr 1
          funext k
          rw [gP_rP, if_pos rfl]
          by_cases hk : k = i
          · subst hk
            rw [if_neg (by omega), va_up_self, if_pos (by omega)]
          · rw [va_up_ne _ _ hk]
            by_cases hk2 : i ≤ k ∧ k < 12
            · rw [if_pos (by omega), if_pos hk2]
            · rw [if_neg (by omega), if_neg hk2]
        rw [e]
        exact h
theorem c_copyM {M : Mm} {a b : Nat} {P : Mm → Prop} (hab : a ≠ b) (hs : Sh M a (6, 12)) (ht : Sh M b (6, 12)) (hp : ∀ k p, k < 12 → gP M a k = some p → ∃ c, plc c ∧ Sh M p (0, c)) (h : P (rP M b (fun k => if k < 12 then gP M a k else gP M b k))) : AMv D d mX11_copyMembers [.ref a, .ref b] M P := by
  refine rX11_copyMembers D d a b M _ (.nil M) hs ht (l_copyM hab 12 0 M (by omega) hs ht hp ⟨rfl, (Sm.refl M).rp (by rw [ht.2]), ?_⟩)
  simpa using h
end
