/-! RULE: the reference's stack -/
def Stk (f : Nat → Int32) : List Int → Prop
  | [] => True
  | x :: W => f W.length = J x ∧ Stk f W
theorem Stk.cg {f g : Nat → Int32} : ∀ {W : List Int}, (∀ i, i < W.length → g i = f i) → Stk f W → Stk g W := by
  intro W
  induction W with
  | nil => intro _ _; trivial
  | cons x W ih =>
    intro h hs
    exact ⟨(h W.length (by rw [List.length_cons]; omega)).trans hs.1, ih (fun i hi => h i (by rw [List.length_cons]; omega)) hs.2⟩
def Mtx (ch : Nat → Int) (n : Nat) (M : Mm) : Prop := n ≤ 100 ∧ gI M 62 2 = J n ∧ (∀ p, p < n → gI M 64 p = J (ch p)) ∧ (∀ p, n ≤ p → ch p = -1) ∧ ∀ p, -128 ≤ ch p ∧ ch p ≤ 127
/-- where the reference is within a condition: W waits, S is put -/
def Me (n b cI : Nat) (M0 M : Mm) (p : Nat) (W S : List Int) (k : Nat) : Prop := Fm [62, 69, 70, 71] M0 M ∧ (∀ j, j ≠ 3 → j ≠ 4 → j ≠ 13 → j ≠ 14 → j ≠ 15 → gI M 62 j = gI M0 62 j) ∧ (∀ j, j ≠ cI → gI M 69 j = gI M0 69 j) ∧ (∀ i, i < b → gI M 70 i = gI M0 70 i) ∧ p ≤ n ∧ gI M 62 3 = J p ∧ gI M 62 13 = J ((b + S.length : Nat) : Int) ∧ (∀ i t, S[i]? = some t → gI M 70 (b + i) = J t) ∧ gI M 62 14 = J W.length ∧ Stk (gI M 71) W ∧ gI M 62 15 = J k
section
variable {D : GD} {d : Nat} {ch : Nat → Int} {n b cI : Nat} {M0 M : Mm} {p : Nat} {W S : List Int} {k : Nat}
theorem Me.lay (h : Me n b cI M0 M p W S k) (hL : Lay 62 98 M0) : Lay 62 98 M := hL.of h.1.1
theorem Me.sm {M' : Mm} {p' : Nat} {W' S' : List Int} {k' : Nat} (h : Me n b cI M0 M p W S k) (h' : Me n b cI M0 M' p' W' S' k') : Sm M M' := h.1.1.symm.trans h'.1.1
theorem Me.u {j : Nat} {v : Int32} {p' k' : Nat} {W' : List Int} (h : Me n b cI M0 M p W S k) (hj : j = 3 ∨ j = 4 ∨ j = 13 ∨ j = 14 ∨ j = 15) (hp : p' ≤ n) (h3 : gI (sI M 62 j v) 62 3 = J p') (h13 : gI (sI M 62 j v) 62 13 = J ((b + S.length : Nat) : Int)) (h14 : gI (sI M 62 j v) 62 14 = J W'.length) (hs : Stk (gI M 71) W') (h15 : gI (sI M 62 j v) 62 15 = J k') : Me n b cI M0 (sI M 62 j v) p' W' S k' := by
  obtain ⟨a1, a2, a3, a4, a5, a6, a7, a8, a9, a10, a11⟩ := h
  refine ⟨a1.si (by decide), fun i i1 i2 i3 i4 i5 => ?_, fun i hi => ?_, fun i hi => ?_, hp, h3, h13, fun i t hi => ?_, h14, ?_, h15⟩
  · rw [gI_sI, if_neg (by omega)]
    exact a2 i i1 i2 i3 i4 i5
  · rw [fr_s (by omega)]
    exact a3 i hi
  · rw [fr_s (by omega)]
    exact a4 i hi
  · rw [fr_s (by omega)]
    exact a8 i t hi
  · rw [fr_s (by omega)]
    exact hs
theorem Me.adv (h : Me n b cI M0 M p W S k) (hp : p < n) : Me n b cI M0 (sI M 62 3 (gI M 62 3 + (1 : Int32))) (p + 1) W S k := by
  obtain ⟨a1, a2, a3, a4, a5, a6, a7, a8, a9, a10, a11⟩ := id h
  refine h.u (Or.inl rfl) hp ?_ ?_ ?_ a10 ?_
  · rw [gI_sI, if_pos ⟨rfl, rfl⟩, a6, J_suc]
  · rw [gI_sI, if_neg (by omega)]; exact a7
  · rw [gI_sI, if_neg (by omega)]; exact a9
  · rw [gI_sI, if_neg (by omega)]; exact a11
theorem Me.dig {v : Int32} (h : Me n b cI M0 M p W S k) : Me n b cI M0 (sI M 62 4 v) p W S k := by
  obtain ⟨a1, a2, a3, a4, a5, a6, a7, a8, a9, a10, a11⟩ := id h
  refine h.u (Or.inr (Or.inl rfl)) a5 ?_ ?_ ?_ a10 ?_
  · rw [gI_sI, if_neg (by omega)]; exact a6
  · rw [gI_sI, if_neg (by omega)]; exact a7
  · rw [gI_sI, if_neg (by omega)]; exact a9
  · rw [gI_sI, if_neg (by omega)]; exact a11
theorem Me.opn {k' : Nat} {v : Int32} (h : Me n b cI M0 M p W S k) (hv : v = J k') : Me n b cI M0 (sI M 62 15 v) p W S k' := by
  obtain ⟨a1, a2, a3, a4, a5, a6, a7, a8, a9, a10, a11⟩ := id h
  refine h.u (Or.inr (Or.inr (Or.inr (Or.inr rfl)))) a5 ?_ ?_ ?_ a10 ?_
  · rw [gI_sI, if_neg (by omega)]; exact a6
  · rw [gI_sI, if_neg (by omega)]; exact a7
  · rw [gI_sI, if_neg (by omega)]; exact a9
  · rw [gI_sI, if_pos ⟨rfl, rfl⟩, hv]
theorem Me.pop {x : Int} (h : Me n b cI M0 M p (x :: W) S k) : Me n b cI M0 (sI M 62 14 (gI M 62 14 - (1 : Int32))) p W S k := by
  obtain ⟨a1, a2, a3, a4, a5, a6, a7, a8, a9, a10, a11⟩ := id h
  refine h.u (Or.inr (Or.inr (Or.inr (Or.inl rfl)))) a5 ?_ ?_ ?_ a10.2 ?_
  · rw [gI_sI, if_neg (by omega)]; exact a6
  · rw [gI_sI, if_neg (by omega)]; exact a7
  · rw [gI_sI, if_pos ⟨rfl, rfl⟩, a9, List.length_cons, (by rfl : (1 : Int32) = J 1), J_sub]
    congr 1
    omega
  · rw [gI_sI, if_neg (by omega)]; exact a11
theorem Me.push {x : Int} {M1 M2 : Mm} (h : Me n b cI M0 M p W S k) (hW : W.length ≤ 100) (e1 : M1 = sI M 71 ((gI M 62 14).toNatClampNeg) (J x)) (e2 : M2 = sI M1 62 14 ((gI M1 62 14) + (1 : Int32))) : Me n b cI M0 M2 p (x :: W) S k := by
  obtain ⟨a1, a2, a3, a4, a5, a6, a7, a8, a9, a10, a11⟩ := id h
  have ew : (J (W.length : Int)).toNatClampNeg = W.length := by simp (disch := omega) only [J_lit, J_add, J_sub, J_mul, J_neg, J_lt, J_le, J_eq, J_nat, J_in, J_div]; omega
  rw [a9, ew] at e1
  have s1 : Stk (gI M1 71) (x :: W) := by
    refine ⟨by rw [e1, gI_sI, if_pos ⟨rfl, rfl⟩], Stk.cg (fun i hi => ?_) a10⟩
    rw [e1, gI_sI, if_neg (by omega)]
  have r62 : gI M1 62 = gI M 62 := by rw [e1, fr_s (by omega)]
  refine ⟨?_, fun i i1 i2 i3 i4 i5 => ?_, fun i hi => ?_, fun i hi => ?_, a5, ?_, ?_, fun i t hi => ?_, ?_, ?_, ?_⟩
  · rw [e2, e1]; exact (a1.si (by decide)).si (by decide)
  · rw [e2, gI_sI, if_neg (by omega), r62]
    exact a2 i i1 i2 i3 i4 i5
  · rw [e2, fr_s (by omega), e1, fr_s (by omega)]
    exact a3 i hi
  · rw [e2, fr_s (by omega), e1, fr_s (by omega)]
    exact a4 i hi
  · rw [e2, gI_sI, if_neg (by omega), r62]; exact a6
  · rw [e2, gI_sI, if_neg (by omega), r62]; exact a7
  · rw [e2, fr_s (by omega), e1, fr_s (by omega)]
    exact a8 i t hi
  · rw [e2, gI_sI, if_pos ⟨rfl, rfl⟩, r62, a9, J_suc]
    rfl
  · rw [e2, fr_s (by omega)]
    exact s1
  · rw [e2, gI_sI, if_neg (by omega), r62]; exact a11
theorem Me.to {v : Int32} (h : Me n b cI M0 M p W S k) : Me n b cI M0 (sI M 69 cI v) p W S k := by
  obtain ⟨a1, a2, a3, a4, a5, a6, a7, a8, a9, a10, a11⟩ := id h
  have r62 : gI (sI M 69 cI v) 62 = gI M 62 := by rw [fr_s (by omega)]
  refine ⟨a1.si (by decide), ?_, fun i hi => ?_, fun i hi => ?_, a5, ?_, ?_, fun i t hi => ?_, ?_, ?_, ?_⟩
  · rw [r62]; exact a2
  · rw [gI_sI, if_neg (by omega)]
    exact a3 i hi
  · rw [fr_s (by omega)]
    exact a4 i hi
  · rw [r62]; exact a6
  · rw [r62]; exact a7
  · rw [fr_s (by omega)]
    exact a8 i t hi
  · rw [r62]; exact a9
  · rw [fr_s (by omega)]
    exact a10
  · rw [r62]; exact a11
theorem u_next {P : Int32 → Mm → Prop} (hL : Lay 62 98 M0) (hc : Mtx ch n M0) (h : Me n b cI M0 M p W S k) (kk : P (J (ch p)) M) : AMi D d mX12_next [.ref 62] M P := by
  have hn := hc.1
  have e2 : gI M 62 2 = J n := (h.2.1 2 (by omega) (by omega) (by omega) (by omega) (by omega)).trans hc.2.1
  have e3 := h.2.2.2.2.2.1
  have hp := h.2.2.2.2.1
  have r64 : gI M 64 = gI M0 64 := h.1.2.2.2 64 (by decide)
  have ep : (J (p : Int)).toNatClampNeg = p := by simp (disch := omega) only [J_lit, J_add, J_sub, J_mul, J_neg, J_lt, J_le, J_eq, J_nat, J_in, J_div]; omega
  refine rX12_next D d M _ (h.lay hL) ?_
  rw [e2, e3, ep, r64]
  refine ⟨fun z => ⟨_, rfl, .refl M, ?_⟩, fun z => ⟨by simp (disch := omega) only [J_lit, J_add, J_sub, J_mul, J_neg, J_lt, J_le, J_eq, J_nat, J_in, J_div] at z; simp (disch := omega) only [J_lit, J_add, J_sub, J_mul, J_neg, J_lt, J_le, J_eq, J_nat, J_in, J_div]; omega, _, rfl, .refl M, ?_⟩⟩
  · simp (disch := omega) only [J_lit, J_add, J_sub, J_mul, J_neg, J_lt, J_le, J_eq, J_nat, J_in, J_div] at z
    rw [hc.2.2.2.1 p (by omega)] at kk
    exact kk
  · simp (disch := omega) only [J_lit, J_add, J_sub, J_mul, J_neg, J_lt, J_le, J_eq, J_nat, J_in, J_div] at z
    rw [hc.2.2.1 p (by omega)]
    exact kk
theorem u_put {t : Int} {P : Mm → Prop} (hL : Lay 62 98 M0) (hb : b ≤ 600) (h : Me n b cI M0 M p W S k) (hS : S.length < 100) (kk : ∀ M', Me n b cI M0 M' p W (S ++ [t]) k → P M') : AMv D d mX12_put [.ref 62, .int (J t)] M P := by
  obtain ⟨a1, a2, a3, a4, a5, a6, a7, a8, a9, a10, a11⟩ := id h
  have ew : (J ((b + S.length : Nat) : Int)).toNatClampNeg = b + S.length := by simp (disch := omega) only [J_lit, J_add, J_sub, J_mul, J_neg, J_lt, J_le, J_eq, J_nat, J_in, J_div]; omega
  refine rX12_put D d _ M _ (h.lay hL) ?_
  rw [a7, ew]
  refine ⟨by simp (disch := omega) only [J_lit, J_add, J_sub, J_mul, J_neg, J_lt, J_le, J_eq, J_nat, J_in, J_div]; omega, fun M1 e1 M2 e2 => ?_⟩
  have r62 : gI M1 62 = gI M 62 := by rw [e1, fr_s (by omega)]
  have R : Me n b cI M0 M2 p W (S ++ [t]) k := by
    refine ⟨?_, fun i i1 i2 i3 i4 i5 => ?_, fun i hi => ?_, fun i hi => ?_, a5, ?_, ?_, fun i x hi => ?_, ?_, ?_, ?_⟩
    · rw [e2, e1]; exact (a1.si (by decide)).si (by decide)
    · rw [e2, gI_sI, if_neg (by omega), r62]
      exact a2 i i1 i2 i3 i4 i5
    · rw [e2, fr_s (by omega), e1, fr_s (by omega)]
      exact a3 i hi
    · rw [e2, fr_s (by omega), e1, gI_sI, if_neg (by omega)]
      exact a4 i hi
    · rw [e2, gI_sI, if_neg (by omega), r62]; exact a6
    · rw [e2, gI_sI, if_pos ⟨rfl, rfl⟩, r62, a7, J_suc, List.length_append]
      rfl
    · rw [e2, fr_s (by omega), e1, gI_sI]
      by_cases e : i < S.length
      · rw [List.getElem?_append_left e] at hi
        rw [if_neg (by omega)]
        exact a8 i x hi
      · rw [List.getElem?_append_right (by omega)] at hi
        have e0 : i = S.length := by
          obtain ⟨w, _⟩ := List.getElem?_eq_some_iff.1 hi
          have w' : i - S.length < 1 := w
          omega
        rw [if_pos ⟨rfl, by omega⟩]
        rw [e0, Nat.sub_self] at hi
        cases hi
        rfl
    · rw [e2, gI_sI, if_neg (by omega), r62]; exact a9
    · rw [e2, fr_s (by omega), e1, fr_s (by omega)]
      exact a10
    · rw [e2, gI_sI, if_neg (by omega), r62]; exact a11
  exact ⟨rfl, h.sm R, kk M2 R⟩
end
