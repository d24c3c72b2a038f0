/-! RULE: what is read, and the class's reader -/
theorem Sm.symm {M M1 : Mm} (h : Sm M M1) : Sm M1 M := ⟨h.1.symm, h.2.1.symm, fun a k hk => (h.2.2 a k (by rw [← h.2.1]; exact hk)).symm⟩
/-- a number -/
def pN (ch : Nat → Int) (p : Nat) : Nat × Option Nat := if 48 ≤ ch p ∧ ch p ≤ 57 then (if 48 ≤ ch (p + 1) ∧ ch (p + 1) ≤ 57 then (p + 2, some (10 * (ch p - 48).toNat + (ch (p + 1) - 48).toNat)) else (p + 1, some (ch p - 48).toNat)) else (p, none)
/-- which of these -/
def idx : List Int → Int → Option Nat
  | [], _ => none
  | c :: w, x => if x = c then some 0 else (idx w x).map (· + 1)
/-- a TEST -/
def pT (ch : Nat → Int) (p : Nat) : Nat × Option Int :=
  match idx [108, 111, 116, 100] (ch p) with
  | none => (p, none)
  | some f => match idx [60, 61, 62] (ch (p + 1)) with
    | none => (p + 1, none)
    | some s => match pN ch (p + 2) with
      | (q, none) => (q, none)
      | (q, some n) => (q, some (1000 * (f : Int) + 100 * (s : Int) + (n : Int)))
/-- a word, passed -/
def pW (ch : Nat → Int) : List Int → Nat → Nat × Bool
  | [], p => (p, true)
  | c :: w, p => if ch p = c then pW ch w (p + 1) else (p, false)
/-- THE TEXT, as both keep it -/
def Ctx (ch : Nat → Int) (n : Nat) (M : Mm) : Prop := n ≤ 100 ∧ gI M 1 2 = J n ∧ (∀ p, p < n → ∃ b : Nat, b < 256 ∧ gI M 2 p = J b ∧ ch p = sby b) ∧ ∀ p, n ≤ p → ch p = -1
/-- where the class's reader is: some: what it has made; none: it found a FAULT -/
def Rd (ch : Nat → Int) (n : Nat) (M0 M : Mm) (p : Nat) (f : Option (List Int)) : Prop := Fm [1, 3] M0 M ∧ gI M 1 2 = J n ∧ p ≤ n ∧ gI M 1 4 = J p ∧ (∃ m : Nat, m ≤ 100 ∧ gI M 1 3 = J m) ∧ (∀ A, f = some A → gI M 1 5 = 0 ∧ gI M 1 3 = J A.length ∧ A.length ≤ p ∧ ∀ i x, A[i]? = some x → gI M 3 i = J x) ∧ (f = none → gI M 1 5 = 1)
section
variable {D : GD} {d : Nat} {ch : Nat → Int} {n : Nat} {M0 M : Mm} {p : Nat} {f : Option (List Int)}
theorem Rd.sm {M' : Mm} {p' : Nat} {f' : Option (List Int)} (h : Rd ch n M0 M p f) (h' : Rd ch n M0 M' p' f') : Sm M M' := h.1.1.symm.trans h'.1.1
theorem Rd.lay (h : Rd ch n M0 M p f) (hL : Lay 1 4 M0) : Lay 1 4 M := hL.of h.1.1
/-- one byte on -/
theorem Rd.adv {A : List Int} (h : Rd ch n M0 M p (some A)) (hp : p < n) (hn : n ≤ 100) : Rd ch n M0 (sI M 1 4 (gI M 1 4 + (1 : Int32))) (p + 1) (some A) := by
  obtain ⟨F, e2, hpn, e4, ⟨m, hm, e3⟩, hs, _⟩ := h
  obtain ⟨z5, z3, zl, za⟩ := hs A rfl
  refine ⟨F.si (by decide), ?_, by omega, ?_, ⟨m, hm, ?_⟩, fun B hB => ?_, fun z => by cases z⟩
  · rw [gI_sI, if_neg (by omega)]; exact e2
  · rw [gI_sI, if_pos ⟨rfl, rfl⟩, e4, J_suc]
  · rw [gI_sI, if_neg (by omega)]; exact e3
  · cases hB
    refine ⟨?_, ?_, by omega, fun i x hx => ?_⟩
    · rw [gI_sI, if_neg (by omega)]; exact z5
    · rw [gI_sI, if_neg (by omega)]; exact z3
    · rw [fr_s (by omega)]; exact za i x hx
theorem Rd.flt (h : Rd ch n M0 M p f) : Rd ch n M0 (sI M 1 5 (1 : Int32)) p none := by
  obtain ⟨F, e2, hpn, e4, ⟨m, hm, e3⟩, _, _⟩ := h
  refine ⟨F.si (by decide), ?_, hpn, ?_, ⟨m, hm, ?_⟩, fun B hB => (by cases hB), fun _ => ?_⟩
  · rw [gI_sI, if_neg (by omega)]; exact e2
  · rw [gI_sI, if_neg (by omega)]; exact e4
  · rw [gI_sI, if_neg (by omega)]; exact e3
  · rw [gI_sI, if_pos ⟨rfl, rfl⟩]
theorem Rd.unf {A : List Int} (h : Rd ch n M0 M p (some A)) : Rd ch n M0 (sI M 1 5 (0 : Int32)) p (some A) := by
  obtain ⟨F, e2, hpn, e4, ⟨m, hm, e3⟩, hs, _⟩ := h
  obtain ⟨z5, z3, zl, za⟩ := hs A rfl
  refine ⟨F.si (by decide), ?_, by omega, ?_, ⟨m, hm, ?_⟩, fun B hB => ?_, fun z => by cases z⟩
  · rw [gI_sI, if_neg (by omega)]; exact e2
  · rw [gI_sI, if_neg (by omega)]; exact e4
  · rw [gI_sI, if_neg (by omega)]; exact e3
  · cases hB
    refine ⟨?_, ?_, by omega, fun i x hx => ?_⟩
    · rw [gI_sI, if_pos ⟨rfl, rfl⟩]
    · rw [gI_sI, if_neg (by omega)]; exact z3
    · rw [fr_s (by omega)]; exact za i x hx
theorem Rd.at5 (h : Rd ch n M0 M p f) : (gI M 1 5 = 0) ↔ f.isSome = true := by
  obtain ⟨_, _, _, _, _, hs, hn⟩ := h
  cases f with
  | none => rw [hn rfl]; exact ⟨fun z => absurd z (by decide), fun z => by cases z⟩
  | some A => exact ⟨fun _ => rfl, fun _ => (hs A rfl).1⟩
theorem Ctx.byte (hc : Ctx ch n M0) (h : Rd ch n M0 M p f) (hp : p < n) : ∃ b : Nat, b < 256 ∧ gI M 2 p = J b ∧ ch p = sby b := by
  obtain ⟨b, hb, e, z⟩ := hc.2.2.1 p hp
  exact ⟨b, hb, by rw [h.1.2.2.2 2 (by decide)]; exact e, z⟩
theorem t_sees {c : Int} {P : Int32 → Mm → Prop} (hL : Lay 1 4 M0) (hc : Ctx ch n M0) (h : Rd ch n M0 M p f) (c0 : 0 ≤ c) (c1 : c < 128) (k : P (b2 (f.isSome = true ∧ ch p = c)) M) : AMi D d mX6_sees [.ref 1, .int (J c)] M P := by
  have h5 := h.at5
  obtain ⟨F, e2, hpn, e4, _, _, _⟩ := id h
  have hn := hc.1
  have ep : (J (p : Int)).toNatClampNeg = p := by simp (disch := omega) only [J_lit, J_add, J_sub, J_mul, J_neg, J_lt, J_le, J_eq, J_nat, J_in, J_div]; omega
  refine rX6_sees D d _ M _ (h.lay hL) ⟨fun z => ⟨_, rfl, .refl M, ?_⟩, fun z => ?_⟩
  · rw [b2_f (fun y => z (h5.2 y.1))] at k
    exact k
  · have hf := h5.1 z
    rw [e2, e4, ep]
    by_cases hp : p < n
    · obtain ⟨b, hb, eb, es⟩ := hc.byte h hp
      rw [eb]
      refine ⟨fun y => ?_, fun _ => ⟨by simp (disch := omega) only [J_lit, J_add, J_sub, J_mul, J_neg, J_lt, J_le, J_eq, J_nat, J_in, J_div]; omega, fun y => ⟨_, rfl, .refl M, ?_⟩, fun y => ⟨_, rfl, .refl M, ?_⟩⟩⟩
      · exfalso
        simp (disch := omega) only [J_lit, J_add, J_sub, J_mul, J_neg, J_lt, J_le, J_eq, J_nat, J_in, J_div] at y
        omega
      · simp (disch := omega) only [J_lit, J_add, J_sub, J_mul, J_neg, J_lt, J_le, J_eq, J_nat, J_in, J_div] at y
        rw [b2_f (fun w => ?_)] at k
        · exact k
        · have := w.2
          rw [es] at this
          unfold sby at this
          split at this <;> omega
      · simp (disch := omega) only [J_lit, J_add, J_sub, J_mul, J_neg, J_lt, J_le, J_eq, J_nat, J_in, J_div] at y
        have ec : ch p = c := by
          rw [es]
          unfold sby
          rw [if_pos (by omega)]
          exact y
        rw [b2_t ⟨hf, ec⟩] at k
        exact k
    · refine ⟨fun _ => ⟨_, rfl, .refl M, ?_⟩, fun y => ?_⟩
      · rw [b2_f (fun w => ?_)] at k
        · exact k
        · have := w.2
          rw [hc.2.2.2 p (by omega)] at this
          omega
      · exfalso
        simp (disch := omega) only [J_lit, J_add, J_sub, J_mul, J_neg, J_lt, J_le, J_eq, J_nat, J_in, J_div] at y
        omega
theorem t_fig {P : Int32 → Mm → Prop} (hL : Lay 1 4 M0) (hc : Ctx ch n M0) (h : Rd ch n M0 M p f) (k : P (b2 (f.isSome = true ∧ 48 ≤ ch p ∧ ch p ≤ 57)) M) : AMi D d mX6_seesFigure [.ref 1] M P := by
  have h5 := h.at5
  obtain ⟨F, e2, hpn, e4, _, _, _⟩ := id h
  have hn := hc.1
  have ep : (J (p : Int)).toNatClampNeg = p := by simp (disch := omega) only [J_lit, J_add, J_sub, J_mul, J_neg, J_lt, J_le, J_eq, J_nat, J_in, J_div]; omega
  refine rX6_seesFigure D d M _ (h.lay hL) ⟨fun z => ⟨_, rfl, .refl M, ?_⟩, fun z => ?_⟩
  · rw [b2_f (fun y => z (h5.2 y.1))] at k
    exact k
  · have hf := h5.1 z
    rw [e2, e4, ep]
    by_cases hp : p < n
    · obtain ⟨b, hb, eb, es⟩ := hc.byte h hp
      rw [eb]
      have sb : (48 ≤ ch p ∧ ch p ≤ 57) ↔ (48 ≤ b ∧ b ≤ 57) := by
        rw [es]
        unfold sby
        split <;> omega
      refine ⟨fun y => ?_, fun _ => ⟨by simp (disch := omega) only [J_lit, J_add, J_sub, J_mul, J_neg, J_lt, J_le, J_eq, J_nat, J_in, J_div]; omega, fun y => ⟨_, rfl, .refl M, ?_⟩, fun y => ⟨fun w => ⟨_, rfl, .refl M, ?_⟩, fun w => ⟨_, rfl, .refl M, ?_⟩⟩⟩⟩
      · exfalso
        simp (disch := omega) only [J_lit, J_add, J_sub, J_mul, J_neg, J_lt, J_le, J_eq, J_nat, J_in, J_div] at y
        omega
      · simp (disch := omega) only [J_lit, J_add, J_sub, J_mul, J_neg, J_lt, J_le, J_eq, J_nat, J_in, J_div] at y
        rw [b2_f (fun w => by have := sb.1 w.2; omega)] at k
        exact k
      · simp (disch := omega) only [J_lit, J_add, J_sub, J_mul, J_neg, J_lt, J_le, J_eq, J_nat, J_in, J_div] at w
        rw [b2_f (fun w => by have := sb.1 w.2; omega)] at k
        exact k
      · simp (disch := omega) only [J_lit, J_add, J_sub, J_mul, J_neg, J_lt, J_le, J_eq, J_nat, J_in, J_div] at y
        simp (disch := omega) only [J_lit, J_add, J_sub, J_mul, J_neg, J_lt, J_le, J_eq, J_nat, J_in, J_div] at w
        rw [b2_t ⟨hf, sb.2 ⟨by omega, by omega⟩⟩] at k
        exact k
    · refine ⟨fun _ => ⟨_, rfl, .refl M, ?_⟩, fun y => ?_⟩
      · rw [b2_f (fun w => ?_)] at k
        · exact k
        · have := w.2.1
          rw [hc.2.2.2 p (by omega)] at this
          omega
      · exfalso
        simp (disch := omega) only [J_lit, J_add, J_sub, J_mul, J_neg, J_lt, J_le, J_eq, J_nat, J_in, J_div] at y
        omega
theorem Ctx.lt (hc : Ctx ch n M0) (h : 0 ≤ ch p) : p < n := by
  by_cases z : p < n
  · exact z
  · rw [hc.2.2.2 p (by omega)] at h
    omega
theorem t_make {a1 a2 a3 a4 : Int32} {x : Int} {P : Mm → Prop} (hL : Lay 1 4 M0) (hc : Ctx ch n M0) (h : Rd ch n M0 M p f) (hx : f.isSome = true → (((a1 ||| (a2 <<< ((3 : Int32) &&& 31))) ||| (a3 <<< ((5 : Int32) &&& 31))) ||| (a4 <<< ((7 : Int32) &&& 31))) = J x) (hl : ∀ A, f = some A → A.length < p) (k : ∀ M', Rd ch n M0 M' p (f.map (· ++ [x])) → P M') : AMv D d mX6_make [.ref 1, .int a1, .int a2, .int a3, .int a4] M P := by
  obtain ⟨F, e2, hpn, e4, ⟨m, hm, e3⟩, hs, hno⟩ := id h
  have hn := hc.1
  have em : (J (m : Int)).toNatClampNeg = m := by simp (disch := omega) only [J_lit, J_add, J_sub, J_mul, J_neg, J_lt, J_le, J_eq, J_nat, J_in, J_div]; omega
  refine rX6_make D d _ _ _ _ M _ (h.lay hL) ⟨fun z => ⟨rfl, .refl M, ?_⟩, fun z => ?_⟩
  · rw [e3] at z
    simp (disch := omega) only [J_lit, J_add, J_sub, J_mul, J_neg, J_lt, J_le, J_eq, J_nat, J_in, J_div] at z
    cases f with
    | none => exact k M h
    | some A =>
      obtain ⟨z5, z3, zl, za⟩ := hs A rfl
      have := hl A rfl
      rw [e3] at z3
      simp (disch := omega) only [J_lit, J_add, J_sub, J_mul, J_neg, J_lt, J_le, J_eq, J_nat, J_in, J_div] at z3
      omega
  · rw [e3] at z
    simp (disch := omega) only [J_lit, J_add, J_sub, J_mul, J_neg, J_lt, J_le, J_eq, J_nat, J_in, J_div] at z
    rw [e3, em]
    refine ⟨by simp (disch := omega) only [J_lit, J_add, J_sub, J_mul, J_neg, J_lt, J_le, J_eq, J_nat, J_in, J_div]; omega, fun N1 q1 N2 q2 => ?_⟩
    have g3 : gI N1 1 3 = J m := by rw [q1, fr_s (by omega)]; exact e3
    rw [g3, J_suc] at q2
    have R2 : Rd ch n M0 N2 p (f.map (· ++ [x])) := by
      refine ⟨by rw [q2, q1]; exact (F.si (by decide)).si (by decide), ?_, hpn, ?_, ⟨m + 1, by omega, ?_⟩, fun B hB => ?_, fun z => ?_⟩
      · rw [q2, gI_sI, if_neg (by omega), q1, fr_s (by omega)]; exact e2
      · rw [q2, gI_sI, if_neg (by omega), q1, fr_s (by omega)]; exact e4
      · rw [q2, gI_sI, if_pos ⟨rfl, rfl⟩]
      · cases f with
        | none => cases hB
        | some A =>
          cases hB
          obtain ⟨z5, z3, zl, za⟩ := hs A rfl
          have hl' := hl A rfl
          have eA : A.length = m := by
            rw [e3] at z3
            simp (disch := omega) only [J_lit, J_add, J_sub, J_mul, J_neg, J_lt, J_le, J_eq, J_nat, J_in, J_div] at z3
            omega
          refine ⟨?_, ?_, ?_, fun i y hy => ?_⟩
          · rw [q2, gI_sI, if_neg (by omega), q1, fr_s (by omega)]; exact z5
          · rw [q2, gI_sI, if_pos ⟨rfl, rfl⟩, List.length_append, eA]; rfl
          · rw [List.length_append]
            show A.length + 1 ≤ p
            omega
          · rw [q2, fr_s (by omega), q1, gI_sI, hx rfl]
            by_cases e : i < A.length
            · rw [List.getElem?_append_left e] at hy
              rw [if_neg (by omega)]
              exact za i y hy
            · rw [List.getElem?_append_right (by omega)] at hy
              have e0 : i = m := by
                have := List.getElem?_eq_some_iff.1 hy
                obtain ⟨w, _⟩ := this
                have w' : i - A.length < 1 := w
                omega
              rw [if_pos ⟨rfl, e0⟩]
              rw [e0, eA, Nat.sub_self] at hy
              cases hy
              rfl
      · cases f with
        | some A => cases z
        | none => rw [q2, gI_sI, if_neg (by omega), q1, fr_s (by omega)]; exact hno rfl
    exact ⟨rfl, h.sm R2, k N2 R2⟩
end
