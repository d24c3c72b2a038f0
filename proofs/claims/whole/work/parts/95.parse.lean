/-! RULE: the reference reads a clause's beginning -/
def Hd (n cI : Nat) (M0 M : Mm) (p : Nat) (x y : Int32) : Prop := Fm [62, 66, 67] M0 M ∧ (∀ j, j ≠ 3 → j ≠ 4 → gI M 62 j = gI M0 62 j) ∧ (∀ j, j ≠ cI → gI M 66 j = gI M0 66 j ∧ gI M 67 j = gI M0 67 j) ∧ p ≤ n ∧ gI M 62 3 = J p ∧ gI M 66 cI = x ∧ gI M 67 cI = y
def wl (c : Nat → Int) : Nat → List Int
  | 0 => [32]
  | m + 1 => c m :: wl c m
section
variable {D : GD} {d : Nat} {ch : Nat → Int} {n cI : Nat} {M0 M : Mm} {p : Nat} {x y : Int32}
theorem Hd.lay (h : Hd n cI M0 M p x y) (hL : Lay 62 98 M0) : Lay 62 98 M := hL.of h.1.1
theorem Hd.sm {M' : Mm} {p' : Nat} {x' y' : Int32} (h : Hd n cI M0 M p x y) (h' : Hd n cI M0 M' p' x' y') : Sm M M' := h.1.1.symm.trans h'.1.1
theorem Hd.adv (h : Hd n cI M0 M p x y) (hp : p < n) : Hd n cI M0 (sI M 62 3 (gI M 62 3 + (1 : Int32))) (p + 1) x y := by
  obtain ⟨a1, a2, a3, a4, a5, a6, a7⟩ := h
  refine ⟨a1.si (by decide), fun j j1 j2 => ?_, fun j hj => ?_, hp, ?_, ?_, ?_⟩
  · rw [gI_sI, if_neg (by omega)]; exact a2 j j1 j2
  · rw [fr_s (by omega), fr_s (by omega)]; exact a3 j hj
  · rw [gI_sI, if_pos ⟨rfl, rfl⟩, a5, J_suc]
  · rw [fr_s (by omega)]; exact a6
  · rw [fr_s (by omega)]; exact a7
theorem Hd.dig {v : Int32} (h : Hd n cI M0 M p x y) : Hd n cI M0 (sI M 62 4 v) p x y := by
  obtain ⟨a1, a2, a3, a4, a5, a6, a7⟩ := h
  refine ⟨a1.si (by decide), fun j j1 j2 => ?_, fun j hj => ?_, a4, ?_, ?_, ?_⟩
  · rw [gI_sI, if_neg (by omega)]; exact a2 j j1 j2
  · rw [fr_s (by omega), fr_s (by omega)]; exact a3 j hj
  · rw [gI_sI, if_neg (by omega)]; exact a5
  · rw [fr_s (by omega)]; exact a6
  · rw [fr_s (by omega)]; exact a7
theorem Hd.w66 {v : Int32} (h : Hd n cI M0 M p x y) : Hd n cI M0 (sI M 66 cI v) p v y := by
  obtain ⟨a1, a2, a3, a4, a5, a6, a7⟩ := h
  refine ⟨a1.si (by decide), fun j j1 j2 => ?_, fun j hj => ?_, a4, ?_, ?_, ?_⟩
  · rw [fr_s (by omega)]; exact a2 j j1 j2
  · rw [gI_sI, if_neg (by omega), fr_s (by omega)]; exact a3 j hj
  · rw [fr_s (by omega)]; exact a5
  · rw [gI_sI, if_pos ⟨rfl, rfl⟩]
  · rw [fr_s (by omega)]; exact a7
theorem Hd.w67 {v : Int32} (h : Hd n cI M0 M p x y) : Hd n cI M0 (sI M 67 cI v) p x v := by
  obtain ⟨a1, a2, a3, a4, a5, a6, a7⟩ := h
  refine ⟨a1.si (by decide), fun j j1 j2 => ?_, fun j hj => ?_, a4, ?_, ?_, ?_⟩
  · rw [fr_s (by omega)]; exact a2 j j1 j2
  · rw [fr_s (by omega), gI_sI, if_neg (by omega)]; exact a3 j hj
  · rw [fr_s (by omega)]; exact a5
  · rw [fr_s (by omega)]; exact a6
  · rw [gI_sI, if_pos ⟨rfl, rfl⟩]
theorem v_next {P : Int32 → Mm → Prop} (hL : Lay 62 98 M0) (hc : Mtx ch n M0) (h : Hd n cI M0 M p x y) (kk : P (J (ch p)) M) : AMi D d mX12_next [.ref 62] M P := by
  have hn := hc.1
  have e2 : gI M 62 2 = J n := (h.2.1 2 (by omega) (by omega)).trans hc.2.1
  have e3 := h.2.2.2.2.1
  have hp := h.2.2.2.1
  have r64 : gI M 64 = gI M0 64 := h.1.2.2.2 64 (by decide)
  have ep : (J (p : Int)).toNatClampNeg = p := by simp (disch := omega) only [J_lit, J_add, J_sub, J_mul, J_neg, J_lt, J_le, J_eq, J_nat, J_in, J_div]; omega
  refine rX12_next D d M _ (h.lay hL) ?_
  rw [e2, e3, ep, r64]
  refine ⟨fun z => ⟨_, rfl, .refl M, ?_⟩, fun z => ⟨by simp (disch := omega) only [J_lit, J_add, J_sub, J_mul, J_neg, J_lt, J_le, J_eq, J_nat, J_in, J_div] at z; simp (disch := omega) only [J_lit, J_add, J_sub, J_mul, J_neg, J_lt, J_le, J_eq, J_nat, J_in, J_div]; omega, _, rfl, .refl M, ?_⟩⟩
  · simp (disch := omega) only [J_lit, J_add, J_sub, J_mul, J_neg, J_lt, J_le, J_eq, J_nat, J_in, J_div] at z
    rw [hc.2.2.2.1 p (by omega)] at kk
    exact kk
  · simp (disch := omega) only [J_lit, J_add, J_sub, J_mul, J_neg, J_lt, J_le, J_eq, J_nat, J_in, J_div] at z
    rw [hc.2.2.1 p (by omega)]
    exact kk
theorem v_in {lo hi : Int} {q : Nat} {P : Int32 → Mm → Prop} (hLM : Lay 62 98 M) (hc : Mtx ch n M0) (l1 : 0 ≤ lo ∧ lo ≤ 127) (l2 : 0 ≤ hi ∧ hi ≤ 127) (kk : P (b2 (lo ≤ ch q ∧ ch q ≤ hi)) M) : AMi D d mX12_in [.ref 62, .int (J (ch q)), .int (J lo), .int (J hi)] M P := by
  have hb := hc.2.2.2.2 q
  refine c_in hLM ?_
  by_cases z : lo ≤ ch q ∧ ch q ≤ hi
  · rw [b2_t z] at kk
    rw [b2_t ⟨by simp (disch := omega) only [J_lit, J_add, J_sub, J_mul, J_neg, J_lt, J_le, J_eq, J_nat, J_in, J_div]; omega, by simp (disch := omega) only [J_lit, J_add, J_sub, J_mul, J_neg, J_lt, J_le, J_eq, J_nat, J_in, J_div]; omega⟩]
    exact kk
  · rw [b2_f z] at kk
    rw [b2_f (fun y => ?_)]
    · exact kk
    · have y1 := y.1
      have y2 := y.2
      simp (disch := omega) only [J_lit, J_add, J_sub, J_mul, J_neg, J_lt, J_le, J_eq, J_nat, J_in, J_div] at y1
      simp (disch := omega) only [J_lit, J_add, J_sub, J_mul, J_neg, J_lt, J_le, J_eq, J_nat, J_in, J_div] at y2
      exact z ⟨y1, y2⟩
theorem v_digit {P : Int32 → Mm → Prop} (hL : Lay 62 98 M0) (hc : Mtx ch n M0) (h : Hd n cI M0 M p x y) (kk : P (b2 (48 ≤ ch p ∧ ch p ≤ 57)) M) : AMi D (d + 1) mX12_isDigit [.ref 62] M P := by
  refine rX12_isDigit D d M _ (h.lay hL) (v_next hL hc h (v_in (lo := 48) (hi := 57) (h.lay hL) hc (by omega) (by omega) ⟨?_, _, rfl, .refl M, kk⟩))
  unfold b2
  split
  · exact Or.inr rfl
  · exact Or.inl rfl
theorem v_num {P : Int32 → Mm → Prop} (hL : Lay 62 98 M0) (hc : Mtx ch n M0) (h : Hd n cI M0 M p x y) (k0 : pN ch p = (p, none) → P 0 M) (k1 : ∀ q v, pN ch p = (q, some v) → ∀ M', Hd n cI M0 M' q x y → gI M' 62 4 = J (v : Nat) → P 1 M') : AMi D (d + 2) mX12_takesNumber [.ref 62] M P := by
  have hn := hc.1
  refine rX12_takesNumber D (d + 1) M _ (h.lay hL) (v_digit hL hc h ⟨fun z N1 q1 => ?_, fun z => ⟨_, rfl, .refl M, k0 ?_⟩⟩)
  · have hz : 48 ≤ ch p ∧ ch p ≤ 57 := Decidable.byContradiction fun y => z (b2_f y)
    have R1 : Hd n cI M0 N1 p x y := by rw [q1]; exact h.dig
    have d1 : gI N1 62 4 = J 0 := by rw [q1, gI_sI, if_pos ⟨rfl, rfl⟩]; rfl
    refine rX12_takesNumber_16 D (d + 1) _ N1 _ (R1.lay hL) ⟨fun c => absurd c (by decide), fun _ => v_digit hL hc R1 ⟨fun y => ?_, fun _ => v_next hL hc R1 (fun N2 q2 N3 q3 x ex => ?_)⟩⟩
    · rw [b2_t hz] at y
      exact absurd y (by decide)
    · have hp : p < n := hc.lt (by omega)
      have v2 : (10 : Int32) * gI N1 62 4 + J (ch p) - (48 : Int32) = J (((ch p - 48).toNat : Nat) : Int) := by
        rw [d1, (by rfl : (10 : Int32) = J 10), (by rfl : (48 : Int32) = J 48), J_mul, J_add, J_sub]
        congr 1
        omega
      rw [v2] at q2
      have R2 := R1.dig (v := J (((ch p - 48).toNat : Nat) : Int))
      rw [← q2] at R2
      have R3 := R2.adv hp
      rw [← q3] at R3
      have d3 : gI N3 62 4 = J (((ch p - 48).toNat : Nat) : Int) := by rw [q3, gI_sI, if_neg (by omega), q2, gI_sI, if_pos ⟨rfl, rfl⟩]
      rw [ex]
      refine rX12_takesNumber_16 D (d + 1) _ N3 _ (R3.lay hL) ⟨fun c => absurd c (by decide), fun _ => v_digit hL hc R3 ⟨fun y => ?_, fun y => v_next hL hc R3 (fun N4 q4 N5 q5 x' ex' => ?_)⟩⟩
      · have hy : ¬ (48 ≤ ch (p + 1) ∧ ch (p + 1) ≤ 57) := fun w => by rw [b2_t w] at y; exact absurd y (by decide)
        refine ⟨_, rfl, h.sm R3, k1 (p + 1) _ ?_ N3 R3 d3⟩
        unfold pN
        rw [if_pos hz, if_neg hy]
      · have hy : 48 ≤ ch (p + 1) ∧ ch (p + 1) ≤ 57 := Decidable.byContradiction fun w => y (b2_f w)
        have hp2 : p + 1 < n := hc.lt (by omega)
        have v4 : (10 : Int32) * gI N3 62 4 + J (ch (p + 1)) - (48 : Int32) = J ((10 * (ch p - 48).toNat + (ch (p + 1) - 48).toNat : Nat) : Int) := by
          rw [d3, (by rfl : (10 : Int32) = J 10), (by rfl : (48 : Int32) = J 48), J_mul, J_add, J_sub]
          congr 1
          omega
        rw [v4] at q4
        have R4 := R3.dig (v := J ((10 * (ch p - 48).toNat + (ch (p + 1) - 48).toNat : Nat) : Int))
        rw [← q4] at R4
        have R5 := R4.adv hp2
        rw [← q5] at R5
        have d5 : gI N5 62 4 = J ((10 * (ch p - 48).toNat + (ch (p + 1) - 48).toNat : Nat) : Int) := by rw [q5, gI_sI, if_neg (by omega), q4, gI_sI, if_pos ⟨rfl, rfl⟩]
        rw [ex']
        refine rX12_takesNumber_16 D (d + 1) _ N5 _ (R5.lay hL) ⟨fun _ => ⟨_, rfl, h.sm R5, k1 (p + 2) _ ?_ N5 R5 d5⟩, fun c => absurd (by decide) c⟩
        unfold pN
        rw [if_pos hz, if_pos hy]
  · have hz : ¬ (48 ≤ ch p ∧ ch p ≤ 57) := fun y => by rw [b2_t y] at z; exact absurd z (by decide)
    unfold pN
    rw [if_neg hz]
theorem v_takes {c : Int} {P : Int32 → Mm → Prop} (hL : Lay 62 98 M0) (hc : Mtx ch n M0) (h : Hd n cI M0 M p x y) (c0 : 0 ≤ c) (c1 : c ≤ 127) (k0 : ch p ≠ c → P 0 M) (k1 : ch p = c → ∀ M', Hd n cI M0 M' (p + 1) x y → P 1 M') : AMi D (d + 1) mX12_takes [.ref 62, .int (J c)] M P := by
  have hb := hc.2.2.2.2 p
  have e : (J (ch p) = J c) ↔ ch p = c := by
    constructor
    · intro y
      simp (disch := omega) only [J_lit, J_add, J_sub, J_mul, J_neg, J_lt, J_le, J_eq, J_nat, J_in, J_div] at y
      exact y
    · intro y
      rw [y]
  refine rX12_takes D d _ M _ (h.lay hL) (v_next hL hc h ?_)
  rw [e]
  refine ⟨fun z N q => ?_, fun z => ⟨_, rfl, .refl M, k0 z⟩⟩
  have R := h.adv (hc.lt (p := p) (by omega))
  rw [← q] at R
  exact ⟨_, rfl, h.sm R, k1 z N R⟩
theorem v_word {c : Nat → Int} {w : Int32} {m : Nat} {P : Int32 → Mm → Prop} (hL : Lay 62 98 M0) (hc : Mtx ch n M0) (h : Hd n cI M0 M p x y) (hm : m ≤ 6) (hw : ∀ i, i < m → (96 : Int32) + ((w >>> (((5 : Int32) * J (i : Nat)) &&& 31)) &&& (31 : Int32)) = J (c i) ∧ 0 ≤ c i ∧ c i ≤ 127) (k0 : ∀ q, pW ch (wl c m) p = (q, false) → ∀ M', Hd n cI M0 M' q x y → P 0 M') (k1 : ∀ q, pW ch (wl c m) p = (q, true) → ∀ M', Hd n cI M0 M' q x y → P 1 M') : AMi D (d + 2) mX12_takesWord [.ref 62, .int w, .int (J (m : Nat))] M P := by
  have lp : ∀ (i q : Nat) (N : Mm), i ≤ m → Hd n cI M0 N q x y → pW ch (wl c i) q = pW ch (wl c m) p → LX12_takesWord_4 D (d + 1) w (J ((i : Int) - 1)) N (fun r M1 => ∃ x, r = some (.int x) ∧ Sm M M1 ∧ P x M1) := by
    intro i
    induction i with
    | zero =>
      intro q N hi hN e
      have e0 : pW ch (wl c 0) q = if ch q = 32 then (q + 1, true) else (q, false) := rfl
      rw [e0] at e
      refine rX12_takesWord_4 D (d + 1) _ _ N _ (hN.lay hL) ⟨fun _ => v_takes (c := 32) hL hc hN (by omega) (by omega) (fun z => ?_) (fun z N' hN' => ?_), fun z => ?_⟩
      · rw [if_neg z] at e
        exact ⟨Or.inl rfl, _, rfl, h.sm hN, k0 q e.symm N hN⟩
      · rw [if_pos z] at e
        exact ⟨Or.inr rfl, _, rfl, h.sm hN', k1 (q + 1) e.symm N' hN'⟩
      · exact absurd (by decide) z
    | succ i ih =>
      intro q N hi hN e
      have e0 : pW ch (wl c (i + 1)) q = if ch q = c i then pW ch (wl c i) (q + 1) else (q, false) := rfl
      rw [e0] at e
      obtain ⟨w1, w2, w3⟩ := hw i (by omega)
      have ei : (((i + 1 : Nat) : Int) - 1) = (i : Int) := by omega
      rw [ei]
      refine rX12_takesWord_4 D (d + 1) _ _ N _ (hN.lay hL) ?_
      rw [w1]
      refine ⟨fun z => ?_, fun _ => v_takes hL hc hN w2 w3 (fun z => ⟨fun y => absurd rfl y, fun _ => ?_⟩) (fun z N' hN' => ⟨fun _ x ex => ?_, fun y => absurd y (by decide)⟩)⟩
      · exfalso
        simp (disch := omega) only [J_lit, J_add, J_sub, J_mul, J_neg, J_lt, J_le, J_eq, J_nat, J_in, J_div] at z
        omega
      · rw [if_neg z] at e
        exact ⟨_, rfl, h.sm hN, k0 q e.symm N hN⟩
      · rw [if_pos z] at e
        have ex' : x = J ((i : Int) - 1) := by
          rw [ex, (by decide : (-1 : Int32) = J (-1)), J_add]
          congr 1
        rw [ex']
        exact ih (q + 1) N' (by omega) hN' e
  refine rX12_takesWord D (d + 1) _ _ M _ (h.lay hL) (fun x1 e1 => ?_)
  have e1' : x1 = J ((m : Int) - 1) := by rw [e1, (by rfl : (1 : Int32) = J 1), J_sub]
  rw [e1']
  exact lp m p M (Nat.le_refl _) h rfl
end
