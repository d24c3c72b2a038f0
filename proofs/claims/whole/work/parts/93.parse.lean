/-! RULE: the reference takes numbers and TESTs -/
theorem idx3 (a c : Int) : idx [a, a + 1, a + 2] c = if a ≤ c ∧ c ≤ a + 2 then some (c - a).toNat else none := by
  have e : idx [a, a + 1, a + 2] c = if c = a then some 0 else (if c = a + 1 then some 0 else (if c = a + 2 then some 0 else none).map (· + 1)).map (· + 1) := rfl
  rw [e]
  by_cases h1 : c = a
  · rw [if_pos h1, if_pos ⟨by omega, by omega⟩]
    congr 1
    omega
  · rw [if_neg h1]
    by_cases h2 : c = a + 1
    · rw [if_pos h2, if_pos ⟨by omega, by omega⟩]
      show some (0 + 1) = _
      congr 1
      omega
    · rw [if_neg h2]
      by_cases h3 : c = a + 2
      · rw [if_pos h3, if_pos ⟨by omega, by omega⟩]
        show some (0 + 1 + 1) = _
        congr 1
        omega
      · rw [if_neg h3, if_neg (by omega)]
        rfl
section
variable {D : GD} {d : Nat} {ch : Nat → Int} {n b cI : Nat} {M0 M : Mm} {p : Nat} {W S : List Int} {k : Nat}
theorem Mtx.lt (hc : Mtx ch n M0) (h : 0 ≤ ch p) : p < n := by
  by_cases z : p < n
  · exact z
  · rw [hc.2.2.2.1 p (by omega)] at h
    omega
theorem Mtx.tn (hc : Mtx ch n M0) : Tnn ch n := hc.2.2.2.1
theorem u_in {lo hi : Int} {q : Nat} {P : Int32 → Mm → Prop} (hL : Lay 62 98 M0) (hc : Mtx ch n M0) (h : Me n b cI M0 M p W S k) (l1 : 0 ≤ lo ∧ lo ≤ 127) (l2 : 0 ≤ hi ∧ hi ≤ 127) (kk : P (b2 (lo ≤ ch q ∧ ch q ≤ hi)) M) : AMi D d mX12_in [.ref 62, .int (J (ch q)), .int (J lo), .int (J hi)] M P := by
  have hb := hc.2.2.2.2 q
  refine c_in (h.lay hL) ?_
  by_cases z : lo ≤ ch q ∧ ch q ≤ hi
  · rw [b2_t z] at kk
    rw [b2_t ⟨by simp (disch := omega) only [J_lit, J_add, J_sub, J_mul, J_neg, J_lt, J_le, J_eq, J_nat, J_in, J_div]; omega, by simp (disch := omega) only [J_lit, J_add, J_sub, J_mul, J_neg, J_lt, J_le, J_eq, J_nat, J_in, J_div]; omega⟩]
    exact kk
  · rw [b2_f z] at kk
    rw [b2_f (fun y => ?_)]
    · exact kk
    · have y1 := y.1
      have y2 := y.2
      simp (disch := omega) only [J_lit, J_add, J_sub, J_mul, J_neg, J_lt, J_le, J_eq, J_nat, J_in, J_div] at y1
      simp (disch := omega) only [J_lit, J_add, J_sub, J_mul, J_neg, J_lt, J_le, J_eq, J_nat, J_in, J_div] at y2
      exact z ⟨y1, y2⟩
theorem u_digit {P : Int32 → Mm → Prop} (hL : Lay 62 98 M0) (hc : Mtx ch n M0) (h : Me n b cI M0 M p W S k) (kk : P (b2 (48 ≤ ch p ∧ ch p ≤ 57)) M) : AMi D (d + 1) mX12_isDigit [.ref 62] M P := by
  refine rX12_isDigit D d M _ (h.lay hL) (u_next hL hc h (u_in (lo := 48) (hi := 57) hL hc h (by omega) (by omega) ⟨?_, _, rfl, .refl M, kk⟩))
  unfold b2
  split
  · exact Or.inr rfl
  · exact Or.inl rfl
theorem u_num {P : Int32 → Mm → Prop} (hL : Lay 62 98 M0) (hc : Mtx ch n M0) (h : Me n b cI M0 M p W S k) (k0 : pN ch p = (p, none) → P 0 M) (k1 : ∀ q v, pN ch p = (q, some v) → ∀ M', Me n b cI M0 M' q W S k → gI M' 62 4 = J (v : Nat) → P 1 M') : AMi D (d + 2) mX12_takesNumber [.ref 62] M P := by
  have hn := hc.1
  refine rX12_takesNumber D (d + 1) M _ (h.lay hL) (u_digit hL hc h ⟨fun z N1 q1 => ?_, fun z => ⟨_, rfl, .refl M, k0 ?_⟩⟩)
  · have hz : 48 ≤ ch p ∧ ch p ≤ 57 := Decidable.byContradiction fun y => z (b2_f y)
    have R1 : Me n b cI M0 N1 p W S k := by rw [q1]; exact h.dig
    have d1 : gI N1 62 4 = J 0 := by rw [q1, gI_sI, if_pos ⟨rfl, rfl⟩]; rfl
    refine rX12_takesNumber_16 D (d + 1) _ N1 _ (R1.lay hL) ⟨fun c => absurd c (by decide), fun _ => u_digit hL hc R1 ⟨fun y => ?_, fun _ => u_next hL hc R1 (fun N2 q2 N3 q3 x ex => ?_)⟩⟩
    · rw [b2_t hz] at y
      exact absurd y (by decide)
    · have hp : p < n := hc.lt (by omega)
      have v2 : (10 : Int32) * gI N1 62 4 + J (ch p) - (48 : Int32) = J (((ch p - 48).toNat : Nat) : Int) := by
        rw [d1, (by rfl : (10 : Int32) = J 10), (by rfl : (48 : Int32) = J 48), J_mul, J_add, J_sub]
        congr 1
        omega
      rw [v2] at q2
      have R2 : Me n b cI M0 N2 p W S k := by rw [q2]; exact R1.dig
      have R3 : Me n b cI M0 N3 (p + 1) W S k := by rw [q3]; exact R2.adv hp
      have d3 : gI N3 62 4 = J (((ch p - 48).toNat : Nat) : Int) := by rw [q3, gI_sI, if_neg (by omega), q2, gI_sI, if_pos ⟨rfl, rfl⟩]
      rw [ex]
      refine rX12_takesNumber_16 D (d + 1) _ N3 _ (R3.lay hL) ⟨fun c => absurd c (by decide), fun _ => u_digit hL hc R3 ⟨fun y => ?_, fun y => u_next hL hc R3 (fun N4 q4 N5 q5 x' ex' => ?_)⟩⟩
      · have hy : ¬ (48 ≤ ch (p + 1) ∧ ch (p + 1) ≤ 57) := fun w => by rw [b2_t w] at y; exact absurd y (by decide)
        refine ⟨_, rfl, h.sm R3, k1 (p + 1) _ ?_ N3 R3 d3⟩
        unfold pN
        rw [if_pos hz, if_neg hy]
      · have hy : 48 ≤ ch (p + 1) ∧ ch (p + 1) ≤ 57 := Decidable.byContradiction fun w => y (b2_f w)
        have hp2 : p + 1 < n := hc.lt (by omega)
        have v4 : (10 : Int32) * gI N3 62 4 + J (ch (p + 1)) - (48 : Int32) = J ((10 * (ch p - 48).toNat + (ch (p + 1) - 48).toNat : Nat) : Int) := by
          rw [d3, (by rfl : (10 : Int32) = J 10), (by rfl : (48 : Int32) = J 48), J_mul, J_add, J_sub]
          congr 1
          omega
        rw [v4] at q4
        have R4 : Me n b cI M0 N4 (p + 1) W S k := by rw [q4]; exact R3.dig
        have R5 : Me n b cI M0 N5 (p + 1 + 1) W S k := by rw [q5]; exact R4.adv hp2
        have d5 : gI N5 62 4 = J ((10 * (ch p - 48).toNat + (ch (p + 1) - 48).toNat : Nat) : Int) := by rw [q5, gI_sI, if_neg (by omega), q4, gI_sI, if_pos ⟨rfl, rfl⟩]
        rw [ex']
        refine rX12_takesNumber_16 D (d + 1) _ N5 _ (R5.lay hL) ⟨fun _ => ⟨_, rfl, h.sm R5, k1 (p + 2) _ ?_ N5 R5 d5⟩, fun c => absurd (by decide) c⟩
        unfold pN
        rw [if_pos hz, if_pos hy]
  · have hz : ¬ (48 ≤ ch p ∧ ch p ≤ 57) := fun y => by rw [b2_t y] at z; exact absurd z (by decide)
    unfold pN
    rw [if_neg hz]
theorem u_place {c : Int} {P : Int32 → Mm → Prop} (hLM : Lay 62 98 M) (hb : -128 ≤ c ∧ c ≤ 127) (k0 : idx [108, 111, 116, 100] c = none → P (-1) M) (k1 : ∀ f, idx [108, 111, 116, 100] c = some f → P (J (f : Nat)) M) : AMi D d mX12_place [.ref 62, .int (J c)] M P := by
  have eq' : ∀ z : Int, 0 ≤ z → z ≤ 127 → (J c = J z ↔ c = z) := by
    intro z h1 h2
    constructor
    · intro y
      simp (disch := omega) only [J_lit, J_add, J_sub, J_mul, J_neg, J_lt, J_le, J_eq, J_nat, J_in, J_div] at y
      exact y
    · intro y
      rw [y]
  have e100 : (J c = 100) ↔ c = 100 := eq' 100 (by omega) (by omega)
  have e108 : (J c = 108) ↔ c = 108 := eq' 108 (by omega) (by omega)
  have e111 : (J c = 111) ↔ c = 111 := eq' 111 (by omega) (by omega)
  have e116 : (J c = 116) ↔ c = 116 := eq' 116 (by omega) (by omega)
  refine rX12_place D d _ M _ hLM ?_
  rw [e100, e108, e111, e116]
  refine ⟨fun z => ⟨_, rfl, .refl M, k1 3 (by rw [z]; rfl)⟩, fun z => ⟨_, rfl, .refl M, k1 0 (by rw [z]; rfl)⟩, fun z => ⟨_, rfl, .refl M, k1 1 (by rw [z]; rfl)⟩, fun z => ⟨_, rfl, .refl M, k1 2 (by rw [z]; rfl)⟩, fun h1 h2 h3 h4 => ⟨_, rfl, .refl M, k0 ?_⟩⟩
  have e : idx [108, 111, 116, 100] c = if c = 108 then some 0 else (if c = 111 then some 0 else (if c = 116 then some 0 else (if c = 100 then some 0 else none).map (· + 1)).map (· + 1)).map (· + 1) := rfl
  rw [e, if_neg h2, if_neg h3, if_neg h4, if_neg h1]
  rfl
theorem u_test {P : Int32 → Mm → Prop} (hL : Lay 62 98 M0) (hc : Mtx ch n M0) (hb : b ≤ 600) (h : Me n b cI M0 M p W S k) (hw : ∀ x ∈ W, Wx x) (hl : S.length + W.length ≤ p) (hk : wN W ≤ k) (hk2 : k ≤ 100) (k0 : ∀ q, pT ch p = (q, none) → ∀ M', Me n b cI M0 M' q W S k → P 0 M') (k1 : ∀ q t, pT ch p = (q, some t) → ∀ M', Me n b cI M0 M' q (W.drop (wN W)) (Wa (S ++ [t]) W (wN W)) (k - wN W) → P 1 M') : AMi D (d + 3) mX12_takesTest [.ref 62] M P := by
  have hn := hc.1
  have ht := hc.tn
  have cp := pT_c ch p
  refine rX12_takesTest D (d + 2) M _ (h.lay hL) (u_next hL hc h (u_place (h.lay hL) (hc.2.2.2.2 p) (fun e => ⟨fun z => absurd z (by decide), fun _ => ⟨_, rfl, .refl M, k0 p ?_ M h⟩⟩) (fun f ef => ⟨fun _ N1 q1 => ?_, fun z => ?_⟩)))
  · rcases cp with ⟨_, e'⟩ | ⟨f, h1, _⟩
    · exact e'
    · rw [e] at h1
      cases h1
  · have hp1 : p < n := hc.lt (idx_n (by decide) ef)
    have R1 : Me n b cI M0 N1 (p + 1) W S k := by rw [q1]; exact h.adv hp1
    rcases cp with ⟨h1, _⟩ | ⟨f', h1, hf, cp⟩
    · rw [ef] at h1
      cases h1
    · rw [ef] at h1
      cases h1
      have i3 : idx [60, 61, 62] (ch (p + 1)) = if 60 ≤ ch (p + 1) ∧ ch (p + 1) ≤ 62 then some (ch (p + 1) - 60).toNat else none := idx3 60 (ch (p + 1))
      refine u_next hL hc R1 (u_in (lo := 60) (hi := 62) hL hc R1 (by omega) (by omega) ⟨fun z N2 q2 => ?_, fun z => ?_⟩)
      · have hz : 60 ≤ ch (p + 1) ∧ ch (p + 1) ≤ 62 := Decidable.byContradiction fun w => z (b2_f w)
        rw [if_pos hz] at i3
        rcases cp with ⟨h2, _⟩ | ⟨s, h2, hs, cp⟩
        · rw [i3] at h2
          cases h2
        · rw [i3] at h2
          cases h2
          have hp2 : p + 1 < n := hc.lt (by omega)
          have R2 : Me n b cI M0 N2 (p + 1 + 1) W S k := by rw [q2]; exact R1.adv hp2
          refine u_num hL hc R2 (fun e => ⟨fun y => absurd rfl y, fun _ => ⟨_, rfl, h.sm R2, k0 (p + 2) ?_ N2 R2⟩⟩) (fun q v ev N3 R3 d3 => ⟨fun _ => ?_, fun y => absurd y (by decide)⟩)
          · rcases cp with ⟨_, e'⟩ | ⟨q, v, h3, _⟩
            · exact e'
            · have e2 : pN ch (p + 2) = (p + 2, none) := e
              rw [e2] at h3
              cases h3
          · rcases cp with ⟨h3, _⟩ | ⟨q', v', h3, eT⟩
            · have e2 : pN ch (p + 2) = (q, some v) := ev
              rw [e2] at h3
              cases h3
            · have e2 : pN ch (p + 2) = (q, some v) := ev
              rw [e2] at h3
              cases h3
              have ok := pT_ok ht eT
              have et : (((1000 : Int32) * J (f : Int)) + ((100 : Int32) * (J (ch (p + 1)) - (60 : Int32)))) + gI N3 62 4 = J (1000 * (f : Int) + 100 * (((ch (p + 1) - 60).toNat : Nat) : Int) + (v : Int)) := by
                rw [d3, (by rfl : (1000 : Int32) = J 1000), (by rfl : (100 : Int32) = J 100), (by rfl : (60 : Int32) = J 60), J_sub, J_mul, J_mul, J_add, J_add]
                congr 1
                omega
              rw [et]
              refine u_put hL hb R3 (by omega) (fun N4 R4 => u_whole (d := d + 1) hL hb R4 hw (by rw [List.length_append]; show S.length + 1 + W.length ≤ 100; omega) hk hk2 (fun N5 R5 => ⟨_, rfl, h.sm R5, k1 q _ eT N5 R5⟩))
      · have hz : ¬ (60 ≤ ch (p + 1) ∧ ch (p + 1) ≤ 62) := fun w => by rw [b2_t w] at z; exact absurd z (by decide)
        rw [if_neg hz] at i3
        refine ⟨_, rfl, h.sm R1, k0 (p + 1) ?_ N1 R1⟩
        rcases cp with ⟨_, e'⟩ | ⟨s, h2, _⟩
        · exact e'
        · rw [i3] at h2
          cases h2
  · have hf : f < 4 := (idx_c ef).1
    exact absurd (by simp (disch := omega) only [J_lit, J_add, J_sub, J_mul, J_neg, J_lt, J_le, J_eq, J_nat, J_in, J_div]; omega) z
end
