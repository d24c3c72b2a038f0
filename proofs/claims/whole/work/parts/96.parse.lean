/-! RULE: the reference reads a clause -/
def Cf (n b cI : Nat) (M0 M : Mm) (p : Nat) : Prop := Fm [62, 66, 67, 68, 69, 70, 71] M0 M ∧ (∀ j, j ≠ 3 → j ≠ 4 → j ≠ 13 → j ≠ 14 → j ≠ 15 → gI M 62 j = gI M0 62 j) ∧ (∀ a j, 66 ≤ a → a ≤ 69 → j ≠ cI → gI M a j = gI M0 a j) ∧ (∀ i, i < b → gI M 70 i = gI M0 70 i) ∧ p ≤ n ∧ gI M 62 3 = J p
def Cg (b cI : Nat) (S : List Int) (C : Cls) (M : Mm) : Prop := gI M 66 cI = J C.1 ∧ gI M 67 cI = J C.2.1 ∧ gI M 68 cI = J ((b + S.length : Nat) : Int) ∧ gI M 69 cI = J ((b + (S ++ C.2.2).length : Nat) : Int) ∧ gI M 62 13 = J ((b + (S ++ C.2.2).length : Nat) : Int) ∧ ∀ i t, (S ++ C.2.2)[i]? = some t → gI M 70 (b + i) = J t
section
variable {D : GD} {d : Nat} {ch : Nat → Int} {n b cI : Nat} {M0 M : Mm} {p : Nat} {x y : Int32} {S : List Int}
theorem Hd.cf (h : Hd n cI M0 M p x y) : Cf n b cI M0 M p := by
  obtain ⟨a1, a2, a3, a4, a5, a6, a7⟩ := h
  refine ⟨a1.sub (by decide), fun j j1 j2 _ _ _ => a2 j j1 j2, fun a j h1 h2 hj => ?_, fun i _ => by rw [a1.2.2.2 70 (by decide)], a4, a5⟩
  rcases (by omega : a = 66 ∨ a = 67 ∨ a = 68 ∨ a = 69) with rfl | rfl | rfl | rfl
  · exact (a3 j hj).1
  · exact (a3 j hj).2
  · rw [a1.2.2.2 68 (by decide)]
  · rw [a1.2.2.2 69 (by decide)]
theorem u_E {s p' g v : Nat} {o : Option (List Int)} {P : Int32 → Mm → Prop} (hL : Lay 62 98 M0) (hc : Mtx ch n M0) (hb : b ≤ 600) (hcI : cI < 56) (e13 : gI M0 62 13 = J ((b + S.length : Nat) : Int)) (hS : ∀ i t, S[i]? = some t → gI M0 70 (b + i) = J t) (hl : S.length ≤ p) (h : Hd n cI M0 M p (J (g : Nat)) (J (v : Nat))) (hPa : Pa ch s 3 0 p p' o) (k0 : o = none → ∀ M', Cf n b cI M0 M' p' → P 0 M') (k1 : ∀ L, o = some L → ∀ M', Cf n b cI M0 M' p' → Cg b cI S (g, v, L) M' → P 1 M') : AMi D (d + 4) mX12_takesE [.ref 62, .int (J (cI : Nat))] M P := by
  obtain ⟨a1, a2, a3, a4, a5, a6, a7⟩ := id h
  have hn := hc.1
  have ec : (J (cI : Int)).toNatClampNeg = cI := by simp (disch := omega) only [J_lit, J_add, J_sub, J_mul, J_neg, J_lt, J_le, J_eq, J_nat, J_in, J_div]; omega
  refine rX12_takesE D (d + 3) _ M _ (h.lay hL) (fun M1 q1 M5 q5 => ⟨by simp (disch := omega) only [J_lit, J_add, J_sub, J_mul, J_neg, J_lt, J_le, J_eq, J_nat, J_in, J_div]; omega, fun M10 q10 => ?_⟩)
  have g13 : gI M5 62 13 = J ((b + S.length : Nat) : Int) := by rw [q5, gI_sI, if_neg (by omega), q1, gI_sI, if_neg (by omega), a2 13 (by omega) (by omega)]; exact e13
  rw [ec, g13] at q10
  have F10 : Fm [62, 66, 67, 68] M0 M10 := by rw [q10, q5, q1]; exact (((a1.sub (by decide)).si (by decide)).si (by decide)).si (by decide)
  have f62 : ∀ j, j ≠ 14 → j ≠ 15 → gI M10 62 j = gI M 62 j := fun j h1 h2 => by rw [q10, fr_s (by omega), q5, gI_sI, if_neg (by omega), q1, gI_sI, if_neg (by omega)]
  have f66 : gI M10 66 = gI M 66 := by rw [q10, fr_s (by omega), q5, fr_s (by omega), q1, fr_s (by omega)]
  have f67 : gI M10 67 = gI M 67 := by rw [q10, fr_s (by omega), q5, fr_s (by omega), q1, fr_s (by omega)]
  have f68 : ∀ j, gI M10 68 j = if j = cI then J ((b + S.length : Nat) : Int) else gI M0 68 j := fun j => by
    rw [q10, gI_sI]
    by_cases z : j = cI
    · rw [if_pos ⟨rfl, z⟩, if_pos z]
    · rw [if_neg (fun w => z w.2), if_neg z, q5, fr_s (by omega), q1, fr_s (by omega), a1.2.2.2 68 (by decide)]
  have f69 : gI M10 69 = gI M0 69 := F10.2.2.2 69 (by decide)
  have f70 : gI M10 70 = gI M0 70 := F10.2.2.2 70 (by decide)
  have hL10 : Lay 62 98 M10 := hL.of F10.1
  have hc10 : Mtx ch n M10 := by
    obtain ⟨c1, c2, c3, c4, c5⟩ := hc
    exact ⟨c1, by rw [f62 2 (by omega) (by omega), a2 2 (by omega) (by omega)]; exact c2, fun q hq => by rw [F10.2.2.2 64 (by decide)]; exact c3 q hq, c4, c5⟩
  have E0 : Me n b cI M10 M10 p [] S 0 := by
    refine ⟨.refl _ M10, fun _ _ _ _ _ _ => rfl, fun _ _ => rfl, fun _ _ => rfl, a4, ?_, ?_, fun i t hi => ?_, ?_, trivial, ?_⟩
    · rw [f62 3 (by omega) (by omega)]; exact a5
    · rw [f62 13 (by omega) (by omega), a2 13 (by omega) (by omega)]; exact e13
    · rw [f70]; exact hS i t hi
    · rw [q10, fr_s (by omega), q5, gI_sI, if_neg (by omega), q1, gI_sI, if_pos ⟨rfl, rfl⟩]; rfl
    · rw [q10, fr_s (by omega), q5, gI_sI, if_pos ⟨rfl, rfl⟩]; rfl
  have toC : ∀ M' W' S' k', Me n b cI M10 M' p' W' S' k' → Sm M M' ∧ Cf n b cI M0 M' p' := by
    intro M' W' S' k' hM'
    obtain ⟨b1, b2, b3, b4, b5, b6, _⟩ := hM'
    refine ⟨a1.1.symm.trans (F10.1.trans b1.1), (F10.sub (by decide)).trans (b1.sub (by decide)), fun j j1 j2 j3 j4 j5 => ?_, fun a j h1 h2 hj => ?_, fun i hi => ?_, b5, b6⟩
    · rw [b2 j j1 j2 j3 j4 j5, f62 j j4 j5, a2 j j1 j2]
    · rcases (by omega : a = 66 ∨ a = 67 ∨ a = 68 ∨ a = 69) with rfl | rfl | rfl | rfl
      · rw [b1.2.2.2 66 (by decide), f66]; exact (a3 j hj).1
      · rw [b1.2.2.2 67 (by decide), f67]; exact (a3 j hj).2
      · rw [b1.2.2.2 68 (by decide), f68, if_neg hj]
      · rw [b3 j hj, f69]
    · rw [b4 i hi, f70]
  refine (m_cond (d := d) hL10 hc10 hb hcI s).2.2.2.1 0 p p' o [] S M10 hPa (by omega) rfl (fun x hx => by cases hx) rfl rfl (by show S.length + 0 ≤ p; omega) E0 (fun z M' W' S' k' hM' => ⟨_, rfl, (toC M' W' S' k' hM').1, k0 z M' (toC M' W' S' k' hM').2⟩) (fun L z N V S' hV e hN => ?_)
  subst z
  obtain ⟨n38, n124⟩ := (pa_end s).2.2.2 _ _ _ _ hPa
  have a := pa_k hc.tn s 3 0 p p' (some L) (by omega) (by omega) a4 hPa
  have a2' := (a.2.2 L rfl).2.1
  obtain ⟨vx, vl, vo⟩ := Vt_x hV
  have el : S'.length + V.length = S.length + L.length := by
    have := congrArg List.length e
    rw [List.length_append, List.length_append] at this
    unfold ng at this
    rw [List.length_map] at this
    exact this
  have hpn := a.2.1
  have bq := hc.2.2.2.2 p'
  have jq : ∀ z : Int, 0 ≤ z → z ≤ 127 → (J (ch p') = J z ↔ ch p' = z) := by
    intro z h1 h2
    constructor
    · intro y
      simp (disch := omega) only [J_lit, J_add, J_sub, J_mul, J_neg, J_lt, J_le, J_eq, J_nat, J_in, J_div] at y
      exact y
    · intro y
      rw [y]
  have f38 : (J (ch p') = 38) ↔ ch p' = 38 := jq 38 (by omega) (by omega)
  have f124 : (J (ch p') = 124) ↔ ch p' = 124 := jq 124 (by omega) (by omega)
  refine rX12_takesE_22 D (d + 3) _ _ N _ (hN.lay hL10) (u_next hL10 hc10 hN ?_)
  rw [f38, f124]
  refine ⟨fun _ => ⟨fun z => absurd z n38, fun _ => ⟨fun _ => u_stl (d := d + 2) (s := 124) hL10 hb (Or.inr rfl) hN (fun x hx => vx x (by rw [List.append_nil] at hx; exact hx)) (by rw [List.append_nil]; omega) (fun N5 hN5 => ?_), fun z => absurd z n124⟩⟩, fun z => absurd rfl z⟩
  have s0 : sN 124 [] = 0 := rfl
  rw [(vo []).2, s0, Nat.add_zero, drop_V, Wa_V, e] at hN5
  rw [ec]
  refine ⟨by simp (disch := omega) only [J_lit, J_add, J_sub, J_mul, J_neg, J_lt, J_le, J_eq, J_nat, J_in, J_div]; omega, fun N6 q6 => ?_⟩
  have R6 : Me n b cI M10 N6 p' [] (S ++ L) 0 := by rw [q6]; exact hN5.to
  have g14 : gI N6 62 14 = J 0 := R6.2.2.2.2.2.2.2.2.1
  refine ⟨fun z => absurd g14 z, fun _ => ⟨_, rfl, (toC _ _ _ _ R6).1, k1 L rfl N6 (toC _ _ _ _ R6).2 ?_⟩⟩
  obtain ⟨b1, b2, b3, b4, b5, b6, b7, b8, _⟩ := R6
  refine ⟨?_, ?_, ?_, ?_, b7, b8⟩
  · rw [b1.2.2.2 66 (by decide), f66]; exact a6
  · rw [b1.2.2.2 67 (by decide), f67]; exact a7
  · rw [b1.2.2.2 68 (by decide), f68, if_pos rfl]
  · rw [q6, gI_sI, if_pos ⟨rfl, rfl⟩, hN5.2.2.2.2.2.2.1]
theorem u_clause {s p' : Nat} {o : Option Cls} {P : Int32 → Mm → Prop} (hL : Lay 62 98 M0) (hc : Mtx ch n M0) (hb : b ≤ 600) (hcI : cI < 56) (e13 : gI M0 62 13 = J ((b + S.length : Nat) : Int)) (hS : ∀ i t, S[i]? = some t → gI M0 70 (b + i) = J t) (hl : S.length ≤ p) (hp : p ≤ n) (e3 : gI M0 62 3 = J p) (hPc : Pc ch s p p' o) (k0 : o = none → ∀ M', Cf n b cI M0 M' p' → P 0 M') (k1 : ∀ C, o = some C → ∀ M', Cf n b cI M0 M' p' → Cg b cI S C M' → P 1 M') : AMi D (d + 5) mX12_takesClause [.ref 62, .int (J (cI : Nat))] M0 P := by
  have hn := hc.1
  have ht := hc.tn
  have ec : (J (cI : Int)).toNatClampNeg = cI := by simp (disch := omega) only [J_lit, J_add, J_sub, J_mul, J_neg, J_lt, J_le, J_eq, J_nat, J_in, J_div]; omega
  have H0 : Hd n cI M0 M0 p (gI M0 66 cI) (gI M0 67 cI) := ⟨.refl _ M0, fun _ _ _ => rfl, fun _ _ => ⟨rfl, rfl⟩, hp, e3, rfl, rfl⟩
  have fin : ∀ q, hH ch p = (q, none) → ∀ N x y, Hd n cI M0 N q x y → ∃ z, some (Value.int 0) = some (Value.int z) ∧ Sm M0 N ∧ P z N := by
    intro q e N x y hN
    obtain ⟨q', h', e', z⟩ := hPc
    rw [e] at e'
    cases e'
    rcases z with ⟨_, rfl, rfl⟩ | ⟨g, v, o', z, _⟩
    · exact ⟨0, rfl, hN.1.1, k0 rfl N hN.cf⟩
    · cases z
  have tl : ∀ q g N, hG ch p = (q, some g) → Hd n cI M0 N q (J (g : Nat)) (gI M0 67 cI) → AMi D (d + 4) mX12_takesNumber [.ref 62] N (fun x21 M20 => ((¬ x21 = 0 → ∀ M27 : Mm, M27 = sI M20 67 cI (gI M20 62 4) → AMi D (d + 4) mX12_takes [.ref 62, .int (32 : Int32)] M27 (fun x32 M31 => ((x32 = 0 → ∃ z, some (Value.int 0) = some (Value.int z) ∧ Sm M0 M31 ∧ P z M31) ∧ (¬ x32 = 0 → AMi D (d + 4) mX12_takesE [.ref 62, .int (J (cI : Nat))] M31 (fun x39 M38 => ((x39 = 0 → ∃ z, some (Value.int 0) = some (Value.int z) ∧ Sm M0 M38 ∧ P z M38) ∧ (¬ x39 = 0 → ∃ z, some (Value.int 1) = some (Value.int z) ∧ Sm M0 M38 ∧ P z M38))))))) ∧ (x21 = 0 → ∃ z, some (Value.int 0) = some (Value.int z) ∧ Sm M0 M20 ∧ P z M20))) := by
    intro q g N eG hN
    have lG := hG_le ht hp eG
    refine v_num (d := d + 2) hL hc hN (fun e => ⟨fun z => absurd rfl z, fun _ => ?_⟩) (fun r v e N1 hN1 d1 => ⟨fun _ N2 q2 => ?_, fun z => absurd z (by decide)⟩)
    · have eH : hH ch p = (q, none) := by
        unfold hH
        rw [eG]
        simp only [e]
      exact fin q eH N _ _ hN
    · rw [d1] at q2
      have R2 := hN1.w67 (v := J (v : Nat))
      rw [← q2] at R2
      have l2 := pN_ok ht e
      have eW : pW ch [32] r = if ch r = 32 then (r + 1, true) else (r, false) := rfl
      refine v_takes (d := d + 3) (c := 32) hL hc R2 (by omega) (by omega) (fun z => ⟨fun _ => ?_, fun y => absurd rfl y⟩) (fun z N3 hN3 => ⟨fun y => absurd y (by decide), fun _ => ?_⟩)
      · rw [if_neg z] at eW
        have eH : hH ch p = (r, none) := by
          unfold hH
          rw [eG]
          simp only [e, eW]
        exact fin r eH N2 _ _ R2
      · rw [if_pos z] at eW
        have eH : hH ch p = (r + 1, some (g, v)) := by
          unfold hH
          rw [eG]
          simp only [e, eW]
        obtain ⟨q', h', e', zz⟩ := hPc
        rw [eH] at e'
        cases e'
        rcases zz with ⟨zz, _⟩ | ⟨g', v', o', zz, hPa, rfl⟩
        · cases zz
        · cases zz
          refine u_E (d := d) hL hc hb hcI e13 hS (by omega) hN3 hPa (fun zo M' hM' => ⟨fun _ => ⟨0, rfl, hM'.1.1, k0 (by rw [zo]; rfl) M' hM'⟩, fun y => absurd rfl y⟩) (fun L zo M' hM' hg => ⟨fun y => absurd y (by decide), fun _ => ⟨1, rfl, hM'.1.1, k1 (g, v, L) (by rw [zo]; rfl) M' hM' hg⟩⟩)
  refine rX12_takesClause D (d + 4) _ M0 _ hL ⟨by simp (disch := omega) only [J_lit, J_add, J_sub, J_mul, J_neg, J_lt, J_le, J_eq, J_nat, J_in, J_div]; omega, fun N1 q1 => ?_⟩
  rw [ec] at q1 ⊢
  have R1 := H0.w66 (v := (3 : Int32))
  rw [← q1] at R1
  have bp := hc.2.2.2.2 p
  have j103 : (J (ch p) = 103) ↔ ch p = 103 := by
    constructor
    · intro y
      simp (disch := omega) only [J_lit, J_add, J_sub, J_mul, J_neg, J_lt, J_le, J_eq, J_nat, J_in, J_div] at y
      exact y
    · intro y
      rw [y]
      rfl
  refine v_next hL hc R1 ?_
  rw [j103]
  refine ⟨fun c0 => ?_, fun c0 => ?_⟩
  · have ew : wl (fun i => [115, 115, 101, 114, 112].getD i 0) 5 = [112, 114, 101, 115, 115, 32] := rfl
    refine v_word (d := d + 2) (m := 5) (c := fun i => [115, 115, 101, 114, 112].getD i 0) hL hc R1 (by omega) (by decide +kernel) (fun q e N2 hN2 => ⟨fun y => absurd rfl y, fun _ => ?_⟩) (fun q e N2 hN2 => ⟨fun _ => ?_, fun y => absurd y (by decide)⟩)
    · rw [ew] at e
      have eH : hH ch p = (q, none) := by
        have eG : hG ch p = (q, none) := by
          unfold hG
          rw [if_neg c0, e]
        unfold hH
        rw [eG]
      exact fin q eH N2 _ _ hN2
    · rw [ew] at e
      have eG : hG ch p = (q, some 3) := by
        unfold hG
        rw [if_neg c0, e]
      exact tl q 3 N2 eG hN2
  · have ew : wl (fun i => [111, 103].getD i 0) 2 = [103, 111, 32] := rfl
    refine v_word (d := d + 2) (m := 2) (c := fun i => [111, 103].getD i 0) hL hc R1 (by omega) (by decide +kernel) (fun q e N2 hN2 => ⟨fun _ => ?_, fun y => absurd rfl y⟩) (fun q e N2 hN2 => ⟨fun y => absurd y (by decide), fun _ => ?_⟩)
    · rw [ew] at e
      have eH : hH ch p = (q, none) := by
        have eG : hG ch p = (q, none) := by
          unfold hG
          rw [if_pos c0, e]
        unfold hH
        rw [eG]
      exact fin q eH N2 _ _ hN2
    · rw [ew] at e
      have i3 : idx [48, 49, 50] (ch q) = if 48 ≤ ch q ∧ ch q ≤ 50 then some (ch q - 48).toNat else none := idx3 48 (ch q)
      refine v_next hL hc hN2 (v_in (lo := 48) (hi := 50) (hN2.lay hL) hc (by omega) (by omega) ⟨fun z => ?_, fun z => ?_⟩)
      · have hz : 48 ≤ ch q ∧ ch q ≤ 50 := Decidable.byContradiction fun w => z (b2_f w)
        rw [if_pos hz] at i3
        refine v_next hL hc hN2 (fun N3 q3 N4 q4 => ?_)
        have v3 : J (ch q) - (48 : Int32) = J (((ch q - 48).toNat : Nat) : Int) := by
          rw [(by rfl : (48 : Int32) = J 48), J_sub]
          congr 1
          omega
        rw [v3] at q3
        have R3 := hN2.w66 (v := J (((ch q - 48).toNat : Nat) : Int))
        rw [← q3] at R3
        have R4 := R3.adv (hc.lt (p := q) (by omega))
        rw [← q4] at R4
        have eW : pW ch [32] (q + 1) = if ch (q + 1) = 32 then (q + 1 + 1, true) else (q + 1, false) := rfl
        refine v_takes (d := d + 3) (c := 32) hL hc R4 (by omega) (by omega) (fun z => ⟨fun y => absurd rfl y, fun _ => ?_⟩) (fun z N5 hN5 => ⟨fun _ => ?_, fun y => absurd y (by decide)⟩)
        · rw [if_neg z] at eW
          have eH : hH ch p = (q + 1, none) := by
            have eG : hG ch p = (q + 1, none) := by
              unfold hG
              rw [if_pos c0, e]
              simp only [i3, eW]
            unfold hH
            rw [eG]
          exact fin (q + 1) eH N4 _ _ R4
        · rw [if_pos z] at eW
          have eG : hG ch p = (q + 1 + 1, some (ch q - 48).toNat) := by
            unfold hG
            rw [if_pos c0, e]
            simp only [i3, eW]
          exact tl _ _ N5 eG hN5
      · have hz : ¬ (48 ≤ ch q ∧ ch q ≤ 50) := fun w => by rw [b2_t w] at z; exact absurd z (by decide)
        rw [if_neg hz] at i3
        have eH : hH ch p = (q, none) := by
          have eG : hG ch p = (q, none) := by
            unfold hG
            rw [if_pos c0, e]
            simp only [i3]
          unfold hH
          rw [eG]
        exact fin q eH N2 _ _ hN2
end
