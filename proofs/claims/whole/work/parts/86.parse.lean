/-! RULE: the class passes words, signs, numbers -/
/-- the words of the class -/
def wd7 (j : Nat) : List Int := [[103, 111, 32], [48, 49, 50], [32], [112, 114, 101, 115, 115, 32], [41], [108, 111, 116, 100], [60, 61, 62]].getD j []
theorem wd7_n : ∀ j, j < 7 → st_n.getD j 0 = (wd7 j).length := by decide
theorem wd7_b : ∀ j, j < 7 → ∀ i, i < (wd7 j).length → (st_b.getD j []).getD i 0 = J ((wd7 j).getD i 0) ∧ 0 ≤ (wd7 j).getD i 0 ∧ (wd7 j).getD i 0 < 128 := by decide +kernel
theorem wd7_l : ∀ j, j < 7 → (wd7 j).length ≤ 6 := by decide
def pF (ch : Nat → Int) (w : List Int) (p : Nat) (f : Option (List Int)) : Nat × Option (List Int) := if f.isSome = true then ((pW ch w p).1, if (pW ch w p).2 = true then f else none) else (p, none)
theorem pF_none (ch : Nat → Int) (w : List Int) (p : Nat) : pF ch w p none = (p, none) := rfl
theorem pF_nil (ch : Nat → Int) (p : Nat) (f : Option (List Int)) : pF ch [] p f = (p, f) := by
  cases f <;> rfl
theorem pF_y {ch : Nat → Int} {c : Int} {w : List Int} {p : Nat} {f : Option (List Int)} (h : f.isSome = true ∧ ch p = c) : pF ch (c :: w) p f = pF ch w (p + 1) f := by
  unfold pF
  have e : pW ch (c :: w) p = pW ch w (p + 1) := by
    show (if ch p = c then pW ch w (p + 1) else (p, false)) = _
    rw [if_pos h.2]
  rw [e, if_pos h.1, if_pos h.1]
theorem pF_n {ch : Nat → Int} {c : Int} {w : List Int} {p : Nat} {f : Option (List Int)} (h : ¬ (f.isSome = true ∧ ch p = c)) : pF ch (c :: w) p f = (p, none) := by
  unfold pF
  by_cases z : f.isSome = true
  · have e : pW ch (c :: w) p = (p, false) := by
      show (if ch p = c then pW ch w (p + 1) else (p, false)) = _
      rw [if_neg (fun y => h ⟨z, y⟩)]
    rw [e, if_pos z]
    rfl
  · rw [if_neg z]
theorem drop_c {w : List Int} {i : Nat} (h : i < w.length) : w.drop i = w.getD i 0 :: w.drop (i + 1) := by
  rw [List.drop_eq_getElem_cons h, List.getD_eq_getElem?_getD, List.getElem?_eq_getElem h]
  rfl
section
variable {D : GD} {d : Nat} {ch : Nat → Int} {n : Nat} {M0 M : Mm} {p : Nat} {f : Option (List Int)}
theorem t_pass (hE : ExOk D) {j : Nat} {P : Mm → Prop} (hj : j < 7) (hL : Lay 1 4 M0) (hc : Ctx ch n M0) (h : Rd ch n M0 M p f) (k : ∀ M', Rd ch n M0 M' (pF ch (wd7 j) p f).1 (pF ch (wd7 j) p f).2 → P M') : AMv D (d + 4) mX6_pass [.ref 1, .ref (1000000 + j)] M P := by
  have en := wd7_n j hj
  have el := wd7_l j hj
  have lp : ∀ (m i : Nat) (N : Mm) (q : Nat) (g : Option (List Int)), i + m = (wd7 j).length → Rd ch n M0 N q g → pF ch ((wd7 j).drop i) q g = pF ch (wd7 j) p f → LX6_pass_2 D (d + 3) j (J i) N (fun r M1 => r = none ∧ Sm M M1 ∧ P M1) := by
    intro m
    induction m with
    | zero =>
      intro i N q g hi hN e
      obtain rfl : i = (wd7 j).length := by omega
      rw [List.drop_length, pF_nil] at e
      refine rX6_pass_2 D (d + 3) j _ N _ (hN.lay hL) hj (c_strlen (d := d + 2) hE hj ⟨_, rfl, .refl N, fun _ => ⟨rfl, h.sm hN, k N ?_⟩, fun c => ?_⟩)
      · rw [← e]; exact hN
      · exfalso
        rw [en, J_ofNat] at c
        simp (disch := omega) only [J_lit, J_add, J_sub, J_mul, J_neg, J_lt, J_le, J_eq, J_nat, J_in, J_div] at c
        omega
    | succ m ih =>
      intro i N q g hi hN e
      have hi' : i < (wd7 j).length := by omega
      obtain ⟨eb, b0, b1⟩ := wd7_b j hj i hi'
      have ei : (J (i : Int)).toNatClampNeg = i := by simp (disch := omega) only [J_lit, J_add, J_sub, J_mul, J_neg, J_lt, J_le, J_eq, J_nat, J_in, J_div]; omega
      rw [drop_c hi'] at e
      refine rX6_pass_2 D (d + 3) j _ N _ (hN.lay hL) hj (c_strlen (d := d + 2) hE hj ⟨_, rfl, .refl N, fun c => ?_, fun _ => c_strchar (d := d) hE hj (by rw [en]; simp (disch := omega) only [J_lit, J_add, J_sub, J_mul, J_neg, J_lt, J_le, J_eq, J_nat, J_in, J_div]; omega) ⟨_, rfl, .refl N, ?_⟩⟩)
      · exfalso
        rw [en, J_ofNat] at c
        simp (disch := omega) only [J_lit, J_add, J_sub, J_mul, J_neg, J_lt, J_le, J_eq, J_nat, J_in, J_div] at c
        omega
      · rw [ei, eb]
        refine t_sees hL hc hN b0 b1 ⟨fun z N1 q1 x ex => ?_, fun z N1 q1 x ex => ?_⟩
        · have hz : ¬ (g.isSome = true ∧ ch q = (wd7 j).getD i 0) := fun y => by rw [b2_t y] at z; exact absurd z (by decide)
          rw [pF_n hz] at e
          rw [ex, J_suc]
          exact ih (i + 1) N1 q none (by omega) (by rw [q1]; exact hN.flt) e
        · have hz : g.isSome = true ∧ ch q = (wd7 j).getD i 0 := Decidable.byContradiction fun y => z (b2_f y)
          rw [pF_y hz] at e
          rw [ex, J_suc]
          cases g with
          | none => cases hz.1
          | some A => exact ih (i + 1) N1 (q + 1) (some A) (by omega) (by rw [q1]; exact hN.adv (hc.lt (by rw [hz.2]; exact b0)) hc.1) e
  exact rX6_pass D (d + 3) j M _ (h.lay hL) hj (lp (wd7 j).length 0 M p f (by omega) h rfl)
theorem t_one (hE : ExOk D) {j : Nat} {P : Int32 → Mm → Prop} (hj : j < 7) (hL : Lay 1 4 M0) (hc : Ctx ch n M0) (h : Rd ch n M0 M p f) (k0 : (f = none ∨ idx (wd7 j) (ch p) = none) → ∀ M', Rd ch n M0 M' p none → P 0 M') (k1 : ∀ A r, f = some A → idx (wd7 j) (ch p) = some r → ∀ M', Rd ch n M0 M' (p + 1) (some A) → P (J (r : Nat)) M') : AMi D (d + 4) mX6_passOneOf [.ref 1, .ref (1000000 + j)] M P := by
  have en := wd7_n j hj
  have el := wd7_l j hj
  have lp : ∀ (m i : Nat), i + m = (wd7 j).length → (f = none ∨ idx (wd7 j) (ch p) = (idx ((wd7 j).drop i) (ch p)).map (· + i)) → LX6_passOneOf_2 D (d + 3) j (J i) M (fun r M1 => ∃ x, r = some (.int x) ∧ Sm M M1 ∧ P x M1) := by
    intro m
    induction m with
    | zero =>
      intro i hi e
      obtain rfl : i = (wd7 j).length := by omega
      rw [List.drop_length] at e
      refine rX6_passOneOf_2 D (d + 3) j _ M _ (h.lay hL) hj (c_strlen (d := d + 2) hE hj ⟨_, rfl, .refl M, fun _ N q => ⟨_, rfl, ?_, k0 e N ?_⟩, fun c => ?_⟩)
      · rw [q]; exact h.sm h.flt
      · rw [q]; exact h.flt
      · exfalso
        rw [en, J_ofNat] at c
        simp (disch := omega) only [J_lit, J_add, J_sub, J_mul, J_neg, J_lt, J_le, J_eq, J_nat, J_in, J_div] at c
        omega
    | succ m ih =>
      intro i hi e
      have hi' : i < (wd7 j).length := by omega
      obtain ⟨eb, b0, b1⟩ := wd7_b j hj i hi'
      have ei : (J (i : Int)).toNatClampNeg = i := by simp (disch := omega) only [J_lit, J_add, J_sub, J_mul, J_neg, J_lt, J_le, J_eq, J_nat, J_in, J_div]; omega
      have ed : idx ((wd7 j).drop i) (ch p) = if ch p = (wd7 j).getD i 0 then some 0 else (idx ((wd7 j).drop (i + 1)) (ch p)).map (· + 1) := by
        rw [drop_c hi']
        rfl
      rw [ed] at e
      refine rX6_passOneOf_2 D (d + 3) j _ M _ (h.lay hL) hj (c_strlen (d := d + 2) hE hj ⟨_, rfl, .refl M, fun c => ?_, fun _ => c_strchar (d := d) hE hj (by rw [en]; simp (disch := omega) only [J_lit, J_add, J_sub, J_mul, J_neg, J_lt, J_le, J_eq, J_nat, J_in, J_div]; omega) ⟨_, rfl, .refl M, ?_⟩⟩)
      · exfalso
        rw [en, J_ofNat] at c
        simp (disch := omega) only [J_lit, J_add, J_sub, J_mul, J_neg, J_lt, J_le, J_eq, J_nat, J_in, J_div] at c
        omega
      · rw [ei, eb]
        refine t_sees hL hc h b0 b1 ⟨fun z x ex => ?_, fun z N1 q1 => ?_⟩
        · have hz : ¬ (f.isSome = true ∧ ch p = (wd7 j).getD i 0) := fun y => by rw [b2_t y] at z; exact absurd z (by decide)
          rw [ex, J_suc]
          refine ih (i + 1) (by omega) ?_
          rcases e with e | e
          · exact Or.inl e
          · cases f with
            | none => exact Or.inl rfl
            | some A =>
              refine Or.inr ?_
              rw [e, if_neg (fun y => hz ⟨rfl, y⟩), Option.map_map]
              congr 1
              funext y
              show y + 1 + i = y + (i + 1)
              omega
        · have hz : f.isSome = true ∧ ch p = (wd7 j).getD i 0 := Decidable.byContradiction fun y => z (b2_f y)
          cases f with
          | none => cases hz.1
          | some A =>
            have R1 : Rd ch n M0 N1 (p + 1) (some A) := by rw [q1]; exact h.adv (hc.lt (by rw [hz.2]; exact b0)) hc.1
            refine ⟨_, rfl, h.sm R1, k1 A i rfl ?_ N1 R1⟩
            rcases e with e | e
            · cases e
            · rw [e, if_pos hz.2]
              show some (0 + i) = some i
              rw [Nat.zero_add]
  refine rX6_passOneOf D (d + 3) j M _ (h.lay hL) hj (lp (wd7 j).length 0 (by omega) (Or.inr ?_))
  show _ = (idx (wd7 j) (ch p)).map (fun x => x + 0)
  cases idx (wd7 j) (ch p) <;> rfl
theorem t_num {P : Int32 → Mm → Prop} (hL : Lay 1 4 M0) (hc : Ctx ch n M0) (h : Rd ch n M0 M p f) (k0 : (f = none ∨ pN ch p = (p, none)) → ∀ M', Rd ch n M0 M' p none → P 0 M') (k1 : ∀ A q v, f = some A → pN ch p = (q, some v) → ∀ M', Rd ch n M0 M' q (some A) → P (J (v : Nat)) M') : AMi D (d + 1) mX6_passNumber [.ref 1] M P := by
  have hn := hc.1
  have hb : ∀ N q A, Rd ch n M0 N q (some A) → 48 ≤ ch q → ch q ≤ 57 → vp_in (gI N 1 4) 100 ∧ gI N 2 (gI N 1 4).toNatClampNeg = J ((ch q).toNat : Int) ∧ Rd ch n M0 (sI N 1 4 (gI N 1 4 + (1 : Int32))) (q + 1) (some A) := by
    intro N q A hN b1 b2
    have hq : q < n := hc.lt (by omega)
    obtain ⟨b, hb, eb, es⟩ := hc.byte hN hq
    have e4 := hN.2.2.2.1
    have eq' : (J (q : Int)).toNatClampNeg = q := by simp (disch := omega) only [J_lit, J_add, J_sub, J_mul, J_neg, J_lt, J_le, J_eq, J_nat, J_in, J_div]; omega
    refine ⟨by rw [e4]; simp (disch := omega) only [J_lit, J_add, J_sub, J_mul, J_neg, J_lt, J_le, J_eq, J_nat, J_in, J_div]; omega, ?_, hN.adv hq hn⟩
    rw [e4, eq', eb]
    congr 1
    rw [es] at b1 b2 ⊢
    unfold sby at b1 b2 ⊢
    split <;> rename_i hh
    · rfl
    · rw [if_neg hh] at b1
      omega
  refine rX6_passNumber D d M _ (h.lay hL) (fun x1 e1 => ?_)
  have e4 := h.2.2.2.1
  have hp := h.2.2.1
  rw [e1, e4]
  have ed : ∀ x : Nat, x ≤ 57 → 48 ≤ x → J (x : Int) - (48 : Int32) = J ((x - 48 : Nat) : Int) := fun x h1 h2 => by simp (disch := omega) only [J_lit, J_add, J_sub, J_mul, J_neg, J_lt, J_le, J_eq, J_nat, J_in, J_div]; congr 1; omega
  refine rX6_passNumber_9 D d _ _ _ M _ (h.lay hL) ⟨fun c => absurd c (by decide), fun _ => t_fig hL hc h ⟨fun z => ?_, fun z => ?_⟩⟩
  · have hz : ¬ (f.isSome = true ∧ 48 ≤ ch p ∧ ch p ≤ 57) := fun y => by rw [b2_t y] at z; exact absurd z (by decide)
    have h5 := h.at5
    have kk : f = none ∨ pN ch p = (p, none) := by
      cases f with
      | none => exact Or.inl rfl
      | some A =>
        refine Or.inr ?_
        unfold pN
        rw [if_neg (fun y => hz ⟨rfl, y⟩)]
    refine ⟨fun y N q => ⟨_, rfl, by rw [q]; exact h.sm h.flt, k0 kk N (by rw [q]; exact h.flt)⟩, fun y => ⟨fun w => absurd e4 w, fun _ N q => ⟨_, rfl, by rw [q]; exact h.sm h.flt, k0 kk N (by rw [q]; exact h.flt)⟩⟩⟩
  · have hz : f.isSome = true ∧ 48 ≤ ch p ∧ ch p ≤ 57 := Decidable.byContradiction fun y => z (b2_f y)
    cases f with
    | none => cases hz.1
    | some A =>
      obtain ⟨v1, v2, v3⟩ := hb M p A h hz.2.1 hz.2.2
      refine ⟨v1, fun x38 e38 N1 q1 x43 e43 => ?_⟩
      rw [v2, ed _ (by omega) (by omega)] at e38
      have e38' : x38 = J (((ch p - 48).toNat : Nat) : Int) := by
        rw [e38, (by rfl : (10 : Int32) = J 10), (by rfl : (0 : Int32) = J 0), J_mul, J_add]
        congr 1
        omega
      rw [← q1] at v3
      rw [e38', e43]
      have ne : ∀ (N : Mm) (q : Nat) (B : List Int), Rd ch n M0 N q (some B) → p < q → gI N 1 5 = 0 ∧ ¬ gI N 1 4 = J p := by
        intro N q B hN hq
        refine ⟨hN.at5.2 rfl, ?_⟩
        rw [hN.2.2.2.1]
        intro w
        have := hN.2.2.1
        simp (disch := omega) only [J_lit, J_add, J_sub, J_mul, J_neg, J_lt, J_le, J_eq, J_nat, J_in, J_div] at w
        omega
      obtain ⟨n5, n4⟩ := ne N1 _ A v3 (by omega)
      refine rX6_passNumber_9 D d _ _ _ N1 _ (v3.lay hL) ⟨fun c => absurd c (by decide), fun _ => t_fig hL hc v3 ⟨fun z => ?_, fun z => ?_⟩⟩
      · have hz2 : ¬ (48 ≤ ch (p + 1) ∧ ch (p + 1) ≤ 57) := fun y => by rw [b2_t ⟨rfl, y⟩] at z; exact absurd z (by decide)
        have ep : pN ch p = (p + 1, some (ch p - 48).toNat) := by
          unfold pN
          rw [if_pos hz.2, if_neg hz2]
        exact ⟨fun y => absurd n5 y, fun _ => ⟨fun _ N q => ⟨_, rfl, by rw [q]; exact h.sm v3.unf, k1 A _ _ rfl ep N (by rw [q]; exact v3.unf)⟩, fun y => absurd y n4⟩⟩
      · have hz2 : (some A).isSome = true ∧ 48 ≤ ch (p + 1) ∧ ch (p + 1) ≤ 57 := Decidable.byContradiction fun y => z (b2_f y)
        obtain ⟨u1, u2, u3⟩ := hb N1 (p + 1) A v3 hz2.2.1 hz2.2.2
        refine ⟨u1, fun x e N2 q2 y ey => ?_⟩
        rw [u2, ed _ (by omega) (by omega)] at e
        have e' : x = J ((10 * (ch p - 48).toNat + (ch (p + 1) - 48).toNat : Nat) : Int) := by
          rw [e, (by rfl : (10 : Int32) = J 10), J_mul, J_add]
          congr 1
          omega
        rw [← q2] at u3
        rw [e', ey]
        obtain ⟨m5, m4⟩ := ne N2 _ A u3 (by omega)
        have ep : pN ch p = (p + 2, some (10 * (ch p - 48).toNat + (ch (p + 1) - 48).toNat)) := by
          unfold pN
          rw [if_pos hz.2, if_pos hz2.2]
        refine rX6_passNumber_9 D d _ _ _ N2 _ (u3.lay hL) ⟨fun _ => ⟨fun y => absurd m5 y, fun _ => ⟨fun _ N q => ⟨_, rfl, by rw [q]; exact h.sm u3.unf, k1 A _ _ rfl ep N (by rw [q]; exact u3.unf)⟩, fun y => absurd y m4⟩⟩, fun c => absurd (by decide) c⟩
end
