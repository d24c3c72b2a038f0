/-! RULE: the class's reading of it -/
section
variable {D : GD} {d : Nat} {ch : Nat → Int} {n : Nat} {M0 M : Mm} {p : Nat}
theorem c_clause (hE : ExOk D) {s p' : Nat} {o : Option Cls} {A : List Int} {P : Mm → Prop} (hL : Lay 1 4 M0) (hc : Ctx ch n M0) (h : Rd ch n M0 M p (some A)) (hp : Pc ch s p p' o) (kk : ∀ M', Rd ch n M0 M' p' (o.map (fun C => A ++ encC C)) → P M') : AMv D (d + 20) mX6_parseClause [.ref 1] M P := by
  have ht := hc.tn
  have hpn := h.2.2.1
  have fin : ∀ q, hH ch p = (q, none) → ∀ M', Rd ch n M0 M' q none → (none : Option Value) = none ∧ Sm M M' ∧ P M' := by
    intro q e M' hM'
    refine ⟨rfl, h.sm hM', kk M' ?_⟩
    obtain ⟨q', h', e', z⟩ := hp
    rw [e] at e'
    cases e'
    rcases z with ⟨_, rfl, rfl⟩ | ⟨g, v, o', z, _⟩
    · exact hM'
    · cases z
  have tl : ∀ q g, hG ch p = (q, some g) → ((∃ q', pN ch q = (q', none) ∧ ∀ M', Rd ch n M0 M' q' none → (none : Option Value) = none ∧ Sm M M' ∧ P M') ∨ ∃ r v, pN ch q = (r, some v) ∧ ((∃ t, pW ch [32] r = (t, false) ∧ ∀ M', Rd ch n M0 M' t none → (none : Option Value) = none ∧ Sm M M' ∧ P M') ∨ ∃ t p' o', pW ch [32] r = (t, true) ∧ Pa ch s 3 0 t p' o' ∧ ∀ M', Rd ch n M0 M' p' (o'.map (fun L => A ++ encC (g, v, L))) → (none : Option Value) = none ∧ Sm M M' ∧ P M')) := by
    intro q g eG
    cases e2 : pN ch q with
    | mk r o2 =>
      cases o2 with
      | none =>
        have eH : hH ch p = (r, none) := by
          unfold hH
          rw [eG]
          simp only [e2]
        exact Or.inl ⟨r, rfl, fin r eH⟩
      | some v =>
        refine Or.inr ⟨r, v, rfl, ?_⟩
        cases e3 : pW ch [32] r with
        | mk t b =>
          cases b with
          | false =>
            have eH : hH ch p = (t, none) := by
              unfold hH
              rw [eG]
              simp only [e2, e3]
            exact Or.inl ⟨t, rfl, fin t eH⟩
          | true =>
            have eH : hH ch p = (t, some (g, v)) := by
              unfold hH
              rw [eG]
              simp only [e2, e3]
            obtain ⟨q', h', e', z⟩ := hp
            rw [eH] at e'
            cases e'
            rcases z with ⟨z, _⟩ | ⟨g', v', o', z, hPa, rfl⟩
            · cases z
            · cases z
              refine Or.inr ⟨t, p', o', rfl, hPa, fun M' hM' => ⟨rfl, h.sm hM', kk M' ?_⟩⟩
              rw [Option.map_map]
              exact hM'
  have d3 : ∀ (q : Nat) (N : Mm) (x : Int32), Rd ch n M0 N q none → hH ch p = (q, none) → AMi D (d + 19) mX6_passNumber [.ref 1] N (fun x57 M56 => AMv D (d + 19) mX6_pass [.ref 1, .ref (1000000 + 2)] M56 (fun M62 => AMv D (d + 19) mX6_parseEither [.ref 1, .int (0 : Int32)] M62 (fun M68 => AMv D (d + 19) mX6_make [.ref 1, .int (5 : Int32), .int x, .int (0 : Int32), .int x57] M68 (fun M74 => (none : Option Value) = none ∧ Sm M M74 ∧ P M74)))) := fun q N x hN e => t_tail (s := s) hE hL hc hN (fun _ M' hM' => fin q e M' hM') (fun A z => by cases z)
  refine rX6_parseClause D (d + 19) M _ (h.lay hL) (t_sees (c := 103) hL hc h (by omega) (by omega) ?_)
  by_cases c0 : ch p = 103
  · rw [b2_t ⟨rfl, c0⟩]
    refine ⟨fun z => absurd z (by decide), fun _ => ?_⟩
    refine t_pass (d := d + 15) (j := 0) hE (by omega) hL hc h (fun N1 hN1 => ?_)
    have ew : wd7 0 = [103, 111, 32] := rfl
    rw [ew] at hN1
    cases e1 : pW ch [103, 111, 32] p with
    | mk q1 b1 =>
      rw [pF_s e1] at hN1
      cases b1 with
      | false =>
        have eH : hH ch p = (q1, none) := by
          have eG : hG ch p = (q1, none) := by
            unfold hG
            rw [if_pos c0, e1]
          unfold hH
          rw [eG]
        have R1 : Rd ch n M0 N1 q1 none := hN1
        refine t_one (d := d + 15) (j := 1) hE (by omega) hL hc R1 (fun _ N2 hN2 => ?_) (fun A _ z => by cases z)
        refine t_pass (d := d + 15) (j := 2) hE (by omega) hL hc hN2 (fun N3 hN3 => ?_)
        exact d3 q1 N3 _ hN3 eH
      | true =>
        have R1 : Rd ch n M0 N1 q1 (some A) := hN1
        refine t_one (d := d + 15) (j := 1) hE (by omega) hL hc R1 (fun z N2 hN2 => ?_) (fun B g z eg N2 hN2 => ?_)
        · have ei : idx [48, 49, 50] (ch q1) = none := by
            rcases z with z | z
            · cases z
            · exact z
          have eH : hH ch p = (q1, none) := by
            have eG : hG ch p = (q1, none) := by
              unfold hG
              rw [if_pos c0, e1]
              simp only [ei]
            unfold hH
            rw [eG]
          refine t_pass (d := d + 15) (j := 2) hE (by omega) hL hc hN2 (fun N3 hN3 => ?_)
          exact d3 q1 N3 _ hN3 eH
        · cases z
          have ei : idx [48, 49, 50] (ch q1) = some g := eg
          have hg : g < 3 := (idx_c ei).1
          refine t_pass (d := d + 15) (j := 2) hE (by omega) hL hc hN2 (fun N3 hN3 => ?_)
          have ew2 : wd7 2 = [32] := rfl
          rw [ew2] at hN3
          cases e3 : pW ch [32] (q1 + 1) with
          | mk r b3 =>
            rw [pF_s e3] at hN3
            cases b3 with
            | false =>
              have eH : hH ch p = (r, none) := by
                have eG : hG ch p = (r, none) := by
                  unfold hG
                  rw [if_pos c0, e1]
                  simp only [ei, e3]
                unfold hH
                rw [eG]
              exact d3 r N3 _ hN3 eH
            | true =>
              have eG : hG ch p = (r, some g) := by
                unfold hG
                rw [if_pos c0, e1]
                simp only [ei, e3]
              have R3 : Rd ch n M0 N3 r (some A) := hN3
              exact t_tail (s := s) hE hL hc R3 (fun z => by cases z) (fun B z => by
                cases z
                exact ⟨g, by omega, rfl, tl r g eG⟩)
  · rw [b2_f (fun z => c0 z.2)]
    refine ⟨fun _ => ?_, fun z => absurd rfl z⟩
    refine t_pass (d := d + 15) (j := 3) hE (by omega) hL hc h (fun N1 hN1 => ?_)
    have ew : wd7 3 = [112, 114, 101, 115, 115, 32] := rfl
    rw [ew] at hN1
    cases e1 : pW ch [112, 114, 101, 115, 115, 32] p with
    | mk q1 b1 =>
      rw [pF_s e1] at hN1
      cases b1 with
      | false =>
        have eH : hH ch p = (q1, none) := by
          have eG : hG ch p = (q1, none) := by
            unfold hG
            rw [if_neg c0, e1]
          unfold hH
          rw [eG]
        exact d3 q1 N1 _ hN1 eH
      | true =>
        have eG : hG ch p = (q1, some 3) := by
          unfold hG
          rw [if_neg c0, e1]
        have R1 : Rd ch n M0 N1 q1 (some A) := hN1
        exact t_tail (s := s) hE hL hc R1 (fun z => by cases z) (fun B z => by
          cases z
          exact ⟨3, by omega, rfl, tl q1 3 eG⟩)
/-- what the class's reading leaves -/
def Prd (ch : Nat → Int) (n : Nat) (M0 : Mm) (A : List Int) (p' : Nat) (o : Option (List Cls)) (x : Int32) (M' : Mm) : Prop := Fm [1, 3] M0 M' ∧ gI M' 1 2 = J n ∧ (o = none → x = 0 ∧ gI M' 1 4 = J p') ∧ ∀ R, o = some R → x = 1 ∧ Rd ch n M0 M' p' (some (A ++ encR R))
theorem l_parses (hE : ExOk D) {s : Nat} {post : Option Value → Mm → Prop} (hL : Lay 1 4 M0) (hc : Ctx ch n M0) : ∀ (m i p p' : Nat) (o : Option (List Cls)) (A : List Int) (M : Mm), i + m = 8 → Pcs ch s n m p p' o → Rd ch n M0 M p (some A) → (∀ x M', Prd ch n M0 A p' o x M' → post (some (.int x)) M') → LX6_parses_21 D (d + 20) (J (i : Nat)) M post := by
  have ht := hc.tn
  have hn := hc.1
  have fin : ∀ (p : Nat) (A : List Int) (M : Mm), Rd ch n M0 M p (some A) → (∀ x M', Prd ch n M0 A p (if p = n then some [] else none) x M' → post (some (.int x)) M') → ((¬ (gI M 1 5) = 0 → post (some (.int (0 : Int32))) M) ∧ ((gI M 1 5) = 0 → ((¬ (gI M 1 4) = (gI M 1 2) → post (some (.int (0 : Int32))) M) ∧ ((gI M 1 4) = (gI M 1 2) → post (some (.int (1 : Int32))) M)))) := by
    intro p A M hM kk
    have hpn := hM.2.2.1
    refine ⟨fun z => absurd (hM.at5.2 rfl) z, fun _ => ?_⟩
    rw [hM.2.2.2.1, hM.2.1]
    refine ⟨fun z => kk 0 M ⟨hM.1, hM.2.1, fun _ => ⟨rfl, hM.2.2.2.1⟩, fun R hR => ?_⟩, fun z => kk 1 M ⟨hM.1, hM.2.1, fun hR => ?_, fun R hR => ?_⟩⟩
    · by_cases e : p = n
      · exact absurd (by rw [e]) z
      · rw [if_neg e] at hR
        cases hR
    · simp (disch := omega) only [J_lit, J_add, J_sub, J_mul, J_neg, J_lt, J_le, J_eq, J_nat, J_in, J_div] at z
      rw [if_pos (by omega)] at hR
      cases hR
    · simp (disch := omega) only [J_lit, J_add, J_sub, J_mul, J_neg, J_lt, J_le, J_eq, J_nat, J_in, J_div] at z
      rw [if_pos (by omega)] at hR
      cases hR
      refine ⟨rfl, ?_⟩
      show Rd ch n M0 M p (some (A ++ []))
      rw [List.append_nil]
      exact hM
  have dead : ∀ (p i : Nat) (A : List Int) (M : Mm), Rd ch n M0 M p none → (∀ x M', Prd ch n M0 A p none x M' → post (some (.int x)) M') → LX6_parses_21 D (d + 20) (J (i : Nat)) M post := by
    intro p i A M hM kk
    have k0 := kk 0 M ⟨hM.1, hM.2.1, fun _ => ⟨rfl, hM.2.2.2.1⟩, fun R hR => by cases hR⟩
    have n5 : ¬ gI M 1 5 = 0 := fun z => by have := hM.at5.1 z; cases this
    refine rX6_parses_21 D (d + 20) _ M _ (hM.lay hL) ⟨fun _ => ⟨fun _ => k0, fun z => absurd z n5⟩, fun _ => t_sees (c := 59) hL hc hM (by omega) (by omega) ?_⟩
    rw [b2_f (fun z => by cases z.1)]
    exact ⟨fun _ => ⟨fun _ => k0, fun z => absurd z n5⟩, fun z => absurd rfl z⟩
  intro m
  induction m with
  | zero =>
    intro i p p' o A M hi h hM kk
    obtain ⟨rfl, rfl⟩ := h
    obtain rfl : i = 8 := by omega
    exact rX6_parses_21 D (d + 20) _ M _ (hM.lay hL) ⟨fun _ => fin _ A M hM kk, fun z => absurd (by decide) z⟩
  | succ m ih =>
    intro i p p' o A M hi h hM kk
    refine rX6_parses_21 D (d + 20) _ M _ (hM.lay hL) ⟨fun z => ?_, fun _ => t_sees (c := 59) hL hc hM (by omega) (by omega) ?_⟩
    · exfalso
      simp (disch := omega) only [J_lit, J_add, J_sub, J_mul, J_neg, J_lt, J_le, J_eq, J_nat, J_in, J_div] at z
      omega
    · rcases h with ⟨c0, rfl, rfl⟩ | ⟨c0, q, c, h1, h2⟩
      · rw [b2_f (fun z => c0 z.2)]
        exact ⟨fun _ => fin _ A M hM kk, fun z => absurd rfl z⟩
      · have hp1 : p < n := ht.lt (p := p) (by omega)
        rw [b2_t ⟨rfl, c0⟩]
        refine ⟨fun z => absurd z (by decide), fun _ N1 q1 => ?_⟩
        have R1 : Rd ch n M0 N1 (p + 1) (some A) := by rw [q1]; exact hM.adv hp1 hn
        refine c_clause hE hL hc R1 h1 (fun N2 hN2 x ex => ?_)
        rw [ex, J_suc]
        rcases h2 with ⟨rfl, rfl, rfl⟩ | ⟨C, o2, rfl, h3, rfl⟩
        · exact dead _ (i + 1) A N2 hN2 kk
        · refine ih (i + 1) q p' o2 (A ++ encC C) N2 (by omega) h3 hN2 (fun x M' hM' => kk x M' ?_)
          obtain ⟨a1, a2, a3, a4⟩ := hM'
          refine ⟨a1, a2, fun z => ?_, fun R z => ?_⟩
          · cases o2 with
            | none => exact a3 rfl
            | some R => cases z
          · cases o2 with
            | none => cases z
            | some R2 =>
              cases z
              have := a4 R2 rfl
              refine ⟨this.1, ?_⟩
              show Rd ch n M0 M' p' (some (A ++ (encC C ++ encR R2)))
              rw [← List.append_assoc]
              exact this.2
theorem c_parses (hE : ExOk D) {s p' : Nat} {o : Option (List Cls)} {P : Int32 → Mm → Prop} (hL : Lay 1 4 M0) (hc : Ctx ch n M0) (h : Prl ch s n p' o) (kk : ∀ x M', Prd ch n M0 [] p' o x M' → P x M') : AMi D (d + 21) mX6_parses [.ref 1] M0 P := by
  have hn := hc.1
  obtain ⟨q, c, h1, h2⟩ := h
  refine rX6_parses D (d + 20) M0 _ hL (fun N1 q1 N2 q2 N3 q3 => ?_)
  have R3 : Rd ch n M0 N3 0 (some []) := by
    refine ⟨?_, ?_, by omega, ?_, ⟨0, by omega, ?_⟩, fun A z => ?_, fun z => by cases z⟩
    · rw [q3, q2, q1]; exact (((Fm.refl _ M0).si (by decide)).si (by decide)).si (by decide)
    · rw [q3, gI_sI, if_neg (by omega), q2, gI_sI, if_neg (by omega), q1, gI_sI, if_neg (by omega)]; exact hc.2.1
    · rw [q3, gI_sI, if_neg (by omega), q2, gI_sI, if_neg (by omega), q1, gI_sI, if_pos ⟨rfl, rfl⟩]; rfl
    · rw [q3, gI_sI, if_neg (by omega), q2, gI_sI, if_pos ⟨rfl, rfl⟩]; rfl
    · cases z
      refine ⟨?_, ?_, Nat.le_refl _, fun i x hx => by cases hx⟩
      · rw [q3, gI_sI, if_pos ⟨rfl, rfl⟩]
      · rw [q3, gI_sI, if_neg (by omega), q2, gI_sI, if_pos ⟨rfl, rfl⟩]; rfl
  refine c_clause hE hL hc R3 h1 (fun N4 hN4 => ?_)
  rcases h2 with ⟨rfl, rfl, rfl⟩ | ⟨C, o2, rfl, h3, rfl⟩
  · have R4 : Rd ch n M0 N4 p' none := hN4
    have n5 : ¬ gI N4 1 5 = 0 := fun z => by have := R4.at5.1 z; cases this
    have k0 : ∃ x, some (Value.int 0) = some (Value.int x) ∧ Sm M0 N4 ∧ P x N4 := ⟨0, rfl, R4.1.1, kk 0 N4 ⟨R4.1, R4.2.1, fun _ => ⟨rfl, R4.2.2.2.1⟩, fun R hR => by cases hR⟩⟩
    refine rX6_parses_21 D (d + 20) _ N4 _ (R4.lay hL) ⟨fun _ => ⟨fun _ => k0, fun z => absurd z n5⟩, fun _ => t_sees (c := 59) hL hc R4 (by omega) (by omega) ?_⟩
    rw [b2_f (fun z => by cases z.1)]
    exact ⟨fun _ => ⟨fun _ => k0, fun z => absurd z n5⟩, fun z => absurd rfl z⟩
  · refine l_parses (i := 1) hE hL hc 7 q p' o2 _ N4 (by omega) h3 hN4 (fun x M' hM' => ⟨x, rfl, hM'.1.1, kk x M' ?_⟩)
    obtain ⟨a1, a2, a3, a4⟩ := hM'
    refine ⟨a1, a2, fun z => ?_, fun R z => ?_⟩
    · cases o2 with
      | none => exact a3 rfl
      | some R => cases z
    · cases o2 with
      | none => cases z
      | some R2 =>
        cases z
        exact a4 R2 rfl
end
