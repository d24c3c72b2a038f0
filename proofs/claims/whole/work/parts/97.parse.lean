/-! RULE: the reference reads a RULE -/
def Gz (n b r : Nat) (M0 M : Mm) (p : Nat) : Prop := Fm [62, 65, 66, 67, 68, 69, 70, 71] M0 M ∧ (∀ j, j ≠ 3 → j ≠ 4 → j ≠ 13 → j ≠ 14 → j ≠ 15 → gI M 62 j = gI M0 62 j) ∧ (∀ a j, 66 ≤ a → a ≤ 69 → j < 8 * r → gI M a j = gI M0 a j) ∧ (∀ j, j ≠ r → gI M 65 j = gI M0 65 j) ∧ (∀ i, i < b → gI M 70 i = gI M0 70 i) ∧ p ≤ n ∧ gI M 62 3 = J p
/-- where a clause stands -/
def Gc (b r : Nat) (M : Mm) (S : List Int) (R : List Cls) : Prop := ∀ i C, R[i]? = some C → gI M 66 (8 * r + i) = J C.1 ∧ gI M 67 (8 * r + i) = J C.2.1 ∧ ∃ off : Nat, off + C.2.2.length ≤ S.length ∧ gI M 68 (8 * r + i) = J ((b + off : Nat) : Int) ∧ gI M 69 (8 * r + i) = J ((b + off + C.2.2.length : Nat) : Int) ∧ ∀ k t, C.2.2[k]? = some t → S[off + k]? = some t
def Gs (n b r : Nat) (M0 M : Mm) (p : Nat) (S : List Int) (R : List Cls) : Prop := Gz n b r M0 M p ∧ gI M 62 13 = J ((b + S.length : Nat) : Int) ∧ (∀ i t, S[i]? = some t → gI M 70 (b + i) = J t) ∧ S.length ≤ p ∧ Gc b r M S R
section
variable {D : GD} {d : Nat} {ch : Nat → Int} {n b r : Nat} {M0 M : Mm} {p : Nat} {S : List Int} {R : List Cls}
theorem Gz.cf {M' : Mm} {p' i : Nat} (h : Gz n b r M0 M p) (g : Cf n b (8 * r + i) M M' p') : Gz n b r M0 M' p' := by
  obtain ⟨a1, a2, a3, a4, a5, a6, a7⟩ := h
  obtain ⟨b1, b2, b3, b4, b5, b6⟩ := g
  exact ⟨a1.trans (b1.sub (by decide)), fun j j1 j2 j3 j4 j5 => (b2 j j1 j2 j3 j4 j5).trans (a2 j j1 j2 j3 j4 j5), fun a j h1 h2 hj => (b3 a j h1 h2 (by omega)).trans (a3 a j h1 h2 hj), fun j hj => by rw [b1.2.2.2 65 (by decide)]; exact a4 j hj, fun i hi => (b4 i hi).trans (a5 i hi), b5, b6⟩
theorem Gz.w65 {v : Int32} (h : Gz n b r M0 M p) : Gz n b r M0 (sI M 65 r v) p := by
  obtain ⟨a1, a2, a3, a4, a5, a6, a7⟩ := h
  refine ⟨a1.si (by decide), fun j j1 j2 j3 j4 j5 => ?_, fun a j h1 h2 hj => ?_, fun j hj => ?_, fun i hi => ?_, a6, ?_⟩
  · rw [fr_s (by omega)]; exact a2 j j1 j2 j3 j4 j5
  · rw [fr_s (by omega)]; exact a3 a j h1 h2 hj
  · rw [gI_sI, if_neg (by omega)]; exact a4 j hj
  · rw [fr_s (by omega)]; exact a5 i hi
  · rw [fr_s (by omega)]; exact a7
theorem Gc.cg {M' : Mm} (h : Gc b r M S R) (g : ∀ a j, 66 ≤ a → a ≤ 69 → gI M' a j = gI M a j) : Gc b r M' S R := by
  intro i C hi
  have := h i C hi
  rw [g 66 _ (by omega) (by omega), g 67 _ (by omega) (by omega), g 68 _ (by omega) (by omega), g 69 _ (by omega) (by omega)]
  exact this
theorem Gs.clause {M' M2 : Mm} {p' : Nat} {C : Cls} {v : Int32} (h : Gs n b r M0 M p S R) (g : Cf n b (8 * r + R.length) M M' p') (gc : Cg b (8 * r + R.length) S C M') (hl : p + (encC C).length ≤ p') (q : M2 = sI M' 65 r v) : Gs n b r M0 M2 p' (S ++ C.2.2) (R ++ [C]) := by
  obtain ⟨hz, h13, hS, hl0, hc⟩ := h
  have hz2 : Gz n b r M0 M2 p' := by rw [q]; exact (hz.cf g).w65
  obtain ⟨c66, c67, c68, c69, c13, cS⟩ := gc
  have le : (encC C).length = C.2.2.length + 1 := by
    unfold encC
    rw [List.length_append, List.length_map]
    rfl
  have same : ∀ a j, 66 ≤ a → a ≤ 69 → gI M2 a j = gI M' a j := fun a j h1 h2 => by rw [q, fr_s (by omega)]
  refine ⟨hz2, by rw [q, fr_s (by omega)]; exact c13, fun i t hi => by rw [q, fr_s (by omega)]; exact cS i t hi, by rw [List.length_append]; omega, fun i X hX => ?_⟩
  rw [same 66 _ (by omega) (by omega), same 67 _ (by omega) (by omega), same 68 _ (by omega) (by omega), same 69 _ (by omega) (by omega)]
  by_cases hi : i < R.length
  · rw [List.getElem?_append_left hi] at hX
    obtain ⟨d1, d2, off, d3, d4, d5, d6⟩ := hc i X hX
    obtain ⟨_, _, b3, _⟩ := g
    refine ⟨(b3 66 _ (by omega) (by omega) (by omega)).trans d1, (b3 67 _ (by omega) (by omega) (by omega)).trans d2, off, by rw [List.length_append]; omega, (b3 68 _ (by omega) (by omega) (by omega)).trans d4, (b3 69 _ (by omega) (by omega) (by omega)).trans d5, fun k t hk => ?_⟩
    have hk' := d6 k t hk
    rw [List.getElem?_append_left (List.getElem?_eq_some_iff.1 hk').1]
    exact hk'
  · rw [List.getElem?_append_right (by omega)] at hX
    have e0 : i = R.length := by
      obtain ⟨w, _⟩ := List.getElem?_eq_some_iff.1 hX
      have w' : i - R.length < 1 := w
      omega
    rw [e0, Nat.sub_self] at hX
    cases hX
    rw [e0]
    refine ⟨c66, c67, S.length, by rw [List.length_append]; omega, c68, ?_, fun k t hk => ?_⟩
    · rw [c69, List.length_append]
      congr 1
      omega
    · rw [List.getElem?_append_right (by omega), Nat.add_sub_cancel_left]
      exact hk
theorem Gz.tx (h : Gz n b r M0 M p) (hc : Mtx ch n M0) : Mtx ch n M := by
  obtain ⟨c1, c2, c3, c4, c5⟩ := hc
  exact ⟨c1, by rw [h.2.1 2 (by omega) (by omega) (by omega) (by omega) (by omega)]; exact c2, fun q hq => by rw [h.1.2.2.2 64 (by decide)]; exact c3 q hq, c4, c5⟩
theorem Gs.hd {M' : Mm} {p' : Nat} (h : Gs n b r M0 M p S R) (g : Hd n 0 M M' p' (gI M 66 0) (gI M 67 0)) (hp : p ≤ p') : Gs n b r M0 M' p' S R := by
  obtain ⟨hz, h13, hS, hl0, hc⟩ := h
  have same : ∀ a j, 66 ≤ a → a ≤ 69 → gI M' a j = gI M a j := by
    intro a j h1 h2
    rcases (by omega : a = 66 ∨ a = 67 ∨ a = 68 ∨ a = 69) with rfl | rfl | rfl | rfl
    · by_cases e : j = 0
      · rw [e]; exact g.2.2.2.2.2.1
      · exact (g.2.2.1 j e).1
    · by_cases e : j = 0
      · rw [e]; exact g.2.2.2.2.2.2
      · exact (g.2.2.1 j e).2
    · rw [g.1.2.2.2 68 (by decide)]
    · rw [g.1.2.2.2 69 (by decide)]
  obtain ⟨a1, a2, a3, a4, a5, a6, a7⟩ := hz
  refine ⟨⟨a1.trans (g.1.sub (by decide)), fun j j1 j2 j3 j4 j5 => (g.2.1 j j1 j2).trans (a2 j j1 j2 j3 j4 j5), fun a j h1 h2 hj => (same a j h1 h2).trans (a3 a j h1 h2 hj), fun j hj => by rw [g.1.2.2.2 65 (by decide)]; exact a4 j hj, fun i hi => by rw [g.1.2.2.2 70 (by decide)]; exact a5 i hi, g.2.2.2.1, g.2.2.2.2.1⟩, ?_, fun i t hi => ?_, by omega, hc.cg same⟩
  · rw [g.2.1 13 (by omega) (by omega)]; exact h13
  · rw [g.1.2.2.2 70 (by decide)]; exact hS i t hi
theorem l_goes {s : Nat} {post : Option Value → Mm → Prop} (hL : Lay 62 98 M0) (hc : Mtx ch n M0) (hr : r ≤ 6) (hb : b ≤ 600) : ∀ (m p p' q : Nat) (c : Option Cls) (o : Option (List Cls)) (S : List Int) (R : List Cls) (M : Mm), R.length + 1 + m = 8 → Pc ch s p q c → ((c = none ∧ p' = q ∧ o = none) ∨ ∃ C o2, c = some C ∧ Pcs ch s n m q p' o2 ∧ o = o2.map (fun R => C :: R)) → Gs n b r M0 M p S R → (o = none → ∀ M', Gz n b r M0 M' p' → post (some (.int 0)) M') → (∀ R', o = some R' → ∀ M' S', Gs n b r M0 M' p' S' (R ++ R') → gI M' 65 r = J (R ++ R').length → post (some (.int 1)) M') → LX12_goesText_15 D (d + 5) (J (r : Nat)) (J (R.length : Nat)) M post := by
  have hn := hc.1
  have ht := hc.tn
  have er : (J (r : Int)).toNatClampNeg = r := by simp (disch := omega) only [J_lit, J_add, J_sub, J_mul, J_neg, J_lt, J_le, J_eq, J_nat, J_in, J_div]; omega
  intro m
  induction m with
  | zero =>
    intro p p' q c o S R M hm h1 h2 hG k0 k1
    have hLM := hL.of hG.1.1.1
    have hpn := hG.1.2.2.2.2.2.1
    have hcM := hG.1.tx hc
    have pk := Pc_k ht hpn h1
    have ea : (8 : Int32) * J (r : Int) + J (R.length : Int) = J ((8 * r + R.length : Nat) : Int) := by
      rw [(by rfl : (8 : Int32) = J 8), J_mul, J_add]
      congr 1
    refine rX12_goesText_15 D (d + 5) _ _ M _ hLM ?_
    rw [ea]
    refine u_clause (d := d) hLM hcM hb (by omega) hG.2.1 hG.2.2.1 hG.2.2.2.1 hpn hG.1.2.2.2.2.2.2 h1 (fun zc N hN => ⟨fun y => absurd rfl y, fun _ => ?_⟩) (fun C zc N hN hg => ⟨fun _ x ex => ⟨by simp (disch := omega) only [J_lit, J_add, J_sub, J_mul, J_neg, J_lt, J_le, J_eq, J_nat, J_in, J_div]; omega, fun N1 q1 => ?_⟩, fun y => absurd y (by decide)⟩)
    · rcases h2 with ⟨_, rfl, rfl⟩ | ⟨C, o2, z, _⟩
      · exact k0 rfl N (hG.1.cf hN)
      · rw [z] at zc
        cases zc
    · rw [er] at q1
      subst zc
      have pk2 := (pk.2.2 C rfl).2
      rcases h2 with ⟨z, _⟩ | ⟨C', o2, z, h3, rfl⟩
      · cases z
      · cases z
        have hG1 := hG.clause hN hg pk2 q1
        obtain ⟨rfl, rfl⟩ := h3
        have e3 := hG1.1.2.2.2.2.2.2
        have e2 : gI N1 62 2 = J n := (hG1.1.tx hc).2.1
        have hqn := hG1.1.2.2.2.2.2.1
        have x8 : x = (8 : Int32) := by rw [ex, J_suc, (by omega : R.length + 1 = 8)]; rfl
        rw [e2, e3]
        refine ⟨fun y => ⟨fun _ => k0 ?_ N1 hG1.1, fun w => absurd x8 w⟩, fun y => k1 [C] ?_ N1 _ hG1 ?_⟩
        · rw [if_neg (fun w => y (by rw [w]))]
          rfl
        · simp (disch := omega) only [J_lit, J_add, J_sub, J_mul, J_neg, J_lt, J_le, J_eq, J_nat, J_in, J_div] at y
          rw [if_pos (by omega)]
          rfl
        · rw [q1, gI_sI, if_pos ⟨rfl, rfl⟩, ex, J_suc, List.length_append]
          rfl
  | succ m ih =>
    intro p p' q c o S R M hm h1 h2 hG k0 k1
    have hLM := hL.of hG.1.1.1
    have hpn := hG.1.2.2.2.2.2.1
    have hcM := hG.1.tx hc
    have pk := Pc_k ht hpn h1
    have ea : (8 : Int32) * J (r : Int) + J (R.length : Int) = J ((8 * r + R.length : Nat) : Int) := by
      rw [(by rfl : (8 : Int32) = J 8), J_mul, J_add]
      congr 1
    refine rX12_goesText_15 D (d + 5) _ _ M _ hLM ?_
    rw [ea]
    refine u_clause (d := d) hLM hcM hb (by omega) hG.2.1 hG.2.2.1 hG.2.2.2.1 hpn hG.1.2.2.2.2.2.2 h1 (fun zc N hN => ⟨fun y => absurd rfl y, fun _ => ?_⟩) (fun C zc N hN hg => ⟨fun _ x ex => ⟨by simp (disch := omega) only [J_lit, J_add, J_sub, J_mul, J_neg, J_lt, J_le, J_eq, J_nat, J_in, J_div]; omega, fun N1 q1 => ?_⟩, fun y => absurd y (by decide)⟩)
    · rcases h2 with ⟨_, rfl, rfl⟩ | ⟨C, o2, z, _⟩
      · exact k0 rfl N (hG.1.cf hN)
      · rw [z] at zc
        cases zc
    · rw [er] at q1
      subst zc
      have pk2 := (pk.2.2 C rfl).2
      rcases h2 with ⟨z, _⟩ | ⟨C', o2, z, h3, rfl⟩
      · cases z
      · cases z
        have hG1 := hG.clause hN hg pk2 q1
        have e3 := hG1.1.2.2.2.2.2.2
        have hcN := hG1.1.tx hc
        have e2 : gI N1 62 2 = J n := hcN.2.1
        have hqn := hG1.1.2.2.2.2.2.1
        have hLN := hL.of hG1.1.1.1
        have ex' : x = J ((R.length + 1 : Nat) : Int) := by rw [ex, J_suc]
        have lR : (R ++ [C]).length = R.length + 1 := List.length_append
        have H1 : Hd n 0 N1 N1 q (gI N1 66 0) (gI N1 67 0) := ⟨.refl _ N1, fun _ _ _ => rfl, fun _ _ => ⟨rfl, rfl⟩, hqn, e3, rfl, rfl⟩
        rw [e2, e3]
        refine ⟨fun y => ⟨fun w => ?_, fun _ => v_takes (d := d + 4) (c := 59) hLN hcN H1 (by omega) (by omega) (fun z => ⟨fun w => absurd rfl w, fun _ => ?_⟩) (fun z N2 hN2 => ⟨fun _ => ?_, fun w => absurd w (by decide)⟩)⟩, fun y => ?_⟩
        · exfalso
          rw [ex'] at w
          simp (disch := omega) only [J_lit, J_add, J_sub, J_mul, J_neg, J_lt, J_le, J_eq, J_nat, J_in, J_div] at w
          omega
        · rcases h3 with ⟨_, rfl, rfl⟩ | ⟨c0, _⟩
          · refine k0 ?_ N1 hG1.1
            rw [if_neg (fun w => y (by rw [w]))]
            rfl
          · exact absurd c0 z
        · rcases h3 with ⟨c0, _⟩ | ⟨c0, q2, c2, h4, h5⟩
          · exact absurd z c0
          · have hG2 := hG1.hd hN2 (by omega)
            rw [ex', ← lR]
            refine ih (q + 1) p' q2 c2 o2 _ (R ++ [C]) N2 (by omega) h4 h5 hG2 (fun zo => k0 (by rw [zo]; rfl)) (fun R' zo M' S' hM' e65 => ?_)
            rw [List.append_assoc] at hM' e65
            exact k1 (C :: R') (by rw [zo]; rfl) M' S' hM' e65
        · simp (disch := omega) only [J_lit, J_add, J_sub, J_mul, J_neg, J_lt, J_le, J_eq, J_nat, J_in, J_div] at y
          rcases h3 with ⟨_, rfl, rfl⟩ | ⟨c0, _⟩
          · refine k1 [C] ?_ N1 _ hG1 ?_
            · rw [if_pos (by omega)]
              rfl
            · rw [q1, gI_sI, if_pos ⟨rfl, rfl⟩, ex', lR]
          · exfalso
            have := ht.lt (p := q) (by omega)
            omega
theorem u_goes {s p' : Nat} {o : Option (List Cls)} {P : Int32 → Mm → Prop} (hL : Lay 62 98 M) (hc : Mtx ch n M) (hr : r ≤ 6) (h : Prl ch s n p' o) (k0 : o = none → ∀ M', Gz n (100 * r) r M M' p' → P 0 M') (k1 : ∀ R, o = some R → ∀ M' S, Gs n (100 * r) r M M' p' S R → gI M' 65 r = J R.length → P 1 M') : AMi D (d + 6) mX12_goesText [.ref 62, .int (J (r : Nat))] M P := by
  have hn := hc.1
  obtain ⟨q, c, h1, h2⟩ := h
  refine rX12_goesText D (d + 5) _ M _ hL (fun M1 q1 M5 q5 => ?_)
  have e100 : (100 : Int32) * J (r : Int) = J ((100 * r : Nat) : Int) := by
    rw [(by rfl : (100 : Int32) = J 100), J_mul]
    congr 1
  rw [e100] at q5
  have G5 : Gs n (100 * r) r M M5 0 [] [] := by
    refine ⟨⟨by rw [q5, q1]; exact ((Fm.refl _ M).si (by decide)).si (by decide), fun j j1 j2 j3 j4 j5 => ?_, fun a j h1 h2 _ => ?_, fun j _ => ?_, fun i _ => ?_, by omega, ?_⟩, ?_, fun i t hi => (by cases hi), Nat.le_refl _, fun i C hi => (by cases hi)⟩
    · rw [q5, gI_sI, if_neg (by omega), q1, gI_sI, if_neg (by omega)]
    · rw [q5, fr_s (by omega), q1, fr_s (by omega)]
    · rw [q5, fr_s (by omega), q1, fr_s (by omega)]
    · rw [q5, fr_s (by omega), q1, fr_s (by omega)]
    · rw [q5, gI_sI, if_neg (by omega), q1, gI_sI, if_pos ⟨rfl, rfl⟩]; rfl
    · rw [q5, gI_sI, if_pos ⟨rfl, rfl⟩]; rfl
  exact l_goes (d := d) hL hc hr (by omega) 7 0 p' q c o [] [] M5 rfl h1 h2 G5 (fun z M' hM' => ⟨_, rfl, hM'.1.1, k0 z M' hM'⟩) (fun R z M' S' hM' e65 => ⟨_, rfl, hM'.1.1.1, k1 R z M' S' hM' e65⟩)
end
