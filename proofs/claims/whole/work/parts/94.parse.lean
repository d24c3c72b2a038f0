/-! RULE: the reference reads a condition -/
def opn : List Int → Nat
  | [] => 0
  | x :: W => (if x = 33 ∨ x = 40 then 1 else 0) + opn W
theorem wN_opn (W : List Int) : wN W ≤ opn W := by
  induction W with
  | nil => exact Nat.le_refl 0
  | cons x W ih =>
    unfold wN opn
    by_cases c : x = 33
    · rw [if_pos c, if_pos (Or.inl c)]; omega
    · rw [if_neg c]; omega
/-- the signs of a row that wait above the rest -/
def Vs (V : List Int) : Prop := V = [] ∨ V = [38]
def Vt (V : List Int) : Prop := V = [] ∨ V = [38] ∨ V = [124] ∨ V = [38, 124]
def ng (V : List Int) : List Int := V.map (fun x => -x)
theorem Vt_x {V : List Int} (h : Vt V) : (∀ x ∈ V, Wx x) ∧ V.length ≤ 2 ∧ ∀ W, opn (V ++ W) = opn W ∧ sN 124 (V ++ W) = V.length + sN 124 W := by
  rcases h with rfl | rfl | rfl | rfl
  · exact ⟨fun x hx => (by cases hx), by decide, fun W => ⟨rfl, (Nat.zero_add _).symm⟩⟩
  · refine ⟨fun x hx => ?_, by decide, fun W => ⟨?_, rfl⟩⟩
    · rw [List.mem_singleton.1 hx]; exact Or.inr (Or.inl rfl)
    · show 0 + opn W = opn W
      omega
  · refine ⟨fun x hx => ?_, by decide, fun W => ⟨?_, rfl⟩⟩
    · rw [List.mem_singleton.1 hx]; exact Or.inr (Or.inr (Or.inr rfl))
    · show 0 + opn W = opn W
      omega
  · refine ⟨fun x hx => ?_, by decide, fun W => ⟨?_, ?_⟩⟩
    · rcases List.mem_cons.1 hx with rfl | hx
      · exact Or.inr (Or.inl rfl)
      · rw [List.mem_singleton.1 hx]; exact Or.inr (Or.inr (Or.inr rfl))
    · show 0 + (0 + opn W) = opn W
      omega
    · show 1 + (1 + sN 124 W) = 2 + sN 124 W
      omega
theorem Vs_x {V : List Int} (h : Vs V) : Vt V ∧ ∀ W, sN 38 (V ++ W) = V.length + sN 38 W := by
  rcases h with rfl | rfl
  · exact ⟨Or.inl rfl, fun W => (Nat.zero_add _).symm⟩
  · exact ⟨Or.inr (Or.inl rfl), fun W => rfl⟩
theorem drop_V (V W : List Int) : (V ++ W).drop V.length = W := List.drop_left
theorem Wa_V (S V W : List Int) : Wa S (V ++ W) V.length = S ++ ng V := by
  unfold Wa ng
  rw [List.take_left]
theorem sN_38 {W : List Int} (h : sN 124 W = 0) : sN 38 W = 0 := by
  cases W with
  | nil => rfl
  | cons x W =>
    unfold sN at h ⊢
    by_cases c : x = 38
    · rw [if_pos (Or.inl c)] at h
      omega
    · rw [if_neg]
      rintro (z | z)
      · exact c z
      · exact z.2 rfl
theorem pa_end {ch : Nat → Int} : ∀ s, (∀ k p p' L, Pa ch s 2 k p p' (some L) → ch p' ≠ 38) ∧ (∀ k p p' L, Pa ch s 1 k p p' (some L) → ch p' ≠ 38) ∧ (∀ k p p' L, ch p ≠ 38 → Pa ch s 4 k p p' (some L) → ch p' ≠ 38 ∧ ch p' ≠ 124) ∧ (∀ k p p' L, Pa ch s 3 k p p' (some L) → ch p' ≠ 38 ∧ ch p' ≠ 124) := by
  intro s
  induction s with
  | zero => exact ⟨fun _ _ _ _ h => absurd h (fun z => z), fun _ _ _ _ h => absurd h (fun z => z), fun _ _ _ _ _ h => absurd h (fun z => z), fun _ _ _ _ h => absurd h (fun z => z)⟩
  | succ s ih =>
    obtain ⟨i2, i1, i4, i3⟩ := ih
    refine ⟨fun k p p' L h => ?_, fun k p p' L h => ?_, fun k p p' L hp h => ?_, fun k p p' L h => ?_⟩
    · rcases h with ⟨c, rfl, _⟩ | ⟨c, q, o', h1, ⟨_, _, z⟩ | ⟨L1, o2, _, h3, z⟩⟩
      · exact c
      · cases z
      · cases o2 with
        | none => cases z
        | some L2 => exact i2 _ _ _ _ h3
    · obtain ⟨q, o', h1, ⟨_, _, z⟩ | ⟨L1, o2, _, h3, z⟩⟩ := h
      · cases z
      · cases o2 with
        | none => cases z
        | some L2 => exact i2 _ _ _ _ h3
    · rcases h with ⟨c, rfl, _⟩ | ⟨c, q, o', h1, ⟨_, _, z⟩ | ⟨L1, o2, e, h3, z⟩⟩
      · exact ⟨hp, c⟩
      · cases z
      · subst e
        cases o2 with
        | none => cases z
        | some L2 => exact i4 _ _ _ _ (i1 _ _ _ _ h1) h3
    · obtain ⟨q, o', h1, ⟨_, _, z⟩ | ⟨L1, o2, e, h3, z⟩⟩ := h
      · cases z
      · subst e
        cases o2 with
        | none => cases z
        | some L2 => exact i4 _ _ _ _ (i1 _ _ _ _ h1) h3
section
variable {D : GD} {d : Nat} {ch : Nat → Int} {n b cI : Nat} {M0 : Mm}
theorem m_cond (hL : Lay 62 98 M0) (hc : Mtx ch n M0) (hb : b ≤ 600) (hcI : cI < 56) {post : Option Value → Mm → Prop} : ∀ s,
    (∀ k p p' o W S M, Pa ch s 0 k p p' o → k ≤ 4 → opn W = k → (∀ x ∈ W, Wx x) → S.length + W.length ≤ p → Me n b cI M0 M p W S k → (o = none → ∀ M' W' S' k', Me n b cI M0 M' p' W' S' k' → post (some (.int 0)) M') → (∀ L, o = some L → ∀ M', Me n b cI M0 M' p' (W.drop (wN W)) (Wa (S ++ L) W (wN W)) (k - wN W) → LX12_takesE_22 D (d + 3) (J (cI : Nat)) (0 : Int32) M' post) → LX12_takesE_22 D (d + 3) (J (cI : Nat)) (1 : Int32) M post) ∧
    (∀ k p p' o W S M, Pa ch s 1 k p p' o → k ≤ 4 → opn W = k → (∀ x ∈ W, Wx x) → wN W = 0 → sN 38 W = 0 → S.length + W.length ≤ p → Me n b cI M0 M p W S k → (o = none → ∀ M' W' S' k', Me n b cI M0 M' p' W' S' k' → post (some (.int 0)) M') → (∀ L, o = some L → ∀ M' V S', Vs V → S' ++ ng V = S ++ L → Me n b cI M0 M' p' (V ++ W) S' k → LX12_takesE_22 D (d + 3) (J (cI : Nat)) (0 : Int32) M' post) → LX12_takesE_22 D (d + 3) (J (cI : Nat)) (1 : Int32) M post) ∧
    (∀ k p p' o W S V M, Pa ch s 2 k p p' o → k ≤ 4 → opn W = k → (∀ x ∈ W, Wx x) → wN W = 0 → sN 38 W = 0 → Vs V → S.length + V.length + W.length ≤ p → Me n b cI M0 M p (V ++ W) S k → (o = none → ∀ M' W' S' k', Me n b cI M0 M' p' W' S' k' → post (some (.int 0)) M') → (∀ L, o = some L → ∀ M' V' S', Vs V' → S' ++ ng V' = S ++ ng V ++ L → Me n b cI M0 M' p' (V' ++ W) S' k → LX12_takesE_22 D (d + 3) (J (cI : Nat)) (0 : Int32) M' post) → LX12_takesE_22 D (d + 3) (J (cI : Nat)) (0 : Int32) M post) ∧
    (∀ k p p' o W S M, Pa ch s 3 k p p' o → k ≤ 4 → opn W = k → (∀ x ∈ W, Wx x) → wN W = 0 → sN 124 W = 0 → S.length + W.length ≤ p → Me n b cI M0 M p W S k → (o = none → ∀ M' W' S' k', Me n b cI M0 M' p' W' S' k' → post (some (.int 0)) M') → (∀ L, o = some L → ∀ M' V S', Vt V → S' ++ ng V = S ++ L → Me n b cI M0 M' p' (V ++ W) S' k → LX12_takesE_22 D (d + 3) (J (cI : Nat)) (0 : Int32) M' post) → LX12_takesE_22 D (d + 3) (J (cI : Nat)) (1 : Int32) M post) ∧
    (∀ k p p' o W S V M, Pa ch s 4 k p p' o → k ≤ 4 → opn W = k → (∀ x ∈ W, Wx x) → wN W = 0 → sN 124 W = 0 → Vt V → S.length + V.length + W.length ≤ p → Me n b cI M0 M p (V ++ W) S k → (o = none → ∀ M' W' S' k', Me n b cI M0 M' p' W' S' k' → post (some (.int 0)) M') → (∀ L, o = some L → ∀ M' V' S', Vt V' → S' ++ ng V' = S ++ ng V ++ L → Me n b cI M0 M' p' (V' ++ W) S' k → LX12_takesE_22 D (d + 3) (J (cI : Nat)) (0 : Int32) M' post) → LX12_takesE_22 D (d + 3) (J (cI : Nat)) (0 : Int32) M post) := by
  have hn := hc.1
  have ht := hc.tn
  have ec : (J (cI : Int)).toNatClampNeg = cI := by simp (disch := omega) only [J_lit, J_add, J_sub, J_mul, J_neg, J_lt, J_le, J_eq, J_nat, J_in, J_div]; omega
  have bnd := hc.2.2.2.2
  have jeq : ∀ (q : Nat) (z : Int), 0 ≤ z → z ≤ 127 → (J (ch q) = J z ↔ ch q = z) := by
    intro q z h1 h2
    have := bnd q
    constructor
    · intro y
      simp (disch := omega) only [J_lit, J_add, J_sub, J_mul, J_neg, J_lt, J_le, J_eq, J_nat, J_in, J_div] at y
      exact y
    · intro y
      rw [y]
  have lng : ∀ (S V T : List Int), S ++ ng V = T → S.length + V.length = T.length := by
    intro S V T h
    rw [← h, List.length_append]
    unfold ng
    rw [List.length_map]
  intro s
  induction s with
  | zero => exact ⟨fun _ _ _ _ _ _ _ h => absurd h (fun z => z), fun _ _ _ _ _ _ _ h => absurd h (fun z => z), fun _ _ _ _ _ _ _ _ h => absurd h (fun z => z), fun _ _ _ _ _ _ _ h => absurd h (fun z => z), fun _ _ _ _ _ _ _ _ h => absurd h (fun z => z)⟩
  | succ s ih =>
    obtain ⟨i0, i1, i2, i3, i4⟩ := ih
    refine ⟨?_, ?_, ?_, ?_, ?_⟩
    · intro k p p' o W S M h hk ho hw hl hM hF hK
      have hpn := hM.2.2.2.2.1
      have e15 : gI M 62 15 = J k := hM.2.2.2.2.2.2.2.2.2.2
      have e33 : (J (ch p) = 33) ↔ ch p = 33 := jeq p 33 (by omega) (by omega)
      have e40 : (J (ch p) = 40) ↔ ch p = 40 := jeq p 40 (by omega) (by omega)
      have hwo := wN_opn W
      have k4 : (J (k : Int) = 4) ↔ k = 4 := by
        constructor
        · intro z
          simp (disch := omega) only [J_lit, J_add, J_sub, J_mul, J_neg, J_lt, J_le, J_eq, J_nat, J_in, J_div] at z
          omega
        · intro z
          rw [z]
          rfl
      have e14 : gI M 62 14 = J (W.length : Int) := hM.2.2.2.2.2.2.2.2.1
      have grow : ∀ (x : Int) (N1 N2 N3 N4 : Mm), p < n → N1 = sI M 62 15 (J (k : Int) + (1 : Int32)) → N2 = sI N1 71 ((gI N1 62 14).toNatClampNeg) (J x) → N3 = sI N2 62 14 ((gI N2 62 14) + (1 : Int32)) → N4 = sI N3 62 3 ((gI N3 62 3) + (1 : Int32)) → Me n b cI M0 N4 (p + 1) (x :: W) S (k + 1) := by
        intro x N1 N2 N3 N4 hp1 q1 q2 q3 q4
        have R1 : Me n b cI M0 N1 p W S (k + 1) := by
          rw [q1]
          exact hM.opn (J_suc k)
        have R3 := R1.push (x := x) (by omega) q2 q3
        rw [q4]
        exact R3.adv hp1
      have n14 : ∀ N1, N1 = sI M 62 15 (J (k : Int) + (1 : Int32)) → vp_in (gI N1 62 14) 101 := by
        intro N1 q1
        rw [q1, gI_sI, if_neg (by omega), e14]
        simp (disch := omega) only [J_lit, J_add, J_sub, J_mul, J_neg, J_lt, J_le, J_eq, J_nat, J_in, J_div]
        omega
      refine rX12_takesE_22 D (d + 3) _ _ M _ (hM.lay hL) (u_next hL hc hM ?_)
      rw [e33, e40, e15, k4]
      refine ⟨fun z => absurd z (by decide), fun _ => ?_⟩
      rcases h with ⟨c0, rfl, rfl⟩ | ⟨hk4, c0, o', h1, rfl⟩ | ⟨hk4, c0, q, o', h1, h2⟩
      · have bad : (ch p = 33 ∨ ch p = 40) → post (some (.int 0)) M := by
          intro c
          have eT : pT ch p = (p, none) := by
            rcases pT_c ch p with ⟨_, e⟩ | ⟨f, h1, _⟩
            · exact e
            · have ei : idx [108, 111, 116, 100] (ch p) = none := by rcases c with c | c <;> rw [c] <;> decide
              rw [ei] at h1
              cases h1
          rw [eT] at hF
          exact hF rfl M W S k hM
        refine ⟨fun c => ⟨fun c4 => ?_, fun _ => bad (Or.inl c)⟩, fun c => ⟨fun c' => ?_, fun c' => ⟨fun c4 => ?_, fun _ => bad (Or.inr c')⟩⟩⟩
        · rcases c0 with z | z
          · exact absurd z c4
          · exact absurd c z.1
        · refine u_test hL hc hb hM hw hl (by omega) (by omega) (fun q e N hN => ⟨fun _ => ?_, fun z => absurd rfl z⟩) (fun q t e N hN => ⟨fun z => absurd z (by decide), fun _ => ?_⟩)
          · rw [e] at hF
            exact hF rfl N _ _ _ hN
          · rw [e] at hK
            exact hK [t] rfl N hN
        · rcases c0 with z | z
          · exact absurd z c4
          · exact absurd c' z.2
      · have hp1 : p < n := hc.lt (by omega)
        rw [c0]
        refine ⟨fun _ => ⟨fun _ N1 q1 => ⟨n14 N1 q1, fun N2 q2 N3 q3 N4 q4 => ?_⟩, fun z => absurd z (by omega)⟩, fun z => absurd rfl z⟩
        have R4 := grow 33 N1 N2 N3 N4 hp1 q1 q2 q3 q4
        have w33 : wN (33 :: W) = 1 + wN W := rfl
        refine i0 (k + 1) (p + 1) p' o' (33 :: W) S N4 h1 (by omega) (by rw [← ho]; show 1 + opn W = opn W + 1; omega) (fun x hx => ?_) (by rw [List.length_cons]; omega) R4 (fun z => hF (by rw [z]; rfl)) (fun L z N hN => ?_)
        · rcases List.mem_cons.1 hx with rfl | hx
          · exact Or.inl rfl
          · exact hw x hx
        · subst z
          refine hK (L ++ [-33]) rfl N ?_
          rw [w33, Wa_s, Nat.add_comm 1 (wN W), List.drop_succ_cons, (by omega : k + 1 - (wN W + 1) = k - wN W), List.append_assoc] at hN
          exact hN
      · have hp1 : p < n := hc.lt (by omega)
        have a := pa_k ht s 3 (k + 1) (p + 1) q o' (by omega) (by omega) hp1 h1
        rw [c0]
        refine ⟨fun z => absurd z (by decide), fun _ => ⟨fun z => absurd rfl z, fun _ => ⟨fun _ N1 q1 => ⟨n14 N1 q1, fun N2 q2 N3 q3 N4 q4 => ?_⟩, fun z => absurd z (by omega)⟩⟩⟩
        have R4 := grow 40 N1 N2 N3 N4 hp1 q1 q2 q3 q4
        have s40 : sN 124 (40 :: W) = 0 := by
          show (if (40 : Int) = 38 ∨ ((40 : Int) = 124 ∧ (124 : Int) ≠ 38) then 1 + sN 124 W else 0) = 0
          rw [if_neg (by decide)]
        have w40 : ∀ x ∈ 40 :: W, Wx x := fun x hx => by
          rcases List.mem_cons.1 hx with rfl | hx
          · exact Or.inr (Or.inr (Or.inl rfl))
          · exact hw x hx
        refine i3 (k + 1) (p + 1) q o' (40 :: W) S N4 h1 (by omega) (by rw [← ho]; show 1 + opn W = opn W + 1; omega) w40 rfl s40 (by rw [List.length_cons]; omega) R4 (fun z N W' S' k' hN => ?_) (fun L z N V S' hV e hN => ?_)
        · subst z
          rcases h2 with ⟨_, rfl, rfl⟩ | ⟨L, z, _⟩
          · exact hF rfl N W' S' k' hN
          · cases z
        · subst z
          obtain ⟨n38, n124⟩ := (pa_end s).2.2.2 _ _ _ _ h1
          have a2 := (a.2.2 L rfl).2.1
          obtain ⟨vx, vl, vo⟩ := Vt_x hV
          have hwV : ∀ x ∈ V ++ 40 :: W, Wx x := fun x hx => by
            rcases List.mem_append.1 hx with hx | hx
            · exact vx x hx
            · exact w40 x hx
          have e' := lng _ _ _ e
          rw [List.length_append] at e'
          have lVW : (V ++ 40 :: W).length = V.length + (W.length + 1) := List.length_append
          have hqn := a.2.1
          have f38 : (J (ch q) = 38) ↔ ch q = 38 := jeq q 38 (by omega) (by omega)
          have f124 : (J (ch q) = 124) ↔ ch q = 124 := jeq q 124 (by omega) (by omega)
          have f41 : (J (ch q) = 41) ↔ ch q = 41 := jeq q 41 (by omega) (by omega)
          refine rX12_takesE_22 D (d + 3) _ _ N _ (hN.lay hL) (u_next hL hc hN ?_)
          rw [f38, f124, f41]
          refine ⟨fun _ => ⟨fun z => absurd z n38, fun _ => ⟨fun _ => u_stl (d := d + 2) (s := 124) hL hb (Or.inr rfl) hN hwV (by omega) (fun N5 hN5 => ?_), fun z => absurd z n124⟩⟩, fun z => absurd rfl z⟩
          rw [(vo (40 :: W)).2, s40, Nat.add_zero, drop_V, Wa_V, e] at hN5
          rw [ec]
          refine ⟨by simp (disch := omega) only [J_lit, J_add, J_sub, J_mul, J_neg, J_lt, J_le, J_eq, J_nat, J_in, J_div]; omega, fun N6 q6 => ?_⟩
          have R6 : Me n b cI M0 N6 q (40 :: W) (S ++ L) (k + 1) := by rw [q6]; exact hN5.to
          have g14 : gI N6 62 14 = J ((W.length + 1 : Nat) : Int) := R6.2.2.2.2.2.2.2.2.1
          refine ⟨fun _ => ⟨fun c41 N7 q7 N8 q8 N9 q9 => ?_, fun c41 => ?_⟩, fun z => ?_⟩
          · rcases h2 with ⟨z, _⟩ | ⟨L', z, ⟨hq, rfl, rfl⟩ | ⟨hq, _⟩⟩
            · cases z
            · cases z
              have hq1 : q < n := hc.lt (by omega)
              have R7 : Me n b cI M0 N7 q W (S ++ L) (k + 1) := by rw [q7]; exact R6.pop
              have g15 : gI N7 62 15 = J ((k + 1 : Nat) : Int) := R7.2.2.2.2.2.2.2.2.2.2
              have R8 : Me n b cI M0 N8 q W (S ++ L) k := by
                rw [q8]
                refine R7.opn ?_
                rw [g15, (by rfl : (1 : Int32) = J 1), J_sub]
                congr 1
                omega
              have R9 : Me n b cI M0 N9 (q + 1) W (S ++ L) k := by rw [q9]; exact R8.adv hq1
              exact u_whole (d := d + 2) hL hb R9 hw (by rw [List.length_append]; omega) (by omega) (by omega) (fun N10 R10 => hK L rfl N10 R10)
            · exact absurd c41 hq
          · rcases h2 with ⟨z, _⟩ | ⟨L', z, ⟨hq, _⟩ | ⟨hq, rfl, rfl⟩⟩
            · cases z
            · exact absurd hq c41
            · exact hF rfl N6 _ _ _ R6
          · rw [g14] at z
            exfalso
            simp (disch := omega) only [J_lit, J_add, J_sub, J_mul, J_neg, J_lt, J_le, J_eq, J_nat, J_in, J_div] at z
            omega
    · intro k p p' o W S M h hk ho hw w0 s0 hl hM hF hK
      have hpn := hM.2.2.2.2.1
      obtain ⟨q, o', h1, h2⟩ := h
      have a := pa_k ht s 0 k p q o' (by omega) hk hpn h1
      rcases h2 with ⟨rfl, rfl, rfl⟩ | ⟨L, o2, rfl, h3, rfl⟩
      · exact i0 k p _ none W S M h1 hk ho hw hl hM hF (fun L z => by cases z)
      · refine i0 k p q (some L) W S M h1 hk ho hw hl hM (fun z => by cases z) (fun L' z N hN => ?_)
        cases z
        rw [w0, Wa_0] at hN
        have a2 := (a.2.2 L rfl).2.1
        refine i2 k q p' o2 W (S ++ L) [] N h3 hk ho hw w0 s0 (Or.inl rfl) (by rw [List.length_append]; show S.length + L.length + 0 + W.length ≤ q; omega) hN (fun z => hF (by rw [z]; rfl)) (fun L2 z N' V' S' hV e hN' => ?_)
        subst z
        refine hK (L ++ L2) rfl N' V' S' hV ?_ hN'
        rw [e, ← List.append_assoc]
        show S ++ L ++ [] ++ L2 = _
        rw [List.append_nil]
    · intro k p p' o W S V M h hk ho hw w0 s0 hV hl hM hF hK
      have hpn := hM.2.2.2.2.1
      rcases h with ⟨c0, rfl, rfl⟩ | ⟨c0, q, o', h1, h2⟩
      · exact hK [] rfl M V S hV (by rw [List.append_nil]) hM
      · have hp1 : p < n := hc.lt (by omega)
        have a := pa_k ht s 0 k (p + 1) q o' (by omega) hk hp1 h1
        obtain ⟨vx, vl, vo⟩ := Vt_x (Vs_x hV).1
        have hwV : ∀ x ∈ V ++ W, Wx x := fun x hx => by
          rcases List.mem_append.1 hx with hx | hx
          · exact vx x hx
          · exact hw x hx
        have lVW : (V ++ W).length = V.length + W.length := List.length_append
        refine rX12_takesE_22 D (d + 3) _ _ M _ (hM.lay hL) (u_next hL hc hM ?_)
        rw [c0]
        refine ⟨fun _ => ⟨fun _ => u_stl (d := d + 2) (s := 38) hL hb (Or.inl rfl) hM hwV (by omega) (fun N1 hN1 => ?_), fun z => absurd rfl z⟩, fun z => absurd rfl z⟩
        rw [(Vs_x hV).2 W, s0, Nat.add_zero, drop_V, Wa_V] at hN1
        have h14 := hN1.2.2.2.2.2.2.2.2.1
        have lS : (S ++ ng V).length = S.length + V.length := (lng _ _ _ rfl).symm
        refine ⟨by rw [h14]; simp (disch := omega) only [J_lit, J_add, J_sub, J_mul, J_neg, J_lt, J_le, J_eq, J_nat, J_in, J_div]; omega, fun N2 q2 N3 q3 N4 q4 => ?_⟩
        have R3 := hN1.push (x := 38) (by omega) q2 q3
        have R4 : Me n b cI M0 N4 (p + 1) (38 :: W) (S ++ ng V) k := by rw [q4]; exact R3.adv hp1
        have o38 : opn (38 :: W) = k := by rw [← ho]; show 0 + opn W = opn W; omega
        have w38 : ∀ x ∈ 38 :: W, Wx x := fun x hx => by
          rcases List.mem_cons.1 hx with rfl | hx
          · exact Or.inr (Or.inl rfl)
          · exact hw x hx
        have l38 : (S ++ ng V).length + (38 :: W).length ≤ p + 1 := by rw [lS, List.length_cons]; omega
        rcases h2 with ⟨rfl, rfl, rfl⟩ | ⟨L, o2, rfl, h3, rfl⟩
        · exact i0 k (p + 1) _ none (38 :: W) (S ++ ng V) N4 h1 hk o38 w38 l38 R4 hF (fun L z => by cases z)
        · refine i0 k (p + 1) q (some L) (38 :: W) (S ++ ng V) N4 h1 hk o38 w38 l38 R4 (fun z => by cases z) (fun L' z N hN => ?_)
          cases z
          have w0' : wN (38 :: W) = 0 := rfl
          rw [w0', Wa_0] at hN
          have a2 := (a.2.2 L rfl).2.1
          refine i2 k q p' o2 W (S ++ ng V ++ L) [38] N h3 hk ho hw w0 s0 (Or.inr rfl) (by rw [List.length_append, lS]; show S.length + V.length + L.length + 1 + W.length ≤ q; omega) hN (fun z => hF (by rw [z]; rfl)) (fun L2 z N' V' S' hV' e hN' => ?_)
          subst z
          refine hK (L ++ -38 :: L2) rfl N' V' S' hV' ?_ hN'
          rw [e]
          show S ++ ng V ++ L ++ [-38] ++ L2 = S ++ ng V ++ (L ++ -38 :: L2)
          rw [List.append_assoc, List.append_assoc]
          rfl
    · intro k p p' o W S M h hk ho hw w0 s0 hl hM hF hK
      have hpn := hM.2.2.2.2.1
      obtain ⟨q, o', h1, h2⟩ := h
      have a := pa_k ht s 1 k p q o' (by omega) hk hpn h1
      rcases h2 with ⟨rfl, rfl, rfl⟩ | ⟨L, o2, rfl, h3, rfl⟩
      · exact i1 k p _ none W S M h1 hk ho hw w0 (sN_38 s0) hl hM hF (fun L z => by cases z)
      · refine i1 k p q (some L) W S M h1 hk ho hw w0 (sN_38 s0) hl hM (fun z => by cases z) (fun L' z N V S1 hV e hN => ?_)
        cases z
        have a2 := (a.2.2 L rfl).2.1
        have hVt := (Vs_x hV).1
        have e' := lng _ _ _ e
        rw [List.length_append] at e'
        refine i4 k q p' o2 W S1 V N h3 hk ho hw w0 s0 hVt (by omega) hN (fun z => hF (by rw [z]; rfl)) (fun L2 z N' V' S' hV' e2 hN' => ?_)
        subst z
        refine hK (L ++ L2) rfl N' V' S' hV' ?_ hN'
        rw [e2, e, List.append_assoc]
    · intro k p p' o W S V M h hk ho hw w0 s0 hV hl hM hF hK
      have hpn := hM.2.2.2.2.1
      rcases h with ⟨c0, rfl, rfl⟩ | ⟨c0, q, o', h1, h2⟩
      · exact hK [] rfl M V S hV (by rw [List.append_nil]) hM
      · have hp1 : p < n := hc.lt (by omega)
        have a := pa_k ht s 1 k (p + 1) q o' (by omega) hk hp1 h1
        obtain ⟨vx, vl, vo⟩ := Vt_x hV
        have hwV : ∀ x ∈ V ++ W, Wx x := fun x hx => by
          rcases List.mem_append.1 hx with hx | hx
          · exact vx x hx
          · exact hw x hx
        have lVW : (V ++ W).length = V.length + W.length := List.length_append
        refine rX12_takesE_22 D (d + 3) _ _ M _ (hM.lay hL) (u_next hL hc hM ?_)
        rw [c0]
        refine ⟨fun _ => ⟨fun z => absurd z (by decide), fun _ => ⟨fun z => absurd rfl z, fun _ => u_stl (d := d + 2) (s := 124) hL hb (Or.inr rfl) hM hwV (by omega) (fun N1 hN1 => ?_)⟩⟩, fun z => absurd rfl z⟩
        rw [(vo W).2, s0, Nat.add_zero, drop_V, Wa_V] at hN1
        have h14 := hN1.2.2.2.2.2.2.2.2.1
        have lS : (S ++ ng V).length = S.length + V.length := (lng _ _ _ rfl).symm
        refine ⟨by rw [h14]; simp (disch := omega) only [J_lit, J_add, J_sub, J_mul, J_neg, J_lt, J_le, J_eq, J_nat, J_in, J_div]; omega, fun N2 q2 N3 q3 N4 q4 => ?_⟩
        have R3 := hN1.push (x := 124) (by omega) q2 q3
        have R4 : Me n b cI M0 N4 (p + 1) (124 :: W) (S ++ ng V) k := by rw [q4]; exact R3.adv hp1
        have o38 : opn (124 :: W) = k := by rw [← ho]; show 0 + opn W = opn W; omega
        have w38 : ∀ x ∈ 124 :: W, Wx x := fun x hx => by
          rcases List.mem_cons.1 hx with rfl | hx
          · exact Or.inr (Or.inr (Or.inr rfl))
          · exact hw x hx
        have l38 : (S ++ ng V).length + (124 :: W).length ≤ p + 1 := by rw [lS, List.length_cons]; omega
        have n38 : sN 38 (124 :: W) = 0 := by
          show (if (124 : Int) = 38 ∨ ((124 : Int) = 124 ∧ (38 : Int) ≠ 38) then 1 + sN 38 W else 0) = 0
          rw [if_neg (by decide)]
        rcases h2 with ⟨rfl, rfl, rfl⟩ | ⟨L, o2, rfl, h3, rfl⟩
        · exact i1 k (p + 1) _ none (124 :: W) (S ++ ng V) N4 h1 hk o38 w38 rfl n38 l38 R4 hF (fun L z => by cases z)
        · refine i1 k (p + 1) q (some L) (124 :: W) (S ++ ng V) N4 h1 hk o38 w38 rfl n38 l38 R4 (fun z => by cases z) (fun L' z N V1 S1 hV1 e1 hN => ?_)
          cases z
          have a2 := (a.2.2 L rfl).2.1
          have e1' := lng _ _ _ e1
          rw [List.length_append, lS] at e1'
          have hVt : Vt (V1 ++ [124]) := by
            rcases hV1 with rfl | rfl
            · exact Or.inr (Or.inr (Or.inl rfl))
            · exact Or.inr (Or.inr (Or.inr rfl))
          have hN2 : Me n b cI M0 N q ((V1 ++ [124]) ++ W) S1 k := by
            rw [List.append_assoc]
            exact hN
          have en : ng (V1 ++ [124]) = ng V1 ++ [-124] := by
            unfold ng
            rw [List.map_append]
            rfl
          refine i4 k q p' o2 W S1 (V1 ++ [124]) N h3 hk ho hw w0 s0 hVt (by rw [List.length_append]; show S1.length + (V1.length + 1) + W.length ≤ q; omega) hN2 (fun z => hF (by rw [z]; rfl)) (fun L2 z N' V' S' hV' e hN' => ?_)
          subst z
          refine hK (L ++ -124 :: L2) rfl N' V' S' hV' ?_ hN'
          rw [e, en, ← List.append_assoc, e1]
          show S ++ ng V ++ L ++ [-124] ++ L2 = S ++ ng V ++ (L ++ -124 :: L2)
          rw [List.append_assoc, List.append_assoc]
          rfl
end
