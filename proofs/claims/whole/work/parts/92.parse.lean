/-! RULE: the reference takes signs from the stack -/
def wN : List Int → Nat
  | [] => 0
  | x :: W => if x = 33 then 1 + wN W else 0
def sN (s : Int) : List Int → Nat
  | [] => 0
  | x :: W => if x = 38 ∨ (x = 124 ∧ s ≠ 38) then 1 + sN s W else 0
def Wx (x : Int) : Prop := x = 33 ∨ x = 38 ∨ x = 40 ∨ x = 124
/-- behind the signs that a stack gives up -/
def Wa (S W : List Int) (j : Nat) : List Int := S ++ (W.take j).map (fun x => -x)
theorem Wa_0 (S W : List Int) : Wa S W 0 = S := by
  unfold Wa
  rw [List.take_zero, List.map_nil, List.append_nil]
theorem Wa_s (S W : List Int) (x : Int) (j : Nat) : Wa S (x :: W) (1 + j) = Wa (S ++ [-x]) W j := by
  unfold Wa
  rw [Nat.add_comm 1 j, List.take_succ_cons, List.map_cons, List.append_assoc]
  rfl
theorem wN_le (W : List Int) : wN W ≤ W.length := by
  induction W with
  | nil => exact Nat.le_refl 0
  | cons x W ih =>
    unfold wN
    rw [List.length_cons]
    split <;> omega
section
variable {D : GD} {d : Nat} {ch : Nat → Int} {n b cI : Nat} {M0 M : Mm} {p : Nat}
theorem Me.top {x : Int} {W S : List Int} {k : Nat} (h : Me n b cI M0 M p (x :: W) S k) (hl : W.length ≤ 100) : gI M 62 14 = J ((W.length + 1 : Nat) : Int) ∧ (J ((W.length + 1 : Nat) : Int) - (1 : Int32)) = J (W.length : Int) ∧ (J (W.length : Int)).toNatClampNeg = W.length ∧ gI M 71 W.length = J x := by
  obtain ⟨a1, a2, a3, a4, a5, a6, a7, a8, a9, a10, a11⟩ := h
  refine ⟨a9, ?_, by simp (disch := omega) only [J_lit, J_add, J_sub, J_mul, J_neg, J_lt, J_le, J_eq, J_nat, J_in, J_div]; omega, a10.1⟩
  rw [(by rfl : (1 : Int32) = J 1), J_sub]
  congr 1
  omega
theorem Wx_33 {x : Int} (h : Wx x) : (J x = 33) ↔ x = 33 := by
  rcases h with rfl | rfl | rfl | rfl <;> decide
theorem Wx_38 {x : Int} (h : Wx x) : (J x = 38) ↔ x = 38 := by
  rcases h with rfl | rfl | rfl | rfl <;> decide
theorem Wx_124 {x : Int} (h : Wx x) : (J x = 124) ↔ x = 124 := by
  rcases h with rfl | rfl | rfl | rfl <;> decide
theorem l_whole (hL : Lay 62 98 M0) (hb : b ≤ 600) {post : Option Value → Mm → Prop} : ∀ (W S : List Int) (k : Nat) (M : Mm), Me n b cI M0 M p W S k → (∀ x ∈ W, Wx x) → S.length + W.length ≤ 100 → wN W ≤ k → k ≤ 100 → (∀ M', Me n b cI M0 M' p (W.drop (wN W)) (Wa S W (wN W)) (k - wN W) → post none M') → LX12_whole_0 D d M post := by
  intro W
  induction W with
  | nil =>
    intro S k M h _ _ _ _ kk
    refine rX12_whole_0 D d M _ (h.lay hL) ⟨fun _ => kk M ?_, fun z => ?_⟩
    · have e : wN [] = 0 := rfl
      rw [e, Wa_0]
      exact h
    · rw [h.2.2.2.2.2.2.2.2.1] at z
      exact absurd (by decide) z
  | cons x W ih =>
    intro S k M h hw hl hk hk2 kk
    have hl' : S.length + (W.length + 1) ≤ 100 := hl
    obtain ⟨e14, e1, en, e71⟩ := h.top (by omega)
    have hx := hw x (List.mem_cons_self)
    refine rX12_whole_0 D d M _ (h.lay hL) ?_
    rw [e14, e1, en, e71, Wx_33 hx]
    refine ⟨fun z => ?_, fun _ => ⟨by simp (disch := omega) only [J_lit, J_add, J_sub, J_mul, J_neg, J_lt, J_le, J_eq, J_nat, J_in, J_div]; omega, fun c => kk M ?_, fun c => ?_⟩⟩
    · exfalso
      simp (disch := omega) only [J_lit, J_add, J_sub, J_mul, J_neg, J_lt, J_le, J_eq, J_nat, J_in, J_div] at z
      omega
    · have e : wN (x :: W) = 0 := by
        show (if x = 33 then 1 + wN W else 0) = 0
        rw [if_neg c]
      rw [e, Wa_0]
      exact h
    · subst c
      have e : wN (33 :: W) = 1 + wN W := rfl
      rw [e] at hk kk
      rw [(by decide : (-33 : Int32) = J (-33))]
      refine u_put hL hb h (by omega) (fun N1 hN1 N2 q2 N3 q3 => ?_)
      have h2 : Me n b cI M0 N2 p W (S ++ [-33]) k := by rw [q2]; exact hN1.pop
      have h15 := h2.2.2.2.2.2.2.2.2.2.2
      have h3 : Me n b cI M0 N3 p W (S ++ [-33]) (k - 1) := by
        rw [q3]
        refine h2.opn ?_
        rw [h15, (by rfl : (1 : Int32) = J 1), J_sub]
        congr 1
        omega
      refine ih (S ++ [-33]) (k - 1) N3 h3 (fun y hy => hw y (List.mem_cons_of_mem _ hy)) (by rw [List.length_append]; show S.length + 1 + W.length ≤ 100; omega) (by omega) (by omega) (fun N4 hN4 => kk N4 ?_)
      rw [Wa_s, Nat.add_comm 1 (wN W), List.drop_succ_cons, (by omega : k - (wN W + 1) = k - 1 - wN W)]
      exact hN4
theorem u_whole (hL : Lay 62 98 M0) (hb : b ≤ 600) {P : Mm → Prop} {W S : List Int} {k : Nat} (h : Me n b cI M0 M p W S k) (hw : ∀ x ∈ W, Wx x) (hl : S.length + W.length ≤ 100) (hk : wN W ≤ k) (hk2 : k ≤ 100) (kk : ∀ M', Me n b cI M0 M' p (W.drop (wN W)) (Wa S W (wN W)) (k - wN W) → P M') : AMv D (d + 1) mX12_whole [.ref 62] M P := by
  refine rX12_whole D d M _ (h.lay hL) ?_
  cases W with
  | nil =>
    refine ⟨fun _ => ⟨rfl, .refl M, kk M ?_⟩, fun z => ?_⟩
    · have e : wN [] = 0 := rfl
      rw [e, Wa_0]
      exact h
    · rw [h.2.2.2.2.2.2.2.2.1] at z
      exact absurd (by decide) z
  | cons x W =>
    have hl' : S.length + (W.length + 1) ≤ 100 := hl
    obtain ⟨e14, e1, en, e71⟩ := h.top (by omega)
    have hx := hw x (List.mem_cons_self)
    rw [e14, e1, en, e71, Wx_33 hx]
    refine ⟨fun z => ?_, fun _ => ⟨by simp (disch := omega) only [J_lit, J_add, J_sub, J_mul, J_neg, J_lt, J_le, J_eq, J_nat, J_in, J_div]; omega, fun c => ⟨rfl, .refl M, kk M ?_⟩, fun c => ?_⟩⟩
    · exfalso
      simp (disch := omega) only [J_lit, J_add, J_sub, J_mul, J_neg, J_lt, J_le, J_eq, J_nat, J_in, J_div] at z
      omega
    · have e : wN (x :: W) = 0 := by
        show (if x = 33 then 1 + wN W else 0) = 0
        rw [if_neg c]
      rw [e, Wa_0]
      exact h
    · subst c
      have e : wN (33 :: W) = 1 + wN W := rfl
      rw [e] at hk kk
      rw [(by decide : (-33 : Int32) = J (-33))]
      refine u_put hL hb h (by omega) (fun N1 hN1 N2 q2 N3 q3 => ?_)
      have h2 : Me n b cI M0 N2 p W (S ++ [-33]) k := by rw [q2]; exact hN1.pop
      have h15 := h2.2.2.2.2.2.2.2.2.2.2
      have h3 : Me n b cI M0 N3 p W (S ++ [-33]) (k - 1) := by
        rw [q3]
        refine h2.opn ?_
        rw [h15, (by rfl : (1 : Int32) = J 1), J_sub]
        congr 1
        omega
      refine l_whole hL hb W (S ++ [-33]) (k - 1) N3 h3 (fun y hy => hw y (List.mem_cons_of_mem _ hy)) (by rw [List.length_append]; show S.length + 1 + W.length ≤ 100; omega) (by omega) (by omega) (fun N4 hN4 => ⟨rfl, h.sm hN4, kk N4 ?_⟩)
      rw [Wa_s, Nat.add_comm 1 (wN W), List.drop_succ_cons, (by omega : k - (wN W + 1) = k - 1 - wN W)]
      exact hN4
theorem l_stl (hL : Lay 62 98 M0) (hb : b ≤ 600) {s : Int} (hs : s = 38 ∨ s = 124) {post : Option Value → Mm → Prop} : ∀ (W S : List Int) (k : Nat) (M : Mm), Me n b cI M0 M p W S k → (∀ x ∈ W, Wx x) → S.length + W.length ≤ 100 → (∀ M', Me n b cI M0 M' p (W.drop (sN s W)) (Wa S W (sN s W)) k → post none M') → LX12_settle_0 D d (J s) M post := by
  have s38 : (J s = 38) ↔ s = 38 := by rcases hs with rfl | rfl <;> decide
  intro W
  induction W with
  | nil =>
    intro S k M h _ _ kk
    refine rX12_settle_0 D d _ M _ (h.lay hL) ⟨fun _ => kk M ?_, fun z => ?_⟩
    · have e : sN s [] = 0 := rfl
      rw [e, Wa_0]
      exact h
    · rw [h.2.2.2.2.2.2.2.2.1] at z
      exact absurd (by decide) z
  | cons x W ih =>
    intro S k M h hw hl kk
    have hl' : S.length + (W.length + 1) ≤ 100 := hl
    obtain ⟨e14, e1, en, e71⟩ := h.top (by omega)
    have hx := hw x (List.mem_cons_self)
    have stay : ¬ (x = 38 ∨ (x = 124 ∧ s ≠ 38)) → post none M := by
      intro c
      refine kk M ?_
      have e : sN s (x :: W) = 0 := by
        show (if x = 38 ∨ (x = 124 ∧ s ≠ 38) then 1 + sN s W else 0) = 0
        rw [if_neg c]
      rw [e, Wa_0]
      exact h
    have go : (x = 38 ∨ (x = 124 ∧ s ≠ 38)) → ∀ N, N = sI M 62 14 (J (W.length : Int)) → vp_in (gI N 62 14) 101 ∧ AMv D d mX12_put [.ref 62, .int (-(gI N 71 ((gI N 62 14).toNatClampNeg)))] N (fun M9 => LX12_settle_0 D d (J s) M9 post) := by
      intro c N q
      have e : sN s (x :: W) = 1 + sN s W := by
        show (if x = 38 ∨ (x = 124 ∧ s ≠ 38) then 1 + sN s W else 0) = _
        rw [if_pos c]
      have hN : Me n b cI M0 N p W S k := by
        have := h.pop
        rw [e14, e1] at this
        rw [q]
        exact this
      have n14 : gI N 62 14 = J (W.length : Int) := hN.2.2.2.2.2.2.2.2.1
      have n71 : gI N 71 W.length = J x := by rw [q, fr_s (by omega)]; exact e71
      rw [n14, en, n71, J_neg]
      refine ⟨by simp (disch := omega) only [J_lit, J_add, J_sub, J_mul, J_neg, J_lt, J_le, J_eq, J_nat, J_in, J_div]; omega, u_put hL hb hN (by omega) (fun N1 hN1 => ?_)⟩
      refine ih (S ++ [-x]) k N1 hN1 (fun y hy => hw y (List.mem_cons_of_mem _ hy)) (by rw [List.length_append]; show S.length + 1 + W.length ≤ 100; omega) (fun N4 hN4 => kk N4 ?_)
      rw [e, Wa_s, Nat.add_comm 1 (sN s W), List.drop_succ_cons]
      exact hN4
    refine rX12_settle_0 D d _ M _ (h.lay hL) ?_
    rw [e14, e1, en, e71, Wx_38 hx, Wx_124 hx, s38]
    refine ⟨fun z => ?_, fun _ => ⟨by simp (disch := omega) only [J_lit, J_add, J_sub, J_mul, J_neg, J_lt, J_le, J_eq, J_nat, J_in, J_div]; omega, fun c => go (Or.inl c), fun c => ⟨fun c2 => stay (by omega), fun c2 => ⟨fun c3 => stay (by omega), fun c3 => go (Or.inr ⟨c2, c3⟩)⟩⟩⟩⟩
    exfalso
    simp (disch := omega) only [J_lit, J_add, J_sub, J_mul, J_neg, J_lt, J_le, J_eq, J_nat, J_in, J_div] at z
    omega
theorem u_stl (hL : Lay 62 98 M0) (hb : b ≤ 600) {s : Int} (hs : s = 38 ∨ s = 124) {P : Mm → Prop} {W S : List Int} {k : Nat} (h : Me n b cI M0 M p W S k) (hw : ∀ x ∈ W, Wx x) (hl : S.length + W.length ≤ 100) (kk : ∀ M', Me n b cI M0 M' p (W.drop (sN s W)) (Wa S W (sN s W)) k → P M') : AMv D (d + 1) mX12_settle [.ref 62, .int (J s)] M P := by
  have s38 : (J s = 38) ↔ s = 38 := by rcases hs with rfl | rfl <;> decide
  refine rX12_settle D d _ M _ (h.lay hL) ?_
  cases W with
  | nil =>
    refine ⟨fun _ => ⟨rfl, .refl M, kk M ?_⟩, fun z => ?_⟩
    · have e : sN s [] = 0 := rfl
      rw [e, Wa_0]
      exact h
    · rw [h.2.2.2.2.2.2.2.2.1] at z
      exact absurd (by decide) z
  | cons x W =>
    have hl' : S.length + (W.length + 1) ≤ 100 := hl
    obtain ⟨e14, e1, en, e71⟩ := h.top (by omega)
    have hx := hw x (List.mem_cons_self)
    have stay : ¬ (x = 38 ∨ (x = 124 ∧ s ≠ 38)) → (none : Option Value) = none ∧ Sm M M ∧ P M := by
      intro c
      refine ⟨rfl, .refl M, kk M ?_⟩
      have e : sN s (x :: W) = 0 := by
        show (if x = 38 ∨ (x = 124 ∧ s ≠ 38) then 1 + sN s W else 0) = 0
        rw [if_neg c]
      rw [e, Wa_0]
      exact h
    have go : (x = 38 ∨ (x = 124 ∧ s ≠ 38)) → ∀ N, N = sI M 62 14 (J (W.length : Int)) → vp_in (gI N 62 14) 101 ∧ AMv D d mX12_put [.ref 62, .int (-(gI N 71 ((gI N 62 14).toNatClampNeg)))] N (fun M9 => LX12_settle_0 D d (J s) M9 (fun r M1 => r = none ∧ Sm M M1 ∧ P M1)) := by
      intro c N q
      have e : sN s (x :: W) = 1 + sN s W := by
        show (if x = 38 ∨ (x = 124 ∧ s ≠ 38) then 1 + sN s W else 0) = _
        rw [if_pos c]
      have hN : Me n b cI M0 N p W S k := by
        have := h.pop
        rw [e14, e1] at this
        rw [q]
        exact this
      have n14 : gI N 62 14 = J (W.length : Int) := hN.2.2.2.2.2.2.2.2.1
      have n71 : gI N 71 W.length = J x := by rw [q, fr_s (by omega)]; exact e71
      rw [n14, en, n71, J_neg]
      refine ⟨by simp (disch := omega) only [J_lit, J_add, J_sub, J_mul, J_neg, J_lt, J_le, J_eq, J_nat, J_in, J_div]; omega, u_put hL hb hN (by omega) (fun N1 hN1 => ?_)⟩
      refine l_stl hL hb hs W (S ++ [-x]) k N1 hN1 (fun y hy => hw y (List.mem_cons_of_mem _ hy)) (by rw [List.length_append]; show S.length + 1 + W.length ≤ 100; omega) (fun N4 hN4 => ⟨rfl, h.sm hN4, kk N4 ?_⟩)
      rw [e, Wa_s, Nat.add_comm 1 (sN s W), List.drop_succ_cons]
      exact hN4
    rw [e14, e1, en, e71, Wx_38 hx, Wx_124 hx, s38]
    refine ⟨fun z => ?_, fun _ => ⟨by simp (disch := omega) only [J_lit, J_add, J_sub, J_mul, J_neg, J_lt, J_le, J_eq, J_nat, J_in, J_div]; omega, fun c => go (Or.inl c), fun c => ⟨fun c2 => stay (by omega), fun c2 => ⟨fun c3 => stay (by omega), fun c3 => go (Or.inr ⟨c2, c3⟩)⟩⟩⟩⟩
    exfalso
    simp (disch := omega) only [J_lit, J_add, J_sub, J_mul, J_neg, J_lt, J_le, J_eq, J_nat, J_in, J_div] at z
    omega
end
