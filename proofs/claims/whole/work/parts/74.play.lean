/-! SHOOT-OUTS: the class, from the last kick back -/
/-- WIN of the team that goes first, so many kicks ahead of the end -/
def wn (c1 c2 : Nat → Int → Int) : Nat → Nat → Nat → Int
  | 0, a, b => wv a b
  | m + 1, a, b => stp (9 - m) (if (9 - m) % 2 = 0 then c1 ((9 - m) / 2) else c2 ((9 - m) / 2)) (wn c1 c2 m) a b
theorem wv_b (a b : Nat) : 0 ≤ wv a b ∧ wv a b ≤ 1000000 := by
  unfold wv
  split
  · omega
  · split <;> omega
theorem wn_b {c1 c2 : Nat → Int → Int} (h1 : ∀ s L, 0 ≤ c1 s L ∧ c1 s L ≤ 1000000) (h2 : ∀ s L, 0 ≤ c2 s L ∧ c2 s L ≤ 1000000) : ∀ m a b, 0 ≤ wn c1 c2 m a b ∧ wn c1 c2 m a b ≤ 1000000
  | 0, a, b => wv_b a b
  | m + 1, a, b => by
    unfold wn
    refine stp_b (fun L => ?_) (fun a b => wn_b h1 h2 m a b)
    split
    · exact h1 _ L
    · exact h2 _ L
def cF1 (T r0 r1 : Nat → Int) (X : Nat → Pd) (f p k : Nat) (L : Int) : Int := chF T r0 r1 (X (6 * f + p)) (X (6 * (1 - f) + 5)) (2 * (k : Int)) (10 + L)
def cF2 (T r0 r1 : Nat → Int) (X : Nat → Pd) (f k : Nat) (L : Int) : Int := chF T r0 r1 (X (6 * (1 - f) + k)) (X (6 * f + 5)) (2 * (k : Int) + 1) (10 + L)
section
variable {D : GD} {d : Nat}
theorem Tc.ok {M : Mm} {X : Nat → Pd} (h : Tc M X) {i : Nat} (hi : i < 12) : pOk (X i) := by
  obtain ⟨q, j, -, h2⟩ := h i hi
  exact h2.ok
/-- the steps back, each by its own kicker -/
theorem l_back {M0 M : Mm} {c1 c2 : Nat → Int → Int} {P : Mm → Prop} (hs0 : Sm M0 M) (hL : Lay 13 46 M) (h1 : ∀ s L, 0 ≤ c1 s L ∧ c1 s L ≤ 1000000) (h2 : ∀ s L, 0 ≤ c2 s L ∧ c2 s L ≤ 1000000) (g1 : ∀ k : Nat, k < 5 → ∀ L : Int, -(k : Int) ≤ L → L ≤ k → gI M 32 (ix k k L) = J (c1 k L)) (g2 : ∀ k : Nat, k < 5 → ∀ L : Int, -(k : Int) - 1 ≤ L → L ≤ k → gI M 33 (ix k k L) = J (c2 k L)) (hw : Wh (gI M 45)) (h : ∀ M', Fm [35, 36, 37, 38, 39, 40, 41, 42, 43, 44] M M' → (∀ t, t ≤ 10 → ∀ a b, a ≤ (t + 1) / 2 → b ≤ t / 2 → gI M' (35 + t) (6 * a + b) = J (wn c1 c2 (10 - t) a b)) → P M') : ∀ (m : Nat) (N : Mm), m ≤ 10 → Fm [35, 36, 37, 38, 39, 40, 41, 42, 43, 44] M N → (∀ t, m ≤ t → t ≤ 10 → ∀ a b, a ≤ (t + 1) / 2 → b ≤ t / 2 → gI N (35 + t) (6 * a + b) = J (wn c1 c2 (10 - t) a b)) → LX7_playBack_36 D (d + 1) (J ((m : Int) - 1)) N (fun r M1 => r = none ∧ Sm M0 M1 ∧ P M1) := by
  intro m
  induction m with
  | zero =>
    intro N hm FN gN
    refine rX7_playBack_36 D (d + 1) _ N _ (hL.of FN.1) ⟨fun _ => ⟨rfl, hs0.trans FN.1, h N FN (fun t a => gN t (by omega) a)⟩, fun c => ?_⟩
    exfalso
    simp (disch := omega) only [J_lit, J_add, J_sub, J_mul, J_neg, J_lt, J_le, J_eq, J_nat, J_in, J_div] at c
    omega
  | succ m ih =>
    intro N hm FN gN
    have e0 : J (((m + 1 : Nat) : Int) - 1) = J m := by congr 1; omega
    rw [e0]
    refine rX7_playBack_36 D (d + 1) _ N _ (hL.of FN.1) ⟨fun c => ?_, fun _ => ?_⟩
    · exfalso
      simp (disch := omega) only [J_lit, J_add, J_sub, J_mul, J_neg, J_lt, J_le, J_eq, J_nat, J_in, J_div] at c
      omega
    · rw [J_half (by omega)]
      have hrow : ∀ x, x ∈ [32, 33] → gI N x = gI M x := fun x hx => FN.2.2.2 x (by rcases (by simpa using hx : x = 32 ∨ x = 33) with rfl | rfl <;> decide)
      refine c_stepBack (t := m) (p := m / 2) (C := if m % 2 = 0 then c1 (m / 2) else c2 (m / 2)) (w := wn c1 c2 (10 - (m + 1))) ((hL.of FN.1).sub (by omega) (by omega)) (by omega) (by omega) (fun L => ?_) (fun a b => wn_b h1 h2 _ a b) (fun L u v => ?_) (fun a b u v => gN (m + 1) (Nat.le_refl _) (by omega) a b u v) (fun N' F' g' x8 e8 => ?_)
      · split
        · exact h1 _ L
        · exact h2 _ L
      · rcases (by omega : m % 2 = 0 ∨ m % 2 = 1) with e | e
        · rw [e, hrow 32 (by simp), if_pos rfl]
          exact g1 (m / 2) (by omega) L (by omega) v
        · rw [e, hrow 33 (by simp), if_neg (by omega)]
          exact g2 (m / 2) (by omega) L (by omega) v
      · have e8' : x8 = J ((m : Int) - 1) := by
          rw [e8]
          have : (-1 : Int32) = J (-1) := by decide
          rw [this]
          simp (disch := omega) only [J_lit, J_add, J_sub, J_mul, J_neg, J_lt, J_le, J_eq, J_nat, J_in, J_div]
          congr 1
        rw [e8']
        have hsub : [35 + m].all (fun x => [35, 36, 37, 38, 39, 40, 41, 42, 43, 44].contains x) = true := by
          rcases (by omega : m = 0 ∨ m = 1 ∨ m = 2 ∨ m = 3 ∨ m = 4 ∨ m = 5 ∨ m = 6 ∨ m = 7 ∨ m = 8 ∨ m = 9) with rfl | rfl | rfl | rfl | rfl | rfl | rfl | rfl | rfl | rfl <;> decide
        refine ih N' (by omega) (FN.trans (F'.sub hsub)) (fun t u v a b ha hb => ?_)
        by_cases e : t = m
        · subst e
          rw [g' a b ha hb]
          congr 1
          have e1 : 10 - t = (9 - t) + 1 := by omega
          rw [e1]
          unfold wn
          have e2 : 9 - (9 - t) = t := by omega
          have e3 : 10 - (t + 1) = 9 - t := by omega
          rw [e2, e3]
        · rw [F'.2.2.2 (35 + t) (by (simp only [List.contains_cons, List.contains_nil, Bool.or_false, Bool.or_eq_false_iff, beq_eq_false_iff_ne, ne_eq]; omega))]
          exact gN t (by omega) v a b ha hb
theorem c_playBack {M : Mm} {T r0 r1 : Nat → Int} {X : Nat → Pd} {f : Nat} {P : Mm → Prop} (hD : Du M T r0 r1) (hX : Tc M X) (hf : f < 2) (hw : Wh (gI M 45)) (h : ∀ M', Fl soR M M' → (∀ t, t ≤ 10 → ∀ a b, a ≤ (t + 1) / 2 → b ≤ t / 2 → gI M' (35 + t) (6 * a + b) = J (wn (fun k => cF1 T r0 r1 X f k k) (cF2 T r0 r1 X f) (10 - t) a b)) → P M') : AMv D (d + 6) mX7_playBack [.ref 29, .ref 13, .int (J f)] M P := by
  have hb := hD.2.1
  have k0 := hD.2.2.2.2.1
  have k1 := hD.2.2.2.2.2.1
  have ok : ∀ i, i < 12 → pOk (X i) := fun i hi => hX.ok hi
  -- chances beyond the rows are of no one: they are bounded all the same where they are asked for
  have b1 : ∀ k, k < 5 → ∀ L, 0 ≤ cF1 T r0 r1 X f k k L ∧ cF1 T r0 r1 X f k k L ≤ 1000000 := fun k hk L => (chF_o hb k0 k1 (ok _ (by omega)) (ok _ (by omega))).2
  have b2 : ∀ k, k < 5 → ∀ L, 0 ≤ cF2 T r0 r1 X f k L ∧ cF2 T r0 r1 X f k L ≤ 1000000 := fun k hk L => (chF_o hb k0 k1 (ok _ (by omega)) (ok _ (by omega))).2
  have lp : ∀ (m n : Nat) (N : Mm), n + m = 5 → Fl soR M N → gI N 45 = gI M 45 → (∀ k, k < n → ∀ L : Int, -(k : Int) ≤ L → L ≤ k → gI N 32 (ix k k L) = J (cF1 T r0 r1 X f k k L)) → (∀ k, k < n → ∀ L : Int, -(k : Int) - 1 ≤ L → L ≤ k → gI N 33 (ix k k L) = J (cF2 T r0 r1 X f k L)) → LX7_playBack_2 D (d + 5) (J f) (J n) N (fun r M1 => r = none ∧ Sm M M1 ∧ P M1) := by
    intro m
    induction m with
    | zero =>
      intro n N hm FN g45 g1 g2
      have hDN := hD.fl FN (by decide) (by decide) (by decide) (by decide)
      refine rX7_playBack_2 D (d + 5) _ _ N _ (hDN.1.sub (by omega) (by omega)) ⟨fun _ => ?_, fun c => ?_⟩
      · -- clamp the chances
        have ec : ∀ m a b, wn (fun k => if k < 5 then cF1 T r0 r1 X f k k else fun _ => 0) (fun k => if k < 5 then cF2 T r0 r1 X f k else fun _ => 0) m a b = wn (fun k => cF1 T r0 r1 X f k k) (cF2 T r0 r1 X f) m a b := by
          intro m
          induction m with
          | zero => intro a b; rfl
          | succ m ihm =>
            intro a b
            unfold wn
            have e5 : (9 - m) / 2 < 5 := by omega
            simp only [if_pos e5]
            have : wn (fun k => if k < 5 then cF1 T r0 r1 X f k k else fun _ => 0) (fun k => if k < 5 then cF2 T r0 r1 X f k else fun _ => 0) m = wn (fun k => cF1 T r0 r1 X f k k) (cF2 T r0 r1 X f) m := by
              funext a b
              exact ihm a b
            rw [this]
        refine l_back (d := d + 4) (M := N) (c1 := fun k => if k < 5 then cF1 T r0 r1 X f k k else fun _ => 0) (c2 := fun k => if k < 5 then cF2 T r0 r1 X f k else fun _ => 0) FN.1 (hDN.1.sub (by omega) (by omega)) (fun s L => ?_) (fun s L => ?_) (fun k hk L u v => ?_) (fun k hk L u v => ?_) (by rw [g45]; exact hw) (fun M' F' g' => h M' (FN.trans (F'.l.sub (by decide))) (fun t ht a b ha hb => by rw [g' t ht a b ha hb, ec])) 10 N (by omega) (Fm.refl _ N) (fun t u v a b ha hb => ?_)
        · split
          · exact b1 s (by assumption) L
          · show (0 : Int) ≤ 0 ∧ (0 : Int) ≤ 1000000
            omega
        · split
          · exact b2 s (by assumption) L
          · show (0 : Int) ≤ 0 ∧ (0 : Int) ≤ 1000000
            omega
        · rw [if_pos hk]
          exact g1 k (by omega) L u v
        · rw [if_pos hk]
          exact g2 k (by omega) L u v
        · obtain rfl : t = 10 := by omega
          show gI N 45 (6 * a + b) = J (wv a b)
          rw [g45]
          exact hw a b (by omega) (by omega)
      · exfalso
        simp (disch := omega) only [J_lit, J_add, J_sub, J_mul, J_neg, J_lt, J_le, J_eq, J_nat, J_in, J_div] at c
        omega
    | succ m ih =>
      intro n N hm FN g45 g1 g2
      have hDN := hD.fl FN (by decide) (by decide) (by decide) (by decide)
      have hXN := hX.fl FN
      refine rX7_playBack_2 D (d + 5) _ _ N _ (hDN.1.sub (by omega) (by omega)) ⟨fun c => ?_, fun _ => ?_⟩
      · exfalso
        simp (disch := omega) only [J_lit, J_add, J_sub, J_mul, J_neg, J_lt, J_le, J_eq, J_nat, J_in, J_div] at c
        omega
      · refine c_fillCh (s := 0) (f := f) (p := n) (k := n) hDN hXN (by omega) hf (by omega) (by omega) (fun N1 F1 a1 u1 => ?_)
        have F1' : Fl soR N N1 := F1.sub (by decide)
        have hDN1 := hDN.fl F1' (by decide) (by decide) (by decide) (by decide)
        rw [J_w hf]
        refine c_fillCh (s := 1) (f := 1 - f) (p := n) (k := n) hDN1 (hXN.fl F1') (by omega) (by omega) (by omega) (by omega) (fun N2 F2 a2 u2 x14 e14 => ?_)
        have F2' : Fl soR N1 N2 := F2.sub (by decide)
        rw [e14, J_suc]
        have r32 : gI N2 32 = gI N1 32 := F2.2.2.2 32 (by decide)
        have r33 : gI N1 33 = gI N 33 := F1.2.2.2 33 (by decide)
        have r45 : gI N2 45 = gI N 45 := by rw [F2.2.2.2 45 (by decide), F1.2.2.2 45 (by decide)]
        refine ih (n + 1) N2 (by omega) ((FN.trans F1').trans F2') (by rw [r45]; exact g45) (fun k hk L u v => ?_) (fun k hk L u v => ?_)
        · rw [r32]
          by_cases e : k = n
          · subst e
            have := a1 L (by omega) v
            unfold cF1
            rw [this]
            congr 2
          · rw [u1 _ (by unfold ix; omega)]
            exact g1 k (by omega) L u v
        · by_cases e : k = n
          · subst e
            have := a2 L (by omega) v
            unfold cF2
            rw [(by omega : 1 - (1 - f) = f)] at this
            exact this
          · rw [u2 _ (by unfold ix; omega), r33]
            exact g2 k (by omega) L u v
  refine rX7_playBack D (d + 5) _ M _ (hD.1.sub (by omega) (by omega)) ?_
  exact lp 5 0 M (by omega) (Fl.refl _ M) rfl (fun k hk => by omega) (fun k hk => by omega)
end
