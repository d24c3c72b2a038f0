/-! findRest -/
section
variable {D : GD} {d : Nat} {M0 : Mm} {T : Nat → Int}
theorem l_find3 {M : Mm} {L N R : Int} {post : Option Value → Mm → Prop} (hL : Lay 62 98 M) (hT : Ro M 63 9 T) (hb : Tb T) (h1 : 0 ≤ L) (h2 : 0 ≤ N) (h3 : 0 ≤ R) (h4 : L + N + R = 20) (hk : LX12_findRest_48 D d (J L) (J N) (J R) (J (wst T 0 L N R)) (J (wst T 1 L N R)) (J (3 : Nat)) M post) : LX12_findRest_48 D d (J L) (J N) (J R) (2001 : Int32) (-1 : Int32) (0 : Int32) M post := by
  have en : ∀ n : Nat, (J n : Int32) + (1 : Int32) = J ((n + 1 : Nat) : Int) := fun n => by simp (disch := omega) only [J_lit, J_add, J_sub, J_mul, J_neg, J_lt, J_le, J_eq, J_nat, J_in, J_div]; congr 1
  have step : ∀ (o : Nat) (v w : Int), o < 3 → -1 ≤ v → v ≤ 2001 → -1 ≤ w → w ≤ 2001 → LX12_findRest_48 D d (J L) (J N) (J R) (J (min v (mxc T 0 L N R o))) (J (max w (mxc T 1 L N R o))) (J ((o + 1 : Nat) : Int)) M post → LX12_findRest_48 D d (J L) (J N) (J R) (J v) (J w) (J o) M post := by
    intro o v w ho b1 b2 b3 b4 hk
    have x0 := mxc_b hb (w := 0) (o := o) ho h1 h2 h3
    have x1 := mxc_b hb (w := 1) (o := o) ho h1 h2 h3
    refine rX12_findRest_48 D d _ _ _ _ _ _ M post hL ⟨fun c => ?_, fun c => ?_⟩
    · exfalso
      simp (disch := omega) only [J_lit, J_add, J_sub, J_mul, J_neg, J_lt, J_le, J_eq, J_nat, J_in, J_div] at c
      omega
    · refine c_chanceOf (w := 0) hL hT (by omega) ho (c_chanceOf (w := 1) hL hT (by omega) ho ⟨fun c1 => ⟨fun c2 x e => ?_, fun c2 x e => ?_⟩, fun c1 => ⟨fun c2 x e => ?_, fun c2 x e => ?_⟩⟩)
      all_goals simp (disch := omega) only [J_lit, J_add, J_sub, J_mul, J_neg, J_lt, J_le, J_eq, J_nat, J_in, J_div] at c1 c2
      all_goals rw [e, en]
      · rw [show min v (mxc T 0 L N R o) = v by omega, show max w (mxc T 1 L N R o) = w by omega] at hk
        exact hk
      · rw [show min v (mxc T 0 L N R o) = v by omega, show max w (mxc T 1 L N R o) = mxc T 1 L N R o by omega] at hk
        exact hk
      · rw [show min v (mxc T 0 L N R o) = mxc T 0 L N R o by omega, show max w (mxc T 1 L N R o) = w by omega] at hk
        exact hk
      · rw [show min v (mxc T 0 L N R o) = mxc T 0 L N R o by omega, show max w (mxc T 1 L N R o) = mxc T 1 L N R o by omega] at hk
        exact hk
  have a0 := mxc_b hb (w := 0) (o := 0) (by omega) h1 h2 h3
  have a1 := mxc_b hb (w := 0) (o := 1) (by omega) h1 h2 h3
  have a2 := mxc_b hb (w := 0) (o := 2) (by omega) h1 h2 h3
  have b0 := mxc_b hb (w := 1) (o := 0) (by omega) h1 h2 h3
  have b1 := mxc_b hb (w := 1) (o := 1) (by omega) h1 h2 h3
  have b2 := mxc_b hb (w := 1) (o := 2) (by omega) h1 h2 h3
  refine step 0 2001 (-1) (by omega) (by omega) (by omega) (by omega) (by omega) (step 1 _ _ (by omega) (by omega) (by omega) (by omega) (by omega) (step 2 _ _ (by omega) (by omega) (by omega) (by omega) (by omega) ?_))
  have q0 : min (min (min 2001 (mxc T 0 L N R 0)) (mxc T 0 L N R 1)) (mxc T 0 L N R 2) = wst T 0 L N R := by
    unfold wst
    rw [if_pos rfl]
    omega
  have q1 : max (max (max (-1) (mxc T 1 L N R 0)) (mxc T 1 L N R 1)) (mxc T 1 L N R 2) = wst T 1 L N R := by
    unfold wst
    rw [if_neg (by omega)]
    omega
  rw [q0, q1]
  exact hk
theorem lay_eq {r r' o : Nat → Int32} : rI (rI (rI M0 77 r) 62 o) 77 r' = rI (rI M0 77 r') 62 o := by
  rw [rI_cm (by omega), rI_rI]
theorem l_find (hL : Lay 62 98 M0) (hT : Ro M0 63 9 T) (hb : Tb T) {post : Option Value → Mm → Prop} (hP : ∀ r o, Rst T 0 r (o 23) → Rst T 1 (fun k => r (3 + k)) (o 24) → (∀ k, k ≠ 23 → k ≠ 24 → o k = gI M0 62 k) → post none (rI (rI M0 77 r) 62 o)) :
    ∀ (n : Nat) (L N : Int) (r o : Nat → Int32), n = (((21 - L) * 22) + (21 - N)).toNat → 0 ≤ L → 0 ≤ N → L ≤ 20 → L + N ≤ 21 → (∀ k, k ≠ 23 → k ≠ 24 → o k = gI M0 62 k) → Ib T 0 L N r (o 23) → Ib T 1 L N (fun k => r (3 + k)) (o 24) → LX12_findRest_22 D d (J L) (J N) (rI (rI M0 77 r) 62 o) post := by
  intro n
  induction n using Nat.strongRecOn with
  | ind n ih =>
  intro L N r o hn h0 h1 hL20 h2 hg i0 i1
  have hL1 : Lay 62 98 (rI (rI M0 77 r) 62 o) := hL.of (Sm.refl M0).ri.ri
  have hT1 : Ro (rI (rI M0 77 r) 62 o) 63 9 T := fun k hk => by
    rw [gI_rI, if_neg (by omega), gI_rI, if_neg (by omega)]
    exact hT k hk
  refine rX12_findRest_22 D d (J L) (J N) _ post hL1 ⟨fun c x2 e2 => ?_, fun c x3 e3 => ?_⟩
  · simp (disch := omega) only [J_lit, J_add, J_sub, J_mul, J_neg, J_lt, J_le, J_eq, J_nat, J_in, J_div] at c e2
    subst e2
    have j0 := i0.next h0 hL20 c
    have j1 := i1.next h0 hL20 c
    refine rX12_findRest_14 D d _ _ post hL1 ⟨fun c4 => ?_, fun c4 => ?_⟩
    · simp (disch := omega) only [J_lit, J_add, J_sub, J_mul, J_neg, J_lt, J_le, J_eq, J_nat, J_in, J_div] at c4
      have hL' : L = 20 := by omega
      subst hL'
      exact hP r o j0.fin j1.fin hg
    · simp (disch := omega) only [J_lit, J_add, J_sub, J_mul, J_neg, J_lt, J_le, J_eq, J_nat, J_in, J_div] at c4
      exact ih _ (by omega) (L + 1) 0 r o rfl (by omega) (by omega) (by omega) (by omega) hg j0 j1
  · simp (disch := omega) only [J_lit, J_add, J_sub, J_mul, J_neg, J_lt, J_le, J_eq, J_nat, J_in, J_div] at c e3
    subst e3
    have hR0 := Wm_b hb (w := 0) h0 h1 (by omega : L + N ≤ 20)
    have hR1 := Wm_b hb (w := 1) h0 h1 (by omega : L + N ≤ 20)
    obtain ⟨x0, ex0, x01, x02⟩ := i0.val hb
    obtain ⟨x1, ex1, x11, x12⟩ := i1.val hb
    refine l_find3 hL1 hT1 hb h0 h1 (by omega) (by omega) ?_
    have eW0 : wst T 0 L N (20 - L - N) = Wm T 0 L N := rfl
    have eW1 : wst T 1 L N (20 - L - N) = Wm T 1 L N := rfl
    rw [eW0, eW1]
    have g23 : gI (rI (rI M0 77 r) 62 o) 62 23 = J x0 := ex0
    have g24 : gI (rI (rI M0 77 r) 62 o) 62 24 = J x1 := ex1
    refine rX12_findRest_48 D d _ _ _ _ _ _ _ post hL1 ⟨fun c3 => ?_, fun c3 => ?_⟩
    · rw [g23, g24]
      refine ⟨fun c4 => ⟨fun c5 x e => ?_, fun c5 M5 e5 => ?_⟩, fun c4 M16 e16 => ?_⟩
      · simp (disch := omega) only [J_lit, J_add, J_sub, J_mul, J_neg, J_lt, J_le, J_eq, J_nat, J_in, J_div] at c4 c5 e
        subst e
        exact ih _ (by omega) L (N + 1) r o rfl h0 (by omega) hL20 (by omega) hg (i0.keep hb (by omega) ex0 x01 x02 (by unfold bt; omega) h0 h1 (by omega)) (i1.keep hb (by omega) ex1 x11 x12 (by unfold bt; omega) h0 h1 (by omega))
      · simp (disch := omega) only [J_lit, J_add, J_sub, J_mul, J_neg, J_lt, J_le, J_eq, J_nat, J_in, J_div] at c4 c5
        rw [sI_rI] at e5
        subst e5
        refine c_layRest (k := 3) (hL.of (Sm.refl M0).ri.ri) (by omega) ?_
        rw [lay_eq]
        intro x e
        simp (disch := omega) only [J_lit, J_add, J_sub, J_mul, J_neg, J_lt, J_le, J_eq, J_nat, J_in, J_div] at e
        subst e
        refine ih _ (by omega) L (N + 1) _ _ rfl h0 (by omega) hL20 (by omega) (fun k k1 k2 => by rw [va_up_ne _ _ k2]; exact hg k k1 k2) ?_ ?_
        · have := i0.keep hb (by omega) ex0 x01 x02 (by unfold bt; omega) h0 h1 (by omega)
          exact this
        · rw [va_up_self]
          exact i1.take hb h0 h1 (by omega) ex1 x11 x12 (by unfold bt; omega) rfl rfl rfl
      · simp (disch := omega) only [J_lit, J_add, J_sub, J_mul, J_neg, J_lt, J_le, J_eq, J_nat, J_in, J_div] at c4
        rw [sI_rI] at e16
        subst e16
        refine c_layRest (k := 0) (hL.of (Sm.refl M0).ri.ri) (by omega) ?_
        rw [lay_eq]
        have g24' : ∀ r', gI (rI (rI M0 77 r') 62 (va_up o 23 (J (Wm T 0 L N)))) 62 24 = J x1 := fun _ => ex1
        rw [g24']
        refine ⟨fun c5 x e => ?_, fun c5 M28 e28 => ?_⟩
        · simp (disch := omega) only [J_lit, J_add, J_sub, J_mul, J_neg, J_lt, J_le, J_eq, J_nat, J_in, J_div] at c5 e
          subst e
          refine ih _ (by omega) L (N + 1) _ _ rfl h0 (by omega) hL20 (by omega) (fun k k1 k2 => by rw [va_up_ne _ _ k1]; exact hg k k1 k2) ?_ ?_
          · rw [va_up_self]
            exact i0.take hb h0 h1 (by omega) ex0 x01 x02 (by unfold bt; omega) rfl rfl rfl
          · have := i1.keep hb (by omega) ex1 x11 x12 (by unfold bt; omega) h0 h1 (by omega)
            exact this
        · simp (disch := omega) only [J_lit, J_add, J_sub, J_mul, J_neg, J_lt, J_le, J_eq, J_nat, J_in, J_div] at c5
          rw [sI_rI] at e28
          subst e28
          refine c_layRest (k := 3) (hL.of (Sm.refl M0).ri.ri) (by omega) ?_
          rw [lay_eq]
          intro x e
          simp (disch := omega) only [J_lit, J_add, J_sub, J_mul, J_neg, J_lt, J_le, J_eq, J_nat, J_in, J_div] at e
          subst e
          refine ih _ (by omega) L (N + 1) _ _ rfl h0 (by omega) hL20 (by omega) (fun k k1 k2 => by rw [va_up_ne _ _ k2, va_up_ne _ _ k1]; exact hg k k1 k2) ?_ ?_
          · rw [va_up_ne _ _ (by omega), va_up_self]
            exact i0.take hb h0 h1 (by omega) ex0 x01 x02 (by unfold bt; omega) rfl rfl rfl
          · rw [va_up_self]
            exact i1.take hb h0 h1 (by omega) ex1 x11 x12 (by unfold bt; omega) rfl rfl rfl
    · exfalso
      exact c3 (by decide)
theorem c_findRest (hL : Lay 62 98 M0) (hT : Ro M0 63 9 T) (hb : Tb T) {P : Mm → Prop} (hP : ∀ r o, Rst T 0 r (o 23) → Rst T 1 (fun k => r (3 + k)) (o 24) → (∀ k, k ≠ 23 → k ≠ 24 → o k = gI M0 62 k) → P (rI (rI M0 77 r) 62 o)) : AMv D (d + 1) mX12_findRest [.ref 62] M0 P := by
  refine rX12_findRest D d M0 _ hL (fun M1 e1 M5 e5 => ?_)
  have eM : M5 = rI (rI M0 77 (gI M0 77)) 62 (va_up (va_up (gI M0 62) 23 (-1)) 24 2001) := by
    rw [e5, e1, rI_id]
    show sI (rI M0 62 (va_up (gI M0 62) 23 (-1))) 62 24 2001 = _
    rw [sI_rI]
  subst eM
  have hL1 : Lay 62 98 (rI (rI M0 77 (gI M0 77)) 62 (va_up (va_up (gI M0 62) 23 (-1)) 24 2001)) := hL.of (Sm.refl M0).ri.ri
  refine rX12_findRest_14 D d _ _ _ hL1 ⟨fun c => absurd c (by decide), fun c => ?_⟩
  exact l_find (d := d) (D := D) hL hT hb (fun r o h1 h2 h3 => vret (Sm.refl M0).ri.ri (hP r o h1 h2 h3)) _ 0 0 _ _ rfl (by omega) (by omega) (by omega) (by omega) (fun k k1 k2 => by rw [va_up_ne _ _ k2, va_up_ne _ _ k1]) (Or.inl ⟨rfl, rfl, rfl⟩) (Or.inl ⟨rfl, rfl, rfl⟩)
end
