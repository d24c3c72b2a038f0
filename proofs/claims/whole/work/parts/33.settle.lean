/-! what neither would leave: the best of all mixes, the first of the best -/
def Wm (T : Nat → Int) (w : Nat) (l m : Int) : Int := wst T w l m (20 - l - m)
def vis (L N l m : Int) : Prop := 0 ≤ l ∧ 0 ≤ m ∧ l + m ≤ 20 ∧ (l < L ∨ l = L ∧ m < N)
def Bs (T : Nat → Int) (w : Nat) (L N l m : Int) : Prop := vis L N l m ∧ ∀ l' m', vis L N l' m' → ¬ bt w (Wm T w l' m') (Wm T w l m) ∧ (Wm T w l' m' = Wm T w l m → l < l' ∨ l = l' ∧ m ≤ m')
/-- the mix and its bound, as they must be -/
def Rst (T : Nat → Int) (w : Nat) (f : Nat → Int32) (b : Int32) : Prop := ∃ l m, Bs T w 21 0 l m ∧ f 0 = J l ∧ f 1 = J m ∧ f 2 = J (20 - l - m) ∧ b = J (Wm T w l m)
theorem Bs.first {T : Nat → Int} {w : Nat} : Bs T w 0 1 0 0 := by
  refine ⟨by unfold vis; omega, fun l' m' h => ?_⟩
  unfold vis at h
  have h1 : l' = 0 := by omega
  have h2 : m' = 0 := by omega
  subst h1 h2
  unfold bt
  omega
theorem Bs.take {T : Nat → Int} {w : Nat} {L N l m : Int} (h : Bs T w L N l m) (h0 : 0 ≤ L) (h1 : 0 ≤ N) (h2 : L + N ≤ 20) (hb : bt w (Wm T w L N) (Wm T w l m)) : Bs T w L (N + 1) L N := by
  refine ⟨by unfold vis; omega, fun l' m' h' => ?_⟩
  by_cases e : l' = L ∧ m' = N
  · obtain ⟨rfl, rfl⟩ := e
    unfold bt
    omega
  · have hv : vis L N l' m' := by unfold vis at h' ⊢; omega
    have := h.2 l' m' hv
    unfold bt at this hb ⊢
    omega
theorem Bs.keep {T : Nat → Int} {w : Nat} {L N l m : Int} (h : Bs T w L N l m) (hb : ¬ bt w (Wm T w L N) (Wm T w l m)) : Bs T w L (N + 1) l m := by
  refine ⟨by have := h.1; unfold vis at this ⊢; omega, fun l' m' h' => ?_⟩
  by_cases e : l' = L ∧ m' = N
  · obtain ⟨rfl, rfl⟩ := e
    have := h.1
    unfold vis at this
    exact ⟨hb, fun _ => by omega⟩
  · exact h.2 l' m' (by unfold vis at h' ⊢; omega)
theorem Bs.next {T : Nat → Int} {w : Nat} {L N l m : Int} (h : Bs T w L N l m) (hN : 20 - L < N) : Bs T w (L + 1) 0 l m := by
  refine ⟨by have := h.1; unfold vis at this ⊢; omega, fun l' m' h' => h.2 l' m' (by unfold vis at h' ⊢; omega)⟩
theorem Rst.uniq {T : Nat → Int} {w : Nat} (hw : w < 2) {f g : Nat → Int32} {b c : Int32} (h : Rst T w f b) (h' : Rst T w g c) : f 0 = g 0 ∧ f 1 = g 1 ∧ f 2 = g 2 ∧ b = c := by
  obtain ⟨l, m, hb, e0, e1, e2, e3⟩ := h
  obtain ⟨l', m', hb', e0', e1', e2', e3'⟩ := h'
  have a1 := hb.2 l' m' hb'.1
  have a2 := hb'.2 l m hb.1
  have hW : Wm T w l' m' = Wm T w l m := by unfold bt at a1 a2; omega
  have hl : l = l' := by have := a1.2 hW; have := a2.2 hW.symm; omega
  have hm : m = m' := by have := a1.2 hW; have := a2.2 hW.symm; omega
  subst hl hm
  rw [e0, e1, e2, e3, e0', e1', e2', e3']
  exact ⟨rfl, rfl, rfl, rfl⟩
section
variable {D : GD} {d w : Nat} {M0 : Mm} {T : Nat → Int} {P : Mm → Prop}
theorem l_settle (hL : Lay 13 25 M0) (hT : Ro M0 14 9 T) (hb : Tb T) (hw : w < 2) (hP : ∀ f g, Rst T w f (g w) → (∀ k, k ≠ w → g k = gI M0 18 k) → P (rI (rI M0 (16 + w) f) 18 g)) :
    ∀ (n : Nat) (L N : Int) (any : Int32) (f g : Nat → Int32), n = (((21 - L) * 22) + (21 - N)).toNat → 0 ≤ L → 0 ≤ N → L ≤ 20 → L + N ≤ 21 → (∀ k, k ≠ w → g k = gI M0 18 k) → ((any = 0 ∧ L = 0 ∧ N = 0) ∨ (any = 1 ∧ ∃ l m, Bs T w L N l m ∧ f 0 = J l ∧ f 1 = J m ∧ f 2 = J (20 - l - m) ∧ g w = J (Wm T w l m))) →
      LX0_settleMix_13 D (d + 1) (J w) any (J L) (J N) (rI (rI M0 (16 + w) f) 18 g) (fun r M1 => r = none ∧ Sm M0 M1 ∧ P M1) := by
  intro n
  induction n using Nat.strongRecOn with
  | ind n ih =>
  intro L N any f g hn h0 h1 hL20 h2 hg hany
  have hL1 : Lay 13 25 (rI (rI M0 (16 + w) f) 18 g) := hL.of (Sm.refl M0).ri.ri
  have hT1 : Ro (rI (rI M0 (16 + w) f) 18 g) 14 9 T := fun k hk => by
    rw [gI_rI, if_neg (by omega), gI_rI, if_neg (by omega)]
    exact hT k hk
  have ew : (J (w : Int)).toNatClampNeg = w := by simp (disch := omega) only [J_lit, J_add, J_sub, J_mul, J_neg, J_lt, J_le, J_eq, J_nat, J_in, J_div]; omega
  refine rX0_settleMix_13 D (d + 1) (J w) any (J L) (J N) _ _ hL1 ⟨fun c x2 e2 => ?_, fun c x3 e3 => ?_⟩
  · simp (disch := omega) only [J_lit, J_add, J_sub, J_mul, J_neg, J_lt, J_le, J_eq, J_nat, J_in, J_div] at c e2
    subst e2
    have hbest : ∃ l m, Bs T w (L + 1) 0 l m ∧ f 0 = J l ∧ f 1 = J m ∧ f 2 = J (20 - l - m) ∧ g w = J (Wm T w l m) := by
      rcases hany with ⟨-, h3, h4⟩ | ⟨-, l, m, hB, h5⟩
      · omega
      · exact ⟨l, m, hB.next c, h5⟩
    have hany1 : any = 1 := by
      rcases hany with ⟨-, h3, h4⟩ | ⟨h5, -⟩
      · omega
      · exact h5
    refine rX0_settleMix_4 D (d + 1) (J w) any (J (L + 1)) _ _ hL1 ⟨fun c4 => ?_, fun c4 => ?_⟩
    · simp (disch := omega) only [J_lit, J_add, J_sub, J_mul, J_neg, J_lt, J_le, J_eq, J_nat, J_in, J_div] at c4
      have hL' : L = 20 := by omega
      subst hL'
      exact vret (Sm.refl M0).ri.ri (hP f g hbest hg)
    · simp (disch := omega) only [J_lit, J_add, J_sub, J_mul, J_neg, J_lt, J_le, J_eq, J_nat, J_in, J_div] at c4
      exact ih _ (by omega) (L + 1) 0 any f g rfl (by omega) (by omega) (by omega) (by omega) hg (Or.inr ⟨hany1, hbest⟩)
  · simp (disch := omega) only [J_lit, J_add, J_sub, J_mul, J_neg, J_lt, J_le, J_eq, J_nat, J_in, J_div] at c e3
    subst e3
    have hWb := wst_b hb (w := w) (l := L) (m := N) (r := 20 - L - N) h0 h1 (by omega)
    refine c_worst hL1 hT1 hb hw h0 h1 (by omega) (by omega) ⟨fun c5 => ?_, fun c5 => ?_⟩
    · have hz : L = 0 ∧ N = 0 := by
        rcases hany with h | ⟨h, -⟩
        · exact h.2
        · rw [h] at c5; exact absurd c5 (by decide)
      obtain ⟨rfl, rfl⟩ := hz
      refine ⟨by simp (disch := omega) only [J_lit, J_add, J_sub, J_mul, J_neg, J_lt, J_le, J_eq, J_nat, J_in, J_div]; omega, ?_⟩
      intro M12 e12 M16 e16 M20 e20 M24 e24 x28 e28
      rw [ew] at e12 e16 e20 e24
      have eM : M24 = rI (rI M0 (16 + w) (va_up (va_up (va_up f 0 (J 0)) 1 (J 0)) 2 (J (20 - 0 - 0)))) 18 (va_up g w (J (wst T w 0 0 (20 - 0 - 0)))) := by
        rw [e24, e20, e16, e12, sI_rI, sI_rI' (by omega), sI_rI, sI_rI' (by omega), sI_rI, sI_rI' (by omega), sI_rI]
      rw [eM]
      simp (disch := omega) only [J_lit, J_add, J_sub, J_mul, J_neg, J_lt, J_le, J_eq, J_nat, J_in, J_div] at e28
      rw [e28]
      refine ih _ (by omega) 0 (0 + 1) 1 _ _ rfl (by omega) (by omega) (by omega) (by omega) (fun k hk => by rw [va_up_ne _ _ hk]; exact hg k hk) (Or.inr ⟨rfl, 0, 0, Bs.first, ?_, ?_, ?_, ?_⟩)
      · simp [va_up]
      · simp [va_up]
      · simp [va_up]
      · rw [va_up_self]; rfl
    · obtain ⟨l, m, hB, f0, f1, f2, gw⟩ : ∃ l m, Bs T w L N l m ∧ f 0 = J l ∧ f 1 = J m ∧ f 2 = J (20 - l - m) ∧ g w = J (Wm T w l m) := by
        rcases hany with ⟨h, -⟩ | ⟨-, h⟩
        · exact absurd h c5
        · exact h
      have hany1 : any = 1 := by
        rcases hany with ⟨h, -⟩ | ⟨h, -⟩
        · exact absurd h c5
        · exact h
      refine ⟨by simp (disch := omega) only [J_lit, J_add, J_sub, J_mul, J_neg, J_lt, J_le, J_eq, J_nat, J_in, J_div]; omega, ?_⟩
      have hv := hB.1
      unfold vis at hv
      have hWb2 := wst_b hb (w := w) (l := l) (m := m) (r := 20 - l - m) hv.1 hv.2.1 (by omega)
      rw [ew, gI_rI, if_pos rfl, gw]
      refine c_better hL1 hw (by omega) (by unfold Wm; omega) ⟨fun c6 x37 e37 => ?_, fun c6 => ?_⟩
      · have hnb := b2_eq0.mp c6
        simp (disch := omega) only [J_lit, J_add, J_sub, J_mul, J_neg, J_lt, J_le, J_eq, J_nat, J_in, J_div] at e37
        rw [e37]
        exact ih _ (by omega) L (N + 1) any f g rfl (by omega) (by omega) (by omega) (by omega) hg (Or.inr ⟨hany1, l, m, hB.keep hnb, f0, f1, f2, gw⟩)
      · have hnb := b2_ne0.mp c6
        intro M12 e12 M16 e16 M20 e20 M24 e24 x28 e28
        have eM : M24 = rI (rI M0 (16 + w) (va_up (va_up (va_up f 0 (J L)) 1 (J N)) 2 (J (20 - L - N)))) 18 (va_up g w (J (wst T w L N (20 - L - N)))) := by
          rw [e24, e20, e16, e12, sI_rI, sI_rI' (by omega), sI_rI, sI_rI' (by omega), sI_rI, sI_rI' (by omega), sI_rI]
        rw [eM]
        simp (disch := omega) only [J_lit, J_add, J_sub, J_mul, J_neg, J_lt, J_le, J_eq, J_nat, J_in, J_div] at e28
        rw [e28]
        refine ih _ (by omega) L (N + 1) 1 _ _ rfl (by omega) (by omega) (by omega) (by omega) (fun k hk => by rw [va_up_ne _ _ hk]; exact hg k hk) (Or.inr ⟨rfl, L, N, hB.take h0 h1 (by omega) hnb, ?_, ?_, ?_, ?_⟩)
        · simp [va_up]
        · simp [va_up]
        · simp [va_up]
        · rw [va_up_self]; rfl
theorem c_settleMix (hL : Lay 13 25 M0) (hT : Ro M0 14 9 T) (hb : Tb T) (hw : w < 2) (hP : ∀ f g, Rst T w f (g w) → (∀ k, k ≠ w → g k = gI M0 18 k) → P (rI (rI M0 (16 + w) f) 18 g)) : AMv D (d + 2) mX0_settleMix [.ref 13, .int (J w)] M0 P := by
  refine rX0_settleMix D (d + 1) (J w) M0 _ hL ?_
  refine rX0_settleMix_4 D (d + 1) (J w) _ _ M0 _ hL ⟨fun c => ?_, fun c => ?_⟩
  · exact absurd c (by decide)
  · have e : M0 = rI (rI M0 (16 + w) (gI M0 (16 + w))) 18 (gI M0 18) := by rw [rI_id, rI_id]
    have := l_settle (D := D) (d := d) hL hT hb hw hP _ 0 0 0 (gI M0 (16 + w)) (gI M0 18) rfl (by omega) (by omega) (by omega) (by omega) (fun _ _ => rfl) (Or.inl ⟨rfl, rfl, rfl⟩)
    rw [← e] at this
    exact this
/-- the class's REST lies as the table asks -/
def Mix (M : Mm) (T : Nat → Int) : Prop := Rst T 0 (gI M 16) (gI M 18 0) ∧ Rst T 1 (gI M 17) (gI M 18 1)
theorem c_settleMixes (hL : Lay 13 25 M0) (hT : Ro M0 14 9 T) (hb : Tb T) (hP : ∀ f f' g, Rst T 0 f (g 0) → Rst T 1 f' (g 1) → P (rI (rI (rI M0 16 f) 17 f') 18 g)) : AMv D (d + 3) mX0_settleMixes [.ref 13] M0 P := by
  refine rX0_settleMixes D (d + 2) M0 _ hL ?_
  refine c_settleMix (w := 0) hL hT hb (by omega) fun f g h1 hg => ?_
  have hT1 : Ro (rI (rI M0 (16 + 0) f) 18 g) 14 9 T := fun k hk => by
    rw [gI_rI, if_neg (by omega), gI_rI, if_neg (by omega)]
    exact hT k hk
  refine c_settleMix (w := 1) (hL.of (Sm.refl M0).ri.ri) hT1 hb (by omega) fun f' g' h2 hg' => vret (Sm.refl M0).ri.ri.ri.ri ?_
  have := hP f f' g' (by rw [hg' 0 (by omega), gI_rI, if_pos rfl]; exact h1) h2
  rw [rI_cm (a := 18) (b := 16 + 1) (by omega), rI_rI]
  exact this
end
