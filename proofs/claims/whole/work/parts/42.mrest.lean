/-! what neither would leave: the reference -/
def Ib (T : Nat → Int) (w : Nat) (L N : Int) (f : Nat → Int32) (b : Int32) : Prop := (L = 0 ∧ N = 0 ∧ b = J (if w = 0 then -1 else 2001)) ∨ ∃ l m, Bs T w L N l m ∧ f 0 = J l ∧ f 1 = J m ∧ f 2 = J (20 - l - m) ∧ b = J (Wm T w l m)
theorem Wm_b {T : Nat → Int} (h : Tb T) {w : Nat} {l m : Int} (h1 : 0 ≤ l) (h2 : 0 ≤ m) (h3 : l + m ≤ 20) : 0 ≤ Wm T w l m ∧ Wm T w l m ≤ 2000 := by
  have := wst_b h (w := w) h1 h2 (r := 20 - l - m) (by omega)
  unfold Wm
  omega
theorem Ib.val {T : Nat → Int} {w : Nat} {L N : Int} {f : Nat → Int32} {b : Int32} (hT : Tb T) (h : Ib T w L N f b) : ∃ b0 : Int, b = J b0 ∧ -1 ≤ b0 ∧ b0 ≤ 2001 := by
  rcases h with ⟨-, -, h⟩ | ⟨l, m, hB, -, -, -, h⟩
  · exact ⟨_, h, by split <;> omega, by split <;> omega⟩
  · have hv := hB.1
    unfold vis at hv
    have := Wm_b hT (w := w) hv.1 hv.2.1 hv.2.2.1
    exact ⟨_, h, by omega, by omega⟩
theorem Ib.take {T : Nat → Int} {w : Nat} {L N : Int} {f g : Nat → Int32} {b : Int32} {b0 : Int} (hT : Tb T) (h : Ib T w L N f b) (h0 : 0 ≤ L) (h1 : 0 ≤ N) (h2 : L + N ≤ 20) (hb : b = J b0) (hb1 : -1 ≤ b0) (hb2 : b0 ≤ 2001) (hbt : bt w (Wm T w L N) b0) (g0 : g 0 = J L) (g1 : g 1 = J N) (g2 : g 2 = J (20 - L - N)) : Ib T w L (N + 1) g (J (Wm T w L N)) := by
  refine Or.inr ⟨L, N, ?_, g0, g1, g2, rfl⟩
  rcases h with ⟨rfl, rfl, -⟩ | ⟨l, m, hB, -, -, -, h⟩
  · exact Bs.first
  · have hv := hB.1
    unfold vis at hv
    have := Wm_b hT (w := w) hv.1 hv.2.1 hv.2.2.1
    have e : b0 = Wm T w l m := by
      rw [hb] at h
      simp (disch := omega) only [J_lit, J_add, J_sub, J_mul, J_neg, J_lt, J_le, J_eq, J_nat, J_in, J_div] at h
      exact h
    exact hB.take h0 h1 h2 (e ▸ hbt)
theorem Ib.keep {T : Nat → Int} {w : Nat} {L N : Int} {f : Nat → Int32} {b : Int32} {b0 : Int} (hT : Tb T) (h : Ib T w L N f b) (hw : w < 2) (hb : b = J b0) (hb1 : -1 ≤ b0) (hb2 : b0 ≤ 2001) (hbt : ¬ bt w (Wm T w L N) b0) (h0 : 0 ≤ L) (h1 : 0 ≤ N) (h2 : L + N ≤ 20) : Ib T w L (N + 1) f b := by
  rcases h with ⟨rfl, rfl, h⟩ | ⟨l, m, hB, f0, f1, f2, h⟩
  · exfalso
    have := Wm_b hT (w := w) (l := 0) (m := 0) (by omega) (by omega) (by omega)
    rw [hb] at h
    have e : b0 = if w = 0 then -1 else 2001 := by
      split at h
      · simp (disch := omega) only [J_lit, J_add, J_sub, J_mul, J_neg, J_lt, J_le, J_eq, J_nat, J_in, J_div] at h
        rw [if_pos (by assumption)]
        exact h
      · simp (disch := omega) only [J_lit, J_add, J_sub, J_mul, J_neg, J_lt, J_le, J_eq, J_nat, J_in, J_div] at h
        rw [if_neg (by assumption)]
        exact h
    unfold bt at hbt
    split at e <;> omega
  · have hv := hB.1
    unfold vis at hv
    have := Wm_b hT (w := w) hv.1 hv.2.1 hv.2.2.1
    have e : b0 = Wm T w l m := by
      rw [hb] at h
      simp (disch := omega) only [J_lit, J_add, J_sub, J_mul, J_neg, J_lt, J_le, J_eq, J_nat, J_in, J_div] at h
      exact h
    exact Or.inr ⟨l, m, hB.keep (e ▸ hbt), f0, f1, f2, h⟩
theorem Ib.next {T : Nat → Int} {w : Nat} {L N : Int} {f : Nat → Int32} {b : Int32} (h : Ib T w L N f b) (h0 : 0 ≤ L) (hL : L ≤ 20) (hN : 21 - L ≤ N) : Ib T w (L + 1) 0 f b := by
  rcases h with ⟨rfl, rfl, -⟩ | ⟨l, m, hB, h⟩
  · omega
  · exact Or.inr ⟨l, m, hB.next (by omega), h⟩
theorem Ib.fin {T : Nat → Int} {w : Nat} {f : Nat → Int32} {b : Int32} (h : Ib T w 21 0 f b) : Rst T w f b := by
  rcases h with ⟨h, -⟩ | h
  · omega
  · exact h
section
variable {D : GD} {d : Nat} {M0 : Mm} {T : Nat → Int}
theorem c_chanceOf {M : Mm} {w o : Nat} {l m r : Int} {P : Int32 → Mm → Prop} (hL : Lay 62 98 M) (hT : Ro M 63 9 T) (hw : w < 2) (ho : o < 3) (h : P (J (mxc T w l m r o)) M) : AMi D d mX12_chanceOf [.ref 62, .int (J l), .int (J m), .int (J r), .int (J w), .int (J o)] M P := by
  refine rX12_chanceOf D d _ _ _ _ _ M _ hL ⟨fun c => ⟨by simp (disch := omega) only [J_lit, J_add, J_sub, J_mul, J_neg, J_lt, J_le, J_eq, J_nat, J_in, J_div]; omega, by simp (disch := omega) only [J_lit, J_add, J_sub, J_mul, J_neg, J_lt, J_le, J_eq, J_nat, J_in, J_div]; omega, by simp (disch := omega) only [J_lit, J_add, J_sub, J_mul, J_neg, J_lt, J_le, J_eq, J_nat, J_in, J_div]; omega, _, rfl, .refl M, ?_⟩, fun c => ⟨by simp (disch := omega) only [J_lit, J_add, J_sub, J_mul, J_neg, J_lt, J_le, J_eq, J_nat, J_in, J_div]; omega, by simp (disch := omega) only [J_lit, J_add, J_sub, J_mul, J_neg, J_lt, J_le, J_eq, J_nat, J_in, J_div]; omega, by simp (disch := omega) only [J_lit, J_add, J_sub, J_mul, J_neg, J_lt, J_le, J_eq, J_nat, J_in, J_div]; omega, _, rfl, .refl M, ?_⟩⟩
  · simp (disch := omega) only [J_lit, J_add, J_sub, J_mul, J_neg, J_lt, J_le, J_eq, J_nat, J_in, J_div] at c
    have e0 : ((3 : Int32) * J o).toNatClampNeg = o * 3 + 0 := by simp (disch := omega) only [J_lit, J_add, J_sub, J_mul, J_neg, J_lt, J_le, J_eq, J_nat, J_in, J_div]; omega
    have e1 : ((3 : Int32) * J o + (1 : Int32)).toNatClampNeg = o * 3 + 1 := by simp (disch := omega) only [J_lit, J_add, J_sub, J_mul, J_neg, J_lt, J_le, J_eq, J_nat, J_in, J_div]; omega
    have e2 : ((3 : Int32) * J o + (2 : Int32)).toNatClampNeg = o * 3 + 2 := by simp (disch := omega) only [J_lit, J_add, J_sub, J_mul, J_neg, J_lt, J_le, J_eq, J_nat, J_in, J_div]; omega
    rw [e0, e1, e2, hT _ (by omega), hT _ (by omega), hT _ (by omega)]
    simp only [J_mul, J_add]
    unfold mxc cl at h
    simpa only [if_neg (by omega : ¬ w = 0)] using h
  · simp (disch := omega) only [J_lit, J_add, J_sub, J_mul, J_neg, J_lt, J_le, J_eq, J_nat, J_in, J_div] at c
    have e0 : (J o).toNatClampNeg = 0 * 3 + o := by simp (disch := omega) only [J_lit, J_add, J_sub, J_mul, J_neg, J_lt, J_le, J_eq, J_nat, J_in, J_div]; omega
    have e1 : ((3 : Int32) + J o).toNatClampNeg = 1 * 3 + o := by simp (disch := omega) only [J_lit, J_add, J_sub, J_mul, J_neg, J_lt, J_le, J_eq, J_nat, J_in, J_div]; omega
    have e2 : ((6 : Int32) + J o).toNatClampNeg = 2 * 3 + o := by simp (disch := omega) only [J_lit, J_add, J_sub, J_mul, J_neg, J_lt, J_le, J_eq, J_nat, J_in, J_div]; omega
    rw [e0, e1, e2, hT _ (by omega), hT _ (by omega), hT _ (by omega)]
    simp only [J_mul, J_add]
    unfold mxc cl at h
    simpa only [if_pos (by omega : w = 0)] using h
theorem c_layRest {M : Mm} {k : Nat} {a b c : Int32} {P : Mm → Prop} (hL : Lay 62 98 M) (hk : k ≤ 3) (h : P (rI M 77 (va_up (va_up (va_up (gI M 77) k a) (k + 1) b) (k + 2) c))) : AMv D d mX12_layRest [.ref 62, .int (J k), .int a, .int b, .int c] M P := by
  have e0 : (J (k : Int)).toNatClampNeg = k := by simp (disch := omega) only [J_lit, J_add, J_sub, J_mul, J_neg, J_lt, J_le, J_eq, J_nat, J_in, J_div]; omega
  have e1 : (J (k : Int) + (1 : Int32)).toNatClampNeg = k + 1 := by simp (disch := omega) only [J_lit, J_add, J_sub, J_mul, J_neg, J_lt, J_le, J_eq, J_nat, J_in, J_div]; omega
  have e2 : (J (k : Int) + (2 : Int32)).toNatClampNeg = k + 2 := by simp (disch := omega) only [J_lit, J_add, J_sub, J_mul, J_neg, J_lt, J_le, J_eq, J_nat, J_in, J_div]; omega
  refine rX12_layRest D d _ _ _ _ M _ hL ⟨by simp (disch := omega) only [J_lit, J_add, J_sub, J_mul, J_neg, J_lt, J_le, J_eq, J_nat, J_in, J_div]; omega, fun M2 q2 => ⟨by simp (disch := omega) only [J_lit, J_add, J_sub, J_mul, J_neg, J_lt, J_le, J_eq, J_nat, J_in, J_div]; omega, fun M7 q7 => ⟨by simp (disch := omega) only [J_lit, J_add, J_sub, J_mul, J_neg, J_lt, J_le, J_eq, J_nat, J_in, J_div]; omega, fun M12 q12 => ?_⟩⟩⟩
  rw [e0] at q2
  rw [e1] at q7
  rw [e2] at q12
  have eM : M12 = rI M 77 (va_up (va_up (va_up (gI M 77) k a) (k + 1) b) (k + 2) c) := by
    rw [q12, q7, q2]
    show sI (sI (rI M 77 (va_up (gI M 77) k a)) 77 (k + 1) b) 77 (k + 2) c = _
    rw [sI_rI, sI_rI]
  subst eM
  exact ⟨rfl, (Sm.refl M).ri, h⟩
end
