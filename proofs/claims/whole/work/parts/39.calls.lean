/-! table, kick -/
section
variable {D : GD} {d : Nat} {M : Mm}
theorem Ro.up {M : Mm} {a n i : Nat} {T : Nat → Int} {z : Int} (h : Ro M a n T) : Ro (sI M a i (J z)) a n (va_up T i z) := by
  intro k hk
  show va_up (gI M) a (va_up (gI M a) i (J z)) a k = _
  rw [va_up_self]
  by_cases e : k = i
  · subst e
    rw [va_up_self, va_up_self]
  · rw [va_up_ne _ _ e, va_up_ne _ _ e]
    exact h k hk
theorem Tb.up {T : Nat → Int} {i : Nat} {z : Int} (h : Tb T) (h1 : 0 ≤ z) (h2 : z ≤ 100) : Tb (va_up T i z) := by
  intro k hk
  by_cases e : k = i
  · subst e
    rw [va_up_self]
    exact ⟨h1, h2⟩
  · rw [va_up_ne _ _ e]
    exact h k hk
theorem k_table {a b n : Int32} (hR : Rall M) : Ki D (d + 8) mX11_table mX12_table [.int a, .int b, .int n] M := by
  obtain ⟨hL, ⟨T, hb, t1, t2, hx⟩, htx, hki, hlo, hta, hw, nr, np, hru, hpl, hte, him⟩ := id hR
  have hL1 : Lay 0 62 M := hL.sub (by omega) (by omega)
  have hL2 : Lay 62 98 M := hL.sub (by omega) (by omega)
  -- the reference's refusals
  have mno : ¬ ((0 ≤ a ∧ a < 3) ∧ (0 ≤ b ∧ b < 3)) → AMi D (d + 8) mX12_table [.ref 62, .int a, .int b, .int n] M (fun y M2 => (-1 : Int32) = y ∧ Rall M2) := by
    intro hno
    refine rX12_table D (d + 7) a b n M _ hL2 (c_mSide' hL2 ⟨fun _ => ⟨_, rfl, .refl M, rfl, hR⟩, fun c => c_mSide' hL2 ⟨fun c2 => ?_, fun _ => ⟨_, rfl, .refl M, rfl, hR⟩⟩⟩)
    exact absurd ⟨b2_ne0.mp c, b2_ne0.mp c2⟩ hno
  refine rX11_table D (d + 7) a b n M _ hL1 (c_isSide hL1 ⟨fun c => ⟨_, rfl, .refl M, mno (fun x => b2_eq0.mp c x.1)⟩, fun c => c_isSide hL1 ⟨fun c2 => ?_, fun c2 => ⟨_, rfl, .refl M, mno (fun x => b2_eq0.mp c2 x.2)⟩⟩⟩)
  have hab : (0 ≤ a ∧ a < 3) ∧ (0 ≤ b ∧ b < 3) := ⟨b2_ne0.mp c, b2_ne0.mp c2⟩
  have bad : (n < 0 ∨ ¬ n ≤ (100 : Int32)) → AMi D (d + 8) mX12_table [.ref 62, .int a, .int b, .int n] M (fun y M2 => (-2 : Int32) = y ∧ Rall M2) := by
    intro hno
    refine rX12_table D (d + 7) a b n M _ hL2 (c_mSide' hL2 ?_)
    rw [b2_t hab.1]
    refine ⟨fun c => absurd c (by decide), fun _ => c_mSide' hL2 ?_⟩
    rw [b2_t hab.2]
    refine ⟨fun _ => c_in hL2 ⟨fun c3 => ?_, fun _ => ⟨_, rfl, .refl M, rfl, hR⟩⟩, fun c => absurd c (by decide)⟩
    have c3 := b2_ne0.mp c3
    exfalso
    simp only [ilt, ile, Int32.reduceToInt] at c3 hno
    omega
  refine ⟨fun c3 => ⟨_, rfl, .refl M, bad (Or.inl c3)⟩, fun c3 => ⟨fun c4 => ?_, fun c4 => ⟨_, rfl, .refl M, bad (Or.inr c4)⟩⟩⟩
  obtain ⟨i, hi, rfl⟩ := sd hab.1
  obtain ⟨j, hj, rfl⟩ := sd hab.2
  have bn := ibd n
  have e := J_of n
  generalize n.toInt = z at *
  subst e
  simp (disch := omega) only [J_lit, J_add, J_sub, J_mul, J_neg, J_lt, J_le, J_eq, J_nat, J_in, J_div] at c3 c4
  refine ⟨by simp (disch := omega) only [J_lit, J_add, J_sub, J_mul, J_neg, J_lt, J_le, J_eq, J_nat, J_in, J_div]; omega, ?_⟩
  have ei : (J i * (3 : Int32) + J j).toNatClampNeg = 3 * i + j := by simp (disch := omega) only [J_lit, J_add, J_sub, J_mul, J_neg, J_lt, J_le, J_eq, J_nat, J_in, J_div]; omega
  have ei2 : ((3 : Int32) * J i + J j).toNatClampNeg = 3 * i + j := by simp (disch := omega) only [J_lit, J_add, J_sub, J_mul, J_neg, J_lt, J_le, J_eq, J_nat, J_in, J_div]; omega
  rw [ei]
  intro x18 e18 M19 e19
  subst e19
  have hs1 : Sm M (sI M 14 (3 * i + j) (J z)) := (Sm.refl M).i
  refine c_settleMixes (T := va_up T (3 * i + j) z) ((hL1.sub (lo' := 13) (hi' := 25) (by omega) (by omega)).of hs1) t1.up (hb.up (by omega) c4) fun f f' g hf hf' => ?_
  have hs2 : Sm M (rI (rI (rI (sI M 14 (3 * i + j) (J z)) 16 f) 17 f') 18 g) := (Sm.refl M).i.ri.ri.ri
  refine ⟨_, rfl, hs2, ?_⟩
  refine rX12_table D (d + 7) (J i) (J j) (J z) _ _ (hL2.of hs2) (c_mSide' (hL2.of hs2) ?_)
  rw [b2_t hab.1]
  refine ⟨fun c => absurd c (by decide), fun _ => c_mSide' (hL2.of hs2) ?_⟩
  rw [b2_t hab.2]
  refine ⟨fun _ => c_in (hL2.of hs2) ?_, fun c => absurd c (by decide)⟩
  rw [b2_t (by simp (disch := omega) only [J_lit, J_add, J_sub, J_mul, J_neg, J_lt, J_le, J_eq, J_nat, J_in, J_div]; omega)]
  refine ⟨fun _ => ⟨by simp (disch := omega) only [J_lit, J_add, J_sub, J_mul, J_neg, J_lt, J_le, J_eq, J_nat, J_in, J_div]; omega, ?_⟩, fun c => absurd c (by decide)⟩
  rw [ei2]
  intro x23 e23 M24 e24
  subst e24
  have hs3 : Sm M (sI (rI (rI (rI (sI M 14 (3 * i + j) (J z)) 16 f) 17 f') 18 g) 63 (3 * i + j) (J z)) := (Sm.refl M).i.ri.ri.ri.i
  have hfr : ∀ b, b ≠ 14 → b ≠ 16 → b ≠ 17 → b ≠ 18 → b ≠ 63 → gI (sI (rI (rI (rI (sI M 14 (3 * i + j) (J z)) 16 f) 17 f') 18 g) 63 (3 * i + j) (J z)) b = gI M b := fun b q1 q2 q3 q4 q5 => by
    rw [fr_s q5, fr_r q4, fr_r q3, fr_r q2, fr_s q1]
  refine ⟨_, rfl, (Sm.refl _).i, ?_, hL.of hs3, ⟨va_up T (3 * i + j) z, hb.up (by omega) c4, t1.up, t2.up, ⟨hf, hf'⟩⟩, htx, hki, hlo, hta, hw, nr, np, hru.fr rfl rfl (fun j hj => hfr _ (by omega) (by omega) (by omega) (by omega) (by omega)) rfl rfl rfl rfl rfl rfl, hpl.fr hs3.x (fun _ => rfl) rfl rfl rfl rfl rfl (fun a ha _ => hfr _ (by omega) (by omega) (by omega) (by omega) (by omega)), hte, him⟩
  rw [e18, e23]
  exact (t1 _ (by omega)).trans (t2 _ (by omega)).symm
end
