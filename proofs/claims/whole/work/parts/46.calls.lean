/-! kick -/
section
variable {D : GD} {d : Nat} {M : Mm}
def gl (c : Int32) : Int32 := if c = 0 then 0 else 1
theorem c_addKick {n : Nat} {a c : Int32} {P : Mm → Prop} (hL : Lay 25 29 M) (hn : n < 30) (e : gI M 25 2 = J n) (h : P (sI (sI (sI M 26 n a) 27 n (gl c)) 25 2 (J ((n + 1 : Nat) : Int)))) : AMv D d mX1_addKick [.ref 25, .int a, .int c] M P := by
  have en : (J (n : Int)).toNatClampNeg = n := by simp (disch := omega) only [J_lit, J_add, J_sub, J_mul, J_neg, J_lt, J_le, J_eq, J_nat, J_in, J_div]; omega
  have e1 : (J n : Int32) + (1 : Int32) = J ((n + 1 : Nat) : Int) := by simp (disch := omega) only [J_lit, J_add, J_sub, J_mul, J_neg, J_lt, J_le, J_eq, J_nat, J_in, J_div]; congr 1
  unfold gl at h
  refine rX1_addKick D d a c M _ hL ⟨fun q => ?_, fun q => ⟨?_, fun M3 e3 => ?_⟩⟩
  · rw [e] at q
    exfalso
    simp (disch := omega) only [J_lit, J_add, J_sub, J_mul, J_neg, J_lt, J_le, J_eq, J_nat, J_in, J_div] at q
    omega
  · rw [e]
    simp (disch := omega) only [J_lit, J_add, J_sub, J_mul, J_neg, J_lt, J_le, J_eq, J_nat, J_in, J_div]
    omega
  · rw [e, en] at e3
    subst e3
    have q1 : gI (sI M 26 n a) 25 2 = J n := e
    have q2 : ∀ x, gI (sI (sI M 26 n a) 27 n x) 25 2 = J n := fun _ => e
    rw [q1, en]
    refine ⟨fun c0 => ⟨by simp (disch := omega) only [J_lit, J_add, J_sub, J_mul, J_neg, J_lt, J_le, J_eq, J_nat, J_in, J_div]; omega, fun M9 e9 M13 e13 => ?_⟩, fun c0 => ⟨by simp (disch := omega) only [J_lit, J_add, J_sub, J_mul, J_neg, J_lt, J_le, J_eq, J_nat, J_in, J_div]; omega, fun M9 e9 M13 e13 => ?_⟩⟩
    · rw [if_pos c0] at h
      subst e9
      rw [q2, e1] at e13
      subst e13
      exact ⟨rfl, (Sm.refl M).i.i.i, h⟩
    · rw [if_neg c0] at h
      subst e9
      rw [q2, e1] at e13
      subst e13
      exact ⟨rfl, (Sm.refl M).i.i.i, h⟩
theorem k_kick {a b c : Int32} (hR : Rall M) : Ki D (d + 8) mX11_kick mX12_kick [.int a, .int b, .int c] M := by
  obtain ⟨hL, htb, htx, ⟨n, hn, e1, e2, hq⟩, hlo, hta, hw, nr, np, hru, hpl, hte, him⟩ := id hR
  have hL1 : Lay 0 62 M := hL.sub (by omega) (by omega)
  have hL2 : Lay 62 98 M := hL.sub (by omega) (by omega)
  have mno : ¬ ((0 ≤ a ∧ a < 3) ∧ (0 ≤ b ∧ b < 3)) → AMi D (d + 8) mX12_kick [.ref 62, .int a, .int b, .int c] M (fun y M2 => (-1 : Int32) = y ∧ Rall M2) := by
    intro hno
    refine rX12_kick D (d + 7) a b c M _ hL2 (c_mSide' hL2 ⟨fun _ => ⟨_, rfl, .refl M, rfl, hR⟩, fun q => c_mSide' hL2 ⟨fun q2 => ?_, fun _ => ⟨_, rfl, .refl M, rfl, hR⟩⟩⟩)
    exact absurd ⟨b2_ne0.mp q, b2_ne0.mp q2⟩ hno
  refine rX11_kick D (d + 7) a b c M _ hL1 (c_isSide hL1 ⟨fun q => ⟨_, rfl, .refl M, mno (fun x => b2_eq0.mp q x.1)⟩, fun q => c_isSide hL1 ⟨fun q2 => ?_, fun q2 => ⟨_, rfl, .refl M, mno (fun x => b2_eq0.mp q2 x.2)⟩⟩⟩)
  have hab : (0 ≤ a ∧ a < 3) ∧ (0 ≤ b ∧ b < 3) := ⟨b2_ne0.mp q, b2_ne0.mp q2⟩
  have en : (J (n : Int)).toNatClampNeg = n := by simp (disch := omega) only [J_lit, J_add, J_sub, J_mul, J_neg, J_lt, J_le, J_eq, J_nat, J_in, J_div]; omega
  have en1 : (J n : Int32) + (1 : Int32) = J ((n + 1 : Nat) : Int) := by simp (disch := omega) only [J_lit, J_add, J_sub, J_mul, J_neg, J_lt, J_le, J_eq, J_nat, J_in, J_div]; congr 1
  rw [e1]
  refine ⟨fun c3 => ?_, fun c3 => ⟨_, rfl, .refl M, ?_⟩⟩
  · simp (disch := omega) only [J_lit, J_add, J_sub, J_mul, J_neg, J_lt, J_le, J_eq, J_nat, J_in, J_div] at c3
    refine c_addKick (hL.sub (by omega) (by omega)) (by omega) e1 ?_
    obtain ⟨M1, hM1⟩ : ∃ M1, M1 = sI (sI (sI M 26 n a) 27 n (gl c)) 25 2 (J ((n + 1 : Nat) : Int)) := ⟨_, rfl⟩
    rw [← hM1]
    have hs1 : Sm M M1 := hM1 ▸ (Sm.refl M).i.i.i
    have f1 : gI M1 25 2 = J ((n + 1 : Nat) : Int) := by rw [hM1]; rfl
    have f2 : gI M1 62 32 = J n := by rw [hM1]; exact e2
    rw [f1]
    refine ⟨_, rfl, hs1, ?_⟩
    refine rX12_kick D (d + 7) a b c M1 _ (hL2.of hs1) (c_mSide' (hL2.of hs1) ?_)
    rw [b2_t hab.1]
    refine ⟨fun q => absurd q (by decide), fun _ => c_mSide' (hL2.of hs1) ?_⟩
    rw [b2_t hab.2]
    refine ⟨fun _ => ⟨fun _ => ⟨?_, fun M17 e17 => ⟨?_, fun M22 e22 => ?_⟩⟩, fun q => ?_⟩, fun q => absurd q (by decide)⟩
    · rw [f2]
      simp (disch := omega) only [J_lit, J_add, J_sub, J_mul, J_neg, J_lt, J_le, J_eq, J_nat, J_in, J_div]
      omega
    · have : gI M17 62 32 = J n := by rw [e17]; exact f2
      rw [this]
      simp (disch := omega) only [J_lit, J_add, J_sub, J_mul, J_neg, J_lt, J_le, J_eq, J_nat, J_in, J_div]
      omega
    · rw [f2, en] at e17
      have g17 : gI M17 62 32 = J n := by rw [e17]; exact f2
      rw [g17, en] at e22
      have g22 : gI M22 62 32 = J n := by rw [e22]; exact g17
      have fin : ∀ M28 : Mm, M28 = sI M22 81 n (gl c) → ∀ M32 : Mm, M32 = sI M28 62 32 ((gI M28 62 32) + (1 : Int32)) → ∃ y, some (Value.int (gI M32 62 32)) = some (.int y) ∧ Sm M1 M32 ∧ J ((n + 1 : Nat) : Int) = y ∧ Rall M32 := by
        intro M28 e28 M32 e32
        have g28 : gI M28 62 32 = J n := by rw [e28]; exact g22
        rw [g28, en1] at e32
        subst e17 e22 e28 e32
        have hs2 : Sm M (sI (sI (sI (sI M1 79 n a) 80 n b) 81 n (gl c)) 62 32 (J ((n + 1 : Nat) : Int))) := hs1.i.i.i.i
        refine ⟨_, rfl, (Sm.refl M1).i.i.i.i, rfl, ?_⟩
        subst hM1
        have hfr : ∀ x, x ≠ 25 → x ≠ 26 → x ≠ 27 → x ≠ 62 → x ≠ 79 → x ≠ 80 → x ≠ 81 → gI (sI (sI (sI (sI (sI (sI (sI M 26 n a) 27 n (gl c)) 25 2 (J ((n + 1 : Nat) : Int))) 79 n a) 80 n b) 81 n (gl c)) 62 32 (J ((n + 1 : Nat) : Int))) x = gI M x := fun x q1 q2 q3 q4 q5 q6 q7 => by
          rw [fr_s q4, fr_s q7, fr_s q6, fr_s q5, fr_s q1, fr_s q3, fr_s q2]
        refine ⟨hL.of hs2, htb, htx, ⟨n + 1, by omega, rfl, rfl, ?_⟩, hlo, hta, hw, nr, np, hru.fr rfl rfl (fun j hj => hfr _ (by omega) (by omega) (by omega) (by omega) (by omega) (by omega) (by omega)) rfl rfl rfl rfl rfl rfl, hpl.fr hs2.x (fun _ => rfl) rfl rfl rfl rfl rfl (fun x hx _ => hfr _ (by omega) (by omega) (by omega) (by omega) (by omega) (by omega) (by omega)), hte, him⟩
        show Kq (n + 1) (va_up (gI M 26) n a) (va_up (gI M 27) n (gl c)) (va_up (gI M 79) n a) (va_up (gI M 81) n (gl c))
        intro k hk
        by_cases ek : k = n
        · subst ek
          rw [va_up_self, va_up_self, va_up_self, va_up_self]
          obtain ⟨i, hi, ei⟩ := sd hab.1
          refine ⟨⟨i, hi, ei, ei⟩, ?_⟩
          unfold gl
          split
          · exact ⟨0, by omega, rfl, rfl⟩
          · exact ⟨1, by omega, rfl, rfl⟩
        · rw [va_up_ne _ _ ek, va_up_ne _ _ ek, va_up_ne _ _ ek, va_up_ne _ _ ek]
          exact hq k (by omega)
      refine ⟨fun c0 => ⟨by rw [g22]; simp (disch := omega) only [J_lit, J_add, J_sub, J_mul, J_neg, J_lt, J_le, J_eq, J_nat, J_in, J_div]; omega, fun M28 e28 => fin M28 ?_⟩, fun c0 => ⟨by rw [g22]; simp (disch := omega) only [J_lit, J_add, J_sub, J_mul, J_neg, J_lt, J_le, J_eq, J_nat, J_in, J_div]; omega, fun M28 e28 => fin M28 ?_⟩⟩
      · rw [e28, g22, en]
        unfold gl
        rw [if_pos c0]
      · rw [e28, g22, en]
        unfold gl
        rw [if_neg c0]
    · rw [f2] at q
      exfalso
      simp (disch := omega) only [J_lit, J_add, J_sub, J_mul, J_neg, J_lt, J_le, J_eq, J_nat, J_in, J_div] at q
      omega
  · simp (disch := omega) only [J_lit, J_add, J_sub, J_mul, J_neg, J_lt, J_le, J_eq, J_nat, J_in, J_div] at c3
    refine rX12_kick D (d + 7) a b c M _ hL2 (c_mSide' hL2 ?_)
    rw [b2_t hab.1]
    refine ⟨fun q => absurd q (by decide), fun _ => c_mSide' hL2 ?_⟩
    rw [b2_t hab.2]
    refine ⟨fun _ => ⟨fun q => ?_, fun _ => ⟨_, rfl, .refl M, rfl, hR⟩⟩, fun q => absurd q (by decide)⟩
    rw [e2] at q
    exfalso
    simp (disch := omega) only [J_lit, J_add, J_sub, J_mul, J_neg, J_lt, J_le, J_eq, J_nat, J_in, J_div] at q
    omega
end
