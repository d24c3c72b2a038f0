/-! item, kick -/
section
variable {D : GD} {d : Nat} {M : Mm}
theorem fr_l {M : Mm} {a b k : Nat} {x : Int64} (h : b ≠ a) : gL (sL M a k x) b = gL M b := va_up_ne _ _ h
theorem fr_l0 {M : Mm} {a k : Nat} {x : Int64} : gL (sL M a k x) a = va_up (gL M a) k x := va_up_self _ _ _
theorem k_item {a b : Int32} {x : Int64} (hR : Rall M) : Ki D (d + 8) mX11_item mX12_item [.int a, .int b, .long x] M := by
  obtain ⟨hL, htb, htx, hki, hlo, hta, hw, nr, np, hru, hpl, hte, him⟩ := id hR
  have hL1 : Lay 0 62 M := hL.sub (by omega) (by omega)
  have hL2 : Lay 62 98 M := hL.sub (by omega) (by omega)
  by_cases ht : 0 ≤ a ∧ a < 6
  · have hb := b2_t ht
    obtain ⟨i, hi, rfl⟩ := td ht
    obtain ⟨s, n, s1, s2, hn, e1, e2, e3, e4, h0, hit⟩ := id (hta i hi)
    have ei : (J (i : Int)).toNatClampNeg = i := by simp (disch := omega) only [J_lit, J_add, J_sub, J_mul, J_neg, J_lt, J_le, J_eq, J_nat, J_in, J_div]; omega
    have bb := ibd b
    have e := J_of b
    generalize b.toInt = z at *
    subst e
    have mno : 0 ≤ s → ¬ (0 ≤ z ∧ z < n) → AMi D (d + 8) mX12_item [.ref 62, .int (J i), .int (J z), .long x] M (fun y M2 => (-13 : Int32) = y ∧ Rall M2) := by
      intro hs hno
      refine rX12_item D (d + 7) _ _ _ M _ hL2 (c_mTape hL2 ?_)
      rw [hb]
      refine ⟨fun _ => ⟨by simp (disch := omega) only [J_lit, J_add, J_sub, J_mul, J_neg, J_lt, J_le, J_eq, J_nat, J_in, J_div]; omega, fun c => c_in hL2 ⟨fun c2 => ?_, fun _ => ⟨_, rfl, .refl M, rfl, hR⟩⟩, fun c => ?_⟩, fun c => absurd c (by decide)⟩
      · have c2 := b2_ne0.mp c2
        rw [ei, e4] at c2
        exfalso
        simp (disch := omega) only [J_lit, J_add, J_sub, J_mul, J_neg, J_lt, J_le, J_eq, J_nat, J_in, J_div] at c2
        omega
      · rw [ei, e2] at c
        exfalso
        simp (disch := omega) only [J_lit, J_add, J_sub, J_mul, J_neg, J_lt, J_le, J_eq, J_nat, J_in, J_div] at c
        omega
    refine rX11_item D (d + 7) _ _ _ M _ hL1 (c_isTape hL1 ?_)
    rw [hb]
    refine ⟨fun _ => ⟨by simp (disch := omega) only [J_lit, J_add, J_sub, J_mul, J_neg, J_lt, J_le, J_eq, J_nat, J_in, J_div]; omega, fun c => ?_, fun c => ⟨_, rfl, .refl M, ?_⟩⟩, fun c => absurd c (by decide)⟩
    · rw [ei, e1] at c
      simp (disch := omega) only [J_lit, J_add, J_sub, J_mul, J_neg, J_lt, J_le, J_eq, J_nat, J_in, J_div] at c
      have hs : 0 ≤ s := by omega
      refine ⟨fun c2 => ⟨_, rfl, .refl M, mno hs ?_⟩, fun c2 => ⟨fun c3 => ?_, fun c3 => ⟨_, rfl, .refl M, mno hs ?_⟩⟩⟩
      · simp (disch := omega) only [J_lit, J_add, J_sub, J_mul, J_neg, J_lt, J_le, J_eq, J_nat, J_in, J_div] at c2
        omega
      · rw [ei, e3] at c3
        simp (disch := omega) only [J_lit, J_add, J_sub, J_mul, J_neg, J_lt, J_le, J_eq, J_nat, J_in, J_div] at c2 c3
        rw [ei, e1]
        refine c_low hL1 ⟨by simp (disch := omega) only [J_lit, J_add, J_sub, J_mul, J_neg, J_lt, J_le, J_eq, J_nat, J_in, J_div]; omega, fun M19 e19 => ?_⟩
        have ez : (J z).toNatClampNeg = z.toNat := by simp (disch := omega) only [J_lit, J_add, J_sub, J_mul, J_neg, J_lt, J_le, J_eq, J_nat, J_in, J_div]
        have ew : ((60 : Int32) * J i + J z).toNatClampNeg = 60 * i + z.toNat := by simp (disch := omega) only [J_lit, J_add, J_sub, J_mul, J_neg, J_lt, J_le, J_eq, J_nat, J_in, J_div]; omega
        rw [ez] at e19
        subst e19
        have hs1 : Sm M (sL M (56 + i) z.toNat (nrw (J s) x)) := (Sm.refl M).l
        refine ⟨_, rfl, hs1, ?_⟩
        refine rX12_item D (d + 7) _ _ _ _ _ (hL2.of hs1) (c_mTape (hL2.of hs1) ?_)
        rw [hb]
        refine ⟨fun _ => ⟨by simp (disch := omega) only [J_lit, J_add, J_sub, J_mul, J_neg, J_lt, J_le, J_eq, J_nat, J_in, J_div]; omega, fun c4 => c_in (hL2.of hs1) ?_, fun c4 => ?_⟩, fun c => absurd c (by decide)⟩
        · have e4' : gI (sL M (56 + i) z.toNat (nrw (J s) x)) 95 i = J n := e4
          have e2' : gI (sL M (56 + i) z.toNat (nrw (J s) x)) 94 i = J s := e2
          rw [ei, e4', b2_t (by simp (disch := omega) only [J_lit, J_add, J_sub, J_mul, J_neg, J_lt, J_le, J_eq, J_nat, J_in, J_div]; omega), e2']
          refine ⟨fun _ => c_narrow (hL2.of hs1) ⟨by simp (disch := omega) only [J_lit, J_add, J_sub, J_mul, J_neg, J_lt, J_le, J_eq, J_nat, J_in, J_div]; omega, fun M24 e24 => ?_⟩, fun c => absurd c (by decide)⟩
          rw [ew] at e24
          subst e24
          have hs2 : Sm M (sL (sL M (56 + i) z.toNat (nrw (J s) x)) 96 (60 * i + z.toNat) (nrw (J s) x)) := (Sm.refl M).l.l
          refine ⟨_, rfl, (Sm.refl _).l, rfl, hL.of hs2, htb, htx, hki, hlo, ?_, hw, nr, np, hru, hpl.fr hs2.x (fun _ => rfl) rfl rfl rfl rfl rfl (fun _ _ _ => rfl), hte, him⟩
          intro t ht6
          obtain ⟨s', n', s1', s2', hn', e1', e2', e3', e4', h0', hit'⟩ := hta t ht6
          refine ⟨s', n', s1', s2', hn', e1', e2', e3', e4', h0', fun hs' k hk => ?_⟩
          rw [fr_l0]
          by_cases hti : t = i
          · subst hti
            rw [fr_l (by omega), fr_l0]
            by_cases hkz : k = z.toNat
            · subst hkz
              rw [va_up_self, va_up_self]
            · rw [va_up_ne _ _ hkz, va_up_ne _ _ (by omega), fr_l (by omega)]
              exact hit' hs' k hk
          · rw [fr_l (by omega), fr_l (by omega), va_up_ne _ _ (by omega), fr_l (by omega)]
            exact hit' hs' k hk
        · have e2' : gI (sL M (56 + i) z.toNat (nrw (J s) x)) 94 i = J s := e2
          rw [ei, e2'] at c4
          exfalso
          simp (disch := omega) only [J_lit, J_add, J_sub, J_mul, J_neg, J_lt, J_le, J_eq, J_nat, J_in, J_div] at c4
          omega
      · rw [ei, e3] at c3
        simp (disch := omega) only [J_lit, J_add, J_sub, J_mul, J_neg, J_lt, J_le, J_eq, J_nat, J_in, J_div] at c3
        omega
    · rw [ei, e1] at c
      simp (disch := omega) only [J_lit, J_add, J_sub, J_mul, J_neg, J_lt, J_le, J_eq, J_nat, J_in, J_div] at c
      refine rX12_item D (d + 7) _ _ _ M _ hL2 (c_mTape hL2 ?_)
      rw [hb]
      refine ⟨fun _ => ⟨by simp (disch := omega) only [J_lit, J_add, J_sub, J_mul, J_neg, J_lt, J_le, J_eq, J_nat, J_in, J_div]; omega, fun c2 => ?_, fun _ => ⟨_, rfl, .refl M, rfl, hR⟩⟩, fun c => absurd c (by decide)⟩
      rw [ei, e2] at c2
      exfalso
      simp (disch := omega) only [J_lit, J_add, J_sub, J_mul, J_neg, J_lt, J_le, J_eq, J_nat, J_in, J_div] at c2
      omega
  · have hb := b2_f ht
    refine rX11_item D (d + 7) _ _ _ M _ hL1 (c_isTape hL1 ?_)
    rw [hb]
    refine ⟨fun c => absurd rfl c, fun _ => ⟨_, rfl, .refl M, ?_⟩⟩
    refine rX12_item D (d + 7) _ _ _ M _ hL2 (c_mTape hL2 ?_)
    rw [hb]
    exact ⟨fun c => absurd rfl c, fun _ => ⟨_, rfl, .refl M, rfl, hR⟩⟩
end
