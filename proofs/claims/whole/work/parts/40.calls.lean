/-! read, item -/
def Kl (D : GD) (d : Nat) (u u' : MD) (vs : List Value) (M : Mm) : Prop := AMl D d u (.ref 0 :: vs) M (fun x M1 => AMl D d u' (.ref 62 :: vs) M1 (fun y M2 => x = y ∧ Rall M2))
theorem td {a : Int32} (h : 0 ≤ a ∧ a < 6) : ∃ i : Nat, i < 6 ∧ a = J i := by
  obtain ⟨h1, h2⟩ := h
  rw [J_of a] at h1 h2 ⊢
  have := ibd a
  simp (disch := omega) only [J_lit, J_add, J_sub, J_mul, J_neg, J_lt, J_le, J_eq, J_nat, J_in, J_div] at h1 h2
  exact ⟨a.toInt.toNat, by omega, by congr 1; omega⟩
section
variable {D : GD} {d : Nat} {M : Mm}
theorem c_isTape {x : Int32} {P : Int32 → Mm → Prop} (hL : Lay 0 62 M) (h : P (b2 (0 ≤ x ∧ x < 6)) M) : AMi D d mX11_isTape [.int x] M P := by
  refine rX11_isTape D d x M _ hL ⟨fun c => ⟨_, rfl, .refl M, ?_⟩, fun c => ⟨fun c2 => ⟨_, rfl, .refl M, ?_⟩, fun c2 => ⟨_, rfl, .refl M, ?_⟩⟩⟩
  · rwa [b2_f (by simp only [ilt, ile, Int32.reduceToInt] at *; omega)] at h
  · rwa [b2_f (by simp only [ilt, ile, Int32.reduceToInt] at *; omega)] at h
  · rwa [b2_t (by simp only [ilt, ile, Int32.reduceToInt] at *; omega)] at h
theorem c_mTape {x : Int32} {P : Int32 → Mm → Prop} (hL : Lay 62 98 M) (h : P (b2 (0 ≤ x ∧ x < 6)) M) : AMi D (d + 1) mX12_isTape [.ref 62, .int x] M P := by
  refine rX12_isTape D d x M _ hL (c_in hL ⟨b2_01 _, _, rfl, .refl M, ?_⟩)
  have e : b2 (0 ≤ x ∧ x ≤ 5) = b2 (0 ≤ x ∧ x < 6) := by
    have q : (0 ≤ x ∧ x ≤ 5) ↔ (0 ≤ x ∧ x < 6) := by
      simp only [ilt, ile, Int32.reduceToInt]
      omega
    unfold b2
    simp only [q]
  rw [e]
  exact h
theorem k_read {a b : Int32} (hR : Rall M) : Kl D (d + 8) mX11_read mX12_read [.int a, .int b] M := by
  obtain ⟨hL, htb, htx, hki, hlo, hta, hw, nr, np, hru, hpl, hte, him⟩ := id hR
  have hL1 : Lay 0 62 M := hL.sub (by omega) (by omega)
  have hL2 : Lay 62 98 M := hL.sub (by omega) (by omega)
  by_cases ht : 0 ≤ a ∧ a < 6
  · have hb := b2_t ht
    obtain ⟨i, hi, rfl⟩ := td ht
    obtain ⟨s, n, s1, s2, hn, e1, e2, e3, e4, h0, hit⟩ := hta i hi
    have ei : (J (i : Int)).toNatClampNeg = i := by simp (disch := omega) only [J_lit, J_add, J_sub, J_mul, J_neg, J_lt, J_le, J_eq, J_nat, J_in, J_div]; omega
    have bb := ibd b
    have e := J_of b
    generalize b.toInt = z at *
    subst e
    have mno : ¬ (0 ≤ z ∧ z < n) → AMl D (d + 8) mX12_read [.ref 62, .int (J i), .int (J z)] M (fun y M2 => (-9223372036854775808 : Int64) = y ∧ Rall M2) := by
      intro hno
      refine rX12_read D (d + 7) _ _ M _ hL2 (c_mTape hL2 ?_)
      rw [hb]
      refine ⟨fun c => absurd c (by decide), fun _ => ⟨by simp (disch := omega) only [J_lit, J_add, J_sub, J_mul, J_neg, J_lt, J_le, J_eq, J_nat, J_in, J_div]; omega, fun _ => ⟨_, rfl, .refl M, rfl, hR⟩, fun c => c_in hL2 ⟨fun c2 => ?_, fun _ => ⟨_, rfl, .refl M, rfl, hR⟩⟩⟩⟩
      have c2 := b2_ne0.mp c2
      rw [ei, e4] at c2
      exfalso
      simp (disch := omega) only [J_lit, J_add, J_sub, J_mul, J_neg, J_lt, J_le, J_eq, J_nat, J_in, J_div] at c2
      omega
    refine rX11_read D (d + 7) _ _ M _ hL1 (c_isTape hL1 ?_)
    rw [hb]
    refine ⟨fun c => absurd c (by decide), fun _ => ⟨fun c2 => ⟨_, rfl, .refl M, mno ?_⟩, fun c2 => ⟨by simp (disch := omega) only [J_lit, J_add, J_sub, J_mul, J_neg, J_lt, J_le, J_eq, J_nat, J_in, J_div]; omega, fun c3 => ?_, fun c3 => ⟨_, rfl, .refl M, mno ?_⟩⟩⟩⟩
    · simp (disch := omega) only [J_lit, J_add, J_sub, J_mul, J_neg, J_lt, J_le, J_eq, J_nat, J_in, J_div] at c2
      omega
    · rw [ei, e3] at c3
      simp (disch := omega) only [J_lit, J_add, J_sub, J_mul, J_neg, J_lt, J_le, J_eq, J_nat, J_in, J_div] at c2 c3
      refine ⟨by simp (disch := omega) only [J_lit, J_add, J_sub, J_mul, J_neg, J_lt, J_le, J_eq, J_nat, J_in, J_div]; omega, _, rfl, .refl M, ?_⟩
      have hs : 0 ≤ s := by omega
      refine rX12_read D (d + 7) _ _ M _ hL2 (c_mTape hL2 ?_)
      rw [hb]
      refine ⟨fun c => absurd c (by decide), fun _ => ⟨by simp (disch := omega) only [J_lit, J_add, J_sub, J_mul, J_neg, J_lt, J_le, J_eq, J_nat, J_in, J_div]; omega, fun c4 => ?_, fun c4 => c_in hL2 ?_⟩⟩
      · rw [ei, e2] at c4
        exfalso
        simp (disch := omega) only [J_lit, J_add, J_sub, J_mul, J_neg, J_lt, J_le, J_eq, J_nat, J_in, J_div] at c4
        omega
      · rw [ei, e4, b2_t (by simp (disch := omega) only [J_lit, J_add, J_sub, J_mul, J_neg, J_lt, J_le, J_eq, J_nat, J_in, J_div]; omega)]
        refine ⟨fun _ => ⟨by simp (disch := omega) only [J_lit, J_add, J_sub, J_mul, J_neg, J_lt, J_le, J_eq, J_nat, J_in, J_div]; omega, _, rfl, .refl M, ?_, hR⟩, fun c => absurd c (by decide)⟩
        have ez : (J z).toNatClampNeg = z.toNat := by simp (disch := omega) only [J_lit, J_add, J_sub, J_mul, J_neg, J_lt, J_le, J_eq, J_nat, J_in, J_div]
        have ew : ((60 : Int32) * J i + J z).toNatClampNeg = 60 * i + z.toNat := by simp (disch := omega) only [J_lit, J_add, J_sub, J_mul, J_neg, J_lt, J_le, J_eq, J_nat, J_in, J_div]; omega
        rw [ez, ew]
        exact hit hs _ (by omega)
    · rw [ei, e3] at c3
      simp (disch := omega) only [J_lit, J_add, J_sub, J_mul, J_neg, J_lt, J_le, J_eq, J_nat, J_in, J_div] at c3
      omega
  · have hb := b2_f ht
    refine rX11_read D (d + 7) _ _ M _ hL1 (c_isTape hL1 ?_)
    rw [hb]
    refine ⟨fun _ => ⟨_, rfl, .refl M, ?_⟩, fun c => absurd rfl c⟩
    refine rX12_read D (d + 7) _ _ M _ hL2 (c_mTape hL2 ?_)
    rw [hb]
    exact ⟨fun _ => ⟨_, rfl, .refl M, rfl, hR⟩, fun c => absurd rfl c⟩
def nrw (s : Int32) (x : Int64) : Int64 := if s = 0 then x.toInt32.toInt8.toInt32.toInt64 else if s = 1 then x.toInt32.toInt16.toInt32.toInt64 else if s = 2 then x.toInt32.toInt64 else if s = 4 then (if lg_cmp x 0 = 0 then 0 else 1) else x
theorem c_low {s : Int32} {x : Int64} {P : Int64 → Mm → Prop} (hL : Lay 0 62 M) (h : P (nrw s x) M) : AMl D d mX11_lowestBits [.int s, .long x] M P := by
  unfold nrw at h
  refine rX11_lowestBits D d s x M _ hL ⟨fun c => ⟨_, rfl, .refl M, ?_⟩, fun c => ⟨_, rfl, .refl M, ?_⟩, fun c => ⟨_, rfl, .refl M, ?_⟩, fun c => ⟨_, rfl, .refl M, ?_⟩, fun c => ⟨fun c2 => ⟨_, rfl, .refl M, ?_⟩, fun c2 => ⟨_, rfl, .refl M, ?_⟩⟩, fun c0 c1 c2 c3 c4 => ⟨_, rfl, .refl M, ?_⟩⟩
  · subst c; exact h
  · subst c; exact h
  · subst c; exact h
  · subst c; exact h
  · subst c
    have h : P (if lg_cmp x 0 = 0 then 0 else 1) M := h
    rwa [if_pos c2] at h
  · subst c
    have h : P (if lg_cmp x 0 = 0 then 0 else 1) M := h
    rwa [if_neg c2] at h
  · rwa [if_neg c0, if_neg c1, if_neg c2, if_neg c4] at h
theorem c_narrow {s : Int32} {x : Int64} {P : Int64 → Mm → Prop} (hL : Lay 62 98 M) (h : P (nrw s x) M) : AMl D d mX12_narrow [.ref 62, .int s, .long x] M P := by
  unfold nrw at h
  refine rX12_narrow D d s x M _ hL ⟨fun c0 => ⟨fun c1 => ⟨fun c2 => ⟨fun c4 => ⟨_, rfl, .refl M, ?_⟩, fun c4 => ⟨fun c5 => ⟨_, rfl, .refl M, ?_⟩, fun c5 => ⟨_, rfl, .refl M, ?_⟩⟩⟩, fun c2 => ⟨_, rfl, .refl M, ?_⟩⟩, fun c1 => ⟨_, rfl, .refl M, ?_⟩⟩, fun c0 => ⟨_, rfl, .refl M, ?_⟩⟩
  · rwa [if_neg c0, if_neg c1, if_neg c2, if_neg c4] at h
  · rwa [if_neg c0, if_neg c1, if_neg c2, if_pos c4, if_pos c5] at h
  · rwa [if_neg c0, if_neg c1, if_neg c2, if_pos c4, if_neg c5] at h
  · rwa [if_neg c0, if_neg c1, if_pos c2] at h
  · rwa [if_neg c0, if_pos c1] at h
  · rwa [if_pos c0] at h
end
