/-! calls, one after the other: both answer alike and the relation stays -/
def Ki (D : GD) (d : Nat) (u u' : MD) (vs : List Value) (M : Mm) : Prop := AMi D d u (.ref 0 :: vs) M (fun x M1 => AMi D d u' (.ref 62 :: vs) M1 (fun y M2 => x = y ∧ Rall M2))
theorem sd {a : Int32} (h : 0 ≤ a ∧ a < 3) : ∃ i : Nat, i < 3 ∧ a = J i := by
  obtain ⟨h1, h2⟩ := h
  rw [J_of a] at h1 h2 ⊢
  have := ibd a
  simp (disch := omega) only [J_lit, J_add, J_sub, J_mul, J_neg, J_lt, J_le, J_eq, J_nat, J_in, J_div] at h1 h2
  exact ⟨a.toInt.toNat, by omega, by congr 1; omega⟩
theorem sd2 (a : Int32) : (0 ≤ a ∧ a ≤ 2) ↔ (0 ≤ a ∧ a < 3) := by
  simp only [ilt, ile, Int32.reduceToInt]
  omega
theorem c_mSide' {D : GD} {d : Nat} {x : Int32} {M : Mm} {P : Int32 → Mm → Prop} (hL : Lay 62 98 M) (h : P (b2 (0 ≤ x ∧ x < 3)) M) : AMi D (d + 1) mX12_isSide [.ref 62, .int x] M P := by
  refine c_mSide hL ?_
  have e : b2 (0 ≤ x ∧ x ≤ 2) = b2 (0 ≤ x ∧ x < 3) := by
    unfold b2
    simp only [sd2]
  rw [e]
  exact h
def toldF (T : Nat → Int) (a b : Int32) : Int32 := if (0 ≤ a ∧ a < 3) ∧ (0 ≤ b ∧ b < 3) then J (T (a.toNatClampNeg * 3 + b.toNatClampNeg)) else -1
section
variable {D : GD} {d : Nat} {M : Mm}
theorem c_told {T : Nat → Int} {a b : Int32} {P : Int32 → Mm → Prop} (hL : Lay 0 62 M) (hT : Ro M 14 9 T) (h : P (toldF T a b) M) : AMi D (d + 1) mX11_told [.ref 0, .int a, .int b] M P := by
  unfold toldF at h
  refine rX11_told D d a b M _ hL (c_isSide hL ⟨fun c => iret (.refl M) ?_, fun c => c_isSide hL ⟨fun c2 => ?_, fun c2 => iret (.refl M) ?_⟩⟩)
  · rwa [if_neg (fun x => b2_eq0.mp c x.1)] at h
  · rw [if_pos ⟨b2_ne0.mp c, b2_ne0.mp c2⟩] at h
    obtain ⟨i, hi, rfl⟩ := sd (b2_ne0.mp c)
    obtain ⟨j, hj, rfl⟩ := sd (b2_ne0.mp c2)
    refine ⟨by simp (disch := omega) only [J_lit, J_add, J_sub, J_mul, J_neg, J_lt, J_le, J_eq, J_nat, J_in, J_div]; omega, iret (.refl M) ?_⟩
    have e : (J i * (3 : Int32) + J j).toNatClampNeg = (J i).toNatClampNeg * 3 + (J j).toNatClampNeg := by simp (disch := omega) only [J_lit, J_add, J_sub, J_mul, J_neg, J_lt, J_le, J_eq, J_nat, J_in, J_div]; omega
    rw [e, hT _ (by simp (disch := omega) only [J_lit, J_add, J_sub, J_mul, J_neg, J_lt, J_le, J_eq, J_nat, J_in, J_div]; omega)]
    exact h
  · rwa [if_neg (fun x => b2_eq0.mp c2 x.2)] at h
theorem c_mTold {T : Nat → Int} {a b : Int32} {P : Int32 → Mm → Prop} (hL : Lay 62 98 M) (hT : Ro M 63 9 T) (h : P (toldF T a b) M) : AMi D (d + 2) mX12_told [.ref 62, .int a, .int b] M P := by
  unfold toldF at h
  refine rX12_told D (d + 1) a b M _ hL (c_mSide' hL ⟨fun c => iret (.refl M) ?_, fun c => c_mSide' hL ⟨fun c2 => iret (.refl M) ?_, fun c2 => ?_⟩⟩)
  · rwa [if_neg (fun x => b2_eq0.mp c x.1)] at h
  · rwa [if_neg (fun x => b2_eq0.mp c2 x.2)] at h
  · rw [if_pos ⟨b2_ne0.mp c, b2_ne0.mp c2⟩] at h
    obtain ⟨i, hi, rfl⟩ := sd (b2_ne0.mp c)
    obtain ⟨j, hj, rfl⟩ := sd (b2_ne0.mp c2)
    refine ⟨by simp (disch := omega) only [J_lit, J_add, J_sub, J_mul, J_neg, J_lt, J_le, J_eq, J_nat, J_in, J_div]; omega, iret (.refl M) ?_⟩
    have e : ((3 : Int32) * J i + J j).toNatClampNeg = (J i).toNatClampNeg * 3 + (J j).toNatClampNeg := by simp (disch := omega) only [J_lit, J_add, J_sub, J_mul, J_neg, J_lt, J_le, J_eq, J_nat, J_in, J_div]; omega
    rw [e, hT _ (by simp (disch := omega) only [J_lit, J_add, J_sub, J_mul, J_neg, J_lt, J_le, J_eq, J_nat, J_in, J_div]; omega)]
    exact h
theorem k_told {a b : Int32} (hR : Rall M) : Ki D (d + 8) mX11_told mX12_told [.int a, .int b] M := by
  obtain ⟨hL, ⟨T, hb, h1, h2, hx⟩, hr⟩ := id hR
  exact c_told (hL.sub (by omega) (by omega)) h1 (c_mTold (hL.sub (by omega) (by omega)) h2 ⟨rfl, hR⟩)
theorem k_clear (hR : Rall M) : Ki D (d + 8) mX11_clear mX12_clear [] M := by
  obtain ⟨hL, htb, htx, ⟨n, hn, e1, e2, hq⟩, hlo, hta, hw, nr, np, hru, hpl, hte, him⟩ := hR
  refine rX11_clear D (d + 8) M _ (hL.sub (by omega) (by omega)) (fun x1 ex M2 eM => ?_)
  subst eM
  refine ⟨_, rfl, (Sm.refl M).i, ?_⟩
  refine rX12_clear D (d + 8) _ _ (Lay.of (Sm.refl M).i (hL.sub (by omega) (by omega))) (fun y1 ey M3 eM => ?_)
  subst eM
  refine ⟨_, rfl, (Sm.refl _).i, ?_⟩
  have hs : Sm M (sI (sI M 25 2 0) 62 32 0) := (Sm.refl M).i.i
  refine ⟨?_, hL.of hs, htb, htx, ⟨0, by omega, rfl, rfl, fun k hk => absurd hk (Nat.not_lt_zero k)⟩, hlo, hta, hw, nr, np, hru.fr rfl rfl (fun j hj => by rw [fr_s (by omega), fr_s (by omega)]) rfl rfl rfl rfl rfl rfl, hpl.fr hs.x (fun _ => rfl) rfl rfl rfl rfl rfl (fun a ha _ => by rw [fr_s (by omega), fr_s (by omega)]), hte, him⟩
  · rw [ex, ey, e1]
    exact e2.symm
end
