/-! count, trace, of, table, kick -/
def cntF (a x0 x1 x2 x3 x4 : Int32) : Int32 := if a = 0 then x0 else if a = 1 then x1 else if a = 2 then x2 else if a = 3 then x3 else if a = 4 then x4 else -2
section
variable {D : GD} {d : Nat} {M : Mm}
theorem c_count {a : Int32} {P : Int32 → Mm → Prop} (hL : Lay 0 62 M) (h : P (cntF a (gI M 0 4) (gI M 0 2) (gI M 25 2) (gI M 1 2) (gI M 46 0)) M) : AMi D d mX11_count [.ref 0, .int a] M P := by
  unfold cntF at h
  refine rX11_count D d a M _ hL ⟨fun c => ⟨_, rfl, .refl M, ?_⟩, fun c => ⟨_, rfl, .refl M, ?_⟩, fun c => ⟨_, rfl, .refl M, ?_⟩, fun c => ⟨_, rfl, .refl M, ?_⟩, fun c => ⟨_, rfl, .refl M, ?_⟩, fun c0 c1 c2 c3 c4 => ⟨_, rfl, .refl M, ?_⟩⟩
  · subst c; exact h
  · subst c; exact h
  · subst c; exact h
  · subst c; exact h
  · subst c; exact h
  · rwa [if_neg c0, if_neg c1, if_neg c2, if_neg c3, if_neg c4] at h
theorem c_mCount {a : Int32} {P : Int32 → Mm → Prop} (hL : Lay 62 98 M) (h : P (cntF a (gI M 62 18) (gI M 62 1) (gI M 62 32) (gI M 62 2) (gI M 62 49)) M) : AMi D d mX12_count [.ref 62, .int a] M P := by
  unfold cntF at h
  refine rX12_count D d a M _ hL ⟨fun c => ⟨_, rfl, .refl M, ?_⟩, fun c => ⟨_, rfl, .refl M, ?_⟩, fun c => ⟨_, rfl, .refl M, ?_⟩, fun c => ⟨_, rfl, .refl M, ?_⟩, fun c => ⟨_, rfl, .refl M, ?_⟩, fun c0 c1 c2 c3 c4 => ⟨_, rfl, .refl M, ?_⟩⟩
  · subst c; exact h
  · subst c; exact h
  · subst c; exact h
  · subst c; exact h
  · subst c; exact h
  · rwa [if_neg c0, if_neg c1, if_neg c2, if_neg c3, if_neg c4] at h
theorem k_count {a : Int32} (hR : Rall M) : Ki D (d + 8) mX11_count mX12_count [.int a] M := by
  obtain ⟨hL, htb, ⟨n1, -, t1, t2, -⟩, ⟨n2, -, k1, k2, -⟩, ⟨n3, -, l1, l2, -⟩, hta, hw, nr, np, ⟨-, r1, r2, -⟩, ⟨-, p1, p2, -⟩, hte, him⟩ := id hR
  refine c_count (hL.sub (by omega) (by omega)) (c_mCount (hL.sub (by omega) (by omega)) ⟨?_, hR⟩)
  rw [t1, t2, k1, k2, l1, l2, r1, r2, p1, p2]
theorem k_trace {a : Int32} (hR : Rall M) : Ki D (d + 8) mX11_trace mX12_trace [.int a] M := by
  obtain ⟨hL, htb, htx, hki, ⟨n, hn, l1, l2, hl⟩, hta, hw, nr, np, hru, hpl, hte, him⟩ := id hR
  have hL1 : Lay 0 62 M := hL.sub (by omega) (by omega)
  have hL2 : Lay 62 98 M := hL.sub (by omega) (by omega)
  have ba := ibd a
  -- where it is no place
  have no : (a < 0 ∨ (20 : Int32) ≤ a ∨ J n ≤ a) → AMi D (d + 8) mX12_trace [.ref 62, .int a] M (fun y M2 => (-1 : Int32) = y ∧ Rall M2) := by
    intro hno
    refine rX12_trace D (d + 7) a M _ hL2 (c_in hL2 ⟨fun c => ⟨_, rfl, .refl M, rfl, hR⟩, fun c => ⟨fun c2 => ⟨_, rfl, .refl M, rfl, hR⟩, fun c2 => ?_⟩⟩)
    have c := b2_ne0.mp c
    rw [l2] at c2
    exfalso
    rw [J_of a] at hno c c2
    simp (disch := omega) only [J_lit, J_add, J_sub, J_mul, J_neg, J_lt, J_le, J_eq, J_nat, J_in, J_div] at hno c c2
    omega
  refine rX11_trace D (d + 8) a M _ hL1 ⟨fun c => ⟨_, rfl, .refl M, no (Or.inl c)⟩, fun c => ⟨fun c2 => ⟨_, rfl, .refl M, no (Or.inr (Or.inl c2))⟩, fun c2 => ⟨fun c3 => ⟨_, rfl, .refl M, no (Or.inr (Or.inr (l1 ▸ c3)))⟩, fun c3 => ?_⟩⟩⟩
  rw [l1] at c3
  have e := J_of a
  generalize a.toInt = z at *
  subst e
  simp (disch := omega) only [J_lit, J_add, J_sub, J_mul, J_neg, J_lt, J_le, J_eq, J_nat, J_in, J_div] at c c2 c3
  refine ⟨by simp (disch := omega) only [J_lit, J_add, J_sub, J_mul, J_neg, J_lt, J_le, J_eq, J_nat, J_in, J_div]; omega, _, rfl, .refl M, ?_⟩
  refine rX12_trace D (d + 7) (J z) M _ hL2 (c_in hL2 ⟨fun c4 => ?_, fun c4 => ⟨fun c5 => ?_, fun c5 => ⟨by simp (disch := omega) only [J_lit, J_add, J_sub, J_mul, J_neg, J_lt, J_le, J_eq, J_nat, J_in, J_div]; omega, _, rfl, .refl M, ?_, hR⟩⟩⟩)
  · have c4 := b2_eq0.mp c4
    exfalso
    simp (disch := omega) only [J_lit, J_add, J_sub, J_mul, J_neg, J_lt, J_le, J_eq, J_nat, J_in, J_div] at c4
    omega
  · rw [l2] at c5
    exfalso
    simp (disch := omega) only [J_lit, J_add, J_sub, J_mul, J_neg, J_lt, J_le, J_eq, J_nat, J_in, J_div] at c5
    omega
  · have e1 : ((1 : Int32) + J z).toNatClampNeg = 1 + z.toNat := by simp (disch := omega) only [J_lit, J_add, J_sub, J_mul, J_neg, J_lt, J_le, J_eq, J_nat, J_in, J_div]; omega
    have e2 : (J z).toNatClampNeg = z.toNat := by simp (disch := omega) only [J_lit, J_add, J_sub, J_mul, J_neg, J_lt, J_le, J_eq, J_nat, J_in, J_div]
    rw [e1, e2]
    exact hl _ (by omega) (by omega)
theorem c_plr {nr np : Nat} {a : Int32} {P : Option Nat → Mm → Prop} (hL : Lay 0 62 M) (hP : Rpl M nr np) (h1 : ∀ p q : Nat, p < np → a = J p → gP M 12 p = some q → PlOk M nr p q → P (some q) M) (h2 : ¬ (0 ≤ a ∧ a < J np) → P none M) : AMq D d mX11_playerOrNull [.ref 0, .int a] M P := by
  obtain ⟨g1, g2, g3, g4⟩ := hP
  have ba := ibd a
  have e := J_of a
  generalize a.toInt = z at *
  subst e
  refine rX11_playerOrNull D d (J z) M _ hL ⟨fun c => ⟨none, rfl, .refl M, h2 ?_⟩, fun c => ⟨fun c2 => ⟨none, rfl, .refl M, h2 ?_⟩, fun c2 => ?_⟩⟩
  · simp (disch := omega) only [J_lit, J_add, J_sub, J_mul, J_neg, J_lt, J_le, J_eq, J_nat, J_in, J_div] at c
    simp (disch := omega) only [J_lit, J_add, J_sub, J_mul, J_neg, J_lt, J_le, J_eq, J_nat, J_in, J_div]
    omega
  · rw [g2] at c2
    simp (disch := omega) only [J_lit, J_add, J_sub, J_mul, J_neg, J_lt, J_le, J_eq, J_nat, J_in, J_div] at c c2
    simp (disch := omega) only [J_lit, J_add, J_sub, J_mul, J_neg, J_lt, J_le, J_eq, J_nat, J_in, J_div]
    omega
  · rw [g2] at c2
    simp (disch := omega) only [J_lit, J_add, J_sub, J_mul, J_neg, J_lt, J_le, J_eq, J_nat, J_in, J_div] at c c2
    obtain ⟨q, hq, hk⟩ := g4 z.toNat (by omega)
    have e2 : (J z).toNatClampNeg = z.toNat := by simp (disch := omega) only [J_lit, J_add, J_sub, J_mul, J_neg, J_lt, J_le, J_eq, J_nat, J_in, J_div]
    refine ⟨by simp (disch := omega) only [J_lit, J_add, J_sub, J_mul, J_neg, J_lt, J_le, J_eq, J_nat, J_in, J_div]; omega, _, rfl, .refl M, ?_⟩
    rw [e2, hq]
    exact h1 z.toNat q (by omega) (by congr 1; omega) hq hk
theorem c_isPlayer {np : Nat} {a : Int32} {P : Int32 → Mm → Prop} (hL : Lay 62 98 M) (hn : np ≤ 10) (h2 : gI M 62 18 = J np) (h : P (b2 (0 ≤ a ∧ a < J np)) M) : AMi D (d + 1) mX12_isPlayer [.ref 62, .int a] M P := by
  refine rX12_isPlayer D d a M _ hL (c_in hL ⟨b2_01 _, _, rfl, .refl M, ?_⟩)
  have e : b2 (0 ≤ a ∧ a ≤ gI M 62 18 - 1) = b2 (0 ≤ a ∧ a < J np) := by
    rw [h2]
    have ba := ibd a
    have e := J_of a
    generalize a.toInt = z at *
    subst e
    by_cases c : 0 ≤ J z ∧ J z < J np
    · rw [b2_t c, b2_t]
      simp (disch := omega) only [J_lit, J_add, J_sub, J_mul, J_neg, J_lt, J_le, J_eq, J_nat, J_in, J_div] at c
      simp (disch := omega) only [J_lit, J_add, J_sub, J_mul, J_neg, J_lt, J_le, J_eq, J_nat, J_in, J_div]
      omega
    · rw [b2_f c, b2_f]
      simp (disch := omega) only [J_lit, J_add, J_sub, J_mul, J_neg, J_lt, J_le, J_eq, J_nat, J_in, J_div] at c
      simp (disch := omega) only [J_lit, J_add, J_sub, J_mul, J_neg, J_lt, J_le, J_eq, J_nat, J_in, J_div]
      omega
  rw [e]
  exact h
theorem J_pl {p np : Nat} (h : p < np) (hn : np ≤ 10) : 0 ≤ J (p : Int) ∧ J (p : Int) < J np := by
  simp (disch := omega) only [J_lit, J_add, J_sub, J_mul, J_neg, J_lt, J_le, J_eq, J_nat, J_in, J_div]
  omega
theorem k_of {a b : Int32} (hR : Rall M) : Ki D (d + 8) mX11_of mX12_of [.int a, .int b] M := by
  obtain ⟨hL, htb, htx, hki, hlo, hta, hw, nr, np, hru, hpl, hte, him⟩ := id hR
  have hL1 : Lay 0 62 M := hL.sub (by omega) (by omega)
  have hL2 : Lay 62 98 M := hL.sub (by omega) (by omega)
  refine rX11_of D (d + 7) a b M _ hL1 (c_plr hL1 hpl (fun p q hp ea hq hk => ⟨fun p8 e8 => ?_, fun e => by cases e⟩) (fun hno => ⟨fun p8 e8 => (by cases e8), fun _ => ⟨_, rfl, .refl M, ?_⟩⟩))
  · cases e8
    subst ea
    obtain ⟨-, k, v, j, -, -, -, hPl, a5, a6, a7, a8, a9, a10, a11⟩ := hk
    have hp10 := hpl.1
    have e2 : (J (p : Int)).toNatClampNeg = p := by simp (disch := omega) only [J_lit, J_add, J_sub, J_mul, J_neg, J_lt, J_le, J_eq, J_nat, J_in, J_div]; omega
    have hin : vp_in (J (p : Int)) 11 := by simp (disch := omega) only [J_lit, J_add, J_sub, J_mul, J_neg, J_lt, J_le, J_eq, J_nat, J_in, J_div]; omega
    have hb := b2_t (J_pl hp hp10)
    refine ⟨fun c => ⟨_, _, hPl, _, rfl, .refl M, ?_⟩, fun c => ⟨_, _, hPl, _, rfl, .refl M, ?_⟩, fun c => ⟨_, _, hPl, _, rfl, .refl M, ?_⟩, fun c0 c1 c2 => ⟨_, rfl, .refl M, ?_⟩⟩
    all_goals refine rX12_of D (d + 7) (J p) b M _ hL2 (c_isPlayer hL2 hp10 hpl.2.2.1 ?_)
    all_goals rw [hb]
    all_goals refine ⟨fun _ => ?_, fun c => absurd c (by decide)⟩
    · subst c
      exact ⟨fun _ => ⟨hin, _, rfl, .refl M, by rw [e2, a5, a9], hR⟩, fun c => absurd c (by decide), fun c => absurd c (by decide), fun c => absurd rfl c⟩
    · subst c
      exact ⟨fun c => absurd c (by decide), fun _ => ⟨hin, _, rfl, .refl M, by rw [e2, a7, a10], hR⟩, fun c => absurd c (by decide), fun _ c => absurd rfl c⟩
    · subst c
      exact ⟨fun c => absurd c (by decide), fun c => absurd c (by decide), fun _ => ⟨hin, _, rfl, .refl M, by rw [e2, a8, a11], hR⟩, fun _ _ c => absurd rfl c⟩
    · exact ⟨fun c => absurd c c0, fun c => absurd c c1, fun c => absurd c c2, fun _ _ _ => ⟨_, rfl, .refl M, rfl, hR⟩⟩
  · refine rX12_of D (d + 7) a b M _ hL2 (c_isPlayer hL2 hpl.1 hpl.2.2.1 ?_)
    rw [b2_f hno]
    exact ⟨fun c => absurd rfl c, fun _ => ⟨_, rfl, .refl M, rfl, hR⟩⟩
end
