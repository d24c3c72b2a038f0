/-! team, taken -/
section
variable {D : GD} {d : Nat} {M : Mm}
theorem bd01 {a : Int32} {n : Nat} (hn : n ≤ 1000) (h1 : ¬ a < 0) (h2 : a ≤ J n) : ∃ i : Nat, i ≤ n ∧ a = J i := by
  have ba := ibd a
  rw [J_of a] at h1 h2 ⊢
  generalize a.toInt = z at *
  simp (disch := omega) only [J_lit, J_add, J_sub, J_mul, J_neg, J_lt, J_le, J_eq, J_nat, J_in, J_div] at h1 h2
  exact ⟨z.toNat, by omega, by congr 1; omega⟩
theorem k_team {a b c : Int32} (hR : Rall M) : Ki D (d + 8) mX11_team mX12_team [.int a, .int b, .int c] M := by
  obtain ⟨hL, htb, htx, hki, hlo, hta, hw, nr, np, hru, hpl, hte, him⟩ := id hR
  have hL1 : Lay 0 62 M := hL.sub (by omega) (by omega)
  have hL2 : Lay 62 98 M := hL.sub (by omega) (by omega)
  have mno : ¬ ((0 ≤ a ∧ a ≤ 1) ∧ (0 ≤ b ∧ b ≤ 5) ∧ 0 ≤ c ∧ c < J np) → AMi D (d + 8) mX12_team [.ref 62, .int a, .int b, .int c] M (fun y M2 => (-1 : Int32) = y ∧ Rall M2) := by
    intro hno
    refine rX12_team D (d + 7) a b c M _ hL2 (c_in hL2 ⟨fun _ => ⟨_, rfl, .refl M, rfl, hR⟩, fun q1 => c_in hL2 ⟨fun _ => ⟨_, rfl, .refl M, rfl, hR⟩, fun q2 => c_isPlayer hL2 hpl.1 hpl.2.2.1 ⟨fun q3 => ?_, fun _ => ⟨_, rfl, .refl M, rfl, hR⟩⟩⟩⟩)
    exact absurd ⟨b2_ne0.mp q1, b2_ne0.mp q2, b2_ne0.mp q3⟩ hno
  refine rX11_team D (d + 7) a b c M _ hL1 (c_plr hL1 hpl (fun p q hp ea hq hk => ?_) (fun hno => ?_))
  · refine ⟨fun c1 => ⟨_, rfl, .refl M, mno fun x => ?_⟩, fun c1 => ⟨fun c2 => ⟨_, rfl, .refl M, mno fun x => ?_⟩, fun c2 => ⟨fun c3 => ⟨_, rfl, .refl M, mno fun x => ?_⟩, fun c3 => ⟨fun c4 => ⟨_, rfl, .refl M, mno fun x => ?_⟩, fun c4 => ⟨fun p12 e12 => ?_, fun e => by cases e⟩⟩⟩⟩⟩
    · simp only [ilt, ile, Int32.reduceToInt] at x c1
      omega
    · simp only [ilt, ile, Int32.reduceToInt] at x c2
      omega
    · simp only [ilt, ile, Int32.reduceToInt] at x c3
      omega
    · simp only [ilt, ile, Int32.reduceToInt] at x c4
      omega
    · cases e12
      obtain ⟨i, hi, rfl⟩ := bd01 (n := 1) (by omega) c1 (by simp only [ilt, ile, Int32.reduceToInt] at c2 ⊢; have : (J ((1 : Nat) : Int)).toInt = 1 := rfl; omega)
      obtain ⟨j, hj, rfl⟩ := bd01 (n := 5) (by omega) c3 (by simp only [ilt, ile, Int32.reduceToInt] at c4 ⊢; have : (J ((5 : Nat) : Int)).toInt = 5 := rfl; omega)
      subst ea
      have hp10 := hpl.1
      have ei : (J i * (6 : Int32) + J j).toNatClampNeg = 6 * i + j := by simp (disch := omega) only [J_lit, J_add, J_sub, J_mul, J_neg, J_lt, J_le, J_eq, J_nat, J_in, J_div]; omega
      have ei2 : ((6 : Int32) * J i + J j).toNatClampNeg = 6 * i + j := by simp (disch := omega) only [J_lit, J_add, J_sub, J_mul, J_neg, J_lt, J_le, J_eq, J_nat, J_in, J_div]; omega
      rw [ei]
      obtain ⟨h98, k, v, jr, k6, v2, jn, hPl, a5, a6, a7, a8, a9, a10, a11⟩ := id hk
      have h30 : (mS M 30).1 = 6 := by rw [(hL.sh 30 (q := (6, 12)) rfl (by omega) (by omega)).2]
      refine ⟨by simp (disch := omega) only [J_lit, J_add, J_sub, J_mul, J_neg, J_lt, J_le, J_eq, J_nat, J_in, J_div]; omega, _, _, hPl, fun M17 e17 => ?_⟩
      subst e17
      have hs : Sm M (sP M 30 (6 * i + j) (some q)) := (Sm.refl M).p h30
      have hA : Rall (sI (sP M 30 (6 * i + j) (some q)) 82 (6 * i + j) (J p)) := by
        have hs2 : Sm M (sI (sP M 30 (6 * i + j) (some q)) 82 (6 * i + j) (J p)) := hs.i
        refine ⟨hL.of hs2, htb, htx, hki, hlo, hta, hw, nr, np, hru.fr rfl rfl (fun j hj => by rw [fr_s (by omega)]; rfl) rfl rfl rfl rfl rfl rfl, hpl.fr hs2.x (fun _ => rfl) rfl rfl rfl rfl rfl (fun a ha _ => by rw [fr_s (by omega)]; rfl), fun u hu => ?_, him⟩
        have z12 : gP (sI (sP M 30 (6 * i + j) (some q)) 82 (6 * i + j) (J p)) 12 = gP M 12 := rfl
        have z30 : gP (sI (sP M 30 (6 * i + j) (some q)) 82 (6 * i + j) (J p)) 30 = va_up (gP M 30) (6 * i + j) (some q) := rfl
        have z82 : gI (sI (sP M 30 (6 * i + j) (some q)) 82 (6 * i + j) (J p)) 82 = va_up (gI M 82) (6 * i + j) (J p) := rfl
        rw [z12, z30, z82]
        by_cases e : u = 6 * i + j
        · subst e
          rw [va_up_self, va_up_self]
          exact Or.inr ⟨p, q, hp, hq, rfl, rfl⟩
        · rw [va_up_ne _ _ e, va_up_ne _ _ e]
          exact hte u hu
      have fin : ∀ x, (x = (-5 : Int32) ∧ gI M 82 (6 * i + j) = -1) ∨ (∃ p' : Nat, p' < np ∧ x = J p' ∧ gI M 82 (6 * i + j) = J p') → AMi D (d + 8) mX12_team [.ref 62, .int (J i), .int (J j), .int (J p)] (sP M 30 (6 * i + j) (some q)) (fun y M2 => x = y ∧ Rall M2) := by
        intro x hx
        have hL3 := hL2.of hs
        refine rX12_team D (d + 7) _ _ _ _ _ hL3 (c_in hL3 ?_)
        rw [b2_t (by simp (disch := omega) only [J_lit, J_add, J_sub, J_mul, J_neg, J_lt, J_le, J_eq, J_nat, J_in, J_div]; omega)]
        refine ⟨fun q => absurd q (by decide), fun _ => c_in hL3 ?_⟩
        rw [b2_t (by simp (disch := omega) only [J_lit, J_add, J_sub, J_mul, J_neg, J_lt, J_le, J_eq, J_nat, J_in, J_div]; omega)]
        refine ⟨fun q => absurd q (by decide), fun _ => c_isPlayer (np := np) hL3 hpl.1 hpl.2.2.1 ?_⟩
        rw [b2_t (J_pl hp hp10)]
        refine ⟨fun _ => ⟨by simp (disch := omega) only [J_lit, J_add, J_sub, J_mul, J_neg, J_lt, J_le, J_eq, J_nat, J_in, J_div]; omega, ?_⟩, fun q => absurd q (by decide)⟩
        rw [ei2]
        intro x23 e23 M24 e24
        subst e24
        have e23 : x23 = gI M 82 (6 * i + j) := e23
        refine ⟨fun c5 => ⟨_, rfl, (Sm.refl _).i, ?_, hA⟩, fun c5 => ⟨_, rfl, (Sm.refl _).i, ?_, hA⟩⟩
        · rcases hx with ⟨h1, h2⟩ | ⟨p', h1, h2, h3⟩
          · rw [e23, h2] at c5
            exact absurd c5 (by decide)
          · rw [e23, h2, h3]
        · rcases hx with ⟨h1, h2⟩ | ⟨p', h1, h2, h3⟩
          · exact h1
          · rw [e23, h3] at c5
            exfalso
            simp (disch := omega) only [J_lit, J_add, J_sub, J_mul, J_neg, J_lt, J_le, J_eq, J_nat, J_in, J_div] at c5
            omega
      refine ⟨fun p23 h23 => ?_, fun h23 => ⟨_, rfl, hs, fin _ ?_⟩⟩
      · rcases hte (6 * i + j) (by omega) with ⟨h1, h2⟩ | ⟨p', q', h1, h2, h3, h4⟩
        · rw [h1] at h23
          cases h23
        · rw [h3] at h23
          cases h23
          obtain ⟨q2, f1, f2, k', v', jr', -, -, -, hPl', -, b6, -⟩ := hpl.2.2.2 p' h1
          rw [h2] at f1
          cases f1
          refine ⟨_, _, hPl'.ofx hs.x, _, rfl, hs, fin _ (Or.inr ⟨p', h1, ?_, h4⟩)⟩
          exact b6
      · rcases hte (6 * i + j) (by omega) with ⟨h1, h2⟩ | ⟨p', q', h1, h2, h3, h4⟩
        · exact Or.inl ⟨rfl, h2⟩
        · rw [h3] at h23
          cases h23
  · have hn : ∀ x : (0 ≤ a ∧ a ≤ 1) ∧ (0 ≤ b ∧ b ≤ 5) ∧ 0 ≤ c ∧ c < J np, False := fun x => hno x.2.2
    exact ⟨fun _ => ⟨_, rfl, .refl M, mno hn⟩, fun _ => ⟨fun _ => ⟨_, rfl, .refl M, mno hn⟩, fun _ => ⟨fun _ => ⟨_, rfl, .refl M, mno hn⟩, fun _ => ⟨fun _ => ⟨_, rfl, .refl M, mno hn⟩, fun _ => ⟨fun p12 e => (by cases e), fun _ => ⟨_, rfl, .refl M, mno hn⟩⟩⟩⟩⟩⟩
/-- whether one of KIND k may be taken for one of KIND a -/
def okP (k a : Nat) : Prop := a = 0 ∨ k = a ∨ (a = 1 ∧ k = 4) ∨ (a = 2 ∧ 5 ≤ k)
def okF (k a : Nat) : Bool := a == 0 || k == a || (a == 1 && k == 4) || (a == 2 && (k == 5 || k == 6))
theorem okF_iff : ∀ k, k ≤ 6 → ∀ a, a ≤ 6 → (okF k a = true ↔ okP k a) := by
  intro k hk a ha
  unfold okF okP
  simp only [Bool.or_eq_true, Bool.and_eq_true, beq_iff_eq]
  omega
theorem c_ofKind {q k j a : Nat} {P : Int32 → Mm → Prop} (hk : k ≤ 6) (ha : a ≤ 6) (hPl : Pl M q (kcl k) j) (h : P (if okF k a then 1 else 0) M) : AMi D d mX11_isOfKind [.ref q, .int (J a)] M P := by
  have h01 : ∀ b : Bool, (if b then (1 : Int32) else 0) = 0 ∨ (if b then (1 : Int32) else 0) = 1 := fun b => by cases b <;> simp
  have t1 := (by decide : ∀ k, k ≤ 6 → okF k 1 = isk (kcl k) 4) k hk
  have t2 := (by decide : ∀ k, k ≤ 6 → okF k 2 = isk (kcl k) 2) k hk
  have t3 := (by decide : ∀ k, k ≤ 6 → okF k 3 = isk (kcl k) 9) k hk
  have t4 := (by decide : ∀ k, k ≤ 6 → okF k 4 = isk (kcl k) 10) k hk
  have t5 := (by decide : ∀ k, k ≤ 6 → okF k 5 = isk (kcl k) 3) k hk
  have t6 := (by decide : ∀ k, k ≤ 6 → okF k 6 = isk (kcl k) 8) k hk
  have t0 := (by decide : ∀ k, k ≤ 6 → okF k 0 = true) k hk
  refine rX11_isOfKind D d q (kcl k) j (J a) M _ (.nil M) hPl ⟨fun c => ⟨h01 _, _, rfl, .refl M, ?_⟩, fun c => ⟨h01 _, _, rfl, .refl M, ?_⟩, fun c => ⟨h01 _, _, rfl, .refl M, ?_⟩, fun c => ⟨h01 _, _, rfl, .refl M, ?_⟩, fun c => ⟨h01 _, _, rfl, .refl M, ?_⟩, fun c => ⟨h01 _, _, rfl, .refl M, ?_⟩, fun c1 c2 c3 c4 c5 c6 => ⟨_, rfl, .refl M, ?_⟩⟩
  · simp (disch := omega) only [J_lit, J_add, J_sub, J_mul, J_neg, J_lt, J_le, J_eq, J_nat, J_in, J_div] at c
    obtain rfl : a = 1 := by omega
    rwa [t1] at h
  · simp (disch := omega) only [J_lit, J_add, J_sub, J_mul, J_neg, J_lt, J_le, J_eq, J_nat, J_in, J_div] at c
    obtain rfl : a = 2 := by omega
    rwa [t2] at h
  · simp (disch := omega) only [J_lit, J_add, J_sub, J_mul, J_neg, J_lt, J_le, J_eq, J_nat, J_in, J_div] at c
    obtain rfl : a = 3 := by omega
    rwa [t3] at h
  · simp (disch := omega) only [J_lit, J_add, J_sub, J_mul, J_neg, J_lt, J_le, J_eq, J_nat, J_in, J_div] at c
    obtain rfl : a = 4 := by omega
    rwa [t4] at h
  · simp (disch := omega) only [J_lit, J_add, J_sub, J_mul, J_neg, J_lt, J_le, J_eq, J_nat, J_in, J_div] at c
    obtain rfl : a = 5 := by omega
    rwa [t5] at h
  · simp (disch := omega) only [J_lit, J_add, J_sub, J_mul, J_neg, J_lt, J_le, J_eq, J_nat, J_in, J_div] at c
    obtain rfl : a = 6 := by omega
    rwa [t6] at h
  · simp (disch := omega) only [J_lit, J_add, J_sub, J_mul, J_neg, J_lt, J_le, J_eq, J_nat, J_in, J_div] at c1 c2 c3 c4 c5 c6
    obtain rfl : a = 0 := by omega
    rw [t0] at h
    exact h
theorem k_taken {a b : Int32} (hR : Rall M) : Ki D (d + 8) mX11_taken mX12_taken [.int a, .int b] M := by
  obtain ⟨hL, htb, htx, hki, hlo, hta, hw, nr, np, hru, hpl, hte, him⟩ := id hR
  have hL1 : Lay 0 62 M := hL.sub (by omega) (by omega)
  have hL2 : Lay 62 98 M := hL.sub (by omega) (by omega)
  have bad : ¬ (0 ≤ b ∧ b ≤ 6) → AMi D (d + 8) mX12_taken [.ref 62, .int a, .int b] M (fun y M2 => (-2 : Int32) = y ∧ Rall M2) := by
    intro hno
    exact rX12_taken D (d + 7) a b M _ hL2 (c_in hL2 ⟨fun q1 => absurd (b2_ne0.mp q1) hno, fun _ => ⟨_, rfl, .refl M, rfl, hR⟩⟩)
  refine rX11_taken D (d + 7) a b M _ hL1 ⟨fun c1 => ⟨_, rfl, .refl M, bad fun x => ?_⟩, fun c1 => ⟨fun c2 => ?_, fun c2 => ⟨_, rfl, .refl M, bad fun x => ?_⟩⟩⟩
  · simp only [ilt, ile, Int32.reduceToInt] at x c1
    omega
  · obtain ⟨w, hw6, rfl⟩ := bd01 (n := 6) (by omega) c1 (by simp only [ilt, ile, Int32.reduceToInt] at c2 ⊢; have : (J ((6 : Nat) : Int)).toInt = 6 := rfl; omega)
    refine c_plr hL1 hpl (fun p q hp ea hq hk => ⟨fun p10 e10 => ?_, fun e => by cases e⟩) (fun hno => ⟨fun p10 e => (by cases e), fun _ => ⟨_, rfl, .refl M, ?_⟩⟩)
    · cases e10
      subst ea
      obtain ⟨h98, k, v, jr, k6, v2, jn, hPl, a5, a6, a7, a8, a9, a10, a11⟩ := id hk
      have hp10 := hpl.1
      have e2 : (J (p : Int)).toNatClampNeg = p := by simp (disch := omega) only [J_lit, J_add, J_sub, J_mul, J_neg, J_lt, J_le, J_eq, J_nat, J_in, J_div]; omega
      have fin : ∀ x, x = (if okF k w then J k else (-12 : Int32)) → AMi D (d + 8) mX12_taken [.ref 62, .int (J p), .int (J w)] M (fun y M2 => x = y ∧ Rall M2) := by
        intro x hx
        subst hx
        have hiff := okF_iff k k6 w hw6
        unfold okP at hiff
        refine rX12_taken D (d + 7) _ _ M _ hL2 (c_in hL2 ?_)
        rw [b2_t (by simp (disch := omega) only [J_lit, J_add, J_sub, J_mul, J_neg, J_lt, J_le, J_eq, J_nat, J_in, J_div]; omega)]
        refine ⟨fun _ => c_isPlayer hL2 hpl.1 hpl.2.2.1 ?_, fun q => absurd q (by decide)⟩
        rw [b2_t (J_pl hp hp10)]
        refine ⟨fun _ => ⟨by simp (disch := omega) only [J_lit, J_add, J_sub, J_mul, J_neg, J_lt, J_le, J_eq, J_nat, J_in, J_div]; omega, ?_⟩, fun q => absurd q (by decide)⟩
        rw [e2]
        intro x16 e16
        rw [a9] at e16
        subst e16
        refine ⟨fun c3 => ?_, fun c3 => ⟨fun c4 => ?_, fun c4 => ⟨fun c5 => ⟨fun c6 => ?_, fun c6 => ⟨fun c7 => ?_, fun c7 => ?_⟩⟩, fun c5 => ⟨fun c6 => ?_, fun c6 => ⟨fun c7 => ?_, fun c7 => ⟨fun c8 => ?_, fun c8 => ?_⟩⟩⟩⟩⟩⟩
        · simp (disch := omega) only [J_lit, J_add, J_sub, J_mul, J_neg, J_lt, J_le, J_eq, J_nat, J_in, J_div] at c3
          exact ⟨_, rfl, .refl M, if_pos (hiff.mpr (by omega)), hR⟩
        · simp (disch := omega) only [J_lit, J_add, J_sub, J_mul, J_neg, J_lt, J_le, J_eq, J_nat, J_in, J_div] at c3 c4
          exact ⟨_, rfl, .refl M, if_pos (hiff.mpr (by omega)), hR⟩
        · simp (disch := omega) only [J_lit, J_add, J_sub, J_mul, J_neg, J_lt, J_le, J_eq, J_nat, J_in, J_div] at c3 c4 c5 c6
          exact ⟨_, rfl, .refl M, if_neg (fun z => by have := hiff.mp z; omega), hR⟩
        · simp (disch := omega) only [J_lit, J_add, J_sub, J_mul, J_neg, J_lt, J_le, J_eq, J_nat, J_in, J_div] at c3 c4 c5 c6 c7
          exact ⟨_, rfl, .refl M, if_neg (fun z => by have := hiff.mp z; omega), hR⟩
        · simp (disch := omega) only [J_lit, J_add, J_sub, J_mul, J_neg, J_lt, J_le, J_eq, J_nat, J_in, J_div] at c3 c4 c5 c6 c7
          exact ⟨_, rfl, .refl M, if_pos (hiff.mpr (by omega)), hR⟩
        · simp (disch := omega) only [J_lit, J_add, J_sub, J_mul, J_neg, J_lt, J_le, J_eq, J_nat, J_in, J_div] at c3 c4 c5 c6
          exact ⟨_, rfl, .refl M, if_pos (hiff.mpr (by omega)), hR⟩
        · simp (disch := omega) only [J_lit, J_add, J_sub, J_mul, J_neg, J_lt, J_le, J_eq, J_nat, J_in, J_div] at c3 c4 c5 c6 c7
          exact ⟨_, rfl, .refl M, if_neg (fun z => by have := hiff.mp z; omega), hR⟩
        · simp (disch := omega) only [J_lit, J_add, J_sub, J_mul, J_neg, J_lt, J_le, J_eq, J_nat, J_in, J_div] at c3 c4 c5 c6 c7 c8
          omega
        · simp (disch := omega) only [J_lit, J_add, J_sub, J_mul, J_neg, J_lt, J_le, J_eq, J_nat, J_in, J_div] at c3 c4 c5 c6 c7 c8
          omega
      refine c_ofKind k6 hw6 hPl ⟨fun c3 => ⟨_, rfl, .refl M, fin _ ?_⟩, fun c3 => ⟨_, _, hPl, _, rfl, .refl M, fin _ ?_⟩⟩
      · cases e : okF k w with
        | false => rfl
        | true =>
          rw [e] at c3
          exact absurd c3 (by decide)
      · cases e : okF k w with
        | false =>
          rw [e] at c3
          exact absurd rfl c3
        | true => exact a5
    · refine rX12_taken D (d + 7) _ _ M _ hL2 (c_in hL2 ?_)
      rw [b2_t (by simp (disch := omega) only [J_lit, J_add, J_sub, J_mul, J_neg, J_lt, J_le, J_eq, J_nat, J_in, J_div]; omega)]
      refine ⟨fun _ => c_isPlayer hL2 hpl.1 hpl.2.2.1 ?_, fun q => absurd q (by decide)⟩
      rw [b2_f hno]
      exact ⟨fun q => absurd rfl q, fun _ => ⟨_, rfl, .refl M, rfl, hR⟩⟩
  · simp only [ilt, ile, Int32.reduceToInt] at x c2
    omega
end
