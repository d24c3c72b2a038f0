/-! tape -/
section
variable {D : GD} {d : Nat} {M : Mm}
theorem Rta.put {M M' : Mm} {t n : Nat} {s : Int} (h : Rta M) (h53 : gI M' 53 = va_up (gI M 53) t (J s)) (h94 : gI M' 94 = va_up (gI M 94) t (J s)) (h54 : gI M' 54 = va_up (gI M 54) t (J n)) (h95 : gI M' 95 = va_up (gI M 95) t (J n)) (s1 : -1 ≤ s) (s2 : s ≤ 4) (hn : n ≤ 60) (h0 : s = -1 → n = 0) (hl : ∀ t', t' ≠ t → t' < 6 → gL M' (56 + t') = gL M (56 + t')) (hl2 : ∀ q, (q < 60 * t ∨ 60 * t + 60 ≤ q) → gL M' 96 q = gL M 96 q) (hnew : 0 ≤ s → ∀ k, k < 60 → gL M' (56 + t) k = gL M' 96 (60 * t + k)) : Rta M' := by
  intro u hu
  rw [h53, h94, h54, h95]
  by_cases e : u = t
  · subst e
    rw [va_up_self, va_up_self, va_up_self, va_up_self]
    exact ⟨s, n, s1, s2, hn, rfl, rfl, rfl, rfl, h0, hnew⟩
  · rw [va_up_ne _ _ e, va_up_ne _ _ e, va_up_ne _ _ e, va_up_ne _ _ e]
    obtain ⟨s', n', a1, a2, a3, a4, a5, a6, a7, a8, a9⟩ := h u hu
    refine ⟨s', n', a1, a2, a3, a4, a5, a6, a7, a8, fun hs k hk => ?_⟩
    rw [hl u e hu, hl2 _ (by omega)]
    exact a9 hs k hk
theorem l_tape {t : Nat} {post : Option Value → Mm → Prop} (ht : t < 6) : ∀ (m k : Nat) (M : Mm), k + m = 60 → Lay 62 98 M → post (some (.int 1)) (rL M 96 (fun q => if 60 * t + k ≤ q ∧ q < 60 * t + 60 then 0 else gL M 96 q)) → LX12_tape_69 D d (J t) (J k) M post := by
  intro m
  induction m with
  | zero =>
    intro k M hk hL h
    refine rX12_tape_69 D d (J t) (J k) M post hL ⟨fun c => ?_, fun c => ?_⟩
    · have e : (fun q => if 60 * t + k ≤ q ∧ q < 60 * t + 60 then 0 else gL M 96 q) = gL M 96 := by
        funext q
        rw [if_neg (by omega)]
      rw [e, rL_id] at h
      exact h
    · exfalso
      simp (disch := omega) only [J_lit, J_add, J_sub, J_mul, J_neg, J_lt, J_le, J_eq, J_nat, J_in, J_div] at c
      omega
  | succ m ih =>
    intro k M hk hL h
    have ew : ((60 : Int32) * J t + J k).toNatClampNeg = 60 * t + k := by simp (disch := omega) only [J_lit, J_add, J_sub, J_mul, J_neg, J_lt, J_le, J_eq, J_nat, J_in, J_div]; omega
    refine rX12_tape_69 D d (J t) (J k) M post hL ⟨fun c => ?_, fun c => ⟨by simp (disch := omega) only [J_lit, J_add, J_sub, J_mul, J_neg, J_lt, J_le, J_eq, J_nat, J_in, J_div]; omega, fun M3 e3 x7 e7 => ?_⟩⟩
    · exfalso
      simp (disch := omega) only [J_lit, J_add, J_sub, J_mul, J_neg, J_lt, J_le, J_eq, J_nat, J_in, J_div] at c
      omega
    · rw [ew] at e3
      subst e3
      have e7' : x7 = J ((k + 1 : Nat) : Int) := by rw [e7]; simp (disch := omega) only [J_lit, J_add, J_sub, J_mul, J_neg, J_lt, J_le, J_eq, J_nat, J_in, J_div]; congr 1
      rw [e7']
      refine ih (k + 1) _ (by omega) (hL.of (Sm.refl M).l) ?_
      have e : rL (sL M 96 (60 * t + k) 0) 96 (fun q => if 60 * t + (k + 1) ≤ q ∧ q < 60 * t + 60 then 0 else gL (sL M 96 (60 * t + k) 0) 96 q) = rL M 96 (fun q => if 60 * t + k ≤ q ∧ q < 60 * t + 60 then 0 else gL M 96 q) := by
        unfold sL
        rw [rL_rL]
        congr 1
        funext q
        rw [gL_rL, if_pos rfl]
        by_cases hq : q = 60 * t + k
        · subst hq
          rw [if_neg (by omega), va_up_self, if_pos (by omega)]
        · rw [va_up_ne _ _ hq]
          by_cases hq2 : 60 * t + k ≤ q ∧ q < 60 * t + 60
          · rw [if_pos (by omega), if_pos hq2]
          · rw [if_neg (by omega), if_neg hq2]
      rw [e]
      exact h
theorem k_tape {a s0 n0 : Int32} (hR : Rall M) : Ki D (d + 8) mX11_tape mX12_tape [.int a, .int s0, .int n0] M := by
  obtain ⟨hL, htb, htx, hki, hlo, hta, hw, nr, np, hru, hpl, hte, him⟩ := id hR
  have hL1 : Lay 0 62 M := hL.sub (by omega) (by omega)
  have hL2 : Lay 62 98 M := hL.sub (by omega) (by omega)
  by_cases ht : 0 ≤ a ∧ a < 6
  · have hb := b2_t ht
    obtain ⟨t, ht6, rfl⟩ := td ht
    have et : (J (t : Int)).toNatClampNeg = t := by simp (disch := omega) only [J_lit, J_add, J_sub, J_mul, J_neg, J_lt, J_le, J_eq, J_nat, J_in, J_div]; omega
    have bs := ibd s0
    have bn := ibd n0
    have q1 := J_of s0
    have q2 := J_of n0
    generalize s0.toInt = s at *
    generalize n0.toInt = n at *
    subst q1 q2
    -- the reference, behind its questions
    have fin : ∀ (M1 : Mm) (s' : Int) (n' : Nat), Sm M M1 → (Rall (rL (sI (sI M1 94 t (J s')) 95 t (J n')) 96 (fun q => if 60 * t ≤ q ∧ q < 60 * t + 60 then 0 else gL M1 96 q))) → LX12_tape_69 D (d + 7) (J t) (0 : Int32) (sI (sI M1 94 t (J s')) 95 t (J n')) (fun r M2 => ∃ y, r = some (.int y) ∧ Sm M1 M2 ∧ (1 : Int32) = y ∧ Rall M2) := by
      intro M1 s' n' hs hA
      refine l_tape ht6 60 0 _ rfl (hL2.of hs.i.i) ⟨_, rfl, (Sm.refl M1).i.i.rl, rfl, ?_⟩
      exact hA
    have bad : (s < -1 ∨ 4 < s ∨ (0 ≤ s ∧ 60 < n)) → AMi D (d + 8) mX12_tape [.ref 62, .int (J t), .int (J s), .int (J n)] M (fun y M2 => (-2 : Int32) = y ∧ Rall M2) := by
      intro hno
      refine rX12_tape D (d + 7) _ _ _ M _ hL2 (c_mTape hL2 ?_)
      rw [hb]
      refine ⟨fun _ => c_in hL2 ⟨fun _ => ⟨_, rfl, .refl M, rfl, hR⟩, fun c => ?_⟩, fun c => absurd c (by decide)⟩
      have c := b2_ne0.mp c
      simp (disch := omega) only [J_lit, J_add, J_sub, J_mul, J_neg, J_lt, J_le, J_eq, J_nat, J_in, J_div] at c
      refine ⟨fun c1 => ?_, fun c1 => ⟨fun c2 => ?_, fun _ => ⟨_, rfl, .refl M, rfl, hR⟩⟩⟩
      · exfalso
        simp (disch := omega) only [J_lit, J_add, J_sub, J_mul, J_neg, J_lt, J_le, J_eq, J_nat, J_in, J_div] at c1
        omega
      · exfalso
        simp (disch := omega) only [J_lit, J_add, J_sub, J_mul, J_neg, J_lt, J_le, J_eq, J_nat, J_in, J_div] at c1 c2
        omega
    refine rX11_tape D (d + 7) _ _ _ M _ hL1 (c_isTape hL1 ?_)
    rw [hb]
    refine ⟨fun _ => ⟨fun c => ⟨fun c1 => ⟨_, rfl, .refl M, bad ?_⟩, fun c1 => ⟨fun c2 => ⟨_, rfl, .refl M, bad ?_⟩, fun c2 => ⟨fun c3 => ⟨fun c4 => ⟨by simp (disch := omega) only [J_lit, J_add, J_sub, J_mul, J_neg, J_lt, J_le, J_eq, J_nat, J_in, J_div]; omega, fun M14 e14 M18 e18 => ?_⟩, fun c4 => ⟨_, rfl, .refl M, ?_⟩⟩, fun c3 => ⟨_, rfl, .refl M, bad ?_⟩⟩⟩⟩, fun c => ⟨by simp (disch := omega) only [J_lit, J_add, J_sub, J_mul, J_neg, J_lt, J_le, J_eq, J_nat, J_in, J_div]; omega, fun M29 e29 M33 e33 => ?_⟩⟩, fun c => absurd c (by decide)⟩
    · simp (disch := omega) only [J_lit, J_add, J_sub, J_mul, J_neg, J_lt, J_le, J_eq, J_nat, J_in, J_div] at c c1
      omega
    · simp (disch := omega) only [J_lit, J_add, J_sub, J_mul, J_neg, J_lt, J_le, J_eq, J_nat, J_in, J_div] at c2
      omega
    · simp (disch := omega) only [J_lit, J_add, J_sub, J_mul, J_neg, J_lt, J_le, J_eq, J_nat, J_in, J_div] at c c1 c2 c3 c4
      obtain ⟨m, rfl⟩ : ∃ m : Nat, n = m := ⟨n.toNat, by omega⟩
      rw [et] at e14 e18
      subst e14 e18
      have hs1 : Sm M (sI (sI M 53 t (J s)) 54 t (J m)) := (Sm.refl M).i.i
      rw [et]
      refine c_fillL (n := 60) (by omega) ((hL1.of hs1).sh (56 + t) ?_ (by omega) (by omega)) ?_
      · rcases (by omega : t = 0 ∨ t = 1 ∨ t = 2 ∨ t = 3 ∨ t = 4 ∨ t = 5) with rfl | rfl | rfl | rfl | rfl | rfl <;> rfl
      · obtain ⟨M1, hM1⟩ : ∃ M1, M1 = rL (sI (sI M 53 t (J s)) 54 t (J m)) (56 + t) (fun k => if k < 60 then 0 else gL (sI (sI M 53 t (J s)) 54 t (J m)) (56 + t) k) := ⟨_, rfl⟩
        rw [← hM1]
        have hs2 : Sm M M1 := hM1 ▸ (Sm.refl M).i.i.rl
        refine ⟨_, rfl, hs2, ?_⟩
        have hA : Rall (rL (sI (sI M1 94 t (J s)) 95 t (J m)) 96 (fun q => if 60 * t ≤ q ∧ q < 60 * t + 60 then 0 else gL M1 96 q)) := by
          have hs3 : Sm M (rL (sI (sI M1 94 t (J s)) 95 t (J m)) 96 (fun q => if 60 * t ≤ q ∧ q < 60 * t + 60 then 0 else gL M1 96 q)) := hs2.i.i.rl
          subst hM1
          have hfr : ∀ x, x ≠ 53 → x ≠ 54 → x ≠ 94 → x ≠ 95 → gI (sI (sI (sI (sI M 53 t (J s)) 54 t (J m)) 94 t (J s)) 95 t (J m)) x = gI M x := fun x q1 q2 q3 q4 => by
            rw [fr_s q4, fr_s q3, fr_s q2, fr_s q1]
          refine ⟨hL.of hs3, htb, htx, hki, hlo, ?_, hw, nr, np, hru.fr rfl rfl (fun j hj => hfr _ (by omega) (by omega) (by omega) (by omega)) rfl rfl rfl rfl rfl rfl, hpl.fr hs3.x (fun _ => rfl) rfl rfl rfl rfl rfl (fun x hx _ => hfr _ (by omega) (by omega) (by omega) (by omega)), hte, him⟩
          refine hta.put (t := t) (n := m) (s := s) rfl rfl rfl rfl (by omega) (by omega) (by omega) (by omega) (fun t' h1 h2 => ?_) (fun q hq => ?_) (fun _ k hk => ?_)
          · rw [gL_rL, if_neg (by omega)]
            show gL (rL (sI (sI M 53 t (J s)) 54 t (J m)) (56 + t) _) (56 + t') = _
            rw [gL_rL, if_neg (by omega)]
            rfl
          · rw [gL_rL, if_pos rfl, if_neg (by omega)]
            rw [gL_rL, if_neg (by omega)]
            rfl
          · rw [gL_rL, if_neg (by omega), gL_rL, if_pos rfl, if_pos (by omega)]
            show gL (rL (sI (sI M 53 t (J s)) 54 t (J m)) (56 + t) _) (56 + t) k = _
            rw [gL_rL, if_pos rfl, if_pos hk]
        refine rX12_tape D (d + 7) _ _ _ M1 _ (hL2.of hs2) (c_mTape (hL2.of hs2) ?_)
        rw [hb]
        refine ⟨fun _ => c_in (hL2.of hs2) ?_, fun c => absurd c (by decide)⟩
        rw [b2_t (by simp (disch := omega) only [J_lit, J_add, J_sub, J_mul, J_neg, J_lt, J_le, J_eq, J_nat, J_in, J_div]; omega)]
        refine ⟨fun c => absurd c (by decide), fun _ => ⟨fun c5 => ?_, fun _ => ⟨fun _ => ⟨fun c6 => ?_, fun _ => ⟨fun _ => ⟨by simp (disch := omega) only [J_lit, J_add, J_sub, J_mul, J_neg, J_lt, J_le, J_eq, J_nat, J_in, J_div]; omega, fun M64 e64 => ⟨fun _ M69 e69 => ?_, fun c7 => ?_⟩⟩, fun c6 => ?_⟩⟩, fun c6 => ?_⟩⟩⟩
        · exfalso
          simp (disch := omega) only [J_lit, J_add, J_sub, J_mul, J_neg, J_lt, J_le, J_eq, J_nat, J_in, J_div] at c5
          omega
        · exfalso
          simp (disch := omega) only [J_lit, J_add, J_sub, J_mul, J_neg, J_lt, J_le, J_eq, J_nat, J_in, J_div] at c6
          omega
        · rw [et] at e64 e69
          subst e64 e69
          exact fin M1 s m hs2 hA
        · exfalso
          simp (disch := omega) only [J_lit, J_add, J_sub, J_mul, J_neg, J_lt, J_le, J_eq, J_nat, J_in, J_div] at c7
          omega
        · exfalso
          simp (disch := omega) only [J_lit, J_add, J_sub, J_mul, J_neg, J_lt, J_le, J_eq, J_nat, J_in, J_div] at c6
          omega
        · exfalso
          simp (disch := omega) only [J_lit, J_add, J_sub, J_mul, J_neg, J_lt, J_le, J_eq, J_nat, J_in, J_div] at c6
          omega
    · simp (disch := omega) only [J_lit, J_add, J_sub, J_mul, J_neg, J_lt, J_le, J_eq, J_nat, J_in, J_div] at c c1 c2 c3 c4
      refine rX12_tape D (d + 7) _ _ _ M _ hL2 (c_mTape hL2 ?_)
      rw [hb]
      refine ⟨fun _ => c_in hL2 ?_, fun c => absurd c (by decide)⟩
      rw [b2_t (by simp (disch := omega) only [J_lit, J_add, J_sub, J_mul, J_neg, J_lt, J_le, J_eq, J_nat, J_in, J_div]; omega)]
      refine ⟨fun c => absurd c (by decide), fun _ => ⟨fun c5 => ?_, fun _ => ⟨fun _ => ⟨fun c6 => ?_, fun _ => ⟨fun c6 => ?_, fun _ => ⟨_, rfl, .refl M, rfl, hR⟩⟩⟩, fun c6 => ?_⟩⟩⟩
      · exfalso
        simp (disch := omega) only [J_lit, J_add, J_sub, J_mul, J_neg, J_lt, J_le, J_eq, J_nat, J_in, J_div] at c5
        omega
      · exfalso
        simp (disch := omega) only [J_lit, J_add, J_sub, J_mul, J_neg, J_lt, J_le, J_eq, J_nat, J_in, J_div] at c6
        omega
      · exfalso
        simp (disch := omega) only [J_lit, J_add, J_sub, J_mul, J_neg, J_lt, J_le, J_eq, J_nat, J_in, J_div] at c6
        omega
      · exfalso
        simp (disch := omega) only [J_lit, J_add, J_sub, J_mul, J_neg, J_lt, J_le, J_eq, J_nat, J_in, J_div] at c6
        omega
    · simp (disch := omega) only [J_lit, J_add, J_sub, J_mul, J_neg, J_lt, J_le, J_eq, J_nat, J_in, J_div] at c c1 c2 c3
      omega
    · simp (disch := omega) only [J_lit, J_add, J_sub, J_mul, J_neg, J_lt, J_le, J_eq, J_nat, J_in, J_div] at c
      subst c
      rw [et] at e29 e33
      subst e29 e33
      have hs2 : Sm M (sI (sI M 53 t (-1)) 54 t 0) := (Sm.refl M).i.i
      refine ⟨_, rfl, hs2, ?_⟩
      have hA : Rall (rL (sI (sI (sI (sI M 53 t (-1)) 54 t 0) 94 t (J (-1))) 95 t (J (0 : Nat))) 96 (fun q => if 60 * t ≤ q ∧ q < 60 * t + 60 then 0 else gL (sI (sI M 53 t (-1)) 54 t 0) 96 q)) := by
        have hs3 : Sm M (rL (sI (sI (sI (sI M 53 t (-1)) 54 t 0) 94 t (J (-1))) 95 t (J (0 : Nat))) 96 (fun q => if 60 * t ≤ q ∧ q < 60 * t + 60 then 0 else gL (sI (sI M 53 t (-1)) 54 t 0) 96 q)) := (Sm.refl M).i.i.i.i.rl
        have hfr : ∀ x, x ≠ 53 → x ≠ 54 → x ≠ 94 → x ≠ 95 → gI (sI (sI (sI (sI M 53 t (-1)) 54 t 0) 94 t (J (-1))) 95 t (J (0 : Nat))) x = gI M x := fun x q1 q2 q3 q4 => by
          rw [fr_s q4, fr_s q3, fr_s q2, fr_s q1]
        refine ⟨hL.of hs3, htb, htx, hki, hlo, ?_, hw, nr, np, hru.fr rfl rfl (fun j hj => hfr _ (by omega) (by omega) (by omega) (by omega)) rfl rfl rfl rfl rfl rfl, hpl.fr hs3.x (fun _ => rfl) rfl rfl rfl rfl rfl (fun x hx _ => hfr _ (by omega) (by omega) (by omega) (by omega)), hte, him⟩
        refine hta.put (t := t) (n := 0) (s := -1) rfl rfl rfl rfl (by omega) (by omega) (by omega) (by omega) (fun t' h1 h2 => ?_) (fun q hq => ?_) (fun h => by omega)
        · rw [gL_rL, if_neg (by omega)]
          rfl
        · rw [gL_rL, if_pos rfl, if_neg (by omega)]
          rfl
      refine rX12_tape D (d + 7) _ _ _ _ _ (hL2.of hs2) (c_mTape (hL2.of hs2) ?_)
      rw [hb]
      refine ⟨fun _ => c_in (hL2.of hs2) ?_, fun c => absurd c (by decide)⟩
      rw [b2_t (by decide)]
      refine ⟨fun c => absurd c (by decide), fun _ => ⟨fun _ => ⟨fun _ => ⟨by simp (disch := omega) only [J_lit, J_add, J_sub, J_mul, J_neg, J_lt, J_le, J_eq, J_nat, J_in, J_div]; omega, fun M64 e64 => ⟨fun c7 => absurd c7 (by decide), fun _ M69 e69 => ?_⟩⟩, fun c => absurd c (by decide)⟩, fun c => absurd c (by decide)⟩⟩
      rw [et] at e64 e69
      subst e64 e69
      exact fin _ (-1) 0 hs2 hA
  · have hb := b2_f ht
    refine rX11_tape D (d + 7) _ _ _ M _ hL1 (c_isTape hL1 ?_)
    rw [hb]
    refine ⟨fun c => absurd rfl c, fun _ => ⟨_, rfl, .refl M, ?_⟩⟩
    refine rX12_tape D (d + 7) _ _ _ M _ hL2 (c_mTape hL2 ?_)
    rw [hb]
    exact ⟨fun c => absurd rfl c, fun _ => ⟨_, rfl, .refl M, rfl, hR⟩⟩
end
