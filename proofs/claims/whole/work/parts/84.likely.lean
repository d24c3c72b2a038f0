/-! likely: the reference, and the call -/
section
variable {D : GD} {d : Nat} {M : Mm}
theorem l_dig {n R l q A B c0 : Nat} {a v5 : Int32} {post : Option Value → Mm → Prop} (hL : Lay 62 98 M) (hn : n ≤ 9) (hR : R ≤ 30) (hl : l ≤ 30) (hq : q ≤ 30) (e : gI M 62 32 = J n) (h : LX12_likely_79 D d a (J R) (J l) (J q) v5 (K ((A + (if good false n (-1) (-(R : Int)) l q c0 = true then 1 else 0) : Nat) : Int)) (K ((B + (if good true n (-1) (-(R : Int)) l q c0 = true then 1 else 0) : Nat) : Int)) (J ((c0 + 1 : Nat) : Int)) M post) : ∀ (m i l0 m0 r0 : Nat) (w : Int) (c : Nat), i + m = n → l0 ≤ i → m0 ≤ i → r0 ≤ i → -1 ≤ w → w ≤ 2 → c ≤ 1000000 → l0 + cL m c = cL n c0 → m0 + cM m c = cM n c0 → r0 + cR m w c = cR n (-1) c0 → LX12_likely_105 D d a (J R) (J l) (J q) v5 (K A) (K B) (J c0) (J l0) (J m0) (J r0) (J w) (J c) (J i) M post := by
  intro m
  induction m with
  | zero =>
    intro i l0 m0 r0 w c hi b1 b2 b3 w1 w2 hc k1 k2 k3
    obtain rfl : i = n := by omega
    have k1' : l0 = cL i c0 := k1
    have k2' : m0 = cM i c0 := k2
    have k3' : r0 = cR i (-1) c0 := k3
    have kz : ∀ z : Nat, K (z : Int) + (0 : Int64) = K ((z + 0 : Nat) : Int) := fun z => by simp (disch := omega) only [J_lit, J_add, J_sub, J_mul, J_neg, J_lt, J_le, J_eq, J_nat, J_in, J_div, K_lit, K_add, K_sub, K_mul, K_neg, K_lt, K_le, K_eq, J_i2l, K_l2i, K_div]; congr 1
    have ks : ∀ z : Nat, K (z : Int) + (1 : Int64) = K ((z + 1 : Nat) : Int) := fun z => by simp (disch := omega) only [J_lit, J_add, J_sub, J_mul, J_neg, J_lt, J_le, J_eq, J_nat, J_in, J_div, K_lit, K_add, K_sub, K_mul, K_neg, K_lt, K_le, K_eq, J_i2l, K_l2i, K_div]; congr 1
    unfold good at h
    rw [← k1', ← k2', ← k3'] at h
    refine rX12_likely_105 D d _ _ _ _ _ _ _ _ _ _ _ _ _ _ M _ hL ⟨fun _ => ⟨fun c x3 e3 => ?_, fun c => ⟨fun c' x5 e5 => ⟨fun g x7 e7 x8 e8 => ?_, fun g x7 e7 x8 e8 => ?_⟩, fun c' x3 e3 => ?_⟩⟩, fun c => ?_⟩
    · simp (disch := omega) only [J_lit, J_add, J_sub, J_mul, J_neg, J_lt, J_le, J_eq, J_nat, J_in, J_div] at c
      have g1 : ¬ l0 = l := by omega
      rw [if_neg (fun z => g1 (of_decide_eq_true z).1), if_neg (fun z => g1 (of_decide_eq_true z).1)] at h
      rw [e3, J_suc]
      exact h
    · simp (disch := omega) only [J_lit, J_add, J_sub, J_mul, J_neg, J_lt, J_le, J_eq, J_nat, J_in, J_div] at c
      simp (disch := omega) only [J_lit, J_add, J_sub, J_mul, J_neg, J_lt, J_le, J_eq, J_nat, J_in, J_div] at c'
      simp (disch := omega) only [J_lit, J_add, J_sub, J_mul, J_neg, J_lt, J_le, J_eq, J_nat, J_in, J_div] at g
      rw [if_pos (decide_eq_true ⟨by omega, by omega, Or.inl rfl⟩), if_neg (fun z => by rcases (of_decide_eq_true z).2.2 with y | y; cases y; omega)] at h
      rw [e5, e7, e8, J_suc, ks, kz]
      exact h
    · simp (disch := omega) only [J_lit, J_add, J_sub, J_mul, J_neg, J_lt, J_le, J_eq, J_nat, J_in, J_div] at c
      simp (disch := omega) only [J_lit, J_add, J_sub, J_mul, J_neg, J_lt, J_le, J_eq, J_nat, J_in, J_div] at c'
      simp (disch := omega) only [J_lit, J_add, J_sub, J_mul, J_neg, J_lt, J_le, J_eq, J_nat, J_in, J_div] at g
      rw [if_pos (decide_eq_true ⟨by omega, by omega, Or.inl rfl⟩), if_pos (decide_eq_true ⟨by omega, by omega, Or.inr (by omega)⟩)] at h
      rw [e5, e7, e8, J_suc, ks, ks]
      exact h
    · simp (disch := omega) only [J_lit, J_add, J_sub, J_mul, J_neg, J_lt, J_le, J_eq, J_nat, J_in, J_div] at c'
      have g1 : ¬ m0 = q := by omega
      rw [if_neg (fun z => g1 (of_decide_eq_true z).2.1), if_neg (fun z => g1 (of_decide_eq_true z).2.1)] at h
      rw [e3, J_suc]
      exact h
    · rw [e] at c
      exfalso
      simp (disch := omega) only [J_lit, J_add, J_sub, J_mul, J_neg, J_lt, J_le, J_eq, J_nat, J_in, J_div] at c
      omega
  | succ m ih =>
    intro i l0 m0 r0 w c hi b1 b2 b3 w1 w2 hc k1 k2 k3
    have d3 : J (c : Int) / (3 : Int32) = J ((c / 3 : Nat) : Int) := by simp (disch := omega) only [J_lit, J_add, J_sub, J_mul, J_neg, J_lt, J_le, J_eq, J_nat, J_in, J_div]; congr 1
    have r3 : J (c : Int) - J (c : Int) / (3 : Int32) * (3 : Int32) = J ((c % 3 : Nat) : Int) := by
      rw [d3, (by rfl : (3 : Int32) = J 3), J_mul, J_sub]
      congr 1
      omega
    have m3 : c % 3 < 3 := Nat.mod_lt _ (by omega)
    have u1 : cL (m + 1) c = (if c % 3 = 0 then 1 else 0) + cL m (c / 3) := rfl
    have u2 : cM (m + 1) c = (if c % 3 = 1 then 1 else 0) + cM m (c / 3) := rfl
    have u3 : cR (m + 1) w c = (if ((c % 3 : Nat) : Int) = w then 0 else 1) + cR m ((c % 3 : Nat) : Int) (c / 3) := rfl
    have go := ih (i + 1) (l0 + (if c % 3 = 0 then 1 else 0)) (m0 + (if c % 3 = 1 then 1 else 0)) (r0 + (if ((c % 3 : Nat) : Int) = w then 0 else 1)) ((c % 3 : Nat) : Int) (c / 3) (by omega) (by split <;> omega) (by split <;> omega) (by split <;> omega) (by omega) (by omega) (by omega) (by rw [← k1, u1]; omega) (by rw [← k2, u2]; omega) (by rw [← k3, u3]; omega)
    have leaf : ∀ (x y z i' : Int32), x = J l0 + (if J ((c % 3 : Nat) : Int) = 0 then (1 : Int32) else 0) → y = J m0 + (if J ((c % 3 : Nat) : Int) = 1 then (1 : Int32) else 0) → z = J r0 + (if J ((c % 3 : Nat) : Int) = J w then 0 else (1 : Int32)) → i' = J i + 1 → LX12_likely_105 D d a (J R) (J l) (J q) v5 (K A) (K B) (J c0) x y z (J ((c % 3 : Nat) : Int)) (J ((c / 3 : Nat) : Int)) i' M post := by
      intro x y z i' ex ey ez ei
      have a0 : ∀ z : Nat, J (z : Int) + (0 : Int32) = J ((z + 0 : Nat) : Int) := fun z => by
        rw [(by rfl : (0 : Int32) = J 0), J_add]
        congr 1
      have x1 : x = J ((l0 + (if c % 3 = 0 then 1 else 0) : Nat) : Int) := by
        rw [ex]
        by_cases t : c % 3 = 0
        · rw [if_pos t, if_pos (by rw [t]; rfl), J_suc]
        · rw [if_neg t, if_neg (by intro z; simp (disch := omega) only [J_lit, J_add, J_sub, J_mul, J_neg, J_lt, J_le, J_eq, J_nat, J_in, J_div] at z; omega), a0]
      have y1 : y = J ((m0 + (if c % 3 = 1 then 1 else 0) : Nat) : Int) := by
        rw [ey]
        by_cases t : c % 3 = 1
        · rw [if_pos t, if_pos (by rw [t]; rfl), J_suc]
        · rw [if_neg t, if_neg (by intro z; simp (disch := omega) only [J_lit, J_add, J_sub, J_mul, J_neg, J_lt, J_le, J_eq, J_nat, J_in, J_div] at z; omega), a0]
      have z1 : z = J ((r0 + (if ((c % 3 : Nat) : Int) = w then 0 else 1) : Nat) : Int) := by
        rw [ez]
        by_cases t : ((c % 3 : Nat) : Int) = w
        · rw [if_pos t, if_pos (by rw [t]), a0]
        · rw [if_neg t, if_neg (by intro z; simp (disch := omega) only [J_lit, J_add, J_sub, J_mul, J_neg, J_lt, J_le, J_eq, J_nat, J_in, J_div] at z; omega), J_suc]
      rw [x1, y1, z1, ei, J_suc]
      exact go
    refine rX12_likely_105 D d _ _ _ _ _ _ _ _ _ _ _ _ _ _ M _ hL ⟨fun c => ?_, fun _ x12 e12 x13 e13 => ?_⟩
    · rw [e] at c
      exfalso
      simp (disch := omega) only [J_lit, J_add, J_sub, J_mul, J_neg, J_lt, J_le, J_eq, J_nat, J_in, J_div] at c
      omega
    · rw [r3] at e12
      rw [d3] at e13
      subst e12 e13
      refine ⟨fun c0 x e => ⟨fun c1 y f => ⟨fun c2 z g i' h' => leaf _ _ _ _ (by rw [e, if_neg c0]) (by rw [f, if_neg c1]) (by rw [g, if_neg c2]) h', fun c2 z g i' h' => leaf _ _ _ _ (by rw [e, if_neg c0]) (by rw [f, if_neg c1]) (by rw [g, if_pos c2]) h'⟩, fun c1 y f => ⟨fun c2 z g i' h' => leaf _ _ _ _ (by rw [e, if_neg c0]) (by rw [f, if_pos c1]) (by rw [g, if_neg c2]) h', fun c2 z g i' h' => leaf _ _ _ _ (by rw [e, if_neg c0]) (by rw [f, if_pos c1]) (by rw [g, if_pos c2]) h'⟩⟩, fun c0 x e => ⟨fun c1 y f => ⟨fun c2 z g i' h' => leaf _ _ _ _ (by rw [e, if_pos c0]) (by rw [f, if_neg c1]) (by rw [g, if_neg c2]) h', fun c2 z g i' h' => leaf _ _ _ _ (by rw [e, if_pos c0]) (by rw [f, if_neg c1]) (by rw [g, if_pos c2]) h'⟩, fun c1 y f => ⟨fun c2 z g i' h' => leaf _ _ _ _ (by rw [e, if_pos c0]) (by rw [f, if_pos c1]) (by rw [g, if_neg c2]) h', fun c2 z g i' h' => leaf _ _ _ _ (by rw [e, if_pos c0]) (by rw [f, if_pos c1]) (by rw [g, if_pos c2]) h'⟩⟩⟩
theorem l_codes {n R l q : Nat} {a : Int32} {post : Option Value → Mm → Prop} (hL : Lay 62 98 M) (hn : n ≤ 9) (hR : R ≤ 30) (hl : l ≤ 30) (hq : q ≤ 30) (e : gI M 62 32 = J n) (h : LX12_likely_79 D d a (J R) (J l) (J q) (J ((3 ^ n : Nat) : Int)) (K ((cnt (good false n (-1) (-(R : Int)) l q) (3 ^ n) : Nat) : Int)) (K ((cnt (good true n (-1) (-(R : Int)) l q) (3 ^ n) : Nat) : Int)) (J ((3 ^ n : Nat) : Int)) M post) : ∀ (m c : Nat), c + m = 3 ^ n → LX12_likely_79 D d a (J R) (J l) (J q) (J ((3 ^ n : Nat) : Int)) (K ((cnt (good false n (-1) (-(R : Int)) l q) c : Nat) : Int)) (K ((cnt (good true n (-1) (-(R : Int)) l q) c : Nat) : Int)) (J c) M post := by
  intro m
  have p3 := p9 hn
  induction m with
  | zero =>
    intro c hc
    obtain rfl : c = 3 ^ n := by omega
    exact h
  | succ m ih =>
    intro c hc
    have h1 := ih (c + 1) (by omega)
    refine rX12_likely_79 D d _ _ _ _ _ _ _ _ M _ hL ⟨fun z => ?_, fun _ => ?_⟩
    · exfalso
      simp (disch := omega) only [J_lit, J_add, J_sub, J_mul, J_neg, J_lt, J_le, J_eq, J_nat, J_in, J_div] at z
      omega
    · exact l_dig hL hn hR hl hq e h1 n 0 0 0 0 (-1) c (by omega) (by omega) (by omega) (by omega) (by omega) (by omega) (by omega) (by omega) (by omega) (by omega)
theorem l_pow {n R l q : Nat} {a : Int32} {post : Option Value → Mm → Prop} (hL : Lay 62 98 M) (hn : n ≤ 9) (e : gI M 62 32 = J n) (h : LX12_likely_79 D d a (J R) (J l) (J q) (J ((3 ^ n : Nat) : Int)) (0 : Int64) (0 : Int64) (0 : Int32) M post) : ∀ (m i : Nat), i + m = n → LX12_likely_49 D d a (J R) (J l) (J q) (J ((3 ^ i : Nat) : Int)) (J i) M post := by
  intro m
  induction m with
  | zero =>
    intro i hi
    obtain rfl : i = n := by omega
    refine rX12_likely_49 D d _ _ _ _ _ _ M _ hL ⟨fun _ => h, fun c => ?_⟩
    rw [e] at c
    exfalso
    simp (disch := omega) only [J_lit, J_add, J_sub, J_mul, J_neg, J_lt, J_le, J_eq, J_nat, J_in, J_div] at c
    omega
  | succ m ih =>
    intro i hi
    refine rX12_likely_49 D d _ _ _ _ _ _ M _ hL ⟨fun c => ?_, fun _ x2 e2 x3 e3 => ?_⟩
    · rw [e] at c
      exfalso
      simp (disch := omega) only [J_lit, J_add, J_sub, J_mul, J_neg, J_lt, J_le, J_eq, J_nat, J_in, J_div] at c
      omega
    · rw [e2, e3, J_suc, (by rfl : (3 : Int32) = J 3), J_mul]
      exact ih (i + 1) (by omega)
theorem k_likely {a : Int32} (hR : Rall M) : Ki D (d + 13) mX11_likely mX12_likely [.int a] M := by
  obtain ⟨hL, htb, htx, ⟨n, hn, e1, e2, hq⟩, hr⟩ := id hR
  have hL1 : Lay 0 62 M := hL.sub (by omega) (by omega)
  have hL3 : Lay 25 29 M := hL.sub (by omega) (by omega)
  obtain ⟨f1, f2, f3, f4, f5⟩ := hq.f
  refine rX11_likely D (d + 12) a M _ hL1 (c_isPart hL1 ?_)
  have hL2 : Lay 62 98 M := hL.sub (by omega) (by omega)
  have ein : (0 ≤ a ∧ a ≤ 1) ↔ (a = 0 ∨ a = 1) := by
    constructor
    · intro h
      simp only [ile, ieq, Int32.reduceToInt] at h ⊢
      omega
    · rintro (rfl | rfl) <;> decide
  by_cases ha : a = 0 ∨ a = 1
  · rw [b2_t ha]
    refine ⟨fun _ => ?_, fun c => absurd c (by decide)⟩
    rw [e1]
    refine ⟨fun c => ?_, fun c => ⟨_, rfl, .refl M, ?_⟩⟩
    · simp (disch := omega) only [J_lit, J_add, J_sub, J_mul, J_neg, J_lt, J_le, J_eq, J_nat, J_in, J_div] at c
      have h9 : n ≤ 9 := by omega
      have hs : ∀ k, k < n → ∃ x : Nat, x < 3 ∧ gI M 26 k = J x := fun k hk => by
        obtain ⟨⟨x, hx, ex, _⟩, _⟩ := hq k hk
        exact ⟨x, hx, ex⟩
      refine c_share hL3 h9 e1 hs (fun N F ak => ⟨_, rfl, F.1, ?_⟩)
      have sc : Sc M N := Sc.fm F (by decide) (fun x hx => ?_) (by decide)
      · have hRN : Rall N := hR.sc sc
        have hLN : Lay 62 98 N := hL2.of F.1
        have e2N : gI N 62 32 = J n := by rw [F.2.2.2 62 (by decide)]; exact e2
        have r79 : gI N 79 = gI M 79 := F.2.2.2 79 (by decide)
        refine rX12_likely D (d + 12) a N _ hLN (c_in hLN ?_)
        rw [b2_t (ein.2 ha)]
        refine ⟨fun _ => ?_, fun c => absurd c (by decide)⟩
        rw [e2N]
        refine ⟨fun _ => ?_, fun c' => absurd (by simp (disch := omega) only [J_lit, J_add, J_sub, J_mul, J_neg, J_lt, J_le, J_eq, J_nat, J_in, J_div]; omega) c'⟩
        refine rX12_shows D (d + 11) _ N _ hLN (c_in hLN ?_)
        rw [b2_t (by decide)]
        refine ⟨fun _ => ⟨fun c => absurd rfl c, fun _ => l_mRuns hLN (by omega) e2N ⟨_, rfl, .refl N, ?_⟩ n 0 (by omega)⟩, fun c => absurd c (by decide)⟩
        refine c_many hLN (by omega) e2N (c_many hLN (by omega) e2N ?_)
        rw [r79, ← rnF_eq f1, ← cTo_eq f1, ← cTo_eq f1]
        have hsum := cTo_sum hs
        have hpA : 0 < lkA (gI M 26) n := hC_pos n _ _ _ _ _ hsum
        have lA : lkA (gI M 26) n ≤ 3 ^ n := hC_le false n (-1) (-(rnF (gI M 26) n : Int)) (cTo (gI M 26) (J ((0 : Nat) : Int)) n) (cTo (gI M 26) (J ((1 : Nat) : Int)) n) (cTo (gI M 26) (J ((2 : Nat) : Int)) n)
        have lB : lkB' (gI M 26) n ≤ 3 ^ n := hC_le true n (-1) (-(rnF (gI M 26) n : Int)) (cTo (gI M 26) (J ((0 : Nat) : Int)) n) (cTo (gI M 26) (J ((1 : Nat) : Int)) n) (cTo (gI M 26) (J ((2 : Nat) : Int)) n)
        have rle := rnF_le (gI M 26) n
        have p3 := p9 h9
        have eA : cnt (good false n (-1) (-(rnF (gI M 26) n : Int)) (cTo (gI M 26) (J ((0 : Nat) : Int)) n) (cTo (gI M 26) (J ((1 : Nat) : Int)) n)) (3 ^ n) = lkA (gI M 26) n := by
          rw [cnt_hC, if_pos (by omega)]
          unfold lkA
          congr 1
          omega
        have eB : cnt (good true n (-1) (-(rnF (gI M 26) n : Int)) (cTo (gI M 26) (J ((0 : Nat) : Int)) n) (cTo (gI M 26) (J ((1 : Nat) : Int)) n)) (3 ^ n) = lkB' (gI M 26) n := by
          rw [cnt_hC, if_pos (by omega)]
          unfold lkB'
          congr 1
          omega
        have fin : LX12_likely_79 D (d + 12) a (J (rnF (gI M 26) n : Nat)) (J (cTo (gI M 26) (J ((0 : Nat) : Int)) n : Nat)) (J (cTo (gI M 26) (J ((1 : Nat) : Int)) n : Nat)) (J ((3 ^ n : Nat) : Int)) (K (lkA (gI M 26) n : Nat)) (K (lkB' (gI M 26) n : Nat)) (J ((3 ^ n : Nat) : Int)) N (fun r M1 => ∃ x, r = some (.int x) ∧ Sm N M1 ∧ (J (lkF (decide (a = 0)) (lkA (gI M 26) n) (lkB' (gI M 26) n)) = x ∧ Rall M1)) := by
          refine rX12_likely_79 D (d + 12) _ _ _ _ _ _ _ _ N _ hLN ⟨fun _ => ?_, fun z => absurd (by simp (disch := omega) only [J_lit, J_add, J_sub, J_mul, J_neg, J_lt, J_le, J_eq, J_nat, J_in, J_div]; omega) z⟩
          refine c_divisor hLN (by omega) (by omega) ?_
          unfold lkF
          generalize lkA (gI M 26) n = A at *
          generalize lkB' (gI M 26) n = B at *
          rw [Int.natAbs_natCast, Nat.gcd_comm B A]
          have gp : 0 < Nat.gcd A B := Nat.gcd_pos_of_pos_left _ hpA
          have gl : Nat.gcd A B ≤ A := Nat.gcd_le_left _ hpA
          generalize Nat.gcd A B = g at *
          have nz : ¬ K (g : Int) = 0 := by
            rw [K_ne0 (by omega)]
            omega
          have ea : (K (A : Int) / K (g : Int)).toInt32 = J ((A / g : Nat) : Int) := by rw [K_div (by omega) (by omega) (by omega) (by omega), K_l2i]; congr 1
          have eb : (K (B : Int) / K (g : Int)).toInt32 = J ((B / g : Nat) : Int) := by rw [K_div (by omega) (by omega) (by omega) (by omega), K_l2i]; congr 1
          rw [ea, eb]
          refine ⟨fun c => ⟨nz, _, rfl, .refl N, ?_, hRN⟩, fun c => ⟨nz, _, rfl, .refl N, ?_, hRN⟩⟩
          · rw [decide_eq_false c, if_neg (by decide)]
          · rw [decide_eq_true c, if_pos rfl]
        rw [← eA, ← eB] at fin ⊢
        have l1 := cTo_le (gI M 26) (J ((0 : Nat) : Int)) n
        have l2 := cTo_le (gI M 26) (J ((1 : Nat) : Int)) n
        exact l_pow hLN h9 e2N (l_codes hLN h9 (by omega) (by have := cTo_le (gI M 26) 0 n; omega) (by have := cTo_le (gI M 26) 1 n; omega) e2N fin (3 ^ n) 0 (by omega)) n 0 (by omega)
      · by_cases z : x.1 = 25
        · have z2 : x = (25, 2) := by
            simp only [relS, List.mem_cons, List.not_mem_nil, or_false] at hx
            rcases hx with rfl | rfl | rfl | rfl | rfl | rfl | rfl | rfl | rfl | rfl | rfl | rfl | rfl <;> first | rfl | (exact absurd z (by decide))
          subst z2
          exact ak 2 (by decide) (by decide)
        · have z3 : ([25, 28] : List Nat).contains x.1 = false := by
            simp only [relS, List.mem_cons, List.not_mem_nil, or_false] at hx
            rcases hx with rfl | rfl | rfl | rfl | rfl | rfl | rfl | rfl | rfl | rfl | rfl | rfl | rfl <;> first | rfl | (exact absurd rfl z)
          rw [F.2.2.2 _ z3]
    · simp (disch := omega) only [J_lit, J_add, J_sub, J_mul, J_neg, J_lt, J_le, J_eq, J_nat, J_in, J_div] at c
      refine rX12_likely D (d + 12) a M _ hL2 (c_in hL2 ?_)
      rw [b2_t (ein.2 ha)]
      refine ⟨fun _ => ?_, fun c => absurd c (by decide)⟩
      rw [e2]
      exact ⟨fun c' => absurd c' (by simp (disch := omega) only [J_lit, J_add, J_sub, J_mul, J_neg, J_lt, J_le, J_eq, J_nat, J_in, J_div]; omega), fun _ => ⟨_, rfl, .refl M, rfl, hR⟩⟩
  · rw [b2_f ha]
    refine ⟨fun c => absurd rfl c, fun _ => ⟨_, rfl, .refl M, ?_⟩⟩
    refine rX12_likely D (d + 12) a M _ hL2 (c_in hL2 ?_)
    rw [b2_f (fun z => ha (ein.1 z))]
    exact ⟨fun c => absurd rfl c, fun _ => ⟨_, rfl, .refl M, rfl, hR⟩⟩
end
