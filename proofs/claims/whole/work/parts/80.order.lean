/-! order: the reference, the call -/
def smO : List Nat := [62, 72, 73, 77, 78, 83, 84, 85, 86, 87]
/-- the best of the orders up to a code, as the reference keeps it -/
def BM (w : (Nat → Nat) → Int) (c : Nat) (most : Int) (N : Mm) : Prop := (most = -1 ∧ ∀ o, Pm5 o → ¬ codeN o < c) ∨ ∃ bo, Pm5 bo ∧ codeN bo < c ∧ w bo = most ∧ (∀ k, k < 5 → gI N 86 k = J (bo k : Nat)) ∧ ∀ o, Pm5 o → codeN o < c → w o ≤ most ∧ (w o = most → codeN bo ≤ codeN o)
section
variable {D : GD} {d : Nat}
theorem l_order {M : Mm} {c : Nat → Nat → Int → Int} {c2 : Nat → Int → Int} {i : Int32} {post : Option Value → Mm → Prop} (hL : Lay 62 98 M) (hc : ∀ p k L, 0 ≤ c p k L ∧ c p k L ≤ 1000000) (hc2 : ∀ k L, 0 ≤ c2 k L ∧ c2 k L ≤ 1000000) (g83 : ∀ p k : Nat, p < 5 → k < 5 → ∀ L : Int, -5 ≤ L → L ≤ 5 → gI M 83 (ix p k L) = J (c p k L)) (g84 : ∀ k : Nat, k < 5 → ∀ L : Int, -5 ≤ L → L ≤ 5 → gI M 84 (11 * k + (L + 5).toNat) = J (c2 k L)) (h : ∀ (N : Mm) (most : Int), Fm [85, 86, 87] M N → BM (wO c c2) 3125 most N → ((0 ≤ i → vp_in i 5 ∧ post (some (.int (gI N 86 i.toNatClampNeg))) N) ∧ (¬ 0 ≤ i → post (some (.int (J most))) N))) : ∀ (m cd : Nat) (N : Mm) (most : Int), cd + m = 3125 → Fm [85, 86, 87] M N → BM (wO c c2) cd most N → LX12_order_34 D (d + 1) i (J most) (J cd) N post := by
  have hw : ∀ o, 0 ≤ wO c c2 o ∧ wO c c2 o ≤ 1000000 := fun o => wn_b (fun k L => hc _ _ L) hc2 10 0 0
  have bb : ∀ cd most N, BM (wO c c2) cd most N → -1 ≤ most ∧ most ≤ 1000000 := by
    rintro cd most N (⟨h1, -⟩ | ⟨bo, -, -, h1, -⟩)
    · omega
    · have := hw bo
      omega
  intro m
  induction m with
  | zero =>
    intro cd N most hm FN hB
    obtain rfl : cd = 3125 := by omega
    exact rX12_order_34 D (d + 1) _ _ _ N post (hL.of FN.1) ⟨fun _ => h N most FN hB, fun z => absurd (by decide) z⟩
  | succ m ih =>
    intro cd N most hm FN hB
    have bm := bb cd most N hB
    refine rX12_order_34 D (d + 1) _ _ _ N post (hL.of FN.1) ⟨fun z => ?_, fun _ => ?_⟩
    · exfalso
      simp (disch := omega) only [J_lit, J_add, J_sub, J_mul, J_neg, J_lt, J_le, J_eq, J_nat, J_in, J_div] at z
      omega
    -- a digit
    have st : ∀ (k l u : Nat) (N : Mm), k < 5 → l ≤ 3125 → u < 32 → Fm [85, 86, 87] M N → (∀ N', N' = sI N 85 k (J ((l % 5 : Nat) : Int)) → LX12_order_50 D (d + 1) i (J most) (J cd) (J ((l / 5 : Nat) : Int)) (J ((u ||| 2 ^ (l % 5) : Nat) : Int)) (J ((k : Int) - 1)) N' post) → LX12_order_50 D (d + 1) i (J most) (J cd) (J l) (J u) (J k) N post := by
      intro k l u N hk hl hu FN hh
      have ek : (J (k : Int)).toNatClampNeg = k := by simp (disch := omega) only [J_lit, J_add, J_sub, J_mul, J_neg, J_lt, J_le, J_eq, J_nat, J_in, J_div]; omega
      have e5 : J (l : Int) / (5 : Int32) = J ((l / 5 : Nat) : Int) := by simp (disch := omega) only [J_lit, J_add, J_sub, J_mul, J_neg, J_lt, J_le, J_eq, J_nat, J_in, J_div]; congr 1
      have em : J (l : Int) - J ((l / 5 : Nat) : Int) * (5 : Int32) = J ((l % 5 : Nat) : Int) := by simp (disch := omega) only [J_lit, J_add, J_sub, J_mul, J_neg, J_lt, J_le, J_eq, J_nat, J_in, J_div]; congr 1; omega
      refine rX12_order_50 D (d + 1) _ _ _ _ _ _ N post (hL.of FN.1) ⟨fun z => ?_, fun _ => ⟨by simp (disch := omega) only [J_lit, J_add, J_sub, J_mul, J_neg, J_lt, J_le, J_eq, J_nat, J_in, J_div]; omega, fun M13 e13 x17 e17 x18 e18 x19 e19 => ?_⟩⟩
      · exfalso
        simp (disch := omega) only [J_lit, J_add, J_sub, J_mul, J_neg, J_lt, J_le, J_eq, J_nat, J_in, J_div] at z
        omega
      · rw [ek, e5, em] at e13
        rw [e5] at e17
        have g85 : gI M13 85 k = J ((l % 5 : Nat) : Int) := by rw [e13, gI_sI, if_pos ⟨rfl, rfl⟩]
        have hd5 : l % 5 < 5 := Nat.mod_lt _ (by omega)
        have ep : (J ((l % 5 : Nat) : Int) &&& 31) = J ((l % 5 : Nat) : Int) := by
          generalize l % 5 = p at hd5 ⊢
          rcases (by omega : p = 0 ∨ p = 1 ∨ p = 2 ∨ p = 3 ∨ p = 4) with rfl | rfl | rfl | rfl | rfl <;> decide
        have esm : ((J ((l % 5 : Nat) : Int)).toBitVec.smod 32).toNat = l % 5 := by
          generalize l % 5 = p at hd5 ⊢
          rcases (by omega : p = 0 ∨ p = 1 ∨ p = 2 ∨ p = 3 ∨ p = 4) with rfl | rfl | rfl | rfl | rfl <;> decide
        have e1p : (1 : Int32) <<< J ((l % 5 : Nat) : Int) = J ((2 ^ (l % 5) : Nat) : Int) := by
          have : (1 : Int32) = J ((1 : Nat) : Int) := rfl
          rw [this, J_shl _ (l % 5) esm, Nat.one_mul]
        rw [ek, g85, ep, e1p, J_or] at e18
        have e19' : x19 = J ((k : Int) - 1) := by
          rw [e19]
          have : (-1 : Int32) = J (-1) := by decide
          rw [this]
          simp (disch := omega) only [J_lit, J_add, J_sub, J_mul, J_neg, J_lt, J_le, J_eq, J_nat, J_in, J_div]
          congr 1
        rw [e17, e18, e19']
        exact hh M13 e13
    have ub : ∀ u p : Nat, u < 32 → p < 5 → u ||| 2 ^ p < 32 := fun u p h1 h2 => Nat.or_lt_two_pow (n := 5) h1 (Nat.pow_lt_pow_right (by omega) h2)
    have md : ∀ x : Nat, x % 5 < 5 := fun x => Nat.mod_lt _ (by omega)
    have z31 : (0 : Int32) = J ((0 : Nat) : Int) := rfl
    have z4 : (4 : Int32) = J ((4 : Nat) : Int) := rfl
    rw [z31, z4]
    have u1 := ub 0 (cd % 5) (by omega) (md _)
    have u2 := ub _ (cd / 5 % 5) u1 (md _)
    have u3 := ub _ (cd / 5 / 5 % 5) u2 (md _)
    have u4 := ub _ (cd / 5 / 5 / 5 % 5) u3 (md _)
    refine st 4 cd 0 N (by omega) (by omega) (by omega) FN (fun N1 n1 => ?_)
    have F1 : Fm [85, 86, 87] M N1 := by rw [n1]; exact FN.si (by decide)
    refine st 3 _ _ N1 (by omega) (by omega) u1 F1 (fun N2 n2 => ?_)
    have F2 : Fm [85, 86, 87] M N2 := by rw [n2]; exact F1.si (by decide)
    refine st 2 _ _ N2 (by omega) (by omega) u2 F2 (fun N3 n3 => ?_)
    have F3 : Fm [85, 86, 87] M N3 := by rw [n3]; exact F2.si (by decide)
    refine st 1 _ _ N3 (by omega) (by omega) u3 F3 (fun N4 n4 => ?_)
    have F4 : Fm [85, 86, 87] M N4 := by rw [n4]; exact F3.si (by decide)
    refine st 0 _ _ N4 (by omega) (by omega) u4 F4 (fun N5 n5 => ?_)
    have F5 : Fm [85, 86, 87] M N5 := by rw [n5]; exact F4.si (by decide)
    have r86 : gI N5 86 = gI N 86 := by rw [n5, fr_s (by omega), n4, fr_s (by omega), n3, fr_s (by omega), n2, fr_s (by omega), n1, fr_s (by omega)]
    have dd1 : cd / 5 / 5 = cd / 25 := Nat.div_div_eq_div_mul cd 5 5
    have dd2 : cd / 25 / 5 = cd / 125 := Nat.div_div_eq_div_mul cd 25 5
    have dd3 : cd / 125 / 5 = cd / 625 := Nat.div_div_eq_div_mul cd 125 5
    have g85 : ∀ k, k < 5 → gI N5 85 k = J (dg cd k : Nat) := by
      intro k hk
      rcases (by omega : k = 0 ∨ k = 1 ∨ k = 2 ∨ k = 3 ∨ k = 4) with rfl | rfl | rfl | rfl | rfl
      · rw [n5, gI_sI, if_pos ⟨rfl, rfl⟩, dd1, dd2, dd3]
        rfl
      · rw [n5, gI_sI, if_neg (by omega), n4, gI_sI, if_pos ⟨rfl, rfl⟩, dd1, dd2]
        rfl
      · rw [n5, gI_sI, if_neg (by omega), n4, gI_sI, if_neg (by omega), n3, gI_sI, if_pos ⟨rfl, rfl⟩, dd1]
        rfl
      · rw [n5, gI_sI, if_neg (by omega), n4, gI_sI, if_neg (by omega), n3, gI_sI, if_neg (by omega), n2, gI_sI, if_pos ⟨rfl, rfl⟩]
        rfl
      · rw [n5, gI_sI, if_neg (by omega), n4, gI_sI, if_neg (by omega), n3, gI_sI, if_neg (by omega), n2, gI_sI, if_neg (by omega), n1, gI_sI, if_pos ⟨rfl, rfl⟩]
        rfl
    have eu : ((((0 ||| 2 ^ (cd % 5)) ||| 2 ^ (cd / 5 % 5)) ||| 2 ^ (cd / 5 / 5 % 5)) ||| 2 ^ (cd / 5 / 5 / 5 % 5)) ||| 2 ^ (cd / 5 / 5 / 5 / 5 % 5) = used5 (dg cd 0) (dg cd 1) (dg cd 2) (dg cd 3) (dg cd 4) := by
      rw [dd1, dd2, dd3]
      rfl
    rw [eu]
    have u5 : used5 (dg cd 0) (dg cd 1) (dg cd 2) (dg cd 3) (dg cd 4) < 32 := by rw [← eu]; exact ub _ _ u4 (md _)
    have hself : ∀ o, Pm5 o → codeN o = cd → ∀ k, k < 5 → o k = dg cd k := fun o ho hcd k hk => by rw [← hcd]; exact dg_of ho.1 k hk
    have F5n : BM (wO c c2) cd most N5 := by
      rcases hB with hB | ⟨bo, b1, b2, b3, b4, b5⟩
      · exact Or.inl hB
      · exact Or.inr ⟨bo, b1, b2, b3, fun k hk => by rw [r86]; exact b4 k hk, b5⟩
    refine rX12_order_50 D (d + 1) _ _ _ _ _ _ N5 post (hL.of F5.1) ⟨fun _ => ⟨fun z => ?_, fun z x11 e11 => ?_⟩, fun z => absurd (by decide) z⟩
    · -- all places are there
      simp (disch := omega) only [J_lit, J_add, J_sub, J_mul, J_neg, J_lt, J_le, J_eq, J_nat, J_in, J_div] at z
      have hP : Pm5 (dg cd) := used_p.mp (by omega)
      refine c_findWin (c1 := fun k => c (dg cd k) k) (c2 := c2) (o := dg cd) (hL.of F5.1) (fun k hk => ⟨g85 k hk, dg_b cd k⟩) (fun s L => hc _ _ L) hc2 (fun k hk L u v => by rw [F5.2.2.2 83 (by decide)]; exact g83 _ k (dg_b cd k) hk L u v) (fun k hk L u v => by rw [F5.2.2.2 84 (by decide)]; exact g84 k hk L u v) (fun N6 F6 _ => ?_)
      have e6 : wn (fun k => c (dg cd k) k) c2 10 0 0 = wO c c2 (dg cd) := rfl
      rw [e6]
      have ws := hw (dg cd)
      have F56 : Fm [85, 86, 87] M N6 := F5.trans (F6.sub (by decide))
      have r86' : gI N6 86 = gI N5 86 := F6.2.2.2 86 (by decide)
      have r85' : gI N6 85 = gI N5 85 := F6.2.2.2 85 (by decide)
      refine ⟨fun q => ?_, fun q x10 e10 => ?_⟩
      · -- better: it is copied
        simp (disch := omega) only [J_lit, J_add, J_sub, J_mul, J_neg, J_lt, J_le, J_eq, J_nat, J_in, J_div] at q
        have cp : ∀ (m k : Nat) (N7 : Mm), k + m = 5 → Fm [85, 86, 87] M N7 → gI N7 85 = gI N5 85 → (∀ k', k' < k → gI N7 86 k' = J (dg cd k' : Nat)) → LX12_order_123 D (d + 1) i (J (wO c c2 (dg cd))) (J cd) (J k) N7 post := by
          intro m2
          induction m2 with
          | zero =>
            intro k N7 hk F7 r7 g7
            refine rX12_order_123 D (d + 1) _ _ _ _ N7 post (hL.of F7.1) ⟨fun _ x2 e2 => ?_, fun z => ?_⟩
            · rw [e2, J_suc]
              refine ih (cd + 1) N7 _ (by omega) F7 (Or.inr ⟨dg cd, hP, ?_, rfl, fun k hk => g7 k (by omega), fun o ho hco => ?_⟩)
              · rw [codeN_dg (by omega)]
                omega
              · by_cases e : codeN o = cd
                · have := wO_ext (c := c) (c2 := c2) (hself o ho e)
                  rw [codeN_dg (by omega), this, e]
                  exact ⟨Int.le_refl _, fun _ => Nat.le_refl _⟩
                · rcases F5n with ⟨b1, b2⟩ | ⟨bo, b1, b2, b3, b4, b5⟩
                  · exact absurd (by omega) (b2 o ho)
                  · have := b5 o ho (by omega)
                    omega
            · exfalso
              simp (disch := omega) only [J_lit, J_add, J_sub, J_mul, J_neg, J_lt, J_le, J_eq, J_nat, J_in, J_div] at z
              omega
          | succ m2 ih2 =>
            intro k N7 hk F7 r7 g7
            have ek : (J (k : Int)).toNatClampNeg = k := by simp (disch := omega) only [J_lit, J_add, J_sub, J_mul, J_neg, J_lt, J_le, J_eq, J_nat, J_in, J_div]; omega
            refine rX12_order_123 D (d + 1) _ _ _ _ N7 post (hL.of F7.1) ⟨fun z => ?_, fun _ => ⟨by simp (disch := omega) only [J_lit, J_add, J_sub, J_mul, J_neg, J_lt, J_le, J_eq, J_nat, J_in, J_div]; omega, fun M4 e4 x8 e8 => ?_⟩⟩
            · exfalso
              simp (disch := omega) only [J_lit, J_add, J_sub, J_mul, J_neg, J_lt, J_le, J_eq, J_nat, J_in, J_div] at z
              omega
            · rw [ek, r7, g85 k (by omega)] at e4
              rw [e8, J_suc]
              refine ih2 (k + 1) M4 (by omega) (by rw [e4]; exact F7.si (by decide)) (by rw [e4, fr_s (by omega)]; exact r7) (fun k' hk' => ?_)
              rw [e4, gI_sI]
              by_cases e : k' = k
              · subst e
                rw [if_pos ⟨rfl, rfl⟩]
              · rw [if_neg (fun w => e w.2)]
                exact g7 k' (by omega)
        exact cp 5 0 N6 (by omega) F56 r85' (fun k' hk' => by omega)
      · simp (disch := omega) only [J_lit, J_add, J_sub, J_mul, J_neg, J_lt, J_le, J_eq, J_nat, J_in, J_div] at q
        rw [e10, J_suc]
        refine ih (cd + 1) N6 most (by omega) F56 ?_
        rcases F5n with ⟨b1, b2⟩ | ⟨bo, b1, b2, b3, b4, b5⟩
        · omega
        · refine Or.inr ⟨bo, b1, by omega, b3, fun k hk => by rw [r86']; exact b4 k hk, fun o ho hco => ?_⟩
          by_cases e : codeN o = cd
          · have := wO_ext (c := c) (c2 := c2) (hself o ho e)
            rw [this]
            exact ⟨by omega, fun _ => by omega⟩
          · exact b5 o ho (by omega)
    · simp (disch := omega) only [J_lit, J_add, J_sub, J_mul, J_neg, J_lt, J_le, J_eq, J_nat, J_in, J_div] at z
      rw [e11, J_suc]
      have hnP : ¬ Pm5 (dg cd) := fun q => z (by have := used_p.mpr q; omega)
      have hno : ∀ o, Pm5 o → codeN o ≠ cd := by
        intro o ho hcd
        refine hnP ⟨fun k hk => dg_b cd k, fun i j hi hj hij => ?_⟩
        rw [← hself o ho hcd i hi, ← hself o ho hcd j hj] at hij
        exact ho.2 i j hi hj hij
      refine ih (cd + 1) N5 most (by omega) F5 ?_
      rcases F5n with ⟨b1, b2⟩ | ⟨bo, b1, b2, b3, b4, b5⟩
      · refine Or.inl ⟨b1, fun o ho hlt => b2 o ho ?_⟩
        have := hno o ho
        omega
      · refine Or.inr ⟨bo, b1, by omega, b3, b4, fun o ho hlt => b5 o ho ?_⟩
        have := hno o ho
        omega
theorem code_b {o : Nat → Nat} (h : Pm5 o) : codeN o < 3125 := by
  have h0 := h.1 0 (by omega)
  have h1 := h.1 1 (by omega)
  have h2 := h.1 2 (by omega)
  have h3 := h.1 3 (by omega)
  have h4 := h.1 4 (by omega)
  unfold codeN
  omega
theorem digit {o : Nat → Nat} (h : Pm5 o) {i : Nat} (hi : i < 5) : rowN o / tn i % 10 = o i := by
  have h0 := h.1 0 (by omega)
  have h1 := h.1 1 (by omega)
  have h2 := h.1 2 (by omega)
  have h3 := h.1 3 (by omega)
  have h4 := h.1 4 (by omega)
  unfold rowN
  rcases (by omega : i = 0 ∨ i = 1 ∨ i = 2 ∨ i = 3 ∨ i = 4) with rfl | rfl | rfl | rfl | rfl
  · show (10000 * o 0 + 1000 * o 1 + 100 * o 2 + 10 * o 3 + o 4) / 10000 % 10 = _; omega
  · show (10000 * o 0 + 1000 * o 1 + 100 * o 2 + 10 * o 3 + o 4) / 1000 % 10 = _; omega
  · show (10000 * o 0 + 1000 * o 1 + 100 * o 2 + 10 * o 3 + o 4) / 100 % 10 = _; omega
  · show (10000 * o 0 + 1000 * o 1 + 100 * o 2 + 10 * o 3 + o 4) / 10 % 10 = _; omega
  · show (10000 * o 0 + 1000 * o 1 + 100 * o 2 + 10 * o 3 + o 4) / 1 % 10 = _; omega
variable {M : Mm}
theorem k_order {a : Int32} (hR : Rall M) : Ki D (d + 9) mX11_order mX12_order [.int a] M := by
  obtain ⟨hL, htb, htx, hki, hlo, hta, hw, nr, np, hru, hpl, hte, him⟩ := id hR
  have hL1 : Lay 0 62 M := hL.sub (by omega) (by omega)
  have hL2 : Lay 62 98 M := hL.sub (by omega) (by omega)
  obtain ⟨T, r0, r1, hD⟩ := hR.du
  have ba := ibd a
  have em1 : (-1 : Int32) = J (-1) := by decide
  have m1 : ¬ ((-1 : Int32) ≤ a ∧ a ≤ 4) → AMi D (d + 9) mX12_order [.ref 62, .int a] M (fun y M2 => (-1000001 : Int32) = y ∧ Rall M2) := fun hno =>
    rX12_order D (d + 8) a M _ hL2 (c_in hL2 ⟨fun z => absurd (b2_ne0.mp z) hno, fun _ => ⟨_, rfl, .refl M, rfl, hR⟩⟩)
  refine rX11_order D (d + 8) a M _ hL1 ⟨fun z => ⟨_, rfl, .refl M, m1 (fun q => ?_)⟩, fun z => ⟨fun z2 => ?_, fun z2 => ⟨_, rfl, .refl M, m1 (fun q => ?_)⟩⟩⟩
  · have := q.1
    rw [em1] at z this
    rw [J_of a] at z this
    simp (disch := omega) only [J_lit, J_add, J_sub, J_mul, J_neg, J_lt, J_le, J_eq, J_nat, J_in, J_div] at z this
    omega
  · have ha : (-1 : Int32) ≤ a ∧ a ≤ 4 := by
      rw [em1] at z ⊢
      rw [J_of a] at z z2 ⊢
      simp (disch := omega) only [J_lit, J_add, J_sub, J_mul, J_neg, J_lt, J_le, J_eq, J_nat, J_in, J_div] at z z2
      simp (disch := omega) only [J_lit, J_add, J_sub, J_mul, J_neg, J_lt, J_le, J_eq, J_nat, J_in, J_div]
      omega
    refine c_manned (hL.sub (by omega) (by omega)) (fun hm => ⟨fun _ => ?_, fun z => absurd z (by decide)⟩) (fun hm => ⟨fun z => absurd rfl z, fun _ => ⟨_, rfl, .refl M, ?_⟩⟩)
    · obtain ⟨X, hC, hM⟩ := teams hru hpl hte hm
      have hb := cF_b (f := 0) hD hC (by omega)
      have bc1 : ∀ p k L, 0 ≤ cc1 T r0 r1 X p k L ∧ cc1 T r0 r1 X p k L ≤ 1000000 := fun p k L => by
        unfold cc1
        split
        · exact hb.1 p (by assumption) k L
        · omega
      have bc2 : ∀ k L, 0 ≤ cc2 T r0 r1 X k L ∧ cc2 T r0 r1 X k L ≤ 1000000 := fun k L => by
        unfold cc2
        split
        · exact hb.2 k (by assumption) L
        · omega
      have hww : ∀ o, 0 ≤ wO (cc1 T r0 r1 X) (cc2 T r0 r1 X) o ∧ wO (cc1 T r0 r1 X) (cc2 T r0 r1 X) o ≤ 1000000 := fun o => wn_b (fun k L => bc1 _ _ L) bc2 10 0 0
      refine c_seek (d := d) hD hC hw (fun N bw br FN f3 f4 hB => ?_)
      have hBb := hB.b hww
      have hRN : Rall N := hR.sc (Sc.fl FN (by decide) (by decide) (fun k _ => by rw [FN.2.2.2 62 (by decide)]) (by decide))
      have hLN := hL2.of FN.1
      have hDN := hD.fl FN (by decide) (by decide) (by decide) (by decide)
      -- the reference
      have mo : ∀ x : Int32, (∀ (i : Nat), i < 5 → a = J i → ∀ bo, Pm5 bo → rowN bo = br → x = J (bo i : Nat)) → (¬ 0 ≤ a → x = J bw) → AMi D (d + 9) mX12_order [.ref 62, .int a] N (fun y M2 => x = y ∧ Rall M2) := by
        intro x hx1 hx2
        refine rX12_order D (d + 8) a N _ hLN (c_in hLN ?_)
        rw [b2_t ha]
        refine ⟨fun _ => c_areTeams hLN hpl.1 hte (FN.2.2.2 82 (by decide)) (fun _ => ⟨fun _ => ?_, fun z => absurd z (by decide)⟩) (fun z => absurd hm z), fun z => absurd z (by decide)⟩
        refine c_layCh (d := d + 2) (f := 0) hDN (hM.fl FN (by decide)) (by omega) (fun N1 F1 z1 g83 g84 => ?_)
        rw [em1]
        refine l_order (d := d + 7) (c := cc1 T r0 r1 X) (c2 := cc2 T r0 r1 X) (hLN.of F1.1) bc1 bc2 (fun p k hp hk L u v => by unfold cc1; rw [if_pos hp]; exact g83 p k hp hk L u v) (fun k hk L u v => by unfold cc2; rw [if_pos hk]; exact g84 k hk L u v) (fun N2 most F2 hBM => ?_) 3125 0 N1 (-1) (by omega) (Fm.refl _ N1) (Or.inl ⟨rfl, fun o _ h => by omega⟩)
        have F12 : Fl smO N N2 := (F1.sub (by decide)).trans (F2.l.sub (by decide))
        have hR2 : Rall N2 := hRN.sc (Sc.fl F12 (by decide) (by decide) (fun k hk => by rw [F2.2.2.2 62 (by decide)]; exact z1 k (by omega)) (by decide))
        -- both bests are one
        have key : most = bw ∧ ∃ bo, Pm5 bo ∧ rowN bo = br ∧ ∀ k, k < 5 → gI N2 86 k = J (bo k : Nat) := by
          rcases hBM with ⟨b1, b2⟩ | ⟨bo, b1, b2, b3, b4, b5⟩
          · exfalso
            have hid : Pm5 (fun k => k) := ⟨fun k hk => hk, fun i j _ _ h => h⟩
            exact b2 _ hid (code_b hid)
          · have hB2 : BS (wO (cc1 T r0 r1 X) (cc2 T r0 r1 X)) Pm5 most (rowN bo) := Or.inr ⟨⟨bo, b1, b1, b3, rfl⟩, fun o ho => ⟨(b5 o ho (code_b ho)).1, fun q => code_row b1 ho ((b5 o ho (code_b ho)).2 q)⟩⟩
            obtain ⟨q1, q2⟩ := hB2.uniq hB
            exact ⟨q1, bo, b1, q2, b4⟩
        obtain ⟨k1, bo, k2, k3, k4⟩ := key
        refine ⟨fun z0 => ?_, fun z0 => ⟨_, rfl, F12.1, by rw [k1]; exact hx2 z0, hR2⟩⟩
        obtain ⟨i, hi, rfl⟩ := bd01 (n := 4) (a := a) (by omega) (fun q => by simp only [ilt, ile, Int32.reduceToInt] at q z0; omega) ha.2
        have ei : (J (i : Int)).toNatClampNeg = i := by simp (disch := omega) only [J_lit, J_add, J_sub, J_mul, J_neg, J_lt, J_le, J_eq, J_nat, J_in, J_div]; omega
        rw [ei, k4 i (by omega)]
        exact ⟨by simp (disch := omega) only [J_lit, J_add, J_sub, J_mul, J_neg, J_lt, J_le, J_eq, J_nat, J_in, J_div]; omega, _, rfl, F12.1, hx1 i (by omega) rfl bo k2 k3, hR2⟩
      rw [f3, f4]
      refine ⟨fun z0 => ?_, fun z0 => ⟨_, rfl, FN.1, mo _ (fun i hi hai => ?_) (fun _ => rfl)⟩⟩
      · obtain ⟨i, hi, rfl⟩ := bd01 (n := 4) (a := a) (by omega) (fun q => by simp only [ilt, ile, Int32.reduceToInt] at q z0; omega) ha.2
        have ei : (J (i : Int)).toNatClampNeg = i := by simp (disch := omega) only [J_lit, J_add, J_sub, J_mul, J_neg, J_lt, J_le, J_eq, J_nat, J_in, J_div]; omega
        rw [ei]
        have etn : tens.getD i 0 = J ((tn i : Nat) : Int) := by rcases (by omega : i = 0 ∨ i = 1 ∨ i = 2 ∨ i = 3 ∨ i = 4) with rfl | rfl | rfl | rfl | rfl <;> rfl
        have htn : 1 ≤ tn i ∧ tn i ≤ 10000 := by rcases (by omega : i = 0 ∨ i = 1 ∨ i = 2 ∨ i = 3 ∨ i = 4) with rfl | rfl | rfl | rfl | rfl <;> decide
        rw [etn]
        have e1 : J (br : Int) / J ((tn i : Nat) : Int) = J ((br / tn i : Nat) : Int) := by simp (disch := omega) only [J_lit, J_add, J_sub, J_mul, J_neg, J_lt, J_le, J_eq, J_nat, J_in, J_div]; congr 1
        have hq : br / tn i ≤ 44444 := Nat.le_trans (Nat.div_le_self _ _) hBb.2.2
        have e23 : ∀ Q : Nat, Q ≤ 44444 → J (Q : Int) / (10 : Int32) = J ((Q / 10 : Nat) : Int) ∧ J (Q : Int) - J ((Q / 10 : Nat) : Int) * (10 : Int32) = J ((Q % 10 : Nat) : Int) := by
          intro Q hQ
          refine ⟨by simp (disch := omega) only [J_lit, J_add, J_sub, J_mul, J_neg, J_lt, J_le, J_eq, J_nat, J_in, J_div]; congr 1, by simp (disch := omega) only [J_lit, J_add, J_sub, J_mul, J_neg, J_lt, J_le, J_eq, J_nat, J_in, J_div]; congr 1; omega⟩
        obtain ⟨e2, e3⟩ := e23 _ hq
        rw [e1, e2, e3]
        refine ⟨by simp (disch := omega) only [J_lit, J_add, J_sub, J_mul, J_neg, J_lt, J_le, J_eq, J_nat, J_in, J_div]; omega, fun q => ?_, _, rfl, FN.1, mo _ (fun i' hi' hai bo h1 h2 => ?_) (fun q => absurd z0 q)⟩
        · simp (disch := omega) only [J_lit, J_add, J_sub, J_mul, J_neg, J_lt, J_le, J_eq, J_nat, J_in, J_div] at q
          omega
        · simp (disch := omega) only [J_lit, J_add, J_sub, J_mul, J_neg, J_lt, J_le, J_eq, J_nat, J_in, J_div] at hai
          have : i' = i := by omega
          rw [this, ← h2, digit h1 (by omega)]
      · rw [hai] at z0
        exact absurd (by simp (disch := omega) only [J_lit, J_add, J_sub, J_mul, J_neg, J_lt, J_le, J_eq, J_nat, J_in, J_div]; omega) z0
    · refine rX12_order D (d + 8) a M _ hL2 (c_in hL2 ?_)
      rw [b2_t ha]
      exact ⟨fun _ => c_areTeams hL2 hpl.1 hte rfl (fun z => absurd z hm) (fun _ => ⟨fun z => absurd rfl z, fun _ => ⟨_, rfl, .refl M, rfl, hR⟩⟩), fun z => absurd z (by decide)⟩
  · have := q.2
    rw [J_of a] at z2 this
    simp (disch := omega) only [J_lit, J_add, J_sub, J_mul, J_neg, J_lt, J_le, J_eq, J_nat, J_in, J_div] at z2 this
    omega
end
