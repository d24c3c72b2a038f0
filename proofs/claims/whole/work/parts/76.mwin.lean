/-! SHOOT-OUTS: the reference's rows -/
section
variable {D : GD} {d : Nat}
theorem c_findWin {M : Mm} {c1 c2 : Nat → Int → Int} {o : Nat → Nat} {P : Int32 → Mm → Prop} (hL : Lay 62 98 M) (ho : ∀ k, k < 5 → gI M 85 k = J (o k) ∧ o k < 5) (h1 : ∀ s L, 0 ≤ c1 s L ∧ c1 s L ≤ 1000000) (h2 : ∀ s L, 0 ≤ c2 s L ∧ c2 s L ≤ 1000000) (g83 : ∀ k, k < 5 → ∀ L : Int, -5 ≤ L → L ≤ 5 → gI M 83 (ix (o k) k L) = J (c1 k L)) (g84 : ∀ k, k < 5 → ∀ L : Int, -5 ≤ L → L ≤ 5 → gI M 84 (11 * k + (L + 5).toNat) = J (c2 k L)) (h : ∀ M', Fm [87] M M' → (∀ t, t ≤ 10 → ∀ a b, a ≤ (t + 1) / 2 → b ≤ t / 2 → gI M' 87 (36 * t + 6 * a + b) = J (wn c1 c2 (10 - t) a b)) → P (J (wn c1 c2 10 0 0)) M') : AMi D (d + 1) mX12_findWin [.ref 62] M P := by
  -- what is reached of the kicks from t on stands
  let Dn : Nat → Mm → Prop := fun t N => ∀ t', t ≤ t' → t' ≤ 10 → ∀ a b, a ≤ (t' + 1) / 2 → b ≤ t' / 2 → gI N 87 (36 * t' + 6 * a + b) = J (wn c1 c2 (10 - t') a b)
  have cell : ∀ (t a b : Nat) (N : Mm) (post : Option Value → Mm → Prop), t ≤ 10 → a < 6 → b < 6 → Fm [87] M N → Dn (t + 1) N → (∀ v : Int32, (a ≤ (t + 1) / 2 → b ≤ t / 2 → v = J (wn c1 c2 (10 - t) a b)) → LX12_findWin_17 D d (J t) (J a) (J ((b + 1 : Nat) : Int)) (sI N 87 (36 * t + 6 * a + b) v) post) → LX12_findWin_17 D d (J t) (J a) (J b) N post := by
    intro t a b N post ht ha hb FN hD hk
    refine l_cell (c1 := c1) (c2 := c2) (c83 := fun _ _ _ => 0) (o := o) (hL.of FN.1) ht ha hb (fun k hk => by rw [FN.2.2.2 85 (by decide)]; exact ho k hk) h1 h2 (fun k hk L u v => by rw [FN.2.2.2 83 (by decide)]; exact g83 k hk L u v) (fun k hk L u v => by rw [FN.2.2.2 84 (by decide)]; exact g84 k hk L u v) (fun ht9 a b u v => ?_) hk
    have := hD (t + 1) (Nat.le_refl _) (by omega) a b (by omega) (by omega)
    rw [(by omega : 10 - (t + 1) = 9 - t)] at this
    exact this
  have lb : ∀ (m t a b : Nat) (N : Mm) (post : Option Value → Mm → Prop), b + m = 6 → t ≤ 10 → a < 6 → Fm [87] M N → Dn (t + 1) N → (∀ N', Fm [87] M N' → (∀ b', b ≤ b' → b' < 6 → a ≤ (t + 1) / 2 → b' ≤ t / 2 → gI N' 87 (36 * t + 6 * a + b') = J (wn c1 c2 (10 - t) a b')) → (∀ x, ¬ (36 * t + 6 * a + b ≤ x ∧ x < 36 * t + 6 * a + 6) → gI N' 87 x = gI N 87 x) → LX12_findWin_9 D d (J t) (J ((a + 1 : Nat) : Int)) N' post) → LX12_findWin_17 D d (J t) (J a) (J b) N post := by
    intro m
    induction m with
    | zero =>
      intro t a b N post hm ht ha FN hD hk
      refine rX12_findWin_17 D d _ _ _ N post (hL.of FN.1) ⟨fun _ x2 e2 => ?_, fun c => ?_⟩
      · rw [e2, J_suc]
        exact hk N FN (fun b' u v => by omega) (fun _ _ => rfl)
      · exfalso
        simp (disch := omega) only [J_lit, J_add, J_sub, J_mul, J_neg, J_lt, J_le, J_eq, J_nat, J_in, J_div] at c
        omega
    | succ m ih =>
      intro t a b N post hm ht ha FN hD hk
      refine cell t a b N post ht ha (by omega) FN hD (fun v hv => ?_)
      obtain ⟨N1, n1⟩ : ∃ N1, N1 = sI N 87 (36 * t + 6 * a + b) v := ⟨_, rfl⟩
      rw [← n1]
      have F1 : Fm [87] M N1 := by rw [n1]; exact FN.si (by decide)
      refine ih t a (b + 1) N1 post (by omega) ht ha F1 (fun t' u v a' b' ha' hb' => ?_) (fun N' F' g' u' => hk N' F' (fun b' q1 q2 q3 q4 => ?_) (fun x hx => ?_))
      · rw [n1, gI_sI, if_neg (by omega)]
        exact hD t' u v a' b' ha' hb'
      · by_cases e : b' = b
        · subst e
          rw [u' _ (by omega), n1, gI_sI, if_pos ⟨rfl, rfl⟩]
          exact hv q3 q4
        · exact g' b' (by omega) q2 q3 q4
      · rw [u' x (by omega), n1, gI_sI, if_neg (by omega)]
  have la : ∀ (m t a : Nat) (N : Mm) (post : Option Value → Mm → Prop), a + m = 6 → t ≤ 10 → Fm [87] M N → Dn (t + 1) N → (∀ a' b', a' < a → b' < 6 → a' ≤ (t + 1) / 2 → b' ≤ t / 2 → gI N 87 (36 * t + 6 * a' + b') = J (wn c1 c2 (10 - t) a' b')) → (∀ N', Fm [87] M N' → Dn t N' → LX12_findWin_3 D d (J ((t : Int) - 1)) N' post) → LX12_findWin_9 D d (J t) (J a) N post := by
    intro m
    induction m with
    | zero =>
      intro t a N post hm ht FN hD gN hk
      refine rX12_findWin_9 D d _ _ N post (hL.of FN.1) ⟨fun _ x2 e2 => ?_, fun c => ?_⟩
      · have e2' : x2 = J ((t : Int) - 1) := by
          rw [e2]
          have : (-1 : Int32) = J (-1) := by decide
          rw [this]
          simp (disch := omega) only [J_lit, J_add, J_sub, J_mul, J_neg, J_lt, J_le, J_eq, J_nat, J_in, J_div]
          congr 1
        rw [e2']
        refine hk N FN (fun t' u v a' b' ha' hb' => ?_)
        by_cases e : t' = t
        · subst e
          exact gN a' b' (by omega) (by omega) ha' hb'
        · exact hD t' (by omega) v a' b' ha' hb'
      · exfalso
        simp (disch := omega) only [J_lit, J_add, J_sub, J_mul, J_neg, J_lt, J_le, J_eq, J_nat, J_in, J_div] at c
        omega
    | succ m ih =>
      intro t a N post hm ht FN hD gN hk
      refine rX12_findWin_9 D d _ _ N post (hL.of FN.1) ⟨fun c => ?_, fun _ => ?_⟩
      · exfalso
        simp (disch := omega) only [J_lit, J_add, J_sub, J_mul, J_neg, J_lt, J_le, J_eq, J_nat, J_in, J_div] at c
        omega
      · refine lb 6 t a 0 N post (by omega) ht (by omega) FN hD (fun N' F' g' u' => ih t (a + 1) N' post (by omega) ht F' (fun t' u v a' b' ha' hb' => ?_) (fun a' b' q1 q2 q3 q4 => ?_) hk)
        · rw [u' _ (by omega)]
          exact hD t' u v a' b' ha' hb'
        · by_cases e : a' = a
          · subst e
            exact g' b' (by omega) q2 q3 q4
          · rw [u' _ (by omega)]
            exact gN a' b' (by omega) q2 q3 q4
  have lt : ∀ (m : Nat) (N : Mm), m ≤ 11 → Fm [87] M N → Dn m N → LX12_findWin_3 D d (J ((m : Int) - 1)) N (fun r M1 => ∃ x, r = some (.int x) ∧ Sm M M1 ∧ P x M1) := by
    intro m
    induction m with
    | zero =>
      intro N hm FN hD
      refine rX12_findWin_3 D d _ N _ (hL.of FN.1) ⟨fun _ => ?_, fun c => ?_⟩
      · have e : gI N 87 0 = J (wn c1 c2 10 0 0) := hD 0 (by omega) (by omega) 0 0 (by omega) (by omega)
        rw [e]
        exact ⟨_, rfl, FN.1, h N FN (fun t a => hD t (by omega) a)⟩
      · exfalso
        simp (disch := omega) only [J_lit, J_add, J_sub, J_mul, J_neg, J_lt, J_le, J_eq, J_nat, J_in, J_div] at c
        omega
    | succ m ih =>
      intro N hm FN hD
      have e0 : J (((m + 1 : Nat) : Int) - 1) = J m := by congr 1; omega
      rw [e0]
      refine rX12_findWin_3 D d _ N _ (hL.of FN.1) ⟨fun c => ?_, fun _ => ?_⟩
      · exfalso
        simp (disch := omega) only [J_lit, J_add, J_sub, J_mul, J_neg, J_lt, J_le, J_eq, J_nat, J_in, J_div] at c
        omega
      · exact la 6 m 0 N _ (by omega) (by omega) FN hD (fun a' _ u => by omega) (fun N' F' D' => ih N' (by omega) F' D')
  refine rX12_findWin D d M _ hL ?_
  have e10 : (10 : Int32) = J (((11 : Nat) : Int) - 1) := by decide
  rw [e10]
  exact lt 11 M (by omega) (Fm.refl _ M) (fun t' u v => by omega)
/-- the rows that a reckoning of the reference writes -/
def smR : List Nat := [62, 72, 73, 77, 78, 83, 84]
theorem c_layCh {M : Mm} {T r0 r1 : Nat → Int} {X : Nat → Pd} {f : Nat} {P : Mm → Prop} (hD : Du M T r0 r1) (hX : Tm M X) (hf : f < 2) (h : ∀ M', Fl smR M M' → (∀ k, k < 23 ∨ 30 ≤ k → gI M' 62 k = gI M 62 k) → (∀ p k, p < 5 → k < 5 → ∀ L : Int, -5 ≤ L → L ≤ 5 → gI M' 83 (ix p k L) = J (cF1 T r0 r1 X f p k L)) → (∀ k, k < 5 → ∀ L : Int, -5 ≤ L → L ≤ 5 → gI M' 84 (11 * k + (L + 5).toNat) = J (cF2 T r0 r1 X f k L)) → P M') : AMv D (d + 6) mX12_layChances [.ref 62, .int (J f)] M P := by
  -- what stands, and how far it is
  let In : Mm → Prop := fun N => Fl smR M N ∧ (∀ k, k < 23 ∨ 30 ≤ k → gI N 62 k = gI M 62 k) ∧ (∀ s, s < 3 → gI N 77 s = J (r0 s)) ∧ (∀ s, s < 3 → gI N 77 (3 + s) = J (r1 s))
  let A : Nat → Int → Nat → Mm → Prop := fun k L p N => ∀ p' k' : Nat, p' < 5 → k' < 5 → ∀ L' : Int, -5 ≤ L' → L' ≤ 5 → (k' < k ∨ (k' = k ∧ (L' < L ∨ (L' = L ∧ p' < p)))) → gI N 83 (ix p' k' L') = J (cF1 T r0 r1 X f p' k' L')
  let B : Nat → Int → Mm → Prop := fun k L N => ∀ k' : Nat, k' < 5 → ∀ L' : Int, -5 ≤ L' → L' ≤ 5 → (k' < k ∨ (k' = k ∧ L' < L)) → gI N 84 (11 * k' + (L' + 5).toNat) = J (cF2 T r0 r1 X f k' L')
  have ef : ((6 : Int32) * J f) = J ((6 * f : Nat) : Int) := by simp (disch := omega) only [J_lit, J_add, J_sub, J_mul, J_neg, J_lt, J_le, J_eq, J_nat, J_in, J_div]; congr 1
  have ef2 : ((6 : Int32) - J ((6 * f : Nat) : Int)) = J ((6 * (1 - f) : Nat) : Int) := by simp (disch := omega) only [J_lit, J_add, J_sub, J_mul, J_neg, J_lt, J_le, J_eq, J_nat, J_in, J_div]; congr 1; omega
  have ini : ∀ N, In N → Lay 62 98 N ∧ Du N T r0 r1 ∧ Tm N X := fun N hN => ⟨(hD.1.sub (by omega) (by omega)).of hN.1.1, hD.fl hN.1 (by decide) (by decide) (by decide) (by decide), hX.fl hN.1 (by decide)⟩
  -- one chance
  have one : ∀ (i i' : Nat) (t L : Int) (N : Mm) (Q : Int32 → Mm → Prop), i < 12 → i' < 12 → 0 ≤ t → t ≤ 9 → -5 ≤ L → L ≤ 5 → In N → (∀ N', In N' → gI N' 83 = gI N 83 → gI N' 84 = gI N 84 → Sm N N' → Q (J (chF T r0 r1 (X i) (X i') t (10 + L))) N') → AMi D (d + 5) mX12_chanceNow [.ref 62, .int (gI N 82 i), .int (gI N 82 i'), .int (J t), .int (J L)] N Q := by
    intro i i' t L N Q hi hi' t1 t2 l1 l2 hN hQ
    obtain ⟨hLN, hDN, hXN⟩ := ini N hN
    obtain ⟨p0, j0, a1, a2⟩ := hXN i hi
    obtain ⟨p1, j1, b1, b2⟩ := hXN i' hi'
    rw [a1, b1]
    refine c_mChance (d := d) hDN (by unfold sOk; omega) hN.2.2.1 hN.2.2.2 a2 b2 (fun N' F' z' => hQ N' ⟨hN.1.trans (F'.sub (by decide)), fun k hk => by rw [z' k hk]; exact hN.2.1 k hk, fun s hs => by rw [F'.2.2.2 77 (by decide)]; exact hN.2.2.1 s hs, fun s hs => by rw [F'.2.2.2 77 (by decide)]; exact hN.2.2.2 s hs⟩ (F'.2.2.2 83 (by decide)) (F'.2.2.2 84 (by decide)) F'.1)
  have put : ∀ (N : Mm) (a i : Nat) (v : Int32), In N → a = 83 ∨ a = 84 → In (sI N a i v) := by
    intro N a i v hN ha
    refine ⟨hN.1.si (by rcases ha with rfl | rfl <;> decide), fun k hk => ?_, fun s hs => ?_, fun s hs => ?_⟩
    · rw [fr_s (by omega)]; exact hN.2.1 k hk
    · rw [fr_s (by omega)]; exact hN.2.2.1 s hs
    · rw [fr_s (by omega)]; exact hN.2.2.2 s hs
  have lp : ∀ (m p k : Nat) (L : Int) (N : Mm) (post : Option Value → Mm → Prop), p + m = 5 → k < 5 → -5 ≤ L → L ≤ 5 → In N → A k L p N → B k L N → (∀ N', In N' → A k (L + 1) 0 N' → B k (L + 1) N' → LX12_layChances_27 D (d + 5) (J ((6 * f : Nat) : Int)) (J ((6 * (1 - f) : Nat) : Int)) (J k) (J (L + 1)) N' post) → LX12_layChances_37 D (d + 5) (J ((6 * f : Nat) : Int)) (J ((6 * (1 - f) : Nat) : Int)) (J k) (J L) (J p) N post := by
    intro m
    induction m with
    | zero =>
      intro p k L N post hm hk l1 l2 hN hA hB hh
      obtain ⟨hLN, hDN, hXN⟩ := ini N hN
      have e1 : (J ((6 * (1 - f) : Nat) : Int) + J k).toNatClampNeg = 6 * (1 - f) + k := by simp (disch := omega) only [J_lit, J_add, J_sub, J_mul, J_neg, J_lt, J_le, J_eq, J_nat, J_in, J_div]; omega
      have e2 : (J ((6 * f : Nat) : Int) + (5 : Int32)).toNatClampNeg = 6 * f + 5 := by simp (disch := omega) only [J_lit, J_add, J_sub, J_mul, J_neg, J_lt, J_le, J_eq, J_nat, J_in, J_div]; omega
      have e3 : ((2 : Int32) * J k + (1 : Int32)) = J (2 * (k : Int) + 1) := by simp (disch := omega) only [J_lit, J_add, J_sub, J_mul, J_neg, J_lt, J_le, J_eq, J_nat, J_in, J_div]
      have e4 : (((11 : Int32) * J k + J L) + (5 : Int32)).toNatClampNeg = 11 * k + (L + 5).toNat := by simp (disch := omega) only [J_lit, J_add, J_sub, J_mul, J_neg, J_lt, J_le, J_eq, J_nat, J_in, J_div]; omega
      refine rX12_layChances_37 D (d + 5) _ _ _ _ _ N post hLN ⟨fun _ => ⟨by simp (disch := omega) only [J_lit, J_add, J_sub, J_mul, J_neg, J_lt, J_le, J_eq, J_nat, J_in, J_div]; omega, by simp (disch := omega) only [J_lit, J_add, J_sub, J_mul, J_neg, J_lt, J_le, J_eq, J_nat, J_in, J_div]; omega, ?_⟩, fun c => ?_⟩
      · rw [e1, e2, e3]
        refine one (6 * (1 - f) + k) (6 * f + 5) (2 * (k : Int) + 1) L N _ (by omega) (by omega) (by omega) (by omega) l1 l2 hN (fun N' hN' r83 r84 _ => ⟨by simp (disch := omega) only [J_lit, J_add, J_sub, J_mul, J_neg, J_lt, J_le, J_eq, J_nat, J_in, J_div]; omega, fun M11 e11 x15 e15 => ?_⟩)
        rw [e4] at e11
        have e15' : x15 = J (L + 1) := by rw [e15]; simp (disch := omega) only [J_lit, J_add, J_sub, J_mul, J_neg, J_lt, J_le, J_eq, J_nat, J_in, J_div]
        rw [e15', e11]
        refine hh _ (put N' 84 _ _ hN' (Or.inr rfl)) (fun p' k' q1 q2 L' q3 q4 q5 => ?_) (fun k' q1 L' q3 q4 q5 => ?_)
        · rw [fr_s (by omega), r83]
          exact hA p' k' q1 q2 L' q3 q4 (by omega)
        · rw [gI_sI]
          by_cases e : k' = k ∧ L' = L
          · rw [if_pos ⟨rfl, by rw [e.1, e.2]⟩, e.1, e.2]
            rfl
          · rw [if_neg (fun z => e (by omega)), r84]
            exact hB k' q1 L' q3 q4 (by omega)
      · exfalso
        simp (disch := omega) only [J_lit, J_add, J_sub, J_mul, J_neg, J_lt, J_le, J_eq, J_nat, J_in, J_div] at c
        omega
    | succ m ih =>
      intro p k L N post hm hk l1 l2 hN hA hB hh
      obtain ⟨hLN, hDN, hXN⟩ := ini N hN
      have e1 : (J ((6 * f : Nat) : Int) + J p).toNatClampNeg = 6 * f + p := by simp (disch := omega) only [J_lit, J_add, J_sub, J_mul, J_neg, J_lt, J_le, J_eq, J_nat, J_in, J_div]; omega
      have e2 : (J ((6 * (1 - f) : Nat) : Int) + (5 : Int32)).toNatClampNeg = 6 * (1 - f) + 5 := by simp (disch := omega) only [J_lit, J_add, J_sub, J_mul, J_neg, J_lt, J_le, J_eq, J_nat, J_in, J_div]; omega
      have e3 : ((2 : Int32) * J k) = J (2 * (k : Int)) := by simp (disch := omega) only [J_lit, J_add, J_sub, J_mul, J_neg, J_lt, J_le, J_eq, J_nat, J_in, J_div]
      have e4 : ((((55 : Int32) * J p + (11 : Int32) * J k) + J L) + (5 : Int32)).toNatClampNeg = ix p k L := by unfold ix; simp (disch := omega) only [J_lit, J_add, J_sub, J_mul, J_neg, J_lt, J_le, J_eq, J_nat, J_in, J_div]; omega
      refine rX12_layChances_37 D (d + 5) _ _ _ _ _ N post hLN ⟨fun c => ?_, fun _ => ⟨by simp (disch := omega) only [J_lit, J_add, J_sub, J_mul, J_neg, J_lt, J_le, J_eq, J_nat, J_in, J_div]; omega, by simp (disch := omega) only [J_lit, J_add, J_sub, J_mul, J_neg, J_lt, J_le, J_eq, J_nat, J_in, J_div]; omega, ?_⟩⟩
      · exfalso
        simp (disch := omega) only [J_lit, J_add, J_sub, J_mul, J_neg, J_lt, J_le, J_eq, J_nat, J_in, J_div] at c
        omega
      · rw [e1, e2, e3]
        refine one (6 * f + p) (6 * (1 - f) + 5) (2 * (k : Int)) L N _ (by omega) (by omega) (by omega) (by omega) l1 l2 hN (fun N' hN' r83 r84 _ => ⟨by simp (disch := omega) only [J_lit, J_add, J_sub, J_mul, J_neg, J_lt, J_le, J_eq, J_nat, J_in, J_div]; omega, fun M25 e25 x29 e29 => ?_⟩)
        rw [e4] at e25
        rw [e29, J_suc, e25]
        refine ih (p + 1) k L _ post (by omega) hk l1 l2 (put N' 83 _ _ hN' (Or.inl rfl)) (fun p' k' q1 q2 L' q3 q4 q5 => ?_) (fun k' q1 L' q3 q4 q5 => ?_) hh
        · rw [gI_sI]
          by_cases e : p' = p ∧ k' = k ∧ L' = L
          · rw [if_pos ⟨rfl, by rw [e.1, e.2.1, e.2.2]⟩, e.1, e.2.1, e.2.2]
            rfl
          · rw [if_neg (fun z => e (by unfold ix at z; omega)), r83]
            exact hA p' k' q1 q2 L' q3 q4 (by omega)
        · rw [fr_s (by omega), r84]
          exact hB k' q1 L' q3 q4 q5
  have ll : ∀ (m k : Nat) (L : Int) (N : Mm) (post : Option Value → Mm → Prop), L + m = 6 → k < 5 → -5 ≤ L → In N → A k L 0 N → B k L N → (∀ N', In N' → A (k + 1) (-5) 0 N' → B (k + 1) (-5) N' → LX12_layChances_17 D (d + 5) (J ((6 * f : Nat) : Int)) (J ((6 * (1 - f) : Nat) : Int)) (J ((k + 1 : Nat) : Int)) N' post) → LX12_layChances_27 D (d + 5) (J ((6 * f : Nat) : Int)) (J ((6 * (1 - f) : Nat) : Int)) (J k) (J L) N post := by
    intro m
    induction m with
    | zero =>
      intro k L N post hm hk l1 hN hA hB hh
      obtain ⟨hLN, -, -⟩ := ini N hN
      refine rX12_layChances_27 D (d + 5) _ _ _ _ N post hLN ⟨fun _ x2 e2 => ?_, fun c => ?_⟩
      · rw [e2, J_suc]
        exact hh N hN (fun p' k' q1 q2 L' q3 q4 q5 => hA p' k' q1 q2 L' q3 q4 (by omega)) (fun k' q1 L' q3 q4 q5 => hB k' q1 L' q3 q4 (by omega))
      · exfalso
        simp (disch := omega) only [J_lit, J_add, J_sub, J_mul, J_neg, J_lt, J_le, J_eq, J_nat, J_in, J_div] at c
        omega
    | succ m ih =>
      intro k L N post hm hk l1 hN hA hB hh
      obtain ⟨hLN, -, -⟩ := ini N hN
      refine rX12_layChances_27 D (d + 5) _ _ _ _ N post hLN ⟨fun c => ?_, fun _ => ?_⟩
      · exfalso
        simp (disch := omega) only [J_lit, J_add, J_sub, J_mul, J_neg, J_lt, J_le, J_eq, J_nat, J_in, J_div] at c
        omega
      · exact lp 5 0 k L N post (by omega) hk l1 (by omega) hN hA hB (fun N' hN' hA' hB' => ih k (L + 1) N' post (by omega) hk (by omega) hN' hA' hB' hh)
  have lk : ∀ (m k : Nat) (N : Mm), k + m = 5 → In N → A k (-5) 0 N → B k (-5) N → LX12_layChances_17 D (d + 5) (J ((6 * f : Nat) : Int)) (J ((6 * (1 - f) : Nat) : Int)) (J k) N (fun r M1 => r = none ∧ Sm M M1 ∧ P M1) := by
    intro m
    induction m with
    | zero =>
      intro k N hm hN hA hB
      obtain ⟨hLN, -, -⟩ := ini N hN
      refine rX12_layChances_17 D (d + 5) _ _ _ N _ hLN ⟨fun _ => ⟨rfl, hN.1.1, h N hN.1 hN.2.1 (fun p k q1 q2 L q3 q4 => hA p k q1 q2 L q3 q4 (by omega)) (fun k q1 L q3 q4 => hB k q1 L q3 q4 (by omega))⟩, fun c => ?_⟩
      exfalso
      simp (disch := omega) only [J_lit, J_add, J_sub, J_mul, J_neg, J_lt, J_le, J_eq, J_nat, J_in, J_div] at c
      omega
    | succ m ih =>
      intro k N hm hN hA hB
      obtain ⟨hLN, -, -⟩ := ini N hN
      refine rX12_layChances_17 D (d + 5) _ _ _ N _ hLN ⟨fun c => ?_, fun _ => ?_⟩
      · exfalso
        simp (disch := omega) only [J_lit, J_add, J_sub, J_mul, J_neg, J_lt, J_le, J_eq, J_nat, J_in, J_div] at c
        omega
      · have e5 : (-5 : Int32) = J (-5) := by decide
        rw [e5]
        exact ll 11 k (-5) N _ (by omega) (by omega) (by omega) hN hA hB (fun N' hN' hA' hB' => ih (k + 1) N' (by omega) hN' hA' hB')
  refine rX12_layChances D (d + 5) _ M _ (hD.1.sub (by omega) (by omega)) (c_mRest hD (fun M1 F1 z1 y0 y1 x7 e7 x8 e8 => ?_))
  rw [ef] at e7
  rw [e7, ef2] at e8
  rw [e7, e8]
  exact lk 5 0 M1 (by omega) ⟨F1.l.sub (by decide), fun k hk => z1 k (by omega), y0, y1⟩ (fun p' k' q1 q2 L' q3 q4 q5 => by omega) (fun k' q1 L' q3 q4 q5 => by omega)
end
