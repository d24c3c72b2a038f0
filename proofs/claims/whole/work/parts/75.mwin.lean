/-! SHOOT-OUTS: the reference -/
def Tm (M : Mm) (X : Nat → Pd) : Prop := ∀ i, i < 12 → ∃ p j, gI M 82 i = J (p : Nat) ∧ Pm M p (X i).1 (X i).2.1 j (X i).2.2
theorem Tm.fl {M M' : Mm} {X : Nat → Pd} {L : List Nat} (h : Tm M X) (F : Fl L M M') (h1 : L.all (fun x => !((65 ≤ x && x ≤ 70) || (74 ≤ x && x ≤ 76) || x == 82)) = true) : Tm M' X := by
  have no : ∀ x, ((65 ≤ x ∧ x ≤ 70) ∨ (74 ≤ x ∧ x ≤ 76) ∨ x = 82) → L.contains x = false := by
    intro x hx
    cases e : L.contains x with
    | false => rfl
    | true =>
      have := List.all_eq_true.mp h1 x (List.contains_iff_mem.mp e)
      simp at this
      omega
  intro i hi
  obtain ⟨p, j, h1, h2⟩ := h i hi
  exact ⟨p, j, by rw [F.2.2.2 82 (no 82 (by omega))]; exact h1, h2.fm (fun x hx => F.2.2.2 x (no x (by omega)))⟩
theorem dec1 {c1 c2 : Nat → Int → Int} : ∀ (m t a b : Nat), t + m = 10 → b + 5 < a + t / 2 → wn c1 c2 m a b = 1000000
  | 0, t, a, b, ht, h => by
    obtain rfl : t = 10 := by omega
    show wv a b = _
    unfold wv
    rw [if_pos (by omega)]
  | m + 1, t, a, b, ht, h => by
    obtain rfl : t = 9 - m := by omega
    have e : ∀ x : Int, (x * 1000000 + (1000000 - x) * 1000000) / 1000000 = 1000000 := by
      intro x
      have : x * 1000000 + (1000000 - x) * 1000000 = 1000000 * 1000000 := by
        rw [← Int.add_mul]
        congr 1
        omega
      rw [this]
      rfl
    unfold wn stp
    split
    · rw [dec1 m (9 - m + 1) (a + 1) b (by omega) (by omega), dec1 m (9 - m + 1) a b (by omega) (by omega)]
      exact e _
    · rw [dec1 m (9 - m + 1) a (b + 1) (by omega) (by omega), dec1 m (9 - m + 1) a b (by omega) (by omega)]
      exact e _
theorem dec2 {c1 c2 : Nat → Int → Int} : ∀ (m t a b : Nat), t + m = 10 → a + 5 < b + (t + 1) / 2 → wn c1 c2 m a b = 0
  | 0, t, a, b, ht, h => by
    obtain rfl : t = 10 := by omega
    show wv a b = _
    unfold wv
    rw [if_neg (by omega), if_neg (by omega)]
  | m + 1, t, a, b, ht, h => by
    obtain rfl : t = 9 - m := by omega
    unfold wn stp
    split
    · rw [dec2 m (9 - m + 1) (a + 1) b (by omega) (by omega), dec2 m (9 - m + 1) a b (by omega) (by omega)]
      simp
    · rw [dec2 m (9 - m + 1) a (b + 1) (by omega) (by omega), dec2 m (9 - m + 1) a b (by omega) (by omega)]
      simp
section
variable {D : GD} {d : Nat}
theorem c_bound5 {M : Mm} {z : Int} {P : Int32 → Mm → Prop} (hL : Lay 62 98 M) (hz : -10 ≤ z ∧ z ≤ 10) (h : ∀ y : Int, -5 ≤ y → y ≤ 5 → (-5 ≤ z → z ≤ 5 → y = z) → P (J y) M) : AMi D d mX12_bound5 [.ref 62, .int (J z)] M P := by
  have e : (-5 : Int32) = J (-5) := by decide
  refine rX12_bound5 D d _ M _ hL ?_
  rw [e]
  refine ⟨fun c => ⟨fun c2 => ⟨_, rfl, .refl M, ?_⟩, fun c2 => ⟨_, rfl, .refl M, ?_⟩⟩, fun c => ⟨_, rfl, .refl M, ?_⟩⟩
  · simp (disch := omega) only [J_lit, J_add, J_sub, J_mul, J_neg, J_lt, J_le, J_eq, J_nat, J_in, J_div] at c c2
    exact h z c c2 (fun _ _ => rfl)
  · simp (disch := omega) only [J_lit, J_add, J_sub, J_mul, J_neg, J_lt, J_le, J_eq, J_nat, J_in, J_div] at c c2
    exact h 5 (by omega) (by omega) (fun _ _ => by omega)
  · simp (disch := omega) only [J_lit, J_add, J_sub, J_mul, J_neg, J_lt, J_le, J_eq, J_nat, J_in, J_div] at c
    exact h (-5) (by omega) (by omega) (fun _ _ => by omega)
/-- one score of findWin -/
theorem l_cell {N : Mm} {c1 c2 : Nat → Int → Int} {c83 : Nat → Nat → Int → Int} {o : Nat → Nat} {t a b : Nat} {post : Option Value → Mm → Prop} (hL : Lay 62 98 N) (ht : t ≤ 10) (ha : a < 6) (hb : b < 6) (ho : ∀ k, k < 5 → gI N 85 k = J (o k) ∧ o k < 5) (h1 : ∀ s L, 0 ≤ c1 s L ∧ c1 s L ≤ 1000000) (h2 : ∀ s L, 0 ≤ c2 s L ∧ c2 s L ≤ 1000000) (g83 : ∀ k, k < 5 → ∀ L : Int, -5 ≤ L → L ≤ 5 → gI N 83 (ix (o k) k L) = J (c1 k L)) (g84 : ∀ k, k < 5 → ∀ L : Int, -5 ≤ L → L ≤ 5 → gI N 84 (11 * k + (L + 5).toNat) = J (c2 k L)) (gW : t < 10 → ∀ a b, a ≤ (t + 2) / 2 → b ≤ (t + 1) / 2 → gI N 87 (36 * (t + 1) + 6 * a + b) = J (wn c1 c2 (9 - t) a b)) (hk : ∀ v : Int32, (a ≤ (t + 1) / 2 → b ≤ t / 2 → v = J (wn c1 c2 (10 - t) a b)) → LX12_findWin_17 D d (J t) (J a) (J ((b + 1 : Nat) : Int)) (sI N 87 (36 * t + 6 * a + b) v) post) : LX12_findWin_17 D d (J t) (J a) (J b) N post := by
  have e9 : ∀ x9 : Int32, x9 = (((36 : Int32) * J t) + ((6 : Int32) * J a)) + J b → x9 = J ((36 * t + 6 * a + b : Nat) : Int) := fun x9 e => by rw [e]; simp (disch := omega) only [J_lit, J_add, J_sub, J_mul, J_neg, J_lt, J_le, J_eq, J_nat, J_in, J_div]; congr 1
  have i9 : (J ((36 * t + 6 * a + b : Nat) : Int)).toNatClampNeg = 36 * t + 6 * a + b := by simp (disch := omega) only [J_lit, J_add, J_sub, J_mul, J_neg, J_lt, J_le, J_eq, J_nat, J_in, J_div]; omega
  have v9 : vp_in (J ((36 * t + 6 * a + b : Nat) : Int)) 396 := by simp (disch := omega) only [J_lit, J_add, J_sub, J_mul, J_neg, J_lt, J_le, J_eq, J_nat, J_in, J_div]; omega
  -- where a kick decides
  have kick : t < 10 → ¬ b + 5 < a + t / 2 → ¬ a + 5 < b + (t + 1) / 2 → ∀ t0 : Int32, (t % 2 = 0 → t0 = 1) → (t % 2 = 1 → t0 = 0) → LX12_findWin_96 D d (J t) (J a) (J b) (J ((36 * t + 6 * a + b : Nat) : Int)) t0 N post := by
    intro ht9 n1 n2 t0 z0 z1
    -- behind the chance
    have fin : ∀ (c : Int64) (C : Int), (a ≤ (t + 1) / 2 → b ≤ t / 2 → c = K C ∧ 0 ≤ C ∧ C ≤ 1000000 ∧ (t % 2 = 0 → C = c1 (t / 2) ((a : Int) - b)) ∧ (t % 2 = 1 → C = c2 (t / 2) ((b : Int) - a))) → (t % 2 = 0 → a ≤ 4) → (t % 2 = 1 → b ≤ 4) → LX12_findWin_187 D d (J t) (J a) (J b) (J ((36 * t + 6 * a + b : Nat) : Int)) t0 c N post := by
      intro c C hc a4 b4
      have last : ∀ (y : Nat) (x0 : Int32), x0 = J (y : Int) → y < 36 → (a ≤ (t + 1) / 2 → b ≤ t / 2 → ∃ w, gI N 87 (36 * (t + 1) + y) = J w ∧ 0 ≤ w ∧ w ≤ 1000000 ∧ (c1 (t / 2) ((a : Int) - b) = c1 (t / 2) ((a : Int) - b)) ∧ wn c1 c2 (10 - t) a b = (C * w + (1000000 - C) * wn c1 c2 (9 - t) a b) / 1000000) → LX12_findWin_225 D d (J t) (J a) (J b) (J ((36 * t + 6 * a + b : Nat) : Int)) c x0 (((36 : Int32) * J t) + (36 : Int32)) N post := by
        intro y x0 ex hy hw
        have j1 : ((((36 : Int32) * J t) + (36 : Int32)) + x0).toNatClampNeg = 36 * (t + 1) + y := by rw [ex]; simp (disch := omega) only [J_lit, J_add, J_sub, J_mul, J_neg, J_lt, J_le, J_eq, J_nat, J_in, J_div]; omega
        have j2 : (((((36 : Int32) * J t) + (36 : Int32)) + ((6 : Int32) * J a)) + J b).toNatClampNeg = 36 * (t + 1) + 6 * a + b := by simp (disch := omega) only [J_lit, J_add, J_sub, J_mul, J_neg, J_lt, J_le, J_eq, J_nat, J_in, J_div]; omega
        refine rX12_findWin_225 D d _ _ _ _ _ _ _ N post hL ?_
        rw [j1, j2, i9]
        refine ⟨by rw [ex]; simp (disch := omega) only [J_lit, J_add, J_sub, J_mul, J_neg, J_lt, J_le, J_eq, J_nat, J_in, J_div]; omega, fun x2 e2 => ⟨by simp (disch := omega) only [J_lit, J_add, J_sub, J_mul, J_neg, J_lt, J_le, J_eq, J_nat, J_in, J_div]; omega, fun x4 e4 => ⟨v9, fun M6 e6 x10 e10 => ?_⟩⟩⟩
        rw [e10, J_suc, e6]
        refine hk _ (fun u v => ?_)
        obtain ⟨hcK, hC0, hC1, -, -⟩ := hc u v
        obtain ⟨w, w1, w2, w3, -, w4⟩ := hw u v
        have wb := wn_b h1 h2 (9 - t) a b
        rw [w1, J_i2l (by omega) (by omega)] at e2
        rw [gW ht9 a b (by omega) (by omega), J_i2l (by omega) (by omega)] at e4
        rw [hcK, e2, e4, K_mix ⟨hC0, hC1⟩ ⟨w2, w3⟩ wb, w4]
      have step : wn c1 c2 (10 - t) a b = stp t (if t % 2 = 0 then c1 (t / 2) else c2 (t / 2)) (wn c1 c2 (9 - t)) a b := by
        have e : 10 - t = (9 - t) + 1 := by omega
        rw [e]
        conv => lhs; unfold wn
        rw [(by omega : 9 - (9 - t) = t)]
      refine rX12_findWin_187 D d _ _ _ _ _ _ N post hL ⟨fun c0 => ?_, fun c0 => ?_⟩
      · have hm : t % 2 = 1 := by
          rcases (by omega : t % 2 = 0 ∨ t % 2 = 1) with e | e
          · rw [z0 e] at c0
            exact absurd c0 (by decide)
          · exact e
        have b4' := b4 hm
        refine last (6 * a + (b + 1)) _ (by simp (disch := omega) only [J_lit, J_add, J_sub, J_mul, J_neg, J_lt, J_le, J_eq, J_nat, J_in, J_div]; congr 1) (by omega) (fun u v => ?_)
        obtain ⟨-, -, -, -, q2⟩ := hc u v
        have wb := wn_b h1 h2 (9 - t) a (b + 1)
        refine ⟨wn c1 c2 (9 - t) a (b + 1), ?_, wb.1, wb.2, rfl, ?_⟩
        · have := gW ht9 a (b + 1) (by omega) (by omega)
          rw [(by omega : 36 * (t + 1) + 6 * a + (b + 1) = 36 * (t + 1) + (6 * a + (b + 1)))] at this
          exact this
        · rw [step]
          unfold stp
          rw [if_neg (by omega), if_neg (by omega), q2 hm]
      · have hm : t % 2 = 0 := by
          rcases (by omega : t % 2 = 0 ∨ t % 2 = 1) with e | e
          · exact e
          · rw [z1 e] at c0
            exact absurd rfl c0
        have a4' := a4 hm
        refine last (6 * (a + 1) + b) _ (by simp (disch := omega) only [J_lit, J_add, J_sub, J_mul, J_neg, J_lt, J_le, J_eq, J_nat, J_in, J_div]; congr 1) (by omega) (fun u v => ?_)
        obtain ⟨-, -, -, q1, -⟩ := hc u v
        have wb := wn_b h1 h2 (9 - t) (a + 1) b
        refine ⟨wn c1 c2 (9 - t) (a + 1) b, ?_, wb.1, wb.2, rfl, ?_⟩
        · have := gW ht9 (a + 1) b (by omega) (by omega)
          rw [(by omega : 36 * (t + 1) + 6 * (a + 1) + b = 36 * (t + 1) + (6 * (a + 1) + b))] at this
          exact this
        · rw [step]
          unfold stp
          rw [if_pos (by omega), if_pos (by omega), q1 hm]
    have eh : J (t : Int) / (2 : Int32) = J ((t / 2 : Nat) : Int) := J_half (by omega)
    have ih2 : (J ((t / 2 : Nat) : Int)).toNatClampNeg = t / 2 := by simp (disch := omega) only [J_lit, J_add, J_sub, J_mul, J_neg, J_lt, J_le, J_eq, J_nat, J_in, J_div]; omega
    have five : ∀ (x : Nat), x < 6 → (t % 2 = 0 → x = a) → (t % 2 = 1 → x = b) → LX12_findWin_108 D d (J t) (J a) (J b) (J ((36 * t + 6 * a + b : Nat) : Int)) t0 (J x) N post := by
      intro x hx xa xb
      refine rX12_findWin_108 D d _ _ _ _ _ _ N post hL ?_
      rw [i9, eh, ih2]
      refine ⟨fun q => ?_, fun q => ⟨v9, fun M19 e19 x23 e23 => ?_⟩⟩
      · simp (disch := omega) only [J_lit, J_add, J_sub, J_mul, J_neg, J_lt, J_le, J_eq, J_nat, J_in, J_div] at q
        refine ⟨fun q0 => ?_, fun q0 => ?_⟩
        · have hm : t % 2 = 1 := by
            rcases (by omega : t % 2 = 0 ∨ t % 2 = 1) with e | e
            · rw [z0 e] at q0
              exact absurd q0 (by decide)
            · exact e
          have exb := xb hm
          have ez : J (b : Int) - J a = J ((b : Int) - a) := by simp (disch := omega) only [J_lit, J_add, J_sub, J_mul, J_neg, J_lt, J_le, J_eq, J_nat, J_in, J_div]
          rw [ez]
          refine c_bound5 hL (by omega) (fun y y1 y2 y3 => ?_)
          have ej : (((11 : Int32) * J ((t / 2 : Nat) : Int) + J y) + (5 : Int32)).toNatClampNeg = 11 * (t / 2) + (y + 5).toNat := by simp (disch := omega) only [J_lit, J_add, J_sub, J_mul, J_neg, J_lt, J_le, J_eq, J_nat, J_in, J_div]; omega
          rw [ej, g84 (t / 2) (by omega) y y1 y2]
          refine ⟨by simp (disch := omega) only [J_lit, J_add, J_sub, J_mul, J_neg, J_lt, J_le, J_eq, J_nat, J_in, J_div]; omega, fin _ (c2 (t / 2) y) (fun u v => ?_) (fun e => by omega) (fun _ => by omega)⟩
          have b := h2 (t / 2) y
          refine ⟨J_i2l (by omega) (by omega), b.1, b.2, fun e => by omega, fun _ => ?_⟩
          rw [y3 (by omega) (by omega)]
        · have hm : t % 2 = 0 := by
            rcases (by omega : t % 2 = 0 ∨ t % 2 = 1) with e | e
            · exact e
            · rw [z1 e] at q0
              exact absurd rfl q0
          have exa := xa hm
          obtain ⟨o1, o2⟩ := ho (t / 2) (by omega)
          have ez : J (a : Int) - J b = J ((a : Int) - b) := by simp (disch := omega) only [J_lit, J_add, J_sub, J_mul, J_neg, J_lt, J_le, J_eq, J_nat, J_in, J_div]
          rw [ez, o1]
          refine ⟨by simp (disch := omega) only [J_lit, J_add, J_sub, J_mul, J_neg, J_lt, J_le, J_eq, J_nat, J_in, J_div]; omega, c_bound5 hL (by omega) (fun y y1 y2 y3 => ?_)⟩
          have ej : ((((55 : Int32) * J ((o (t / 2) : Nat) : Int) + (11 : Int32) * J ((t / 2 : Nat) : Int)) + J y) + (5 : Int32)).toNatClampNeg = ix (o (t / 2)) (t / 2) y := by unfold ix; simp (disch := omega) only [J_lit, J_add, J_sub, J_mul, J_neg, J_lt, J_le, J_eq, J_nat, J_in, J_div]; omega
          rw [ej, g83 (t / 2) (by omega) y y1 y2]
          refine ⟨by simp (disch := omega) only [J_lit, J_add, J_sub, J_mul, J_neg, J_lt, J_le, J_eq, J_nat, J_in, J_div]; omega, fin _ (c1 (t / 2) y) (fun u v => ?_) (fun _ => by omega) (fun e => by omega)⟩
          have b := h1 (t / 2) y
          refine ⟨J_i2l (by omega) (by omega), b.1, b.2, fun _ => ?_, fun e => by omega⟩
          rw [y3 (by omega) (by omega)]
      · simp (disch := omega) only [J_lit, J_add, J_sub, J_mul, J_neg, J_lt, J_le, J_eq, J_nat, J_in, J_div] at q
        rw [e23, J_suc, e19]
        refine hk _ (fun u v => ?_)
        rcases (by omega : t % 2 = 0 ∨ t % 2 = 1) with e | e
        · have := xa e
          omega
        · have := xb e
          omega
    refine rX12_findWin_96 D d _ _ _ _ _ N post hL ⟨fun q => five b hb (fun e => ?_) (fun _ => rfl), fun q => five a ha (fun _ => rfl) (fun e => ?_)⟩
    · rw [z0 e] at q
      exact absurd q (by decide)
    · rw [z1 e] at q
      exact absurd rfl q
  refine rX12_findWin_17 D d _ _ _ N post hL ⟨fun c => ?_, fun _ => c_ended hL ht (by omega) (by omega) (fun x9 q9 => ?_)⟩
  · exfalso
    simp (disch := omega) only [J_lit, J_add, J_sub, J_mul, J_neg, J_lt, J_le, J_eq, J_nat, J_in, J_div] at c
    omega
  · rw [e9 x9 q9, i9, J_par (by omega)]
    unfold enF
    by_cases n1 : b + 5 < a + t / 2
    · rw [if_pos n1]
      refine ⟨fun q => absurd q (by decide), fun _ => ⟨fun q => absurd rfl q, fun _ => ⟨v9, fun M27 e27 x31 e31 => ?_⟩⟩⟩
      rw [e31, J_suc, e27]
      exact hk _ (fun u v => by rw [dec1 (10 - t) t a b (by omega) n1]; rfl)
    · rw [if_neg n1]
      by_cases n2 : a + 5 < b + (t + 1) / 2
      · rw [if_pos n2]
        refine ⟨fun q => absurd q (by decide), fun _ => ⟨fun _ => ⟨fun q => absurd rfl q, fun _ => ⟨v9, fun M27 e27 x31 e31 => ?_⟩⟩, fun q => absurd q (by decide)⟩⟩
        rw [e31, J_suc, e27]
        exact hk _ (fun u v => by rw [dec2 (10 - t) t a b (by omega) n2]; rfl)
      · rw [if_neg n2]
        by_cases n3 : t = 10
        · rw [if_pos n3]
          refine ⟨fun q => absurd q (by decide), fun _ => ⟨fun _ => ⟨fun _ => ⟨v9, fun M27 e27 x31 e31 => ?_⟩, fun q => absurd q (by decide)⟩, fun q => absurd q (by decide)⟩⟩
          rw [e31, J_suc, e27]
          refine hk _ (fun u v => ?_)
          subst n3
          have : wn c1 c2 (10 - 10) a b = wv a b := rfl
          rw [this]
          unfold wv
          rw [if_neg (by omega), if_pos (by omega)]
          rfl
        · rw [if_neg n3]
          refine ⟨fun _ => ⟨fun q => kick (by omega) n1 n2 0 (fun e => ?_) (fun _ => rfl), fun q => kick (by omega) n1 n2 1 (fun _ => rfl) (fun e => ?_)⟩, fun q => absurd (by decide) q⟩
          · rw [e] at q
            exact absurd rfl q
          · rw [e] at q
            exact absurd q (by decide)
end
