/-! ODDS: both -/
def sW (W : Nat → Int) : Int := W 0 + W 1 + W 2
def kn (T : Nat → Int) (s : Nat) : Int := min (min (T (s * 3)) (T (s * 3 + 1))) (T (s * 3 + 2))
def gs (T W : Nat → Int) (s : Nat) : Int := W 0 * T (s * 3) + W 1 * T (s * 3 + 1) + W 2 * T (s * 3 + 2)
def gq (T W V : Nat → Int) (n : Int) (s : Nat) : Int := W s * ((n * kn T s) * sW V + (100 - n) * gs T V s)
def oA (T W V : Nat → Int) (n pr : Int) : Int := (gq T W V n 0 + gq T W V n 1 + gq T W V n 2) * (100 - pr)
def oB (W V : Nat → Int) : Int := (sW W * sW V) * 1000000
/-- weights as they come -/
def Wk (W : Nat → Int) : Prop := (∀ s, s < 3 → 0 ≤ W s ∧ W s ≤ 99) ∧ 1 ≤ sW W
theorem Wk.s {W : Nat → Int} (h : Wk W) : 1 ≤ sW W ∧ sW W ≤ 297 := by
  refine ⟨h.2, ?_⟩
  have h0 := h.1 0 (by omega)
  have h1 := h.1 1 (by omega)
  have h2 := h.1 2 (by omega)
  unfold sW
  omega
theorem mulb {a b x y : Int} (ha : 0 ≤ a) (hb : 0 ≤ b) (hx : a ≤ x) (hy : b ≤ y) : 0 ≤ a * b ∧ a * b ≤ x * y := ⟨Int.mul_nonneg ha hb, Int.mul_le_mul hx hy hb (by omega)⟩
theorem kn_b {T : Nat → Int} {s : Nat} (hb : Tb T) (hs : s < 3) : 0 ≤ kn T s ∧ kn T s ≤ 100 := by
  have h0 := hb (s * 3) (by omega)
  have h1 := hb (s * 3 + 1) (by omega)
  have h2 := hb (s * 3 + 2) (by omega)
  unfold kn
  omega
theorem gs_b {T W : Nat → Int} {s : Nat} (hb : Tb T) (hs : s < 3) (hW : Wk W) : 0 ≤ gs T W s ∧ gs T W s ≤ 29700 := by
  have h0 := hb (s * 3) (by omega)
  have h1 := hb (s * 3 + 1) (by omega)
  have h2 := hb (s * 3 + 2) (by omega)
  have w0 := hW.1 0 (by omega)
  have w1 := hW.1 1 (by omega)
  have w2 := hW.1 2 (by omega)
  have p0 := mulb w0.1 h0.1 w0.2 h0.2
  have p1 := mulb w1.1 h1.1 w1.2 h1.2
  have p2 := mulb w2.1 h2.1 w2.2 h2.2
  unfold gs
  omega
theorem gq_b {T W V : Nat → Int} {n : Int} {s : Nat} (hb : Tb T) (hs : s < 3) (hW : Wk W) (hV : Wk V) (hn : 0 ≤ n ∧ n ≤ 100) : 0 ≤ gq T W V n s ∧ gq T W V n s ≤ 588060000 := by
  have k := kn_b hb hs
  have g := gs_b hb hs hV
  have v := hV.s
  have w := hW.1 s hs
  have p0 := mulb hn.1 k.1 hn.2 k.2
  have p1 := mulb p0.1 (by omega : (0 : Int) ≤ sW V) p0.2 v.2
  have p2 := mulb (by omega : (0 : Int) ≤ 100 - n) g.1 (by omega : (100 : Int) - n ≤ 100) g.2
  have p3 := mulb w.1 (by omega : (0 : Int) ≤ (n * kn T s) * sW V + (100 - n) * gs T V s) w.2 (by omega : (n * kn T s) * sW V + (100 - n) * gs T V s ≤ 5940000)
  unfold gq
  omega
theorem oA_b {T W V : Nat → Int} {n pr : Int} (hb : Tb T) (hW : Wk W) (hV : Wk V) (hn : 0 ≤ n ∧ n ≤ 100) (hp : 0 ≤ pr ∧ pr ≤ 99) : 0 ≤ oA T W V n pr ∧ oA T W V n pr ≤ 176418000000 := by
  have g0 := gq_b (s := 0) hb (by omega) hW hV hn
  have g1 := gq_b (s := 1) hb (by omega) hW hV hn
  have g2 := gq_b (s := 2) hb (by omega) hW hV hn
  have p := mulb (by omega : (0 : Int) ≤ gq T W V n 0 + gq T W V n 1 + gq T W V n 2) (by omega : (0 : Int) ≤ 100 - pr) (by omega : gq T W V n 0 + gq T W V n 1 + gq T W V n 2 ≤ 1764180000) (by omega : (100 : Int) - pr ≤ 100)
  unfold oA
  omega
theorem oB_b {W V : Nat → Int} (hW : Wk W) (hV : Wk V) : 1000000 ≤ oB W V ∧ oB W V ≤ 88209000000 := by
  have w := hW.s
  have v := hV.s
  have p := mulb (by omega : (0 : Int) ≤ sW W) (by omega : (0 : Int) ≤ sW V) w.2 v.2
  have q : 1 * 1 ≤ sW W * sW V := Int.mul_le_mul w.1 v.1 (by omega) (by omega)
  unfold oB
  omega
section
variable {D : GD} {d : Nat}
theorem c_weighGoals {M : Mm} {T W V : Nat → Int} {n pr : Int} {P : Mm → Prop} (hL : Lay 13 25 M) (hT : Ro M 14 9 T) (hb : Tb T) (hW : Wk W) (hV : Wk V) (hn : 0 ≤ n ∧ n ≤ 100) (hp : 0 ≤ pr ∧ pr ≤ 99) (g23 : ∀ s, s < 3 → gI M 23 s = J (W s)) (g24 : ∀ s, s < 3 → gI M 24 s = J (V s)) (g13 : gI M 13 5 = J pr) (h : ∀ M', Fl [] M M' → gI M' = gI M → gL M' 13 6 = K (oA T W V n pr) → gL M' 13 7 = K (oB W V) → P M') : AMv D (d + 1) mX0_weighGoals [.ref 13, .int (J n)] M P := by
  have st1 : ∀ (i : Nat) (a b : Int) (post : Option Value → Mm → Prop), i < 3 → LX0_weighGoals_8 D d (J n) (K (a + W i)) (K (b + V i)) (J ((i + 1 : Nat) : Int)) M post → LX0_weighGoals_8 D d (J n) (K a) (K b) (J i) M post := by
    intro i a b post hi hk
    have ei : (J (i : Int)).toNatClampNeg = i := by simp (disch := omega) only [J_lit, J_add, J_sub, J_mul, J_neg, J_lt, J_le, J_eq, J_nat, J_in, J_div]; omega
    have w := hW.1 i hi
    have v := hV.1 i hi
    refine rX0_weighGoals_8 D d _ _ _ _ M post hL ⟨fun c => ?_, fun _ => ⟨by simp (disch := omega) only [J_lit, J_add, J_sub, J_mul, J_neg, J_lt, J_le, J_eq, J_nat, J_in, J_div]; omega, fun x3 e3 x4 e4 x5 e5 => ?_⟩⟩
    · exfalso
      simp (disch := omega) only [J_lit, J_add, J_sub, J_mul, J_neg, J_lt, J_le, J_eq, J_nat, J_in, J_div] at c
      omega
    · rw [ei, g23 i hi, J_i2l (by omega) (by omega), K_add] at e3
      rw [ei, g24 i hi, J_i2l (by omega) (by omega), K_add] at e4
      rw [e3, e4, e5, J_suc]
      exact hk
  -- one kick's side
  have st2 : ∀ (s i : Nat) (A B C g k : Int) (post : Option Value → Mm → Prop), s < 3 → i < 3 → 0 ≤ k → k ≤ 100 → LX0_weighGoals_71 D d (J n) (K A) (K B) (K C) (J s) (K (g + V i * T (s * 3 + i))) (K (min k (T (s * 3 + i)))) (J ((i + 1 : Nat) : Int)) M post → LX0_weighGoals_71 D d (J n) (K A) (K B) (K C) (J s) (K g) (K k) (J i) M post := by
    intro s i A B C g k post hs hi hk0 hk1 hh
    have ei : (J (i : Int)).toNatClampNeg = i := by simp (disch := omega) only [J_lit, J_add, J_sub, J_mul, J_neg, J_lt, J_le, J_eq, J_nat, J_in, J_div]; omega
    have v := hV.1 i hi
    have t := hb (s * 3 + i) (by omega)
    have p := mulb v.1 t.1 v.2 t.2
    have ec : cl T 0 s i = T (s * 3 + i) := rfl
    refine rX0_weighGoals_71 D d _ _ _ _ _ _ _ _ M post hL ⟨fun c => ?_, fun _ => ⟨by simp (disch := omega) only [J_lit, J_add, J_sub, J_mul, J_neg, J_lt, J_le, J_eq, J_nat, J_in, J_div]; omega, c_cell (w := 0) hL hT (by omega) hs hi (fun x12 e12 => c_cell (w := 0) hL hT (by omega) hs hi (fun x19 e19 x20 e20 => ?_))⟩⟩
    · exfalso
      simp (disch := omega) only [J_lit, J_add, J_sub, J_mul, J_neg, J_lt, J_le, J_eq, J_nat, J_in, J_div] at c
      omega
    · rw [ei, g24 i hi, ec, J_mul, J_i2l (by omega) (by omega), K_add] at e12
      rw [ec, J_i2l (by omega) (by omega)] at e19
      have em : x19 = K (min k (T (s * 3 + i))) := by
        rw [e19]
        by_cases q : K (T (s * 3 + i)) < K k
        · rw [if_pos q]
          simp (disch := omega) only [J_lit, J_add, J_sub, J_mul, J_neg, J_lt, J_le, J_eq, J_nat, J_in, J_div, K_lit, K_add, K_sub, K_mul, K_neg, K_lt, K_le, K_eq, J_i2l, K_l2i, K_div] at q
          congr 1
          omega
        · rw [if_neg q]
          simp (disch := omega) only [J_lit, J_add, J_sub, J_mul, J_neg, J_lt, J_le, J_eq, J_nat, J_in, J_div, K_lit, K_add, K_sub, K_mul, K_neg, K_lt, K_le, K_eq, J_i2l, K_l2i, K_div] at q
          congr 1
          omega
      rw [e12, em, e20, J_suc]
      exact hh
  have st3 : ∀ (s : Nat) (A B C : Int) (post : Option Value → Mm → Prop), s < 3 → B = sW V → LX0_weighGoals_54 D d (J n) (K A) (K B) (K (C + gq T W V n s)) (J ((s + 1 : Nat) : Int)) M post → LX0_weighGoals_54 D d (J n) (K A) (K B) (K C) (J s) M post := by
    intro s A B C post hs hB hh
    have es : (J (s : Int)).toNatClampNeg = s := by simp (disch := omega) only [J_lit, J_add, J_sub, J_mul, J_neg, J_lt, J_le, J_eq, J_nat, J_in, J_div]; omega
    have w := hW.1 s hs
    have t0 := hb (s * 3 + 0) (by omega)
    have t1 := hb (s * 3 + 1) (by omega)
    have t2 := hb (s * 3 + 2) (by omega)
    refine rX0_weighGoals_54 D d _ _ _ _ _ M post hL ⟨fun c => ?_, fun _ => ?_⟩
    · exfalso
      simp (disch := omega) only [J_lit, J_add, J_sub, J_mul, J_neg, J_lt, J_le, J_eq, J_nat, J_in, J_div] at c
      omega
    · refine st2 s 0 A B C 0 100 post hs (by omega) (by omega) (by omega) ?_
      refine st2 s 1 A B C _ _ post hs (by omega) (by omega) (by omega) ?_
      refine st2 s 2 A B C _ _ post hs (by omega) (by omega) (by omega) ?_
      have e1 : 0 + V 0 * T (s * 3 + 0) + V 1 * T (s * 3 + 1) + V 2 * T (s * 3 + 2) = gs T V s := by
        unfold gs
        rw [Nat.add_zero]
        omega
      have e2 : min (min (min 100 (T (s * 3 + 0))) (T (s * 3 + 1))) (T (s * 3 + 2)) = kn T s := by
        unfold kn
        rw [Nat.add_zero] at t0 ⊢
        omega
      rw [e1, e2]
      refine rX0_weighGoals_71 D d _ _ _ _ _ _ _ _ M post hL ⟨fun _ => ⟨by simp (disch := omega) only [J_lit, J_add, J_sub, J_mul, J_neg, J_lt, J_le, J_eq, J_nat, J_in, J_div]; omega, fun x3 e3 x4 e4 => ?_⟩, fun c => absurd (by decide) c⟩
      have e100 : (100 : Int32) - J n = J (100 - n) := by simp (disch := omega) only [J_lit, J_add, J_sub, J_mul, J_neg, J_lt, J_le, J_eq, J_nat, J_in, J_div]
      rw [es, g23 s hs, e100, J_i2l (by omega) (by omega), J_i2l (by omega) (by omega), J_i2l (by omega) (by omega), K_mul, K_mul, K_mul, K_add, K_mul, K_add, hB] at e3
      have hh' : x3 = K (C + gq T W V n s) := e3
      rw [hh', e4, J_suc]
      exact hh
  refine rX0_weighGoals D d (J n) M _ hL ?_
  refine st1 0 0 0 _ (by omega) ?_
  refine st1 1 _ _ _ (by omega) ?_
  refine st1 2 _ _ _ (by omega) ?_
  have eA : 0 + W 0 + W 1 + W 2 = sW W := by unfold sW; omega
  have eB : 0 + V 0 + V 1 + V 2 = sW V := by unfold sW; omega
  rw [eA, eB]
  refine rX0_weighGoals_8 D d _ _ _ _ M _ hL ⟨fun _ => ?_, fun c => absurd (by decide) c⟩
  refine st3 0 _ _ 0 _ (by omega) rfl ?_
  refine st3 1 _ _ _ _ (by omega) rfl ?_
  refine st3 2 _ _ _ _ (by omega) rfl ?_
  have eG : 0 + gq T W V n 0 + gq T W V n 1 + gq T W V n 2 = gq T W V n 0 + gq T W V n 1 + gq T W V n 2 := by omega
  rw [eG]
  refine rX0_weighGoals_54 D d _ _ _ _ _ M _ hL ⟨fun _ M2 e2 M6 e6 => ?_, fun c => absurd (by decide) c⟩
  have ep : (100 : Int32) - J pr = J (100 - pr) := by simp (disch := omega) only [J_lit, J_add, J_sub, J_mul, J_neg, J_lt, J_le, J_eq, J_nat, J_in, J_div]
  rw [g13, ep, J_i2l (by omega) (by omega), K_mul] at e2
  have eb : (K (sW W) * K (sW V)) * (1000000 : Int64) = K (oB W V) := by
    rw [K_mul]
    simp (disch := omega) only [J_lit, J_add, J_sub, J_mul, J_neg, J_lt, J_le, J_eq, J_nat, J_in, J_div, K_lit, K_add, K_sub, K_mul, K_neg, K_lt, K_le, K_eq, J_i2l, K_l2i, K_div]
    rfl
  rw [eb] at e6
  have F : Fl [] M M6 := by rw [e6, e2]; exact ((Fl.refl _ M).sl (by omega)).sl (by omega)
  refine ⟨rfl, F.1, h M6 F (by rw [e6, e2]; rfl) ?_ ?_⟩
  · rw [e6, gL_sL, if_neg (by omega), e2, gL_sL, if_pos ⟨rfl, rfl⟩]
    rfl
  · rw [e6, gL_sL, if_pos ⟨rfl, rfl⟩]
theorem c_sumW {M : Mm} {w : Nat} {W : Nat → Int} {P : Int32 → Mm → Prop} (hL : Lay 62 98 M) (hw : w < 2) (hW : Wr M w W) (h : P (J (sW W)) M) : AMi D d mX12_sumWeights [.ref 62, .int (J w)] M P := by
  have e0 : ((3 : Int32) * J w).toNatClampNeg = 3 * w + 0 := by simp (disch := omega) only [J_lit, J_add, J_sub, J_mul, J_neg, J_lt, J_le, J_eq, J_nat, J_in, J_div]; omega
  have e1 : ((3 : Int32) * J w + (1 : Int32)).toNatClampNeg = 3 * w + 1 := by simp (disch := omega) only [J_lit, J_add, J_sub, J_mul, J_neg, J_lt, J_le, J_eq, J_nat, J_in, J_div]; omega
  have e2 : ((3 : Int32) * J w + (2 : Int32)).toNatClampNeg = 3 * w + 2 := by simp (disch := omega) only [J_lit, J_add, J_sub, J_mul, J_neg, J_lt, J_le, J_eq, J_nat, J_in, J_div]; omega
  refine rX12_sumWeights D d _ M _ hL ?_
  rw [e0, e1, e2, hW 0 (by omega), hW 1 (by omega), hW 2 (by omega), J_add, J_add]
  exact ⟨by simp (disch := omega) only [J_lit, J_add, J_sub, J_mul, J_neg, J_lt, J_le, J_eq, J_nat, J_in, J_div]; omega, by simp (disch := omega) only [J_lit, J_add, J_sub, J_mul, J_neg, J_lt, J_le, J_eq, J_nat, J_in, J_div]; omega, by simp (disch := omega) only [J_lit, J_add, J_sub, J_mul, J_neg, J_lt, J_le, J_eq, J_nat, J_in, J_div]; omega, _, rfl, .refl M, h⟩
theorem c_mPressed {M : Mm} {p k v j : Nat} {l o t q : Int} {R : List Cls} {P : Int32 → Mm → Prop} (hL : Lay 62 98 M) (hS : Stm M l o t q) (hq : 0 ≤ q ∧ q ≤ 20) (hF : Fs (fs0 l o t q)) (hp : Pm M p k v j R) (h : ∀ M', Fm [72, 73] M M' → P (J (mn99 (gain (fs0 l o t q) 3 R))) M') : AMi D (d + 2) mX12_pressed [.ref 62, .int (J p)] M P := by
  obtain ⟨p11, k6, v2, j7, e74, e75, e76, hRu⟩ := id hp
  refine rX12_pressed D (d + 1) _ M _ hL (c_layFacts (w := 0) hL (by omega) hS hq (fun M1 F1 g1 => ?_))
  have gl := gain_le (fs0 l o t q) 3 R hRu.2.1
  have h8 := hRu.1
  refine c_sumOf (w := 3) (F := fs0 l o t q) (hL.of F1.1) p11 j7 (by omega) (by rw [F1.2.2.2 76 (by decide)]; exact e76) (hRu.fm (fun x h1 h2 => F1.2.2.2 x (by (simp only [List.contains_cons, List.contains_nil, Bool.or_false, Bool.or_eq_false_iff, beq_eq_false_iff_ne, ne_eq]; omega)))) hF.1 g1 (fun M2 F2 => ?_)
  have FF : Fm [72, 73] M M2 := (F1.sub (by decide)).trans (F2.sub (by decide))
  have hh := h M2 FF
  refine ⟨fun c => ⟨_, rfl, FF.1, ?_⟩, fun c => ⟨_, rfl, FF.1, ?_⟩⟩
  · simp (disch := omega) only [J_lit, J_add, J_sub, J_mul, J_neg, J_lt, J_le, J_eq, J_nat, J_in, J_div] at c
    have e : mn99 (gain (fs0 l o t q) 3 R) = (gain (fs0 l o t q) 3 R : Int) := by
      unfold mn99
      split <;> omega
    rw [e] at hh
    exact hh
  · simp (disch := omega) only [J_lit, J_add, J_sub, J_mul, J_neg, J_lt, J_le, J_eq, J_nat, J_in, J_div] at c
    have e : mn99 (gain (fs0 l o t q) 3 R) = 99 := by
      unfold mn99
      rw [if_neg (by omega)]
    rw [e] at hh
    exact hh
/-- the reference's odds, the weights lying -/
theorem l_findOdds {M0 M : Mm} {T W V : Nat → Int} {n : Int} {p k v j : Nat} {l o t q : Int} {R : List Cls} {P : Mm → Prop} (hs0 : Sm M0 M) (hL : Lay 62 98 M) (hT : Ro M 63 9 T) (hb : Tb T) (hW : Wk W) (hV : Wk V) (hn : 0 ≤ n ∧ n ≤ 100) (w0 : Wr M 0 W) (w1 : Wr M 1 V) (hS : Stm M l o t q) (hq : 0 ≤ q ∧ q ≤ 20) (hF : Fs (fs0 l o t q)) (hp : Pm M p k v j R) (e30 : gL M 62 30 = K 0) (h : ∀ M', Fl [72, 73] M M' → gL M' 62 30 = K (loA (oA T W V n (mn99 (gain (fs0 l o t q) 3 R))) (oB W V).toNat) → gL M' 62 31 = K (loB (oA T W V n (mn99 (gain (fs0 l o t q) 3 R))) (oB W V).toNat) → P M') : LX12_findOdds_22 D (d + 2) (J p) (J n) (K (sW V)) (0 : Int32) M (fun r M1 => r = none ∧ Sm M0 M1 ∧ P M1) := by
  have st2 : ∀ (s i : Nat) (g k : Int) (N : Mm) (post : Option Value → Mm → Prop), s < 3 → i < 3 → 0 ≤ k → k ≤ 101 → Lay 62 98 N → gI N = gI M → LX12_findOdds_38 D (d + 2) (J p) (J n) (K (sW V)) (J s) (K (g + V i * T (s * 3 + i))) (J (min k (T (s * 3 + i)))) (J ((i + 1 : Nat) : Int)) N post → LX12_findOdds_38 D (d + 2) (J p) (J n) (K (sW V)) (J s) (K g) (J k) (J i) N post := by
    intro s i g k N post hs hi hk0 hk1 hLN gN hh
    have e1 : ((3 : Int32) + J i).toNatClampNeg = 3 * 1 + i := by simp (disch := omega) only [J_lit, J_add, J_sub, J_mul, J_neg, J_lt, J_le, J_eq, J_nat, J_in, J_div]; omega
    have e2 : ((3 : Int32) * J s + J i).toNatClampNeg = s * 3 + i := by simp (disch := omega) only [J_lit, J_add, J_sub, J_mul, J_neg, J_lt, J_le, J_eq, J_nat, J_in, J_div]; omega
    have vv := hV.1 i hi
    have tt := hb (s * 3 + i) (by omega)
    refine rX12_findOdds_38 D (d + 2) _ _ _ _ _ _ _ N post hLN ?_
    rw [e1, e2, gN, w1 i hi, hT _ (by omega), J_i2l (by omega) (by omega), J_i2l (by omega) (by omega), K_mul, K_add]
    refine ⟨fun c => ?_, fun _ => ⟨by simp (disch := omega) only [J_lit, J_add, J_sub, J_mul, J_neg, J_lt, J_le, J_eq, J_nat, J_in, J_div]; omega, by simp (disch := omega) only [J_lit, J_add, J_sub, J_mul, J_neg, J_lt, J_le, J_eq, J_nat, J_in, J_div]; omega, fun x10 e10 => ⟨fun c x12 e12 => ?_, fun c x13 e13 x14 e14 => ?_⟩⟩⟩
    · exfalso
      simp (disch := omega) only [J_lit, J_add, J_sub, J_mul, J_neg, J_lt, J_le, J_eq, J_nat, J_in, J_div] at c
      omega
    · simp (disch := omega) only [J_lit, J_add, J_sub, J_mul, J_neg, J_lt, J_le, J_eq, J_nat, J_in, J_div] at c
      have em : min k (T (s * 3 + i)) = k := by omega
      rw [em] at hh
      rw [e10, e12, J_suc]
      exact hh
    · simp (disch := omega) only [J_lit, J_add, J_sub, J_mul, J_neg, J_lt, J_le, J_eq, J_nat, J_in, J_div] at c
      have em : min k (T (s * 3 + i)) = T (s * 3 + i) := by omega
      rw [em] at hh
      rw [e10, e13, e14, J_suc]
      exact hh
  have st3 : ∀ (s : Nat) (C : Int) (N : Mm) (post : Option Value → Mm → Prop), s < 3 → Lay 62 98 N → gI N = gI M → gL N 62 30 = K C → (∀ N', N' = sL N 62 30 (K (C + gq T W V n s)) → LX12_findOdds_22 D (d + 2) (J p) (J n) (K (sW V)) (J ((s + 1 : Nat) : Int)) N' post) → LX12_findOdds_22 D (d + 2) (J p) (J n) (K (sW V)) (J s) N post := by
    intro s C N post hs hLN gN eC hh
    have es : (J (s : Int)).toNatClampNeg = 3 * 0 + s := by simp (disch := omega) only [J_lit, J_add, J_sub, J_mul, J_neg, J_lt, J_le, J_eq, J_nat, J_in, J_div]; omega
    have w := hW.1 s hs
    have t0 := hb (s * 3 + 0) (by omega)
    have t1 := hb (s * 3 + 1) (by omega)
    have t2 := hb (s * 3 + 2) (by omega)
    have kk := kn_b hb hs
    have nk := mulb hn.1 kk.1 hn.2 kk.2
    refine rX12_findOdds_22 D (d + 2) _ _ _ _ N post hLN ⟨fun c => ?_, fun _ => ?_⟩
    · exfalso
      simp (disch := omega) only [J_lit, J_add, J_sub, J_mul, J_neg, J_lt, J_le, J_eq, J_nat, J_in, J_div] at c
      omega
    · refine st2 s 0 0 101 N post hs (by omega) (by omega) (by omega) hLN gN ?_
      refine st2 s 1 _ _ N post hs (by omega) (by omega) (by omega) hLN gN ?_
      refine st2 s 2 _ _ N post hs (by omega) (by omega) (by omega) hLN gN ?_
      have e1 : 0 + V 0 * T (s * 3 + 0) + V 1 * T (s * 3 + 1) + V 2 * T (s * 3 + 2) = gs T V s := by
        unfold gs
        rw [Nat.add_zero]
        omega
      have e2 : min (min (min 101 (T (s * 3 + 0))) (T (s * 3 + 1))) (T (s * 3 + 2)) = kn T s := by
        unfold kn
        rw [Nat.add_zero] at t0 ⊢
        omega
      rw [e1, e2]
      have e100 : (100 : Int32) - J n = J (100 - n) := by simp (disch := omega) only [J_lit, J_add, J_sub, J_mul, J_neg, J_lt, J_le, J_eq, J_nat, J_in, J_div]
      refine rX12_findOdds_38 D (d + 2) _ _ _ _ _ _ _ N post hLN ?_
      rw [es, eC, gN, w0 s hs, J_mul, e100, J_i2l (by omega) (by omega), J_i2l (by omega) (by omega), J_i2l (by omega) (by omega), K_mul, K_mul, K_add, K_mul, K_add]
      refine ⟨fun _ => ⟨by simp (disch := omega) only [J_lit, J_add, J_sub, J_mul, J_neg, J_lt, J_le, J_eq, J_nat, J_in, J_div]; omega, fun M3 e3 x7 e7 => ?_⟩, fun c => absurd (by decide) c⟩
      rw [e7, J_suc]
      exact hh M3 e3
  have lf : ∀ {N : Mm} {x : Int64}, gI (sL N 62 30 x) = gI N := fun {N x} => rfl
  refine st3 0 0 M _ (by omega) hL rfl e30 (fun N1 n1 => ?_)
  have F1 : Fl [] M N1 := by rw [n1]; exact (Fl.refl _ M).sl (by omega)
  have g1 : gI N1 = gI M := by rw [n1]; rfl
  refine st3 1 _ N1 _ (by omega) (hL.of F1.1) g1 (by rw [n1, gL_sL, if_pos ⟨rfl, rfl⟩]) (fun N2 n2 => ?_)
  have F2 : Fl [] M N2 := by rw [n2]; exact F1.sl (by omega)
  have g2 : gI N2 = gI M := by rw [n2, ← g1]; rfl
  refine st3 2 _ N2 _ (by omega) (hL.of F2.1) g2 (by rw [n2, gL_sL, if_pos ⟨rfl, rfl⟩]) (fun N3 n3 => ?_)
  have F3 : Fl [] M N3 := by rw [n3]; exact F2.sl (by omega)
  have g3 : gI N3 = gI M := by rw [n3, ← g2]; rfl
  have a3 : gL N3 62 30 = K (gq T W V n 0 + gq T W V n 1 + gq T W V n 2) := by
    rw [n3, gL_sL, if_pos ⟨rfl, rfl⟩]
    congr 1
    omega
  have hS3 : Stm N3 l o t q := by unfold Stm at hS ⊢; rw [g3]; exact hS
  refine rX12_findOdds_22 D (d + 2) _ _ _ _ N3 _ (hL.of F3.1) ⟨fun _ => ?_, fun c => absurd (by decide) c⟩
  refine c_mPressed (hL.of F3.1) hS3 hq hF (hp.fm (fun x _ => by rw [g3])) (fun N4 F4 M8 e8 => ?_)
  have pb : 0 ≤ mn99 (gain (fs0 l o t q) 3 R) ∧ mn99 (gain (fs0 l o t q) 3 R) ≤ 99 := mn99_b (Int.natCast_nonneg _)
  generalize mn99 (gain (fs0 l o t q) 3 R) = pr at *
  have ep : (100 : Int32) - J pr = J (100 - pr) := by simp (disch := omega) only [J_lit, J_add, J_sub, J_mul, J_neg, J_lt, J_le, J_eq, J_nat, J_in, J_div]
  rw [a3, ep, J_i2l (by omega) (by omega), K_mul] at e8
  have F8 : Fl [72, 73] M M8 := by rw [e8]; exact ((F3.sub (by decide)).trans F4.l).sl (by omega)
  have w08 : Wr M8 0 W := fun s hs => by rw [F8.2.2.2 78 (by decide)]; exact w0 s hs
  have a8 : gL M8 62 30 = K (oA T W V n pr) := by rw [e8, gL_sL, if_pos ⟨rfl, rfl⟩]; rfl
  refine c_sumW (w := 0) (hL.of F8.1) (by omega) w08 (fun M18 e18 => ?_)
  have ws := hW.s
  have vs := hV.s
  have ob := oB_b hW hV
  have oa := oA_b (T := T) hb hW hV hn pb
  have eb : ((((J (sW W)).toInt64 * K (sW V)) * (100 : Int64)) * (100 : Int64)) * (100 : Int64) = K ((oB W V).toNat : Int) := by
    rw [J_i2l (by omega) (by omega), K_mul]
    simp (disch := omega) only [J_lit, J_add, J_sub, J_mul, J_neg, J_lt, J_le, J_eq, J_nat, J_in, J_div, K_lit, K_add, K_sub, K_mul, K_neg, K_lt, K_le, K_eq, J_i2l, K_l2i, K_div]
    congr 1
    rw [Int.toNat_of_nonneg (by omega)]
    unfold oB
    omega
  rw [eb] at e18
  have F18 : Fl [72, 73] M M18 := by rw [e18]; exact F8.sl (by omega)
  refine c_lower (a := oA T W V n pr) (b := (oB W V).toNat) (hL.of F18.1) (by rw [e18, gL_sL, if_neg (by omega)]; exact a8) (by rw [e18, gL_sL, if_pos ⟨rfl, rfl⟩]) (by omega) (by omega) (by omega) (fun M22 F22 _ l0 l1 => ⟨rfl, hs0.trans (F18.1.trans F22.1), h M22 (F18.trans (F22.sub (by decide))) l0 l1⟩)
end
