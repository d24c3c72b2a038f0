/-! likely: the call -/
def lkA (f : Nat → Int32) (n : Nat) : Nat := hC false n (-1) (-(rnF f n : Int)) (cTo f (J ((0 : Nat) : Int)) n) (cTo f (J ((1 : Nat) : Int)) n) (cTo f (J ((2 : Nat) : Int)) n)
def lkB' (f : Nat → Int32) (n : Nat) : Nat := hC true n (-1) (-(rnF f n : Int)) (cTo f (J ((0 : Nat) : Int)) n) (cTo f (J ((1 : Nat) : Int)) n) (cTo f (J ((2 : Nat) : Int)) n)
/-- the answer: a part of the fraction in lowest terms -/
def lkF (z : Bool) (A B : Nat) : Int := if z = true then ((B / Nat.gcd A B : Nat) : Int) else ((A / Nat.gcd A B : Nat) : Int)
section
variable {D : GD} {d : Nat}
theorem c_share {M : Mm} {n : Nat} {a : Int32} {P : Int32 → Mm → Prop} (hL : Lay 25 29 M) (hn : n ≤ 9) (e2 : gI M 25 2 = J n) (hs : ∀ k, k < n → ∃ x : Nat, x < 3 ∧ gI M 26 k = J x) (h : ∀ M', Fm [25, 28] M M' → (∀ k, k ≠ 4 → k ≠ 5 → gI M' 25 k = gI M 25 k) → P (J (lkF (decide (a = 0)) (lkA (gI M 26) n) (lkB' (gI M 26) n))) M') : AMi D (d + 12) mX1_runsShare [.ref 25, .int a] M P := by
  have s28 : Sh M 28 (1, 3) := hL.sh 28 rfl (by omega) (by omega)
  refine rX1_runsShare D (d + 11) a M _ hL (c_fill (n := 3) (by omega) s28 ?_)
  obtain ⟨M1, q1⟩ : ∃ M1, M1 = rI M 28 (fun k => if k < 3 then 0 else gI M 28 k) := ⟨_, rfl⟩
  rw [← q1]
  have F1 : Fm [25, 28] M M1 := by rw [q1]; exact (Fm.refl _ M).ri (by decide)
  have hsum := cTo_sum hs
  have hpA : 0 < lkA (gI M 26) n := hC_pos n _ _ _ _ _ hsum
  have lA := hC_le false n (-1) (-(rnF (gI M 26) n : Int)) (cTo (gI M 26) (J ((0 : Nat) : Int)) n) (cTo (gI M 26) (J ((1 : Nat) : Int)) n) (cTo (gI M 26) (J ((2 : Nat) : Int)) n)
  have lB := hC_le true n (-1) (-(rnF (gI M 26) n : Int)) (cTo (gI M 26) (J ((0 : Nat) : Int)) n) (cTo (gI M 26) (J ((1 : Nat) : Int)) n) (cTo (gI M 26) (J ((2 : Nat) : Int)) n)
  have p3 := p9 hn
  have rle := rnF_le (gI M 26) n
  have lp : ∀ (m i : Nat) (N : Mm), i + m = n → Fm [25, 28] M N → gI N 25 = gI M 25 → (∀ s, s < 3 → gI N 28 s = J (cTo (gI M 26) (J (s : Nat)) i : Nat)) → LX1_runsShare_10 D (d + 11) a (J i) N (fun r M1 => ∃ x, r = some (.int x) ∧ Sm M M1 ∧ P x M1) := by
    intro m
    induction m with
    | zero =>
      intro i N hi FN r25 g28
      obtain rfl : i = n := by omega
      have hLN := hL.of FN.1
      refine rX1_runsShare_10 D (d + 11) _ _ N _ hLN ⟨fun _ M2 m2 M6 m6 => ?_, fun c => ?_⟩
      · have F6 : Fm [25, 28] M M6 := by rw [m6, m2]; exact (FN.si (by decide)).si (by decide)
        have r26 : gI M6 26 = gI M 26 := F6.2.2.2 26 (by decide)
        have f2 : gI M6 25 2 = J i := by rw [m6, gI_sI, if_neg (by omega), m2, gI_sI, if_neg (by omega), r25]; exact e2
        have f28 : ∀ s, s < 3 → gI M6 28 s = J (cTo (gI M 26) (J (s : Nat)) i : Nat) := fun s hs' => by rw [m6, fr_s (by omega), m2, fr_s (by omega)]; exact g28 s hs'
        have hL6 := hL.of F6.1
        refine c_runs hL6 (by omega) f2 ?_
        rw [f2, r26]
        have emin : (if (9 : Int32) < J (i : Int) then (9 : Int32) else J i) = J i := by
          rw [if_neg]
          intro c
          simp (disch := omega) only [J_lit, J_add, J_sub, J_mul, J_neg, J_lt, J_le, J_eq, J_nat, J_in, J_div] at c
          omega
        have eneg : -J (rnF (gI M 26) i : Int) = J (-(rnF (gI M 26) i : Int)) := J_neg _
        have em1 : (-1 : Int32) = J (-1) := by decide
        rw [emin, eneg, em1]
        have ed : d + 11 = (d + 10 - i) + i + 1 := by omega
        have z4 : gI M6 25 4 = J ((0 : Nat) : Int) := by rw [m6, gI_sI, if_neg (by omega), m2, gI_sI, if_pos ⟨rfl, rfl⟩]; rfl
        have z5 : gI M6 25 5 = J ((0 : Nat) : Int) := by rw [m6, gI_sI, if_pos ⟨rfl, rfl⟩]; rfl
        have key : ∀ Q : Mm → Prop, (∀ M16, Fm [25, 28] M6 M16 → gI M16 25 4 = J (lkA (gI M 26) i : Nat) → gI M16 25 5 = J (lkB' (gI M 26) i : Nat) → (∀ k, k ≠ 4 → k ≠ 5 → gI M16 25 k = gI M6 25 k) → Q M16) → AMv D (d + 11) mX1_placeNext [.ref 25, .int (J (i : Int)), .int (J (-1)), .int (J (-(rnF (gI M 26) i : Int)))] M6 Q := by
          intro Q hQ
          rw [ed]
          refine pn i hn M6 (-1) (-(rnF (gI M 26) i : Int)) (fun s => cTo (gI M 26) (J (s : Nat)) i) 0 0 Q hL6 hsum f28 z4 z5 (by omega) (by omega) (by omega) (by omega) (by omega) (by omega) (fun M16 F16 _ a4 a5 ak => hQ M16 F16 ?_ ?_ ak)
          · rw [a4, Nat.zero_add]; rfl
          · rw [a5, Nat.zero_add]; rfl
        refine key _ (fun M16 F16 a4 a5 ak => ?_)
        have F6' : Fm [25, 28] M M16 := F6.trans F16
        have hL16 := hL.of F6'.1
        rw [a4, a5]
        have lA' : lkA (gI M 26) i ≤ 3 ^ i := lA
        have lB2 : lkB' (gI M 26) i ≤ 3 ^ i := lB
        refine c_cDiv hL16 (by omega) (by omega) ?_
        have gp : 0 < Nat.gcd (lkA (gI M 26) i) (lkB' (gI M 26) i) := Nat.gcd_pos_of_pos_left _ hpA
        have gl : Nat.gcd (lkA (gI M 26) i) (lkB' (gI M 26) i) ≤ lkA (gI M 26) i := Nat.gcd_le_left _ hpA
        have ak' : ∀ k, k ≠ 4 → k ≠ 5 → gI M16 25 k = gI M 25 k := fun k k1 k2 => by
          rw [ak k k1 k2, m6, gI_sI, if_neg (by omega), m2, gI_sI, if_neg (by omega), r25]
        have fin := h M16 F6' ak'
        rw [a4, a5]
        unfold lkF at fin
        generalize lkA (gI M 26) i = A at *
        generalize lkB' (gI M 26) i = B at *
        generalize Nat.gcd A B = g at *
        have eg : (if (1 : Int32) < J (g : Int) then J (g : Int) else (1 : Int32)) = J (g : Int) := by
          by_cases c : (1 : Int32) < J (g : Int)
          · rw [if_pos c]
          · rw [if_neg c]
            simp (disch := omega) only [J_lit, J_add, J_sub, J_mul, J_neg, J_lt, J_le, J_eq, J_nat, J_in, J_div] at c
            have : g = 1 := by omega
            rw [this]
            rfl
        rw [eg]
        have nz : ¬ J (g : Int) = 0 := by
          intro z
          simp (disch := omega) only [J_lit, J_add, J_sub, J_mul, J_neg, J_lt, J_le, J_eq, J_nat, J_in, J_div] at z
          omega
        have ea : J (A : Int) / J (g : Int) = J ((A / g : Nat) : Int) := by simp (disch := omega) only [J_lit, J_add, J_sub, J_mul, J_neg, J_lt, J_le, J_eq, J_nat, J_in, J_div]; congr 1
        have eb : J (B : Int) / J (g : Int) = J ((B / g : Nat) : Int) := by simp (disch := omega) only [J_lit, J_add, J_sub, J_mul, J_neg, J_lt, J_le, J_eq, J_nat, J_in, J_div]; congr 1
        rw [ea, eb]
        refine ⟨fun c => ⟨nz, _, rfl, F6'.1, ?_⟩, fun c => ⟨nz, _, rfl, F6'.1, ?_⟩⟩
        · rw [decide_eq_false c, if_neg (by decide)] at fin
          exact fin
        · rw [decide_eq_true c, if_pos rfl] at fin
          exact fin
      · rw [r25, e2] at c
        exfalso
        simp (disch := omega) only [J_lit, J_add, J_sub, J_mul, J_neg, J_lt, J_le, J_eq, J_nat, J_in, J_div] at c
        omega
    | succ m ih =>
      intro i N hi FN r25 g28
      have hLN := hL.of FN.1
      have ei : (J (i : Int)).toNatClampNeg = i := by simp (disch := omega) only [J_lit, J_add, J_sub, J_mul, J_neg, J_lt, J_le, J_eq, J_nat, J_in, J_div]; omega
      obtain ⟨x, hx, ex⟩ := hs i (by omega)
      have exn : (J (x : Int)).toNatClampNeg = x := by simp (disch := omega) only [J_lit, J_add, J_sub, J_mul, J_neg, J_lt, J_le, J_eq, J_nat, J_in, J_div]; omega
      have r26 : gI N 26 = gI M 26 := FN.2.2.2 26 (by decide)
      refine rX1_runsShare_10 D (d + 11) _ _ N _ hLN ?_
      rw [ei, r26, ex, exn, r25, e2]
      refine ⟨fun c => ?_, fun _ => ⟨by simp (disch := omega) only [J_lit, J_add, J_sub, J_mul, J_neg, J_lt, J_le, J_eq, J_nat, J_in, J_div]; omega, by simp (disch := omega) only [J_lit, J_add, J_sub, J_mul, J_neg, J_lt, J_le, J_eq, J_nat, J_in, J_div]; omega, fun M33 m33 x37 e37 => ?_⟩⟩
      · exfalso
        simp (disch := omega) only [J_lit, J_add, J_sub, J_mul, J_neg, J_lt, J_le, J_eq, J_nat, J_in, J_div] at c
        omega
      · rw [g28 x hx, J_suc] at m33
        rw [e37, J_suc]
        refine ih (i + 1) M33 (by omega) (by rw [m33]; exact FN.si (by decide)) (by rw [m33, fr_s (by omega)]; exact r25) (fun s hs' => ?_)
        rw [m33, gI_sI]
        have ec : cTo (gI M 26) (J (s : Nat)) (i + 1) = cTo (gI M 26) (J (s : Nat)) i + (if gI M 26 i = J (s : Nat) then 1 else 0) := rfl
        rw [ec, ex]
        by_cases e : s = x
        · subst e
          rw [if_pos ⟨rfl, rfl⟩, if_pos rfl]
        · have hne : ¬ J (x : Int) = J (s : Nat) := by
            intro z
            simp (disch := omega) only [J_lit, J_add, J_sub, J_mul, J_neg, J_lt, J_le, J_eq, J_nat, J_in, J_div] at z
            omega
          rw [if_neg (fun z => e z.2), if_neg hne, g28 s hs']
          rfl
  refine lp n 0 M1 (by omega) F1 (by rw [q1, fr_r (by omega)]) (fun s hs' => ?_)
  rw [q1, gI_rI, if_pos rfl, if_pos hs']
  rfl
theorem c_many {M : Mm} {n : Nat} {s : Int32} {P : Int32 → Mm → Prop} (hL : Lay 62 98 M) (hn : n ≤ 30) (e : gI M 62 32 = J n) (h : P (J (cTo (gI M 79) s n : Nat)) M) : AMi D d mX12_manyTo [.ref 62, .int s] M P := by
  have lp : ∀ (m i : Nat), i + m = n → LX12_manyTo_4 D d s (J (cTo (gI M 79) s i : Nat)) (J i) M (fun r M1 => ∃ x, r = some (.int x) ∧ Sm M M1 ∧ P x M1) := by
    intro m
    induction m with
    | zero =>
      intro i hi
      obtain rfl : i = n := by omega
      refine rX12_manyTo_4 D d _ _ _ M _ hL ⟨fun _ => ⟨_, rfl, .refl M, h⟩, fun c => ?_⟩
      rw [e] at c
      exfalso
      simp (disch := omega) only [J_lit, J_add, J_sub, J_mul, J_neg, J_lt, J_le, J_eq, J_nat, J_in, J_div] at c
      omega
    | succ m ih =>
      intro i hi
      have ei : (J (i : Int)).toNatClampNeg = i := by simp (disch := omega) only [J_lit, J_add, J_sub, J_mul, J_neg, J_lt, J_le, J_eq, J_nat, J_in, J_div]; omega
      have h1 := ih (i + 1) (by omega)
      have b1 := cTo_le (gI M 79) s i
      have ec : cTo (gI M 79) s (i + 1) = cTo (gI M 79) s i + (if gI M 79 i = s then 1 else 0) := rfl
      have z1 : J (cTo (gI M 79) s i : Nat) + (0 : Int32) = J (cTo (gI M 79) s i : Nat) := by simp (disch := omega) only [J_lit, J_add, J_sub, J_mul, J_neg, J_lt, J_le, J_eq, J_nat, J_in, J_div]; congr 1
      rw [ec] at h1
      refine rX12_manyTo_4 D d _ _ _ M _ hL ?_
      rw [ei, e]
      refine ⟨fun c => ?_, fun _ => ⟨by simp (disch := omega) only [J_lit, J_add, J_sub, J_mul, J_neg, J_lt, J_le, J_eq, J_nat, J_in, J_div]; omega, fun c x4 e4 x5 e5 => ?_, fun c x4 e4 x5 e5 => ?_⟩⟩
      · exfalso
        simp (disch := omega) only [J_lit, J_add, J_sub, J_mul, J_neg, J_lt, J_le, J_eq, J_nat, J_in, J_div] at c
        omega
      · rw [if_neg c] at h1
        rw [e4, z1, e5, J_suc]
        exact h1
      · rw [if_pos c] at h1
        rw [e4, J_suc, e5, J_suc]
        exact h1
  exact rX12_manyTo D d s M _ hL (lp n 0 (by omega))
end
