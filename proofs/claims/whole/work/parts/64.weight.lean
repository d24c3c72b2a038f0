/-! weight, reply -/
section
variable {D : GD} {d : Nat}
theorem c_answer {M : Mm} {T f g : Nat → Int} {p k w : Nat} {P : Mm → Prop} (hL : Lay 62 98 M) (hT : Ro M 63 9 T) (hb : Tb T) (hw : w < 2) (hp : p < 11) (hk : k ≤ 6) (e74 : gI M 74 p = J k) (hf : Wr M w f) (bf : ∀ s, s < 3 → 0 ≤ f s ∧ f s ≤ 1000) (hg : Wr M (1 - w) g) (bg : ∀ s, s < 3 → 0 ≤ g s ∧ g s ≤ 1000) (h : ∀ M', Fm [78] M M' → Ot w M M' → Wr M' w (bnd (ans k (rpl T w g) f)) → P M') : AMv D (d + 1) mX12_answer [.ref 62, .int (J p), .int (J w)] M P := by
  have ep : (J (p : Int)).toNatClampNeg = p := by simp (disch := omega) only [J_lit, J_add, J_sub, J_mul, J_neg, J_lt, J_le, J_eq, J_nat, J_in, J_div]; omega
  have hin2 : vp_in (J (p : Int)) 11 := by simp (disch := omega) only [J_lit, J_add, J_sub, J_mul, J_neg, J_lt, J_le, J_eq, J_nat, J_in, J_div]; omega
  have rl := rpl_le T w g
  refine rX12_answer D d _ _ M _ hL (c_mReply hL hT hb hw hg bg ?_)
  generalize rpl T w g = r at *
  have ab : ∀ s, s < 3 → 0 ≤ ans k r f s ∧ ans k r f s ≤ 1000000 := fun s hs => by
    have := bf s hs
    unfold ans
    split
    · split <;> omega
    · split <;> omega
  have lp : ∀ (m s : Nat) (N : Mm), s + m = 3 → Fm [78] M N → Ot w M N → (∀ i, i < s → gI N 78 (3 * w + i) = J (ans k r f i)) → (∀ i, s ≤ i → i < 3 → gI N 78 (3 * w + i) = J (f i)) → LX12_answer_9 D d (J p) (J w) (J r) (J s) N (fun r M1 => r = none ∧ Sm M M1 ∧ P M1) := by
    intro m
    induction m with
    | zero =>
      intro s N hs FN oN gN _
      refine rX12_answer_9 D d _ _ _ _ N _ (hL.of FN.1) ⟨fun _ => c_bound (f := ans k r f) (hL.of FN.1) hw (fun i hi => gN i (by omega)) ab (fun M' F1 o1 g1 => ⟨rfl, FN.1.trans F1.1, h M' (FN.trans F1) (oN.trans o1) g1⟩), fun c => ?_⟩
      exfalso
      simp (disch := omega) only [J_lit, J_add, J_sub, J_mul, J_neg, J_lt, J_le, J_eq, J_nat, J_in, J_div] at c
      omega
    | succ m ih =>
      intro s N hs FN oN gN uN
      have ei : ((3 : Int32) * J w + J s) = J ((3 * w + s : Nat) : Int) := by simp (disch := omega) only [J_lit, J_add, J_sub, J_mul, J_neg, J_lt, J_le, J_eq, J_nat, J_in, J_div]; congr 1
      have ei2 : (J ((3 * w + s : Nat) : Int)).toNatClampNeg = 3 * w + s := by simp (disch := omega) only [J_lit, J_add, J_sub, J_mul, J_neg, J_lt, J_le, J_eq, J_nat, J_in, J_div]; omega
      have b := bf s (by omega)
      have nx : ∀ (x : Int32) (N1 : Mm), x = J (ans k r f s) → N1 = sI N 78 (3 * w + s) x → ∀ y : Int32, y = J (s : Int) + (1 : Int32) → LX12_answer_9 D d (J p) (J w) (J r) y N1 (fun r M1 => r = none ∧ Sm M M1 ∧ P M1) := by
        intro x N1 ex e1 y ey
        rw [ey, J_suc]
        refine ih (s + 1) N1 (by omega) (by rw [e1]; exact FN.si (by decide)) (by rw [e1]; exact oN.si (by omega)) (fun i hi => ?_) (fun i a b => ?_)
        · by_cases e : i = s
          · subst e
            rw [e1, gI_sI, if_pos ⟨rfl, rfl⟩, ex]
          · rw [e1, gI_sI, if_neg (by omega)]
            exact gN i (by omega)
        · rw [e1, gI_sI, if_neg (by omega)]
          exact uN i (by omega) b
      refine rX12_answer_9 D d _ _ _ _ N _ (hL.of FN.1) ⟨fun c => ?_, fun _ x8 e8 => ?_⟩
      · exfalso
        simp (disch := omega) only [J_lit, J_add, J_sub, J_mul, J_neg, J_lt, J_le, J_eq, J_nat, J_in, J_div] at c
        omega
      · rw [ei] at e8
        rw [e8, ep, FN.2.2.2 74 (by decide), e74, ei2, uN s (Nat.le_refl _) (by omega)]
        have hin : vp_in (J ((3 * w + s : Nat) : Int)) 6 := by simp (disch := omega) only [J_lit, J_add, J_sub, J_mul, J_neg, J_lt, J_le, J_eq, J_nat, J_in, J_div]; omega
        refine ⟨hin2, fun c => ⟨fun c2 => ⟨hin, fun N1 e1 y ey => nx _ N1 ?_ e1 y ey⟩, fun c2 => ⟨hin, fun N1 e1 y ey => nx _ N1 ?_ e1 y ey⟩⟩, fun c => ⟨fun c2 => ⟨hin, fun N1 e1 y ey => nx _ N1 ?_ e1 y ey⟩, fun c2 => ⟨hin, fun N1 e1 y ey => nx _ N1 ?_ e1 y ey⟩⟩⟩
        all_goals simp (disch := omega) only [J_lit, J_add, J_sub, J_mul, J_neg, J_lt, J_le, J_eq, J_nat, J_in, J_div] at c c2
        all_goals unfold ans
        · have h1 : ¬ k = 5 := by omega
          have h2 : ¬ s = r := by omega
          rw [if_neg h1, if_neg h2]
        · have h1 : ¬ k = 5 := by omega
          have h2 : s = r := by omega
          rw [if_neg h1, if_pos h2]
          simp (disch := omega) only [J_lit, J_add, J_sub, J_mul, J_neg, J_lt, J_le, J_eq, J_nat, J_in, J_div]
        · have h1 : k = 5 := by omega
          have h2 : ¬ s = r := by omega
          rw [if_pos h1, if_neg h2]
          rfl
        · have h1 : k = 5 := by omega
          have h2 : s = r := by omega
          rw [if_pos h1, if_pos h2]
          rfl
  exact lp 3 0 M (by omega) (Fm.refl _ M) (Ot.refl w M) (fun i hi => by omega) (fun i _ hi => hf i hi)
theorem c_mLooks {M : Mm} {p k : Nat} {P : Int32 → Mm → Prop} (hL : Lay 62 98 M) (hp : p < 11) (hk : k ≤ 6) (e74 : gI M 74 p = J k) (h : P (if hd k = true then 1 else 0) M) : AMi D d mX12_looks [.ref 62, .int (J p)] M P := by
  have ep : (J (p : Int)).toNatClampNeg = p := by simp (disch := omega) only [J_lit, J_add, J_sub, J_mul, J_neg, J_lt, J_le, J_eq, J_nat, J_in, J_div]; omega
  refine rX12_looks D d _ M _ hL ?_
  rw [ep, e74]
  refine ⟨by simp (disch := omega) only [J_lit, J_add, J_sub, J_mul, J_neg, J_lt, J_le, J_eq, J_nat, J_in, J_div]; omega, fun c => ⟨_, rfl, .refl M, ?_⟩, fun c => ⟨fun c2 => ⟨_, rfl, .refl M, ?_⟩, fun c2 => ⟨_, rfl, .refl M, ?_⟩⟩⟩
  · simp (disch := omega) only [J_lit, J_add, J_sub, J_mul, J_neg, J_lt, J_le, J_eq, J_nat, J_in, J_div] at c
    obtain rfl : k = 4 := by omega
    exact h
  · simp (disch := omega) only [J_lit, J_add, J_sub, J_mul, J_neg, J_lt, J_le, J_eq, J_nat, J_in, J_div] at c c2
    have e : hd k = false := by
      unfold hd
      simp only [Bool.or_eq_false_iff, beq_eq_false_iff_ne, ne_eq]
      omega
    rw [e] at h
    exact h
  · simp (disch := omega) only [J_lit, J_add, J_sub, J_mul, J_neg, J_lt, J_le, J_eq, J_nat, J_in, J_div] at c2
    obtain rfl : k = 5 := by omega
    exact h
theorem wPl_eq {k v : Nat} {F r : Nat → Int} {R : List Cls} : wgF k v F R r (-1) = wPl k v F R r := by
  funext s
  unfold wgF
  rw [if_neg (fun q : hd k = true ∧ (0 : Int) ≤ -1 => by omega)]
theorem c_layWeights {M : Mm} {T r0 r1 : Nat → Int} {l o t q : Int} {p0 k0 v0 j0 p1 k1 v1 j1 : Nat} {R0 R1 : List Cls} {P : Mm → Prop} (hL : Lay 62 98 M) (hT : Ro M 63 9 T) (hb : Tb T) (hS : Stm M l o t q) (hq : 0 ≤ q ∧ q ≤ 20) (hF0 : Fs (fs0 l o t q)) (hF1 : Fs (fs1 l o t q)) (hr0 : Rr r0) (hr1 : Rr r1) (hx0 : ∀ s, s < 3 → gI M 77 s = J (r0 s)) (hx1 : ∀ s, s < 3 → gI M 77 (3 + s) = J (r1 s)) (hp0 : Pm M p0 k0 v0 j0 R0) (hp1 : Pm M p1 k1 v1 j1 R1) (h : ∀ M', Fm [72, 73, 78] M M' → Wr M' 0 (fW T 0 k0 v0 (fs0 l o t q) R0 r0 k1 v1 (fs1 l o t q) R1 r1) → Wr M' 1 (fW T 1 k1 v1 (fs1 l o t q) R1 r1 k0 v0 (fs0 l o t q) R0 r0) → P M') : AMv D (d + 3) mX12_layWeights [.ref 62, .int (J p0), .int (J p1)] M P := by
  obtain ⟨p11, k6, v2, j7, e74, e75, e76, hRu⟩ := id hp0
  obtain ⟨p11', k6', v2', j7', e74', e75', e76', hRu'⟩ := id hp1
  refine rX12_layWeights D (d + 2) _ _ M _ hL ?_
  refine c_layPlain (w := 0) (l := l) (o := o) (t := t) (q := q) (r := r0) hL (by omega) hS hq hF0 hr0 hp0 (fun s hs => by rw [(by omega : 3 * 0 + s = s)]; exact hx0 s hs) (fun M1 F1 o1 w1 => ?_)
  have hS1 : Stm M1 l o t q := by unfold Stm at hS ⊢; rw [F1.2.2.2 62 (by decide)]; exact hS
  refine c_layPlain (w := 1) (l := l) (o := o) (t := t) (q := q) (r := r1) (hL.of F1.1) (by omega) hS1 hq hF1 hr1 (hp1.fm (fun x hx => F1.2.2.2 x (by (simp only [List.contains_cons, List.contains_nil, Bool.or_false, Bool.or_eq_false_iff, beq_eq_false_iff_ne, ne_eq]; omega)))) (fun s hs => by rw [F1.2.2.2 77 (by decide)]; exact hx1 s hs) (fun M2 F2 o2 w2 => ?_)
  have F12 : Fm [72, 73, 78] M M2 := F1.trans F2
  have w1' : Wr M2 0 (wPl k0 v0 (fs0 l o t q) R0 r0) := w1.ot o2 (by omega)
  have w2' : Wr M2 1 (wPl k1 v1 (fs1 l o t q) R1 r1) := w2
  have n74 : ∀ N, Fm [72, 73, 78] M N → gI N 74 = gI M 74 := fun N F => F.2.2.2 74 (by decide)
  have b0 : ∀ s, s < 3 → 0 ≤ wPl k0 v0 (fs0 l o t q) R0 r0 s ∧ wPl k0 v0 (fs0 l o t q) R0 r0 s ≤ 900 := fun s hs => wPl_b hs k6 v2 hr0 hRu.1 hRu.2.1
  have b1 : ∀ s, s < 3 → 0 ≤ wPl k1 v1 (fs1 l o t q) R1 r1 s ∧ wPl k1 v1 (fs1 l o t q) R1 r1 s ≤ 900 := fun s hs => wPl_b hs k6' v2' hr1 hRu'.1 hRu'.2.1
  -- what is asked for, told by plain weights
  have fW0 : fW T 0 k0 v0 (fs0 l o t q) R0 r0 k1 v1 (fs1 l o t q) R1 r1 = if (hd k0 && !hd k1) = true then bnd (ans k0 (rpl T 0 (bnd (wPl k1 v1 (fs1 l o t q) R1 r1))) (wPl k0 v0 (fs0 l o t q) R0 r0)) else bnd (wPl k0 v0 (fs0 l o t q) R0 r0) := by
    funext s
    unfold fW zF
    rw [wPl_eq]
    by_cases e : (hd k0 && !hd k1) = true
    · rw [if_pos e, if_pos e]
      have : wgF k0 v0 (fs0 l o t q) R0 r0 ((rpl T 0 (bnd (wPl k1 v1 (fs1 l o t q) R1 r1)) : Nat) : Int) = ans k0 (rpl T 0 (bnd (wPl k1 v1 (fs1 l o t q) R1 r1))) (wPl k0 v0 (fs0 l o t q) R0 r0) := by
        funext s
        unfold wgF
        have e2 := e
        simp only [Bool.and_eq_true] at e2
        rw [if_pos ⟨e2.1, Int.natCast_nonneg _⟩, Int.toNat_natCast]
      rw [this]
    · rw [if_neg e, if_neg e, wPl_eq]
  have fW1 : fW T 1 k1 v1 (fs1 l o t q) R1 r1 k0 v0 (fs0 l o t q) R0 r0 = if (hd k1 && !hd k0) = true then bnd (ans k1 (rpl T 1 (bnd (wPl k0 v0 (fs0 l o t q) R0 r0))) (wPl k1 v1 (fs1 l o t q) R1 r1)) else bnd (wPl k1 v1 (fs1 l o t q) R1 r1) := by
    funext s
    unfold fW zF
    rw [wPl_eq]
    by_cases e : (hd k1 && !hd k0) = true
    · rw [if_pos e, if_pos e]
      have : wgF k1 v1 (fs1 l o t q) R1 r1 ((rpl T 1 (bnd (wPl k0 v0 (fs0 l o t q) R0 r0)) : Nat) : Int) = ans k1 (rpl T 1 (bnd (wPl k0 v0 (fs0 l o t q) R0 r0))) (wPl k1 v1 (fs1 l o t q) R1 r1) := by
        funext s
        unfold wgF
        have e2 := e
        simp only [Bool.and_eq_true] at e2
        rw [if_pos ⟨e2.1, Int.natCast_nonneg _⟩, Int.toNat_natCast]
      rw [this]
    · rw [if_neg e, if_neg e, wPl_eq]
  rw [fW0, fW1] at h
  have hL2 := hL.of F12.1
  refine c_mLooks hL2 p11 k6 (by rw [n74 _ F12]; exact e74) (c_mLooks hL2 p11' k6' (by rw [n74 _ F12]; exact e74') ?_)
  have e78 : Fm [78] M2 M2 := Fm.refl _ M2
  cases h0 : hd k0 <;> cases h1 : hd k1 <;> rw [h0, h1] at h
  · -- neither looks
    refine ⟨fun _ => c_bound (w := 0) hL2 (by omega) w1' (fun s hs => ⟨(b0 s hs).1, by have := (b0 s hs).2; omega⟩) (fun M3 F3 o3 w3 => ?_), fun c => absurd rfl c⟩
    refine rX12_layWeights_39 D (d + 2) _ _ _ _ M3 _ (hL2.of F3.1) ⟨fun _ => c_bound (w := 1) (hL2.of F3.1) (by omega) (w2'.ot o3 (by omega)) (fun s hs => ⟨(b1 s hs).1, by have := (b1 s hs).2; omega⟩) (fun M4 F4 o4 w4 => ?_), fun c => absurd rfl c⟩
    refine rX12_layWeights_53 D (d + 2) _ _ _ _ M4 _ (hL2.of (F3.1.trans F4.1)) ⟨fun _ => ?_, fun c => absurd rfl c⟩
    have FF : Fm [72, 73, 78] M M4 := (F12.trans (F3.sub (by decide))).trans (F4.sub (by decide))
    exact rX12_layWeights_68 D (d + 2) _ _ _ M4 _ (hL2.of (F3.1.trans F4.1)) ⟨fun _ => ⟨rfl, FF.1, h M4 FF (w3.ot o4 (by omega)) w4⟩, fun c => absurd rfl c⟩
  · -- the keeper looks
    refine ⟨fun _ => c_bound (w := 0) hL2 (by omega) w1' (fun s hs => ⟨(b0 s hs).1, by have := (b0 s hs).2; omega⟩) (fun M3 F3 o3 w3 => ?_), fun c => absurd rfl c⟩
    refine rX12_layWeights_39 D (d + 2) _ _ _ _ M3 _ (hL2.of F3.1) ⟨fun c => absurd c (by decide), fun _ => ⟨fun _ => ?_, fun c => absurd rfl c⟩⟩
    refine rX12_layWeights_53 D (d + 2) _ _ _ _ M3 _ (hL2.of F3.1) ⟨fun _ => ?_, fun c => absurd rfl c⟩
    have FF : Fm [72, 73, 78] M M3 := F12.trans (F3.sub (by decide))
    refine rX12_layWeights_68 D (d + 2) _ _ _ M3 _ (hL2.of F3.1) ⟨fun c => absurd c (by decide), fun _ => ⟨fun c => absurd rfl c, fun _ => ?_⟩⟩
    refine c_answer (w := 1) (T := T) (f := wPl k1 v1 (fs1 l o t q) R1 r1) (g := bnd (wPl k0 v0 (fs0 l o t q) R0 r0)) (hL2.of F3.1) (fun i hi => by rw [FF.2.2.2 63 (by decide)]; exact hT i hi) hb (by omega) p11' k6' (by rw [n74 _ FF]; exact e74') (w2'.ot o3 (by omega)) (fun s hs => ⟨(b1 s hs).1, by have := (b1 s hs).2; omega⟩) w3 (fun s hs => ⟨(bnd_b (b0 s hs).1).1, by have := (bnd_b (b0 s hs).1).2; omega⟩) (fun M4 F4 o4 w4 => ⟨rfl, FF.1.trans F4.1, h M4 (FF.trans (F4.sub (by decide))) (w3.ot o4 (by omega)) w4⟩)
  · -- the kicker looks
    refine ⟨fun c => absurd c (by decide), fun _ => ⟨fun _ => ?_, fun c => absurd rfl c⟩⟩
    refine rX12_layWeights_39 D (d + 2) _ _ _ _ M2 _ hL2 ⟨fun _ => c_bound (w := 1) hL2 (by omega) w2' (fun s hs => ⟨(b1 s hs).1, by have := (b1 s hs).2; omega⟩) (fun M3 F3 o3 w3 => ?_), fun c => absurd rfl c⟩
    have FF : Fm [72, 73, 78] M M3 := F12.trans (F3.sub (by decide))
    refine rX12_layWeights_53 D (d + 2) _ _ _ _ M3 _ (hL2.of F3.1) ⟨fun c => absurd c (by decide), fun _ => ⟨fun c => absurd rfl c, fun _ => ?_⟩⟩
    refine c_answer (w := 0) (T := T) (f := wPl k0 v0 (fs0 l o t q) R0 r0) (g := bnd (wPl k1 v1 (fs1 l o t q) R1 r1)) (hL2.of F3.1) (fun i hi => by rw [FF.2.2.2 63 (by decide)]; exact hT i hi) hb (by omega) p11 k6 (by rw [n74 _ FF]; exact e74) (w1'.ot o3 (by omega)) (fun s hs => ⟨(b0 s hs).1, by have := (b0 s hs).2; omega⟩) w3 (fun s hs => ⟨(bnd_b (b1 s hs).1).1, by have := (bnd_b (b1 s hs).1).2; omega⟩) (fun M4 F4 o4 w4 => ?_)
    have FG : Fm [72, 73, 78] M M4 := FF.trans (F4.sub (by decide))
    exact rX12_layWeights_68 D (d + 2) _ _ _ M4 _ (hL.of FG.1) ⟨fun _ => ⟨rfl, FG.1, h M4 FG w4 (w3.ot o4 (by omega))⟩, fun c => absurd rfl c⟩
  · -- both look
    refine ⟨fun c => absurd c (by decide), fun _ => ⟨fun c => absurd c (by decide), fun _ => c_bound (w := 0) hL2 (by omega) w1' (fun s hs => ⟨(b0 s hs).1, by have := (b0 s hs).2; omega⟩) (fun M3 F3 o3 w3 => ?_)⟩⟩
    refine rX12_layWeights_39 D (d + 2) _ _ _ _ M3 _ (hL2.of F3.1) ⟨fun c => absurd c (by decide), fun _ => ⟨fun c => absurd c (by decide), fun _ => c_bound (w := 1) (hL2.of F3.1) (by omega) (w2'.ot o3 (by omega)) (fun s hs => ⟨(b1 s hs).1, by have := (b1 s hs).2; omega⟩) (fun M4 F4 o4 w4 => ?_)⟩⟩
    refine rX12_layWeights_53 D (d + 2) _ _ _ _ M4 _ (hL2.of (F3.1.trans F4.1)) ⟨fun c => absurd c (by decide), fun _ => ⟨fun _ => ?_, fun c => absurd c (by decide)⟩⟩
    have FF : Fm [72, 73, 78] M M4 := (F12.trans (F3.sub (by decide))).trans (F4.sub (by decide))
    exact rX12_layWeights_68 D (d + 2) _ _ _ M4 _ (hL2.of (F3.1.trans F4.1)) ⟨fun c => absurd c (by decide), fun _ => ⟨fun _ => ⟨rfl, FF.1, h M4 FF (w3.ot o4 (by omega)) w4⟩, fun c => absurd c (by decide)⟩⟩
end
