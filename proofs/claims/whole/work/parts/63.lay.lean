/-! WEIGHTS: the reference -/
def Wr (M : Mm) (w : Nat) (f : Nat → Int) : Prop := ∀ s, s < 3 → gI M 78 (3 * w + s) = J (f s)
/-- only the half w of the row of weights was written -/
def Ot (w : Nat) (M M' : Mm) : Prop := ∀ x, ¬ (3 * w ≤ x ∧ x < 3 * w + 3) → gI M' 78 x = gI M 78 x
theorem Ot.refl (w : Nat) (M : Mm) : Ot w M M := fun _ _ => rfl
theorem Ot.trans {w : Nat} {M M1 M2 : Mm} (h : Ot w M M1) (g : Ot w M1 M2) : Ot w M M2 := fun x hx => (g x hx).trans (h x hx)
theorem Ot.si {w i : Nat} {M M1 : Mm} {v : Int32} (h : Ot w M M1) (hi : 3 * w ≤ i ∧ i < 3 * w + 3) : Ot w M (sI M1 78 i v) := fun x hx => by
  rw [gI_sI, if_neg (fun q => hx (by rw [q.2]; exact hi))]
  exact h x hx
theorem Wr.ot {w w' : Nat} {M M' : Mm} {f : Nat → Int} (h : Wr M w' f) (ho : Ot w M M') (hw : w' ≠ w) : Wr M' w' f := fun s hs => by
  rw [ho _ (by omega)]
  exact h s hs
def Pm (M : Mm) (p k v j : Nat) (R : List Cls) : Prop := p < 11 ∧ k ≤ 6 ∧ v ≤ 2 ∧ j < 7 ∧ gI M 74 p = J k ∧ gI M 75 p = J v ∧ gI M 76 p = J j ∧ RuM M j R
theorem Pm.fm {M M' : Mm} {p k v j : Nat} {R : List Cls} (h : Pm M p k v j R) (g : ∀ x, (65 ≤ x ∧ x ≤ 70) ∨ (74 ≤ x ∧ x ≤ 76) → gI M' x = gI M x) : Pm M' p k v j R := by
  obtain ⟨h1, h2, h3, h4, h5, h6, h7, h8⟩ := h
  exact ⟨h1, h2, h3, h4, by rw [g 74 (by omega)]; exact h5, by rw [g 75 (by omega)]; exact h6, by rw [g 76 (by omega)]; exact h7, h8.fm (fun x a b => g x (by omega))⟩
section
variable {D : GD} {d : Nat}
theorem c_layState {M : Mm} {l o t q : Int32} {P : Mm → Prop} (hL : Lay 62 98 M) (h : ∀ M', Fm [62] M M' → gI M' 62 26 = l → gI M' 62 27 = o → gI M' 62 28 = t → gI M' 62 29 = q → (∀ k, ¬ (26 ≤ k ∧ k ≤ 29) → gI M' 62 k = gI M 62 k) → P M') : AMv D d mX12_layState [.ref 62, .int l, .int o, .int t, .int q] M P := by
  refine rX12_layState D d l o t q M _ hL (fun M1 e1 M5 e5 M9 e9 M13 e13 => ?_)
  have F : Fm [62] M M13 := by rw [e13, e9, e5, e1]; exact ((((Fm.refl _ M).si (by simp)).si (by simp)).si (by simp)).si (by simp)
  refine ⟨rfl, F.1, h M13 F ?_ ?_ ?_ ?_ (fun k hk => ?_)⟩
  · rw [e13, gI_sI, if_neg (by omega), e9, gI_sI, if_neg (by omega), e5, gI_sI, if_neg (by omega), e1, gI_sI, if_pos ⟨rfl, rfl⟩]
  · rw [e13, gI_sI, if_neg (by omega), e9, gI_sI, if_neg (by omega), e5, gI_sI, if_pos ⟨rfl, rfl⟩]
  · rw [e13, gI_sI, if_neg (by omega), e9, gI_sI, if_pos ⟨rfl, rfl⟩]
  · rw [e13, gI_sI, if_pos ⟨rfl, rfl⟩]
  · rw [e13, gI_sI, if_neg (by omega), e9, gI_sI, if_neg (by omega), e5, gI_sI, if_neg (by omega), e1, gI_sI, if_neg (by omega)]
/-- the state lies in the reference -/
def Stm (M : Mm) (l o t q : Int) : Prop := gI M 62 26 = J l ∧ gI M 62 27 = J o ∧ gI M 62 28 = J t ∧ gI M 62 29 = J q
def fsw (w : Nat) (l o t q : Int) (i : Nat) : Int := if w = 0 then fs0 l o t q i else fs1 l o t q i
theorem c_layFacts {M : Mm} {w : Nat} {l o t q : Int} {P : Mm → Prop} (hL : Lay 62 98 M) (hw : w < 2) (hS : Stm M l o t q) (hq : 0 ≤ q ∧ q ≤ 20) (h : ∀ M', Fm [72] M M' → (∀ i, i < 4 → gI M' 72 i = J (fsw w l o t q i)) → P M') : AMv D d mX12_layFacts [.ref 62, .int (J w)] M P := by
  obtain ⟨s1, s2, s3, s4⟩ := hS
  have fin : ∀ (x0 x1 x2 x3 : Int32) (M0 M1 M2 M3 : Mm), M0 = sI M 72 0 x0 → M1 = sI M0 72 1 x1 → M2 = sI M1 72 2 x2 → M3 = sI M2 72 3 x3 → x0 = J (fsw w l o t q 0) → x1 = J (fsw w l o t q 1) → x2 = J (fsw w l o t q 2) → x3 = J (fsw w l o t q 3) → (none : Option Value) = none ∧ Sm M M3 ∧ P M3 := by
    intro x0 x1 x2 x3 M0 M1 M2 M3 e0 e1 e2 e3 f0 f1 f2 f3
    have F : Fm [72] M M3 := by rw [e3, e2, e1, e0]; exact ((((Fm.refl _ M).si (by simp)).si (by simp)).si (by simp)).si (by simp)
    refine ⟨rfl, F.1, h M3 F (fun i hi => ?_)⟩
    rcases (by omega : i = 0 ∨ i = 1 ∨ i = 2 ∨ i = 3) with rfl | rfl | rfl | rfl
    · rw [e3, gI_sI, if_neg (by omega), e2, gI_sI, if_neg (by omega), e1, gI_sI, if_neg (by omega), e0, gI_sI, if_pos ⟨rfl, rfl⟩, f0]
    · rw [e3, gI_sI, if_neg (by omega), e2, gI_sI, if_neg (by omega), e1, gI_sI, if_pos ⟨rfl, rfl⟩, f1]
    · rw [e3, gI_sI, if_neg (by omega), e2, gI_sI, if_pos ⟨rfl, rfl⟩, f2]
    · rw [e3, gI_sI, if_pos ⟨rfl, rfl⟩, f3]
  refine rX12_layFacts D d _ M _ hL ?_
  rcases (by omega : w = 0 ∨ w = 1) with rfl | rfl
  · refine ⟨fun c => absurd rfl c, fun _ M0 e0 => ⟨fun c => absurd rfl c, fun _ M1 e1 M2 e2 => ⟨fun c => absurd rfl c, fun _ M3 e3 => fin _ _ _ _ M0 M1 M2 M3 e0 e1 e2 e3 ?_ ?_ ?_ ?_⟩⟩⟩
    · exact s1
    · rw [e0]; exact s2
    · rw [e1, e0]; exact s3
    · rw [e2, e1, e0]; exact s4
  · refine ⟨fun _ M0 e0 => ⟨fun _ M1 e1 M2 e2 => ⟨fun _ M3 e3 => fin _ _ _ _ M0 M1 M2 M3 e0 e1 e2 e3 ?_ ?_ ?_ ?_, fun c => absurd c (by decide)⟩, fun c => absurd c (by decide)⟩, fun c => absurd c (by decide)⟩
    · exact s2
    · rw [e0]; exact s1
    · rw [e1, e0]; exact s3
    · rw [e2, e1, e0]
      show (20 : Int32) - gI M 62 29 = _
      rw [s4]
      show _ = J (20 - q)
      simp (disch := omega) only [J_lit, J_add, J_sub, J_mul, J_neg, J_lt, J_le, J_eq, J_nat, J_in, J_div]
theorem l_plain {p k v j w : Nat} {F r : Nat → Int} {R : List Cls} {post : Option Value → Mm → Prop} (hw : w < 2) (hF : Fs F) (hr : Rr r) : ∀ (m s : Nat) (M : Mm), s + m = 3 → Lay 62 98 M → Pm M p k v j R → (∀ i, i < 4 → gI M 72 i = J (F i)) → (∀ s, s < 3 → gI M 77 (3 * w + s) = J (r s)) → (∀ M', Fm [73, 78] M M' → Ot w M M' → (∀ i, s ≤ i → i < 3 → gI M' 78 (3 * w + i) = J (wPl k v F R r i)) → (∀ i, i < s → gI M' 78 (3 * w + i) = gI M 78 (3 * w + i)) → post none M') → LX12_layPlain_7 D (d + 1) (J p) (J w) (J s) M post := by
  intro m
  induction m with
  | zero =>
    intro s M hs hL hp hf hx h
    refine rX12_layPlain_7 D (d + 1) _ _ _ M post hL ⟨fun _ => h M (Fm.refl _ M) (Ot.refl w M) (fun i a b => by omega) (fun _ _ => rfl), fun c => ?_⟩
    exfalso
    simp (disch := omega) only [J_lit, J_add, J_sub, J_mul, J_neg, J_lt, J_le, J_eq, J_nat, J_in, J_div] at c
    omega
  | succ m ih =>
    intro s M hs hL hp hf hx h
    obtain ⟨p11, k6, v2, j7, e74, e75, e76, hR⟩ := id hp
    have ep : (J (p : Int)).toNatClampNeg = p := by simp (disch := omega) only [J_lit, J_add, J_sub, J_mul, J_neg, J_lt, J_le, J_eq, J_nat, J_in, J_div]; omega
    have ei : ((3 : Int32) * J w + J s).toNatClampNeg = 3 * w + s := by simp (disch := omega) only [J_lit, J_add, J_sub, J_mul, J_neg, J_lt, J_le, J_eq, J_nat, J_in, J_div]; omega
    have hin : vp_in ((3 : Int32) * J w + J s) 6 := by simp (disch := omega) only [J_lit, J_add, J_sub, J_mul, J_neg, J_lt, J_le, J_eq, J_nat, J_in, J_div]; omega
    have hin2 : vp_in (J (p : Int)) 11 := by simp (disch := omega) only [J_lit, J_add, J_sub, J_mul, J_neg, J_lt, J_le, J_eq, J_nat, J_in, J_div]; omega
    -- the value is laid
    have lay : ∀ (x : Int32) (N : Mm), Fm [73] M N → x = J (wPl k v F R r s) → LX12_layPlain_169 D (d + 1) (J p) (J w) (J s) x N post := by
      intro x N FN ex
      refine rX12_layPlain_169 D (d + 1) _ _ _ _ N post (hL.of FN.1) ⟨hin, fun M2 e2 x6 e6 => ?_⟩
      rw [ei] at e2
      rw [e6, J_suc]
      have F2 : Fm [73, 78] M M2 := by rw [e2]; exact (FN.sub (by decide)).si (by decide)
      have o2 : Ot w M M2 := by
        rw [e2]
        refine Ot.si (fun x hx => ?_) (by omega)
        rw [FN.2.2.2 78 (by decide)]
      refine ih (s + 1) M2 (by omega) (hL.of F2.1) (hp.fm (fun x hx => F2.2.2.2 x (by (simp only [List.contains_cons, List.contains_nil, Bool.or_false, Bool.or_eq_false_iff, beq_eq_false_iff_ne, ne_eq]; omega)))) (fun i hi => by rw [F2.2.2.2 72 (by decide)]; exact hf i hi) (fun i hi => by rw [F2.2.2.2 77 (by decide)]; exact hx i hi) (fun M' F3 o3 g3 u3 => h M' (F2.trans F3) (o2.trans o3) (fun i a b => ?_) (fun i hi => ?_))
      · by_cases e : i = s
        · subst e
          rw [u3 i (by omega), e2, gI_sI, if_pos ⟨rfl, rfl⟩, ex]
        · exact g3 i (by omega) b
      · rw [u3 i (by omega), e2, gI_sI, if_neg (by omega), FN.2.2.2 78 (by decide)]
    have sum : (k = 0 ∨ k = 1 ∨ k = 3 ∨ k = 4) → LX12_layPlain_92 D (d + 1) (J p) (J w) (J s) M post := by
      intro hk
      have gl := gain_le F s R hR.2.1
      have h8 := hR.1
      refine rX12_layPlain_92 D (d + 1) _ _ _ M post hL (c_sumOf (F := F) hL p11 j7 (by omega) e76 hR hF.1 hf (fun N FN => ?_))
      have n74 : gI N 74 = gI M 74 := FN.2.2.2 74 (by decide)
      have n75 : gI N 75 = gI M 75 := FN.2.2.2 75 (by decide)
      have n72 : gI N 72 = gI M 72 := FN.2.2.2 72 (by decide)
      rw [ep, n74, n75, e74, e75]
      have nx : ∀ (t0 : Int), (t0 = if (k = 1 ∨ k = 4) ∧ s = v then 30 else 0) → LX12_layPlain_138 D (d + 1) (J p) (J w) (J s) (J t0) (J ((gain F s R : Nat) : Int)) N post := by
        intro t0 et
        have e0 : 0 ≤ t0 ∧ t0 ≤ 30 := by rw [et]; split <;> omega
        refine rX12_layPlain_138 D (d + 1) _ _ _ _ _ N post (hL.of FN.1) (fun x1 ex => ?_)
        rw [J_add] at ex
        rw [ep, n74, e74, n72, hf 0 (by omega)]
        refine ⟨hin2, fun c => lay _ N FN ?_, fun c => ⟨fun c2 => lay _ N FN ?_, fun c2 => lay _ N FN ?_⟩⟩
        · simp (disch := omega) only [J_lit, J_add, J_sub, J_mul, J_neg, J_lt, J_le, J_eq, J_nat, J_in, J_div] at c
          rw [ex, et]
          congr 1
          rcases hk with rfl | rfl | rfl | rfl
          · rw [wPl_0]; simp
          · rw [wPl_1]; simp
          · omega
          · rw [wPl_4]; simp
        · have f0 := hF.1 0 (by omega)
          simp (disch := omega) only [J_lit, J_add, J_sub, J_mul, J_neg, J_lt, J_le, J_eq, J_nat, J_in, J_div] at c c2
          have e3 : k = 3 := by omega
          subst e3
          rw [ex, et, wPl_3, if_neg c2]
          congr 1
        · have f0 := hF.1 0 (by omega)
          simp (disch := omega) only [J_lit, J_add, J_sub, J_mul, J_neg, J_lt, J_le, J_eq, J_nat, J_in, J_div] at c c2
          have e3 : k = 3 := by omega
          subst e3
          rw [wPl_3, if_pos c2]
          rfl
      refine ⟨hin2, fun c => ⟨fun c2 => nx 0 ?_, fun c2 => nx 30 ?_⟩, fun c => ⟨fun c2 => nx 0 ?_, fun c2 => ⟨fun c3 => nx 0 ?_, fun c3 => nx 30 ?_⟩⟩⟩
      · simp (disch := omega) only [J_lit, J_add, J_sub, J_mul, J_neg, J_lt, J_le, J_eq, J_nat, J_in, J_div] at c c2
        rw [if_neg (by omega)]
      · simp (disch := omega) only [J_lit, J_add, J_sub, J_mul, J_neg, J_lt, J_le, J_eq, J_nat, J_in, J_div] at c c2
        rw [if_pos (by omega)]
      · simp (disch := omega) only [J_lit, J_add, J_sub, J_mul, J_neg, J_lt, J_le, J_eq, J_nat, J_in, J_div] at c c2
        rw [if_neg (by omega)]
      · simp (disch := omega) only [J_lit, J_add, J_sub, J_mul, J_neg, J_lt, J_le, J_eq, J_nat, J_in, J_div] at c c2 c3
        rw [if_neg (by omega)]
      · simp (disch := omega) only [J_lit, J_add, J_sub, J_mul, J_neg, J_lt, J_le, J_eq, J_nat, J_in, J_div] at c c2 c3
        rw [if_pos (by omega)]
    refine rX12_layPlain_7 D (d + 1) _ _ _ M post hL ⟨fun c => ?_, fun _ => ⟨hin, fun x3 e3 => ⟨hin2, ?_⟩⟩⟩
    · exfalso
      simp (disch := omega) only [J_lit, J_add, J_sub, J_mul, J_neg, J_lt, J_le, J_eq, J_nat, J_in, J_div] at c
      omega
    · rw [ei, hx s (by omega)] at e3
      rw [ep, e74, e75]
      have rb := hr s (by omega)
      refine ⟨fun c => lay _ M (Fm.refl _ M) ?_, fun c => sum ?_, fun c => sum ?_, fun c => lay _ M (Fm.refl _ M) ?_, fun c => ⟨fun c2 x11 e11 => lay _ M (Fm.refl _ M) ?_, fun c2 x12 e12 => lay _ M (Fm.refl _ M) ?_⟩, fun c1 c2 c3 c4 c5 => sum ?_⟩
      · simp (disch := omega) only [J_lit, J_add, J_sub, J_mul, J_neg, J_lt, J_le, J_eq, J_nat, J_in, J_div] at c
        obtain rfl : k = 2 := by omega
        rw [e3, wPl_2]
      · simp (disch := omega) only [J_lit, J_add, J_sub, J_mul, J_neg, J_lt, J_le, J_eq, J_nat, J_in, J_div] at c
        omega
      · simp (disch := omega) only [J_lit, J_add, J_sub, J_mul, J_neg, J_lt, J_le, J_eq, J_nat, J_in, J_div] at c
        omega
      · simp (disch := omega) only [J_lit, J_add, J_sub, J_mul, J_neg, J_lt, J_le, J_eq, J_nat, J_in, J_div] at c
        obtain rfl : k = 5 := by omega
        rw [e3, wPl_5]
      · simp (disch := omega) only [J_lit, J_add, J_sub, J_mul, J_neg, J_lt, J_le, J_eq, J_nat, J_in, J_div] at c c2
        obtain rfl : k = 6 := by omega
        have hn : ¬ s = 1 := by omega
        rw [e11, e3, wPl_6, if_neg hn]
        simp (disch := omega) only [J_lit, J_add, J_sub, J_mul, J_neg, J_lt, J_le, J_eq, J_nat, J_in, J_div]
      · simp (disch := omega) only [J_lit, J_add, J_sub, J_mul, J_neg, J_lt, J_le, J_eq, J_nat, J_in, J_div] at c c2
        obtain rfl : k = 6 := by omega
        have hn : s = 1 := by omega
        rw [e12, e3, wPl_6, if_pos hn]
        simp (disch := omega) only [J_lit, J_add, J_sub, J_mul, J_neg, J_lt, J_le, J_eq, J_nat, J_in, J_div]
      · simp (disch := omega) only [J_lit, J_add, J_sub, J_mul, J_neg, J_lt, J_le, J_eq, J_nat, J_in, J_div] at c1 c2 c3 c4 c5
        omega
theorem c_layPlain {M : Mm} {p k v j w : Nat} {l o t q : Int} {r : Nat → Int} {R : List Cls} {P : Mm → Prop} (hL : Lay 62 98 M) (hw : w < 2) (hS : Stm M l o t q) (hq : 0 ≤ q ∧ q ≤ 20) (hF : Fs (fsw w l o t q)) (hr : Rr r) (hp : Pm M p k v j R) (hx : ∀ s, s < 3 → gI M 77 (3 * w + s) = J (r s)) (h : ∀ M', Fm [72, 73, 78] M M' → Ot w M M' → Wr M' w (wPl k v (fsw w l o t q) R r) → P M') : AMv D (d + 2) mX12_layPlain [.ref 62, .int (J p), .int (J w)] M P := by
  refine rX12_layPlain D (d + 1) _ _ M _ hL (c_layFacts hL hw hS hq (fun M1 F1 g1 => ?_))
  refine l_plain (d := d) (F := fsw w l o t q) hw hF hr 3 0 M1 (by omega) (hL.of F1.1) (hp.fm (fun x hx => F1.2.2.2 x (by (simp only [List.contains_cons, List.contains_nil, Bool.or_false, Bool.or_eq_false_iff, beq_eq_false_iff_ne, ne_eq]; omega)))) g1 (fun s hs => by rw [F1.2.2.2 77 (by decide)]; exact hx s hs) (fun M2 F2 o2 g2 _ => ⟨rfl, F1.1.trans F2.1, h M2 ((F1.sub (by decide)).trans (F2.sub (by decide))) (fun x hx => ?_) (fun s hs => g2 s (by omega) hs)⟩)
  rw [o2 x hx, F1.2.2.2 78 (by decide)]
theorem c_bound {M : Mm} {w : Nat} {f : Nat → Int} {P : Mm → Prop} (hL : Lay 62 98 M) (hw : w < 2) (hf : Wr M w f) (hb : ∀ s, s < 3 → 0 ≤ f s ∧ f s ≤ 1000000) (h : ∀ M', Fm [78] M M' → Ot w M M' → Wr M' w (bnd f) → P M') : AMv D d mX12_bound [.ref 62, .int (J w)] M P := by
  have st : ∀ (i : Nat) (acc : Int) (M : Mm) (post : Option Value → Mm → Prop), i < 3 → 0 ≤ acc → acc ≤ 1000 → Lay 62 98 M → gI M 78 (3 * w + i) = J (f i) → LX12_bound_6 D d (J w) (J (acc + mn99 (f i))) (J ((3 * w + i + 1 : Nat) : Int)) (sI M 78 (3 * w + i) (J (mn99 (f i)))) post → LX12_bound_6 D d (J w) (J acc) (J ((3 * w + i : Nat) : Int)) M post := by
    intro i acc M post hi h1 h2 hL hfi hk
    have ei : (J ((3 * w + i : Nat) : Int)).toNatClampNeg = 3 * w + i := by simp (disch := omega) only [J_lit, J_add, J_sub, J_mul, J_neg, J_lt, J_le, J_eq, J_nat, J_in, J_div]; omega
    have b := hb i hi
    refine rX12_bound_6 D d _ _ _ M post hL ?_
    rw [ei, hfi]
    have fin : ∀ (x : Int32) (M8 : Mm), x = J (mn99 (f i)) → M8 = sI M 78 (3 * w + i) x → ∀ x12 : Int32, x12 = J acc + gI M8 78 (3 * w + i) → ∀ x13 : Int32, x13 = J ((3 * w + i : Nat) : Int) + (1 : Int32) → LX12_bound_6 D d (J w) x12 x13 M8 post := by
      intro x M8 ex e8 x12 e12 x13 e13
      rw [ex] at e8
      subst e8
      rw [gI_sI, if_pos ⟨rfl, rfl⟩, J_add] at e12
      rw [e12, e13, J_suc]
      exact hk
    refine ⟨fun c => ?_, fun _ => ⟨by simp (disch := omega) only [J_lit, J_add, J_sub, J_mul, J_neg, J_lt, J_le, J_eq, J_nat, J_in, J_div]; omega, fun c M8 e8 => fin _ M8 ?_ e8, fun c M8 e8 => fin _ M8 ?_ e8⟩⟩
    · exfalso
      simp (disch := omega) only [J_lit, J_add, J_sub, J_mul, J_neg, J_lt, J_le, J_eq, J_nat, J_in, J_div] at c
      omega
    · simp (disch := omega) only [J_lit, J_add, J_sub, J_mul, J_neg, J_lt, J_le, J_eq, J_nat, J_in, J_div] at c
      unfold mn99
      split
      · rfl
      · congr 1
        omega
    · simp (disch := omega) only [J_lit, J_add, J_sub, J_mul, J_neg, J_lt, J_le, J_eq, J_nat, J_in, J_div] at c
      unfold mn99
      rw [if_neg (by omega)]
      rfl
  have m0 := mn99_b (hb 0 (by omega)).1
  have m1 := mn99_b (hb 1 (by omega)).1
  have m2 := mn99_b (hb 2 (by omega)).1
  refine rX12_bound D d _ M _ hL (fun x1 e1 => ?_)
  have e1' : x1 = J ((3 * w + 0 : Nat) : Int) := by rw [e1]; simp (disch := omega) only [J_lit, J_add, J_sub, J_mul, J_neg, J_lt, J_le, J_eq, J_nat, J_in, J_div]; congr 1
  rw [e1']
  refine st 0 0 M _ (by omega) (by omega) (by omega) hL (hf 0 (by omega)) ?_
  obtain ⟨M1, q1⟩ : ∃ M1, M1 = sI M 78 (3 * w + 0) (J (mn99 (f 0))) := ⟨_, rfl⟩
  rw [← q1]
  have F1 : Fm [78] M M1 := by rw [q1]; exact (Fm.refl _ M).si (by decide)
  have o1 : Ot w M M1 := by rw [q1]; exact (Ot.refl w M).si (by omega)
  refine st 1 _ M1 _ (by omega) (by omega) (by omega) (hL.of F1.1) (by rw [q1, gI_sI, if_neg (by omega)]; exact hf 1 (by omega)) ?_
  obtain ⟨M2, q2⟩ : ∃ M2, M2 = sI M1 78 (3 * w + 1) (J (mn99 (f 1))) := ⟨_, rfl⟩
  rw [← q2]
  have F2 : Fm [78] M M2 := by rw [q2]; exact F1.si (by decide)
  have o2 : Ot w M M2 := by rw [q2]; exact o1.si (by omega)
  refine st 2 _ M2 _ (by omega) (by omega) (by omega) (hL.of F2.1) (by rw [q2, gI_sI, if_neg (by omega), q1, gI_sI, if_neg (by omega)]; exact hf 2 (by omega)) ?_
  obtain ⟨M3, q3⟩ : ∃ M3, M3 = sI M2 78 (3 * w + 2) (J (mn99 (f 2))) := ⟨_, rfl⟩
  rw [← q3]
  have F3 : Fm [78] M M3 := by rw [q3]; exact F2.si (by decide)
  have o3 : Ot w M M3 := by rw [q3]; exact o2.si (by omega)
  have g3 : ∀ s, s < 3 → gI M3 78 (3 * w + s) = J (mn99 (f s)) := by
    intro s hs3
    rcases (by omega : s = 0 ∨ s = 1 ∨ s = 2) with rfl | rfl | rfl
    · rw [q3, gI_sI, if_neg (by omega), q2, gI_sI, if_neg (by omega), q1, gI_sI, if_pos ⟨rfl, rfl⟩]
    · rw [q3, gI_sI, if_neg (by omega), q2, gI_sI, if_pos ⟨rfl, rfl⟩]
    · rw [q3, gI_sI, if_pos ⟨rfl, rfl⟩]
  have ei : ((3 : Int32) * J w + (1 : Int32)).toNatClampNeg = 3 * w + 1 := by simp (disch := omega) only [J_lit, J_add, J_sub, J_mul, J_neg, J_lt, J_le, J_eq, J_nat, J_in, J_div]; omega
  refine rX12_bound_6 D d _ _ _ M3 _ (hL.of F3.1) ⟨fun _ => ⟨fun c => ⟨rfl, F3.1, h M3 F3 o3 (fun s hs3 => ?_)⟩, fun c => ⟨by simp (disch := omega) only [J_lit, J_add, J_sub, J_mul, J_neg, J_lt, J_le, J_eq, J_nat, J_in, J_div]; omega, fun M4 e4 => ?_⟩⟩, fun c => ?_⟩
  · rw [g3 s hs3]
    unfold bnd
    rw [if_neg]
    intro q
    simp (disch := omega) only [J_lit, J_add, J_sub, J_mul, J_neg, J_lt, J_le, J_eq, J_nat, J_in, J_div] at c
    omega
  · simp (disch := omega) only [J_lit, J_add, J_sub, J_mul, J_neg, J_lt, J_le, J_eq, J_nat, J_in, J_div] at c
    rw [ei] at e4
    have F4 : Fm [78] M M4 := by rw [e4]; exact F3.si (by decide)
    have o4 : Ot w M M4 := by rw [e4]; exact o3.si (by omega)
    refine ⟨rfl, F4.1, h M4 F4 o4 (fun s hs3 => ?_)⟩
    rw [e4, gI_sI]
    unfold bnd
    by_cases e : s = 1
    · rw [if_pos ⟨rfl, by omega⟩, if_pos ⟨by omega, e⟩]
      rfl
    · rw [if_neg (fun q => e (by omega)), if_neg (fun q => e q.2), g3 s hs3]
  · exfalso
    simp (disch := omega) only [J_lit, J_add, J_sub, J_mul, J_neg, J_lt, J_le, J_eq, J_nat, J_in, J_div] at c
    omega
theorem c_mReply {M : Mm} {T g : Nat → Int} {w : Nat} {P : Int32 → Mm → Prop} (hL : Lay 62 98 M) (hT : Ro M 63 9 T) (hb : Tb T) (hw : w < 2) (hg : Wr M (1 - w) g) (hg2 : ∀ i, i < 3 → 0 ≤ g i ∧ g i ≤ 1000) (h : P (J (rpl T w g)) M) : AMi D d mX12_replyOf [.ref 62, .int (J w)] M P := by
  have cb : ∀ s, s < 3 → 0 ≤ chc T w g s ∧ chc T w g s ≤ 300000 := fun s hs => chc_b hb hs hg2
  have st : ∀ (best side o : Nat) (bc acc : Int) (post : Option Value → Mm → Prop), side < 3 → o < 3 → 0 ≤ acc → acc ≤ 1000000 → LX12_replyOf_19 D d (J w) (J best) (J bc) (J side) (J (acc + g o * cl T w side o)) (J ((o + 1 : Nat) : Int)) M post → LX12_replyOf_19 D d (J w) (J best) (J bc) (J side) (J acc) (J o) M post := by
    intro best side o bc acc post hsd ho ha1 ha2 hk
    have eo : (J (o : Int)).toNatClampNeg = o := by simp (disch := omega) only [J_lit, J_add, J_sub, J_mul, J_neg, J_lt, J_le, J_eq, J_nat, J_in, J_div]; omega
    have eo3 : ((3 : Int32) + J o).toNatClampNeg = 3 + o := by simp (disch := omega) only [J_lit, J_add, J_sub, J_mul, J_neg, J_lt, J_le, J_eq, J_nat, J_in, J_div]; omega
    have t1 : ((3 : Int32) * J o + J side).toNatClampNeg = o * 3 + side := by simp (disch := omega) only [J_lit, J_add, J_sub, J_mul, J_neg, J_lt, J_le, J_eq, J_nat, J_in, J_div]; omega
    have t2 : ((3 : Int32) * J side + J o).toNatClampNeg = side * 3 + o := by simp (disch := omega) only [J_lit, J_add, J_sub, J_mul, J_neg, J_lt, J_le, J_eq, J_nat, J_in, J_div]; omega
    refine rX12_replyOf_19 D d _ _ _ _ _ _ M post hL ?_
    rw [eo, eo3, t1, t2]
    refine ⟨fun c => ?_, fun _ => ⟨fun c => ⟨by simp (disch := omega) only [J_lit, J_add, J_sub, J_mul, J_neg, J_lt, J_le, J_eq, J_nat, J_in, J_div]; omega, by simp (disch := omega) only [J_lit, J_add, J_sub, J_mul, J_neg, J_lt, J_le, J_eq, J_nat, J_in, J_div]; omega, fun x14 e14 x15 e15 => ?_⟩, fun c => ⟨by simp (disch := omega) only [J_lit, J_add, J_sub, J_mul, J_neg, J_lt, J_le, J_eq, J_nat, J_in, J_div]; omega, by simp (disch := omega) only [J_lit, J_add, J_sub, J_mul, J_neg, J_lt, J_le, J_eq, J_nat, J_in, J_div]; omega, fun x14 e14 x15 e15 => ?_⟩⟩⟩
    · exfalso
      simp (disch := omega) only [J_lit, J_add, J_sub, J_mul, J_neg, J_lt, J_le, J_eq, J_nat, J_in, J_div] at c
      omega
    · simp (disch := omega) only [J_lit, J_add, J_sub, J_mul, J_neg, J_lt, J_le, J_eq, J_nat, J_in, J_div] at c
      have hg1 := hg o ho
      rw [(by omega : 3 * (1 - w) + o = o)] at hg1
      rw [hg1, hT _ (by omega)] at e14
      have ec : cl T w side o = T (o * 3 + side) := by unfold cl; rw [if_neg (by omega)]
      rw [ec] at hk
      rw [e14, e15, J_suc, J_mul, J_add]
      exact hk
    · simp (disch := omega) only [J_lit, J_add, J_sub, J_mul, J_neg, J_lt, J_le, J_eq, J_nat, J_in, J_div] at c
      have hg1 := hg o ho
      rw [(by omega : 3 * (1 - w) + o = 3 + o)] at hg1
      rw [hg1, hT _ (by omega)] at e14
      have ec : cl T w side o = T (side * 3 + o) := by unfold cl; rw [if_pos (by omega)]
      rw [ec] at hk
      rw [e14, e15, J_suc, J_mul, J_add]
      exact hk
  have row : ∀ (best side : Nat) (bc : Int) (post : Option Value → Mm → Prop), side < 3 → LX12_replyOf_19 D d (J w) (J best) (J bc) (J side) (J (chc T w g side)) (J ((3 : Nat) : Int)) M post → LX12_replyOf_7 D d (J w) (J best) (J bc) (J side) M post := by
    intro best side bc post hsd hk
    have p0 := pb (hg2 0 (by omega)).1 (cl_b hb (w := w) (own := side) (other := 0) hsd (by omega)).1 (cl_b hb (w := w) (own := side) (other := 0) hsd (by omega)).2
    have p1 := pb (hg2 1 (by omega)).1 (cl_b hb (w := w) (own := side) (other := 1) hsd (by omega)).1 (cl_b hb (w := w) (own := side) (other := 1) hsd (by omega)).2
    have q0 := (hg2 0 (by omega)).2
    have q1 := (hg2 1 (by omega)).2
    refine rX12_replyOf_7 D d _ _ _ _ M post hL ⟨fun c => ?_, fun _ => ?_⟩
    · exfalso
      simp (disch := omega) only [J_lit, J_add, J_sub, J_mul, J_neg, J_lt, J_le, J_eq, J_nat, J_in, J_div] at c
      omega
    · refine st best side 0 bc 0 post hsd (by omega) (by omega) (by omega) ?_
      refine st best side 1 bc _ post hsd (by omega) (by omega) (by omega) ?_
      refine st best side 2 bc _ post hsd (by omega) (by omega) (by omega) ?_
      have e : 0 + g 0 * cl T w side 0 + g 1 * cl T w side 1 + g 2 * cl T w side 2 = chc T w g side := by unfold chc; omega
      rw [e]
      exact hk
  have better : ∀ (best side : Nat) (bc c : Int) (post : Option Value → Mm → Prop), 1 ≤ side → side < 3 → 0 ≤ bc → bc ≤ 300000 → 0 ≤ c → c ≤ 300000 → (bt w c bc → LX12_replyOf_7 D d (J w) (J side) (J c) (J ((side + 1 : Nat) : Int)) M post) → (¬ bt w c bc → LX12_replyOf_7 D d (J w) (J best) (J bc) (J ((side + 1 : Nat) : Int)) M post) → LX12_replyOf_19 D d (J w) (J best) (J bc) (J side) (J c) (J ((3 : Nat) : Int)) M post := by
    intro best side bc c post h1 h2 b1 b2 c1 c2 hy hn
    refine rX12_replyOf_19 D d _ _ _ _ _ _ M post hL ⟨fun _ => ⟨fun q => ?_, fun _ => ⟨fun q => ⟨fun q2 x6 e6 => ?_, fun q2 x6 e6 => ?_⟩, fun q => ⟨fun q2 x6 e6 => ?_, fun q2 x6 e6 => ?_⟩⟩⟩, fun q => absurd (by decide) q⟩
    · exfalso
      simp (disch := omega) only [J_lit, J_add, J_sub, J_mul, J_neg, J_lt, J_le, J_eq, J_nat, J_in, J_div] at q
      omega
    all_goals rw [e6, J_suc]
    · simp (disch := omega) only [J_lit, J_add, J_sub, J_mul, J_neg, J_lt, J_le, J_eq, J_nat, J_in, J_div] at q q2
      exact hy (Or.inr ⟨by omega, q2⟩)
    · simp (disch := omega) only [J_lit, J_add, J_sub, J_mul, J_neg, J_lt, J_le, J_eq, J_nat, J_in, J_div] at q q2
      exact hn (fun z => by omega)
    · simp (disch := omega) only [J_lit, J_add, J_sub, J_mul, J_neg, J_lt, J_le, J_eq, J_nat, J_in, J_div] at q q2
      exact hy (Or.inl ⟨by omega, q2⟩)
    · simp (disch := omega) only [J_lit, J_add, J_sub, J_mul, J_neg, J_lt, J_le, J_eq, J_nat, J_in, J_div] at q q2
      exact hn (fun z => by omega)
  refine rX12_replyOf D d (J w) M _ hL ?_
  refine row 0 0 0 _ (by omega) ?_
  refine rX12_replyOf_19 D d _ _ _ _ _ _ M _ hL ⟨fun _ => ⟨fun _ x3 e3 => ?_, fun q => absurd (by decide) q⟩, fun q => absurd (by decide) q⟩
  rw [e3, J_suc]
  have fin : ∀ (b1 : Nat), b1 = rpA T w g → LX12_replyOf_7 D d (J w) (J b1) (J (chc T w g b1)) (J ((2 : Nat) : Int)) M (fun r M1 => ∃ x, r = some (.int x) ∧ Sm M M1 ∧ P x M1) := by
    intro b1 hb1
    have hb3 : b1 < 3 := by rw [hb1]; exact rpA_le T w g
    unfold rpl at h
    rw [← hb1] at h
    refine row _ 2 _ _ (by omega) (better _ 2 _ _ _ (by omega) (by omega) (cb b1 hb3).1 (cb b1 hb3).2 (cb 2 (by omega)).1 (cb 2 (by omega)).2 (fun q => ?_) (fun q => ?_))
    · rw [if_pos q] at h
      exact rX12_replyOf_7 D d _ _ _ _ M _ hL ⟨fun _ => ⟨_, rfl, .refl M, h⟩, fun q => absurd (by decide) q⟩
    · rw [if_neg q] at h
      exact rX12_replyOf_7 D d _ _ _ _ M _ hL ⟨fun _ => ⟨_, rfl, .refl M, h⟩, fun q => absurd (by decide) q⟩
  refine row _ 1 _ _ (by omega) (better _ 1 _ _ _ (by omega) (by omega) (cb 0 (by omega)).1 (cb 0 (by omega)).2 (cb 1 (by omega)).1 (cb 1 (by omega)).2 (fun q => fin 1 ?_) (fun q => fin 0 ?_))
  · unfold rpA
    rw [if_pos q]
  · unfold rpA
    rw [if_neg q]
end
