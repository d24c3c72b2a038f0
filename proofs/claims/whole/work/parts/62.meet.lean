/-! WEIGHTS of both: the class -/
def Pq (M : Mm) (q k v j : Nat) (R : List Cls) : Prop := 98 ≤ q ∧ k ≤ 6 ∧ v ≤ 2 ∧ j < 7 ∧ Pl M q (kcl k) j ∧ gI M q 2 = J v ∧ R.length ≤ 8 ∧ (∀ c ∈ R, ClOk c) ∧ (encR R).length ≤ 100 ∧ ∀ i, i < 100 → gI M (5 + j) i = J ((encR R).getD i 0)
def okRows (L : List Nat) : Bool := L.all (fun x => decide (12 ≤ x ∧ x < 98))
theorem Pq.fm {M M' : Mm} {q k v j : Nat} {R : List Cls} {L : List Nat} (h : Pq M q k v j R) (F : Fm L M M') (hL : okRows L = true) : Pq M' q k v j R := by
  obtain ⟨h1, h2, h3, h4, h5, h6, h7, h8, h9, h10⟩ := h
  have no : ∀ x, ¬ (12 ≤ x ∧ x < 98) → L.contains x = false := by
    intro x hx
    cases e : L.contains x with
    | false => rfl
    | true =>
      have := List.all_eq_true.mp hL x (List.contains_iff_mem.mp e)
      exact absurd (of_decide_eq_true this) hx
  refine ⟨h1, h2, h3, h4, h5.ofx F.1.x, ?_, h7, h8, h9, fun i hi => ?_⟩
  · rw [F.2.2.2 q (no q (by omega))]
    exact h6
  · rw [F.2.2.2 (5 + j) (no _ (by omega))]
    exact h10 i hi
/-- the state, as one of them sees it -/
def Fs (F : Nat → Int) : Prop := (∀ i, i < 4 → 0 ≤ F i ∧ F i ≤ 99) ∧ F 0 ≤ 3
def Rr (r : Nat → Int) : Prop := ∀ s, s < 3 → 0 ≤ r s ∧ r s ≤ 20
theorem wPl_b {k v : Nat} {F r : Nat → Int} {R : List Cls} {s : Nat} (hs : s < 3) (hk : k ≤ 6) (hv : v ≤ 2) (hr : Rr r) (h8 : R.length ≤ 8) (hR : ∀ c ∈ R, ClOk c) : 0 ≤ wPl k v F R r s ∧ wPl k v F R r s ≤ 900 := by
  have g := gain_le F s R hR
  have q := hr s hs
  rcases (by omega : k = 0 ∨ k = 1 ∨ k = 2 ∨ k = 3 ∨ k = 4 ∨ k = 5 ∨ k = 6) with rfl | rfl | rfl | rfl | rfl | rfl | rfl
  · rw [wPl_0]; omega
  · rw [wPl_1]; split <;> omega
  · rw [wPl_2]; omega
  · rw [wPl_3]; split <;> omega
  · rw [wPl_4]; split <;> omega
  · rw [wPl_5]; omega
  · rw [wPl_6]; split <;> omega
theorem wgF_b {k v : Nat} {F r : Nat → Int} {R : List Cls} {s : Nat} (z : Int) (hs : s < 3) (hk : k ≤ 6) (hv : v ≤ 2) (hr : Rr r) (h8 : R.length ≤ 8) (hR : ∀ c ∈ R, ClOk c) : 0 ≤ wgF k v F R r z s ∧ wgF k v F R r z s ≤ 3000 := by
  have b := wPl_b (F := F) hs hk hv hr h8 hR
  unfold wgF ans
  split
  · split
    · split <;> omega
    · split <;> omega
  · omega
def zF (T : Nat → Int) (w k k' : Nat) (g : Nat → Int) : Int := if (hd k && !hd k') = true then (rpl T w g : Int) else -1
def fW (T : Nat → Int) (w k v : Nat) (F : Nat → Int) (R : List Cls) (r : Nat → Int) (k' v' : Nat) (F' : Nat → Int) (R' : List Cls) (r' : Nat → Int) (s : Nat) : Int := bnd (wgF k v F R r (zF T w k k' (bnd (wgF k' v' F' R' r' (-1))))) s
section
variable {D : GD} {d : Nat}
theorem c_weighOne {M : Mm} {T g F r : Nat → Int} {w q k v j q' k' j' : Nat} {R : List Cls} {P : Mm → Prop} (hL : Lay 0 62 M) (hT : Ro M 14 9 T) (hb : Tb T) (hw : w < 2) (hr : Rr r) (hx : ∀ s, s < 3 → gI M (16 + w) s = J (r s)) (hF : Fs F) (hS : ∀ i, i < 4 → gI M (20 + w) i = J (F i)) (hp : Pq M q k v j R) (hk' : k' ≤ 6) (hp' : Pl M q' (kcl k') j') (hg : (hd k && !hd k') = true → ∀ i, i < 3 → gI M (23 + (1 - w)) i = J (g i) ∧ 0 ≤ g i ∧ g i ≤ 1000) (h : ∀ M', Fm [13, 23 + w] M M' → (∀ s, s < 3 → gI M' (23 + w) s = J (bnd (wgF k v F R r (zF T w k k' g)) s)) → (w = 0 → gI M' 13 5 = J (mn99 (gain F 3 R))) → (w ≠ 0 → gI M' 13 = gI M 13) → P M') : AMv D (d + 3) mX0_weighOne [.ref 13, .int (J w), .ref q, .ref q'] M P := by
  obtain ⟨h98, hk, hv, hj, hPl, ev, h8, hok, he, hc⟩ := id hp
  have ew : (J (w : Int)).toNatClampNeg = w := by simp (disch := omega) only [J_lit, J_add, J_sub, J_mul, J_neg, J_lt, J_le, J_eq, J_nat, J_in, J_div]; omega
  have hL3 : Lay 13 25 M := hL.sub (by omega) (by omega)
  have sW : Sh M (23 + w) (1, 4) := (row_22 hL3 (by omega) (by omega) (j := w) hw).2
  have sS : Sh M (20 + w) (1, 4) := (row_19 hL3 (by omega) (by omega) (j := w) hw).2
  have sX : Sh M (16 + w) (1, 3) := (row_15 hL3 (by omega) (by omega) (j := w) hw).2
  have sC : Sh M (5 + j) (1, 100) := (row_4 hL (by omega) (by omega) hj).2
  have hrows : okRows [13, 23 + w] = true := by rcases (by omega : w = 0 ∨ w = 1) with rfl | rfl <;> decide
  -- behind the RULE
  have wt : ∀ (N : Mm) (z : Int), Fm [13, 23 + w] M N → (∀ s, s < 3 → gI N (23 + w) s = J ((gain F s R : Nat) : Int)) → (w = 0 → gI N 13 5 = J (mn99 (gain F 3 R))) → (w ≠ 0 → gI N 13 = gI M 13) → z = zF T w k k' g → AMv D (d + 2) (vm_weigh (kcl k)) [.ref q, .ref (23 + w), .ref (16 + w), .int (gI N (20 + w) 0), .int (J z)] N (fun M20 => AMv D (d + 2) mX0_temper [.ref (23 + w)] M20 (fun M28 => (none : Option Value) = none ∧ Sm M M28 ∧ P M28)) := by
    intro N z FN gN p0 p1 hz
    have g20 : gI N (20 + w) = gI M (20 + w) := FN.2.2.2 _ (by (simp only [List.contains_cons, List.contains_nil, Bool.or_false, Bool.or_eq_false_iff, beq_eq_false_iff_ne, ne_eq]; omega))
    have g16 : gI N (16 + w) = gI M (16 + w) := FN.2.2.2 _ (by (simp only [List.contains_cons, List.contains_nil, Bool.or_false, Bool.or_eq_false_iff, beq_eq_false_iff_ne, ne_eq]; omega))
    have hpN := hp.fm FN hrows
    rw [g20, hS 0 (by omega)]
    have zz : z = -1 ∨ (0 ≤ z ∧ z < 3 ∧ hd k = true) := by
      unfold zF at hz
      by_cases e : (hd k && !hd k') = true
      · rw [if_pos e] at hz
        have := rpl_le T w g
        exact Or.inr ⟨by omega, by omega, by simp only [Bool.and_eq_true] at e; exact e.1⟩
      · rw [if_neg e] at hz
        exact Or.inl hz
    have f00 := hF.1 0 (by omega)
    have f03 := hF.2
    refine c_weigh (F := F) (R := R) (r := r) (z := z) (hL.of FN.1) hk hv hpN.2.2.2.2.1 h98 (by omega) (sW.of FN.1) (sX.of FN.1) hpN.2.2.2.2.2.1 gN (fun s hs => by rw [g16]; exact hx s hs) ⟨f00.1, f03⟩ zz (fun M20 F20 g20 => ?_)
    refine c_temper (f := wgF k v F R r z) ((sW.of FN.1).of F20.1) (fun s hs => ⟨g20 s hs, (wgF_b z hs hk hv hr h8 hok).1, by have := (wgF_b (F := F) z hs hk hv hr h8 hok).2; omega⟩) (fun M28 F28 g28 => ?_)
    have F2 : Fm [23 + w] N M28 := F20.trans F28
    have F3 : Fm [13, 23 + w] M M28 := FN.trans (F2.sub (by simp))
    have g13 : gI M28 13 = gI N 13 := F2.2.2.2 13 (by (simp only [List.contains_cons, List.contains_nil, Bool.or_false, Bool.or_eq_false_iff, beq_eq_false_iff_ne, ne_eq]; omega))
    refine ⟨rfl, F3.1, h M28 F3 (fun s hs => ?_) (fun e => by rw [g13]; exact p0 e) (fun e => by rw [g13]; exact p1 e)⟩
    rw [g28 s hs, hz]
  have tail : ∀ (N : Mm), Fm [13, 23 + w] M N → (∀ s, s < 3 → gI N (23 + w) s = J ((gain F s R : Nat) : Int)) → (w = 0 → gI N 13 5 = J (mn99 (gain F 3 R))) → (w ≠ 0 → gI N 13 = gI M 13) → AMi D (d + 2) (vm_heeds (kcl k)) [.ref q] N (fun x12 M11 => ((x12 = 0 → AMv D (d + 2) (vm_weigh (kcl k)) [.ref q, .ref (23 + w), .ref (16 + w), .int (gI M11 (20 + w) 0), .int (-1 : Int32)] M11 (fun M20 => AMv D (d + 2) mX0_temper [.ref (23 + w)] M20 (fun M28 => (none : Option Value) = none ∧ Sm M M28 ∧ P M28))) ∧ (¬ x12 = 0 → AMi D (d + 2) (vm_heeds (kcl k')) [.ref q'] M11 (fun x37 M36 => ((¬ x37 = 0 → AMv D (d + 2) (vm_weigh (kcl k)) [.ref q, .ref (23 + w), .ref (16 + w), .int (gI M36 (20 + w) 0), .int (-1 : Int32)] M36 (fun M45 => AMv D (d + 2) mX0_temper [.ref (23 + w)] M45 (fun M53 => (none : Option Value) = none ∧ Sm M M53 ∧ P M53))) ∧ (x37 = 0 → AMi D (d + 2) mX0_replySide [.ref 13, .int (J w)] M36 (fun x62 M61 => AMv D (d + 2) (vm_weigh (kcl k)) [.ref q, .ref (23 + w), .ref (16 + w), .int (gI M61 (20 + w) 0), .int x62] M61 (fun M69 => AMv D (d + 2) mX0_temper [.ref (23 + w)] M69 (fun M77 => (none : Option Value) = none ∧ Sm M M77 ∧ P M77))))))))) := by
    intro N FN gN p0 p1
    have hpN := hp.fm FN hrows
    have em1 : (-1 : Int32) = J (-1) := by decide
    rw [em1]
    refine c_heeds hk hpN.2.2.2.2.1 ⟨fun c => wt N (-1) FN gN p0 p1 ?_, fun c => c_heeds hk' (hp'.ofx FN.1.x) ⟨fun c2 => wt N (-1) FN gN p0 p1 ?_, fun c2 => ?_⟩⟩
    · unfold zF
      cases e : hd k
      · rfl
      · rw [e] at c
        exact absurd c (by decide)
    · unfold zF
      cases e : hd k'
      · rw [e] at c2
        exact absurd (by decide) c2
      · rw [Bool.not_true, Bool.and_false]
        rfl
    · have e1 : hd k = true := by
        cases e : hd k
        · rw [e] at c
          exact absurd (by decide) c
        · rfl
      have e2 : hd k' = false := by
        cases e : hd k'
        · rfl
        · rw [e] at c2
          exact absurd c2 (by decide)
      have e3 : (hd k && !hd k') = true := by rw [e1, e2]; rfl
      have g1 : gI N (23 + (1 - w)) = gI M (23 + (1 - w)) := FN.2.2.2 _ (by (simp only [List.contains_cons, List.contains_nil, Bool.or_false, Bool.or_eq_false_iff, beq_eq_false_iff_ne, ne_eq]; omega))
      refine c_replySide (T := T) (g := g) ((hL3).of FN.1) (fun i hi => by rw [FN.2.2.2 14 (by (simp only [List.contains_cons, List.contains_nil, Bool.or_false, Bool.or_eq_false_iff, beq_eq_false_iff_ne, ne_eq]; omega))]; exact hT i hi) hb hw (fun i hi => by rw [g1]; exact hg e3 i hi) (wt N _ FN gN p0 p1 ?_)
      unfold zF
      rw [if_pos e3]
  refine rX0_weighOne D (d + 2) (J w) q (kcl k) j q' (kcl k') j' M _ hL3 hPl hp' ?_
  rw [ew]
  refine ⟨by simp (disch := omega) only [J_lit, J_add, J_sub, J_mul, J_neg, J_lt, J_le, J_eq, J_nat, J_in, J_div]; omega, ?_⟩
  refine c_follow (F := F) (R := R) hL3 sC hj sS sW (by omega) (by omega) hS hF.1 h8 hok he hc (fun M2 F2 g2 => ⟨fun c => ?_, fun c M85 e85 => ?_⟩)
  · simp (disch := omega) only [J_lit, J_add, J_sub, J_mul, J_neg, J_lt, J_le, J_eq, J_nat, J_in, J_div] at c
    exact tail M2 (F2.sub (by simp)) (fun s hs => g2 s (by omega)) (fun e => by omega) (fun _ => F2.2.2.2 13 (by (simp only [List.contains_cons, List.contains_nil, Bool.or_false, Bool.or_eq_false_iff, beq_eq_false_iff_ne, ne_eq]; omega)))
  · simp (disch := omega) only [J_lit, J_add, J_sub, J_mul, J_neg, J_lt, J_le, J_eq, J_nat, J_in, J_div] at c
    have hw0 : w = 0 := by omega
    have gl := gain_le F 3 R hok
    have em : (if (gI M2 (23 + w) 3) < (99 : Int32) then (gI M2 (23 + w) 3) else (99 : Int32)) = J (mn99 (gain F 3 R)) := by
      rw [g2 3 (by omega)]
      unfold mn99
      simp (disch := omega) only [J_lit, J_add, J_sub, J_mul, J_neg, J_lt, J_le, J_eq, J_nat, J_in, J_div]
      split <;> rfl
    rw [em] at e85
    have F85 : Fm [13, 23 + w] M M85 := by rw [e85]; exact (F2.sub (by simp)).si (by simp)
    refine tail M85 F85 (fun s hs => ?_) (fun _ => by rw [e85, gI_sI, if_pos ⟨rfl, rfl⟩]) (fun e => absurd hw0 e)
    rw [e85, fr_s (by omega)]
    exact g2 s (by omega)
theorem c_meet {M : Mm} {T F0 F1 r0 r1 : Nat → Int} {q0 k0 v0 j0 q1 k1 v1 j1 : Nat} {R0 R1 : List Cls} {P : Mm → Prop} (hL : Lay 0 62 M) (hT : Ro M 14 9 T) (hb : Tb T) (hr0 : Rr r0) (hr1 : Rr r1) (hx0 : ∀ s, s < 3 → gI M 16 s = J (r0 s)) (hx1 : ∀ s, s < 3 → gI M 17 s = J (r1 s)) (hF0 : Fs F0) (hF1 : Fs F1) (hS0 : ∀ i, i < 4 → gI M 20 i = J (F0 i)) (hS1 : ∀ i, i < 4 → gI M 21 i = J (F1 i)) (hp0 : Pq M q0 k0 v0 j0 R0) (hp1 : Pq M q1 k1 v1 j1 R1) (h : ∀ M', Fm [13, 23, 24] M M' → (∀ s, s < 3 → gI M' 23 s = J (fW T 0 k0 v0 F0 R0 r0 k1 v1 F1 R1 r1 s)) → (∀ s, s < 3 → gI M' 24 s = J (fW T 1 k1 v1 F1 R1 r1 k0 v0 F0 R0 r0 s)) → gI M' 13 5 = J (mn99 (gain F0 3 R0)) → P M') : AMv D (d + 4) mX0_meet [.ref 13, .ref q0, .ref q1] M P := by
  have b0 : ∀ z s, s < 3 → 0 ≤ bnd (wgF k0 v0 F0 R0 r0 z) s ∧ bnd (wgF k0 v0 F0 R0 r0 z) s ≤ 1000 := fun z s hs => by
    have h1 := wgF_b (F := F0) z hs hp0.2.1 hp0.2.2.1 hr0 hp0.2.2.2.2.2.2.1 hp0.2.2.2.2.2.2.2.1
    have h2 := bnd_b (f := wgF k0 v0 F0 R0 r0 z) (s := s) h1.1
    omega
  have b1 : ∀ z s, s < 3 → 0 ≤ bnd (wgF k1 v1 F1 R1 r1 z) s ∧ bnd (wgF k1 v1 F1 R1 r1 z) s ≤ 1000 := fun z s hs => by
    have h1 := wgF_b (F := F1) z hs hp1.2.1 hp1.2.2.1 hr1 hp1.2.2.2.2.2.2.1 hp1.2.2.2.2.2.2.2.1
    have h2 := bnd_b (f := wgF k1 v1 F1 R1 r1 z) (s := s) h1.1
    omega
  refine rX0_meet D (d + 3) q0 (kcl k0) j0 q1 (kcl k1) j1 M _ (hL.sub (by omega) (by omega)) hp0.2.2.2.2.1 hp1.2.2.2.2.1 (c_heeds hp0.2.1 hp0.2.2.2.2.1 ⟨fun c => ?_, fun c => ?_⟩)
  · have e0 : hd k0 = false := by
      cases e : hd k0
      · rfl
      · rw [e] at c
        exact absurd c (by decide)
    have z0 : ∀ g, zF T 0 k0 k1 g = -1 := fun g => by unfold zF; rw [e0]; rfl
    refine c_weighOne (w := 0) (g := fun _ => 0) (F := F0) (r := r0) hL hT hb (by omega) hr0 hx0 hF0 hS0 hp0 hp1.2.1 hp1.2.2.2.2.1 (fun e => by rw [e0] at e; cases e) (fun M1 FA gA pA _ => ?_)
    have F1' : Fm [13, 23] M M1 := FA
    have hp1' := hp1.fm F1' (by decide)
    refine c_weighOne (w := 1) (g := bnd (wgF k0 v0 F0 R0 r0 (-1))) (F := F1) (r := r1) (hL.of FA.1) (fun i hi => by rw [F1'.2.2.2 14 (by decide)]; exact hT i hi) hb (by omega) hr1 (fun s hs => by rw [F1'.2.2.2 17 (by decide)]; exact hx1 s hs) hF1 (fun i hi => by rw [F1'.2.2.2 21 (by decide)]; exact hS1 i hi) hp1' hp0.2.1 (hp0.2.2.2.2.1.ofx FA.1.x) (fun _ i hi => ⟨?_, b0 (-1) i hi⟩) (fun M2 FB gB _ pB => ⟨rfl, FA.1.trans FB.1, h M2 ((F1'.sub (by decide)).trans (FB.sub (by decide))) (fun s hs => ?_) (fun s hs => ?_) ?_⟩)
    · have := gA i hi
      rw [z0] at this
      exact this
    · have e23 : gI M2 23 = gI M1 23 := FB.2.2.2 23 (by decide)
      rw [e23]
      have := gA s hs
      rw [z0] at this
      unfold fW
      rw [z0]
      exact this
    · exact gB s hs
    · rw [pB (by decide)]
      exact pA rfl
  · have e0 : hd k0 = true := by
      cases e : hd k0
      · rw [e] at c
        exact absurd (by decide) c
      · rfl
    have z1 : ∀ g, zF T 1 k1 k0 g = -1 := fun g => by unfold zF; rw [e0, Bool.not_true, Bool.and_false]; rfl
    refine c_weighOne (w := 1) (g := fun _ => 0) (F := F1) (r := r1) hL hT hb (by omega) hr1 hx1 hF1 hS1 hp1 hp0.2.1 hp0.2.2.2.2.1 (fun e => by rw [e0, Bool.not_true, Bool.and_false] at e; cases e) (fun M1 FA gA _ pA => ?_)
    have F1' : Fm [13, 24] M M1 := FA
    have hp0' := hp0.fm F1' (by decide)
    refine c_weighOne (w := 0) (g := bnd (wgF k1 v1 F1 R1 r1 (-1))) (F := F0) (r := r0) (hL.of FA.1) (fun i hi => by rw [F1'.2.2.2 14 (by decide)]; exact hT i hi) hb (by omega) hr0 (fun s hs => by rw [F1'.2.2.2 16 (by decide)]; exact hx0 s hs) hF0 (fun i hi => by rw [F1'.2.2.2 20 (by decide)]; exact hS0 i hi) hp0' hp1.2.1 (hp1.2.2.2.2.1.ofx FA.1.x) (fun _ i hi => ⟨?_, b1 (-1) i hi⟩) (fun M2 FB gB pB _ => ⟨rfl, FA.1.trans FB.1, h M2 ((F1'.sub (by decide)).trans (FB.sub (by decide))) (fun s hs => ?_) (fun s hs => ?_) (pB rfl)⟩)
    · have := gA i hi
      rw [z1] at this
      exact this
    · exact gB s hs
    · have e24 : gI M2 24 = gI M1 24 := FB.2.2.2 24 (by decide)
      rw [e24]
      have := gA s hs
      rw [z1] at this
      unfold fW
      rw [z1]
      exact this
/-- the STATE as both see it -/
def fs0 (l o t q : Int) (i : Nat) : Int := [l, o, t, q].getD i 0
def fs1 (l o t q : Int) (i : Nat) : Int := [o, l, t, 20 - q].getD i 0
theorem c_setState {M : Mm} {l o t q : Int} {P : Mm → Prop} (hL : Lay 13 25 M) (hq : 0 ≤ q ∧ q ≤ 20) (h : ∀ M', Fm [20, 21] M M' → (∀ i, i < 4 → gI M' 20 i = J (fs0 l o t q i)) → (∀ i, i < 4 → gI M' 21 i = J (fs1 l o t q i)) → P M') : AMv D (d + 1) mX0_setState [.ref 13, .int (J l), .int (J o), .int (J t), .int (J q)] M P := by
  have s0 : Sh M 20 (1, 4) := hL.sh 20 rfl (by omega) (by omega)
  have s1 : Sh M 21 (1, 4) := hL.sh 21 rfl (by omega) (by omega)
  have seen : ∀ (a : Nat) (x0 x1 x2 x3 : Int32) (N : Mm) (Q : Mm → Prop), Sh N a (1, 4) → (∀ M', Fm [a] N M' → gI M' a 0 = x0 → gI M' a 1 = x1 → gI M' a 2 = x2 → gI M' a 3 = x3 → Q M') → AMv D d mX0_setSeen [.ref a, .int x0, .int x1, .int x2, .int x3] N Q := by
    intro a x0 x1 x2 x3 N Q hs hh
    refine rX0_setSeen D d a x0 x1 x2 x3 N _ (.nil N) hs (fun M1 e1 M5 e5 M9 e9 M13 e13 => ?_)
    have F : Fm [a] N M13 := by rw [e13, e9, e5, e1]; exact ((((Fm.refl _ N).si (by simp)).si (by simp)).si (by simp)).si (by simp)
    refine ⟨rfl, F.1, hh M13 F ?_ ?_ ?_ ?_⟩
    · rw [e13, gI_sI, if_neg (by omega), e9, gI_sI, if_neg (by omega), e5, gI_sI, if_neg (by omega), e1, gI_sI, if_pos ⟨rfl, rfl⟩]
    · rw [e13, gI_sI, if_neg (by omega), e9, gI_sI, if_neg (by omega), e5, gI_sI, if_pos ⟨rfl, rfl⟩]
    · rw [e13, gI_sI, if_neg (by omega), e9, gI_sI, if_pos ⟨rfl, rfl⟩]
    · rw [e13, gI_sI, if_pos ⟨rfl, rfl⟩]
  refine rX0_setState D d _ _ _ _ M _ hL (seen 20 _ _ _ _ M _ s0 (fun M1 F1 a0 a1 a2 a3 => seen 21 _ _ _ _ M1 _ (s1.of F1.1) (fun M2 F2 c0 c1 c2 c3 => ⟨rfl, F1.1.trans F2.1, h M2 ((F1.sub (by decide)).trans (F2.sub (by decide))) (fun i hi => ?_) (fun i hi => ?_)⟩)))
  · rw [F2.2.2.2 20 (by decide)]
    rcases (by omega : i = 0 ∨ i = 1 ∨ i = 2 ∨ i = 3) with rfl | rfl | rfl | rfl
    · exact a0
    · exact a1
    · exact a2
    · exact a3
  · rcases (by omega : i = 0 ∨ i = 1 ∨ i = 2 ∨ i = 3) with rfl | rfl | rfl | rfl
    · exact c0
    · exact c1
    · exact c2
    · rw [c3]
      show _ = J (20 - q)
      simp (disch := omega) only [J_lit, J_add, J_sub, J_mul, J_neg, J_lt, J_le, J_eq, J_nat, J_in, J_div]
end
