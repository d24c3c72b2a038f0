/-! win, at -/
theorem wn_cl (c1 c2 : Nat → Int → Int) : ∀ m a b, wn (fun k => if k < 5 then c1 k else fun _ => 0) (fun k => if k < 5 then c2 k else fun _ => 0) m a b = wn c1 c2 m a b := by
  intro m
  induction m with
  | zero => intro a b; rfl
  | succ m ihm =>
    intro a b
    unfold wn
    have e5 : (9 - m) / 2 < 5 := by omega
    simp only [if_pos e5]
    have : wn (fun k => if k < 5 then c1 k else fun _ => 0) (fun k => if k < 5 then c2 k else fun _ => 0) m = wn c1 c2 m := by
      funext a b
      exact ihm a b
    rw [this]
section
variable {D : GD} {d : Nat} {M : Mm}
theorem c_findWin' {c1 c2 : Nat → Int → Int} {o : Nat → Nat} {P : Int32 → Mm → Prop} (hL : Lay 62 98 M) (ho : ∀ k, k < 5 → gI M 85 k = J (o k) ∧ o k < 5) (h1 : ∀ s, s < 5 → ∀ L, 0 ≤ c1 s L ∧ c1 s L ≤ 1000000) (h2 : ∀ s, s < 5 → ∀ L, 0 ≤ c2 s L ∧ c2 s L ≤ 1000000) (g83 : ∀ k, k < 5 → ∀ L : Int, -5 ≤ L → L ≤ 5 → gI M 83 (ix (o k) k L) = J (c1 k L)) (g84 : ∀ k, k < 5 → ∀ L : Int, -5 ≤ L → L ≤ 5 → gI M 84 (11 * k + (L + 5).toNat) = J (c2 k L)) (h : ∀ M', Fm [87] M M' → (∀ t, t ≤ 10 → ∀ a b, a ≤ (t + 1) / 2 → b ≤ t / 2 → gI M' 87 (36 * t + 6 * a + b) = J (wn c1 c2 (10 - t) a b)) → P (J (wn c1 c2 10 0 0)) M') : AMi D (d + 1) mX12_findWin [.ref 62] M P := by
  refine c_findWin (c1 := fun k => if k < 5 then c1 k else fun _ => 0) (c2 := fun k => if k < 5 then c2 k else fun _ => 0) (o := o) hL ho (fun s L => ?_) (fun s L => ?_) (fun k hk L u v => ?_) (fun k hk L u v => ?_) (fun M' F' g' => ?_)
  · split
    · exact h1 s (by assumption) L
    · show (0 : Int) ≤ 0 ∧ (0 : Int) ≤ 1000000
      omega
  · split
    · exact h2 s (by assumption) L
    · show (0 : Int) ≤ 0 ∧ (0 : Int) ≤ 1000000
      omega
  · rw [if_pos hk]
    exact g83 k hk L u v
  · rw [if_pos hk]
    exact g84 k hk L u v
  · rw [wn_cl]
    refine h M' F' (fun t ht a b ha hb => ?_)
    rw [g' t ht a b ha hb, wn_cl]
def Mnd (M : Mm) : Prop := ∀ i, i < 12 → ∃ q, gP M 30 i = some q
theorem c_manned {P : Int32 → Mm → Prop} (hL : Lay 29 46 M) (h1 : Mnd M → P 1 M) (h0 : ¬ Mnd M → P 0 M) : AMi D d mX7_isManned [.ref 29] M P := by
  have lp : ∀ (m i : Nat), i + m = 12 → (∀ k, k < i → ∃ q, gP M 30 k = some q) → LX7_isManned_2 D d (J i) M (fun r M1 => ∃ x, r = some (.int x) ∧ Sm M M1 ∧ P x M1) := by
    intro m
    induction m with
    | zero =>
      intro i hi hk
      refine rX7_isManned_2 D d _ M _ hL ⟨fun _ => ⟨_, rfl, .refl M, h1 (fun k hk2 => hk k (by omega))⟩, fun c => ?_⟩
      exfalso
      simp (disch := omega) only [J_lit, J_add, J_sub, J_mul, J_neg, J_lt, J_le, J_eq, J_nat, J_in, J_div] at c
      omega
    | succ m ih =>
      intro i hi hk
      have ei : (J (i : Int)).toNatClampNeg = i := by simp (disch := omega) only [J_lit, J_add, J_sub, J_mul, J_neg, J_lt, J_le, J_eq, J_nat, J_in, J_div]; omega
      refine rX7_isManned_2 D d _ M _ hL ?_
      rw [ei]
      refine ⟨fun c => ?_, fun _ => ⟨by simp (disch := omega) only [J_lit, J_add, J_sub, J_mul, J_neg, J_lt, J_le, J_eq, J_nat, J_in, J_div]; omega, fun p4 e4 x5 e5 => ?_, fun e => ⟨_, rfl, .refl M, h0 (fun q => ?_)⟩⟩⟩
      · exfalso
        simp (disch := omega) only [J_lit, J_add, J_sub, J_mul, J_neg, J_lt, J_le, J_eq, J_nat, J_in, J_div] at c
        omega
      · rw [e5, J_suc]
        refine ih (i + 1) (by omega) (fun k hk2 => ?_)
        by_cases e : k = i
        · subst e
          exact ⟨p4, e4⟩
        · exact hk k (by omega)
      · obtain ⟨z, hz⟩ := q i (by omega)
        rw [e] at hz
        cases hz
  exact rX7_isManned D d M _ hL (lp 12 0 (by omega) (fun k hk => by omega))
theorem c_areTeams {np : Nat} {P : Int32 → Mm → Prop} (hL : Lay 62 98 M) (hn : np ≤ 10) {N : Mm} (ht : Te N np 30 82) (e82 : gI M 82 = gI N 82) (h1 : Mnd N → P 1 M) (h0 : ¬ Mnd N → P 0 M) : AMi D d mX12_areTeams [.ref 62] M P := by
  have lp : ∀ (m i : Nat), i + m = 12 → (∀ k, k < i → ∃ q, gP N 30 k = some q) → LX12_areTeams_2 D d (J i) M (fun r M1 => ∃ x, r = some (.int x) ∧ Sm M M1 ∧ P x M1) := by
    intro m
    induction m with
    | zero =>
      intro i hi hk
      refine rX12_areTeams_2 D d _ M _ hL ⟨fun _ => ⟨_, rfl, .refl M, h1 (fun k hk2 => hk k (by omega))⟩, fun c => ?_⟩
      exfalso
      simp (disch := omega) only [J_lit, J_add, J_sub, J_mul, J_neg, J_lt, J_le, J_eq, J_nat, J_in, J_div] at c
      omega
    | succ m ih =>
      intro i hi hk
      have ei : (J (i : Int)).toNatClampNeg = i := by simp (disch := omega) only [J_lit, J_add, J_sub, J_mul, J_neg, J_lt, J_le, J_eq, J_nat, J_in, J_div]; omega
      refine rX12_areTeams_2 D d _ M _ hL ?_
      rw [ei, e82]
      refine ⟨fun c => ?_, fun _ => ⟨by simp (disch := omega) only [J_lit, J_add, J_sub, J_mul, J_neg, J_lt, J_le, J_eq, J_nat, J_in, J_div]; omega, fun c x4 e4 => ?_, fun c => ⟨_, rfl, .refl M, h0 (fun q => ?_)⟩⟩⟩
      · exfalso
        simp (disch := omega) only [J_lit, J_add, J_sub, J_mul, J_neg, J_lt, J_le, J_eq, J_nat, J_in, J_div] at c
        omega
      · rw [e4, J_suc]
        refine ih (i + 1) (by omega) (fun k hk2 => ?_)
        by_cases e : k = i
        · subst e
          rcases ht k (by omega) with ⟨_, z2⟩ | ⟨p, q, _, _, z3, _⟩
          · rw [z2] at c
            exact absurd c (by decide)
          · exact ⟨q, z3⟩
        · exact hk k (by omega)
      · obtain ⟨z, hz⟩ := q i (by omega)
        rcases ht i (by omega) with ⟨z1, _⟩ | ⟨p, q, z0, _, _, z4⟩
        · rw [z1] at hz
          cases hz
        · rw [z4] at c
          exact c (by simp (disch := omega) only [J_lit, J_add, J_sub, J_mul, J_neg, J_lt, J_le, J_eq, J_nat, J_in, J_div]; omega)
  exact rX12_areTeams D d M _ hL (lp 12 0 (by omega) (fun k hk => by omega))
theorem teams {nr np : Nat} (hru : Rru M nr) (hpl : Rpl M nr np) (hte : Te M np 30 82) (hm : Mnd M) : ∃ X : Nat → Pd, Tc M X ∧ Tm M X := by
  have h : ∀ i : Nat, ∃ Z : Pd, i < 12 → (∃ q j, gP M 30 i = some q ∧ Pq M q Z.1 Z.2.1 j Z.2.2) ∧ ∃ p j, gI M 82 i = J (p : Nat) ∧ Pm M p Z.1 Z.2.1 j Z.2.2 := by
    intro i
    by_cases hi : i < 12
    · obtain ⟨q0, e0⟩ := hm i hi
      rcases hte i hi with ⟨z1, _⟩ | ⟨p, q, z0, z1, z2, z3⟩
      · rw [z1] at e0
        cases e0
      · obtain ⟨k, v, j, R, -, -, b3, b4⟩ := both_pl hru hpl z0 z1
        exact ⟨(k, v, R), fun _ => ⟨⟨q, j, z2, b3⟩, ⟨p, j, z3, b4⟩⟩⟩
    · exact ⟨(0, 0, []), fun h => absurd h hi⟩
  obtain ⟨X, hX⟩ := Classical.axiomOfChoice h
  exact ⟨X, fun i hi => (hX i hi).1, fun i hi => (hX i hi).2⟩
theorem c_layOrder {P : Mm → Prop} (hL : Lay 62 98 M) (h : ∀ M', Fm [85] M M' → (∀ k, k < 5 → gI M' 85 k = J (k : Nat)) → P M') : AMv D d mX12_layOrder [.ref 62] M P := by
  have lp : ∀ (m i : Nat) (N : Mm), i + m = 5 → Fm [85] M N → (∀ k, k < i → gI N 85 k = J (k : Nat)) → LX12_layOrder_2 D d (J i) N (fun r M1 => r = none ∧ Sm M M1 ∧ P M1) := by
    intro m
    induction m with
    | zero =>
      intro i N hi FN hk
      refine rX12_layOrder_2 D d _ N _ (hL.of FN.1) ⟨fun _ => ⟨rfl, FN.1, h N FN (fun k hk2 => hk k (by omega))⟩, fun c => ?_⟩
      exfalso
      simp (disch := omega) only [J_lit, J_add, J_sub, J_mul, J_neg, J_lt, J_le, J_eq, J_nat, J_in, J_div] at c
      omega
    | succ m ih =>
      intro i N hi FN hk
      have ei : (J (i : Int)).toNatClampNeg = i := by simp (disch := omega) only [J_lit, J_add, J_sub, J_mul, J_neg, J_lt, J_le, J_eq, J_nat, J_in, J_div]; omega
      refine rX12_layOrder_2 D d _ N _ (hL.of FN.1) ⟨fun c => ?_, fun _ => ⟨by simp (disch := omega) only [J_lit, J_add, J_sub, J_mul, J_neg, J_lt, J_le, J_eq, J_nat, J_in, J_div]; omega, fun M3 e3 x7 e7 => ?_⟩⟩
      · exfalso
        simp (disch := omega) only [J_lit, J_add, J_sub, J_mul, J_neg, J_lt, J_le, J_eq, J_nat, J_in, J_div] at c
        omega
      · rw [ei] at e3
        rw [e7, J_suc, e3]
        refine ih (i + 1) _ (by omega) (FN.si (by decide)) (fun k hk2 => ?_)
        rw [gI_sI]
        by_cases e : k = i
        · subst e
          rw [if_pos ⟨rfl, rfl⟩]
        · rw [if_neg (fun z => e z.2)]
          exact hk k (by omega)
  exact rX12_layOrder D d M _ hL (lp 5 0 M (by omega) (Fm.refl _ M) (fun k hk => by omega))
theorem cF_b {T r0 r1 : Nat → Int} {X : Nat → Pd} {f : Nat} (hD : Du M T r0 r1) (hX : Tc M X) (hf : f < 2) : (∀ p, p < 5 → ∀ k L, 0 ≤ cF1 T r0 r1 X f p k L ∧ cF1 T r0 r1 X f p k L ≤ 1000000) ∧ (∀ k, k < 5 → ∀ L, 0 ≤ cF2 T r0 r1 X f k L ∧ cF2 T r0 r1 X f k L ≤ 1000000) :=
  ⟨fun p hp k L => (chF_o hD.2.1 hD.2.2.2.2.1 hD.2.2.2.2.2.1 (hX.ok (by omega)) (hX.ok (by omega))).2, fun k hk L => (chF_o hD.2.1 hD.2.2.2.2.1 hD.2.2.2.2.2.1 (hX.ok (by omega)) (hX.ok (by omega))).2⟩
theorem Rall.so {M' : Mm} (hR : Rall M) (F : Fl soR M M') : Rall M' := hR.sc (Sc.fl F (by decide) (by decide) (fun k _ => by rw [F.2.2.2 62 (by decide)]) (by decide))
/-- WIN of the team f, if it goes first -/
def winF (T r0 r1 : Nat → Int) (X : Nat → Pd) (f t a b : Nat) : Int := wn (fun k => cF1 T r0 r1 X f k k) (cF2 T r0 r1 X f) (10 - t) a b
def sm2 : List Nat := [62, 72, 73, 77, 78, 83, 84, 85, 87]
/-- the reference: chances laid, then from the last kick back, the order lying -/
theorem c_mWin {T r0 r1 : Nat → Int} {X : Nat → Pd} {f : Nat} {P : Int32 → Mm → Prop} (hD : Du M T r0 r1) (hX : Tm M X) (hb : (∀ p, p < 5 → ∀ k L, 0 ≤ cF1 T r0 r1 X f p k L ∧ cF1 T r0 r1 X f p k L ≤ 1000000) ∧ (∀ k, k < 5 → ∀ L, 0 ≤ cF2 T r0 r1 X f k L ∧ cF2 T r0 r1 X f k L ≤ 1000000)) (hf : f < 2) (ho : ∀ k, k < 5 → gI M 85 k = J (k : Nat)) (h : ∀ M', Fl sm2 M M' → (∀ k, k < 23 ∨ 30 ≤ k → gI M' 62 k = gI M 62 k) → (∀ k, k < 5 → gI M' 85 k = J (k : Nat)) → (∀ t, t ≤ 10 → ∀ a b, a ≤ (t + 1) / 2 → b ≤ t / 2 → gI M' 87 (36 * t + 6 * a + b) = J (winF T r0 r1 X f t a b)) → P (J (winF T r0 r1 X f 0 0 0)) M') : AMv D (d + 6) mX12_layChances [.ref 62, .int (J f)] M (fun M21 => AMi D (d + 6) mX12_findWin [.ref 62] M21 P) := by
  refine c_layCh (d := d) hD hX hf (fun M1 F1 z1 g83 g84 => ?_)
  refine c_findWin' (c1 := fun k => cF1 T r0 r1 X f k k) (c2 := cF2 T r0 r1 X f) (o := fun k => k) ((hD.1.of F1.1).sub (by omega) (by omega)) (fun k hk => ⟨by rw [F1.2.2.2 85 (by decide)]; exact ho k hk, hk⟩) (fun s hs L => hb.1 s hs s L) hb.2 (fun k hk L u v => g83 k k hk hk L u v) g84 (fun M2 F2 g2 => h M2 ((F1.sub (by decide)).trans (F2.l.sub (by decide))) (fun k hk => by rw [F2.2.2.2 62 (by decide)]; exact z1 k hk) (fun k hk => by rw [F2.2.2.2 85 (by decide), F1.2.2.2 85 (by decide)]; exact ho k hk) g2)
theorem k_win {a : Int32} (hR : Rall M) : Ki D (d + 8) mX11_win mX12_win [.int a] M := by
  obtain ⟨hL, htb, htx, hki, hlo, hta, hw, nr, np, hru, hpl, hte, him⟩ := id hR
  have hL1 : Lay 0 62 M := hL.sub (by omega) (by omega)
  have hL2 : Lay 62 98 M := hL.sub (by omega) (by omega)
  obtain ⟨T, r0, r1, hD⟩ := hR.du
  have m1 : ¬ (a = 0 ∨ a = 1) → AMi D (d + 8) mX12_win [.ref 62, .int a] M (fun y M2 => (-1000001 : Int32) = y ∧ Rall M2) := fun hno =>
    rX12_win D (d + 7) a M _ hL2 (c_inWho hL2 ⟨fun z => absurd (b2_ne0.mp z) hno, fun _ => ⟨_, rfl, .refl M, rfl, hR⟩⟩)
  refine rX11_win D (d + 7) a M _ hL1 ⟨fun c => ⟨_, rfl, .refl M, m1 (fun z => ?_)⟩, fun c => ⟨fun c2 => ?_, fun c2 => ⟨_, rfl, .refl M, m1 (fun z => ?_)⟩⟩⟩
  · simp only [ilt, ieq, Int32.reduceToInt] at c z
    omega
  · have ha : a = 0 ∨ a = 1 := by
      simp only [ilt, ile, ieq, Int32.reduceToInt] at c c2 ⊢
      omega
    refine c_manned (hL.sub (by omega) (by omega)) (fun hm => ⟨fun _ => ?_, fun z => absurd z (by decide)⟩) (fun hm => ⟨fun z => absurd rfl z, fun _ => ⟨_, rfl, .refl M, ?_⟩⟩)
    · obtain ⟨X, hC, hM⟩ := teams hru hpl hte hm
      have hb0 := cF_b (f := 0) hD hC (by omega)
      have hb1 := cF_b (f := 1) hD hC (by omega)
      -- the reference
      have mo : ∀ (x : Int32) (N : Mm), Fl soR M N → ((a = 0 → x = J (winF T r0 r1 X 0 0 0 0)) ∧ (a = 1 → x = J (winF T r0 r1 X 0 0 0 0) - ((1000000 : Int32) - J (winF T r0 r1 X 1 0 0 0)))) → AMi D (d + 8) mX12_win [.ref 62, .int a] N (fun y M2 => x = y ∧ Rall M2) := by
        intro x N FN hx
        have hRN := hR.so FN
        have hLN := hL2.of FN.1
        have hDN := hD.fl FN (by decide) (by decide) (by decide) (by decide)
        refine rX12_win D (d + 7) a N _ hLN (c_inWho hLN ?_)
        rw [b2_t ha]
        refine ⟨fun _ => c_areTeams hLN hpl.1 hte (FN.2.2.2 82 (by decide)) (fun _ => ⟨fun _ => ?_, fun z => absurd z (by decide)⟩) (fun z => absurd hm z), fun z => absurd z (by decide)⟩
        refine c_layOrder hLN (fun N1 F1 o1 => ?_)
        refine c_mWin (d := d + 1) (f := 0) (hDN.fm F1 (by decide) (by decide) (by decide) (by decide)) ((hM.fl FN (by decide)).fl F1.l (by decide)) hb0 (by omega) o1 (fun N2 F2 z2 o2 g2 => ?_)
        have F12 : Fl sm2 N N2 := (F1.l.sub (by decide)).trans F2
        have z12 : ∀ k, k < 23 ∨ 30 ≤ k → gI N2 62 k = gI N 62 k := fun k hk => by rw [z2 k hk, F1.2.2.2 62 (by decide)]
        refine ⟨fun z => ?_, fun z => ⟨_, rfl, F12.1, hx.1 z, hRN.sc (Sc.fl F12 (by decide) (by decide) (fun k hk => z12 k (by omega)) (by decide))⟩⟩
        have a1 : a = 1 := by rcases ha with h | h; exact absurd h z; exact h
        refine c_mWin (d := d + 1) (f := 1) (hDN.fl F12 (by decide) (by decide) (by decide) (by decide)) ((hM.fl FN (by decide)).fl F12 (by decide)) hb1 (by omega) o2 (fun N3 F3 z3 o3 g3 => ?_)
        have F13 : Fl sm2 N N3 := F12.trans F3
        exact ⟨_, rfl, F13.1, hx.2 a1, hRN.sc (Sc.fl F13 (by decide) (by decide) (fun k hk => by rw [z3 k (by omega), z12 k (by omega)]) (by decide))⟩
      refine c_playBack (d := d + 1) (f := 0) hD hC (by omega) hw (fun N FN gN x16 e16 => ?_)
      have e0 : gI N 35 0 = J (winF T r0 r1 X 0 0 0 0) := gN 0 (by omega) 0 0 (by omega) (by omega)
      rw [e0] at e16
      refine ⟨fun z => ?_, fun z => ⟨_, rfl, FN.1, mo _ N FN ⟨fun _ => e16, fun h => by rw [z] at h; exact absurd h (by decide)⟩⟩⟩
      have hDN := hD.fl FN (by decide) (by decide) (by decide) (by decide)
      refine c_playBack (d := d + 1) (f := 1) hDN (hC.fl FN) (by omega) (by rw [FN.2.2.2 45 (by decide)]; exact hw) (fun N2 F2 g2 => ?_)
      have e1 : gI N2 35 0 = J (winF T r0 r1 X 1 0 0 0) := g2 0 (by omega) 0 0 (by omega) (by omega)
      rw [e1]
      refine ⟨_, rfl, FN.1.trans F2.1, mo _ N2 (FN.trans F2) ⟨fun h => absurd h z, fun _ => by rw [e16]⟩⟩
    · refine rX12_win D (d + 7) a M _ hL2 (c_inWho hL2 ?_)
      rw [b2_t ha]
      exact ⟨fun _ => c_areTeams hL2 hpl.1 hte rfl (fun z => absurd z hm) (fun _ => ⟨fun z => absurd rfl z, fun _ => ⟨_, rfl, .refl M, rfl, hR⟩⟩), fun z => absurd z (by decide)⟩
  · simp only [ile, ieq, Int32.reduceToInt] at c2 z
    omega
theorem k_at {a b c : Int32} (hR : Rall M) : Ki D (d + 8) mX11_at mX12_at [.int a, .int b, .int c] M := by
  obtain ⟨hL, htb, htx, hki, hlo, hta, hw, nr, np, hru, hpl, hte, him⟩ := id hR
  have hL1 : Lay 0 62 M := hL.sub (by omega) (by omega)
  have hL2 : Lay 62 98 M := hL.sub (by omega) (by omega)
  obtain ⟨T, r0, r1, hD⟩ := hR.du
  have ba := ibd a
  have bb := ibd b
  have bc := ibd c
  have qa := J_of a
  have qb := J_of b
  have qc := J_of c
  generalize a.toInt = x at *
  generalize b.toInt = y at *
  generalize c.toInt = z at *
  subst qa qb qc
  -- the reference's refusals
  have m1 : ¬ (0 ≤ x ∧ x ≤ 10 ∧ 0 ≤ y ∧ y ≤ (x + 1) / 2 ∧ 0 ≤ z ∧ z ≤ x / 2) → AMi D (d + 8) mX12_at [.ref 62, .int (J x), .int (J y), .int (J z)] M (fun y M2 => (-1000001 : Int32) = y ∧ Rall M2) := by
    intro hno
    refine rX12_at D (d + 7) _ _ _ M _ hL2 (c_in hL2 ⟨fun _ => ⟨_, rfl, .refl M, rfl, hR⟩, fun z1 => c_in hL2 ⟨fun _ => ⟨_, rfl, .refl M, rfl, hR⟩, fun z2 => c_in hL2 ⟨fun z3 => ?_, fun _ => ⟨_, rfl, .refl M, rfl, hR⟩⟩⟩⟩)
    have z1 := b2_ne0.mp z1
    simp (disch := omega) only [J_lit, J_add, J_sub, J_mul, J_neg, J_lt, J_le, J_eq, J_nat, J_in, J_div] at z1
    obtain ⟨t, rfl⟩ : ∃ t : Nat, x = t := ⟨x.toNat, by omega⟩
    have z2 := b2_ne0.mp z2
    have z3 := b2_ne0.mp z3
    rw [J_suc, J_half (by omega)] at z2
    rw [J_half (by omega)] at z3
    simp (disch := omega) only [J_lit, J_add, J_sub, J_mul, J_neg, J_lt, J_le, J_eq, J_nat, J_in, J_div] at z2 z3
    exfalso
    omega
  refine rX11_at D (d + 7) _ _ _ M _ hL1 ⟨fun c1 => ⟨_, rfl, .refl M, m1 (fun q => ?_)⟩, fun c1 => ⟨fun c2 => ⟨_, rfl, .refl M, m1 (fun q => ?_)⟩, fun c2 => ?_⟩⟩
  · simp (disch := omega) only [J_lit, J_add, J_sub, J_mul, J_neg, J_lt, J_le, J_eq, J_nat, J_in, J_div] at c1
    omega
  · simp (disch := omega) only [J_lit, J_add, J_sub, J_mul, J_neg, J_lt, J_le, J_eq, J_nat, J_in, J_div] at c2
    omega
  · simp (disch := omega) only [J_lit, J_add, J_sub, J_mul, J_neg, J_lt, J_le, J_eq, J_nat, J_in, J_div] at c1 c2
    obtain ⟨t, rfl⟩ : ∃ t : Nat, x = t := ⟨x.toNat, by omega⟩
    have et : (J (t : Int)).toNatClampNeg = t := by simp (disch := omega) only [J_lit, J_add, J_sub, J_mul, J_neg, J_lt, J_le, J_eq, J_nat, J_in, J_div]; omega
    have eh := J_half (t := t) (by omega)
    have eh1 : (J (t : Int) + (1 : Int32)) / (2 : Int32) = J (((t + 1) / 2 : Nat) : Int) := by rw [J_suc, J_half (by omega)]
    rw [eh, eh1, et]
    refine ⟨fun c3 => ⟨_, rfl, .refl M, m1 (fun q => ?_)⟩, fun c3 => ⟨fun c4 => ⟨_, rfl, .refl M, m1 (fun q => ?_)⟩, fun c4 => ⟨fun c5 => ⟨_, rfl, .refl M, m1 (fun q => ?_)⟩, fun c5 => ⟨fun c6 => ?_, fun c6 => ⟨_, rfl, .refl M, m1 (fun q => ?_)⟩⟩⟩⟩⟩
    · simp (disch := omega) only [J_lit, J_add, J_sub, J_mul, J_neg, J_lt, J_le, J_eq, J_nat, J_in, J_div] at c3
      omega
    · simp (disch := omega) only [J_lit, J_add, J_sub, J_mul, J_neg, J_lt, J_le, J_eq, J_nat, J_in, J_div] at c4
      omega
    · simp (disch := omega) only [J_lit, J_add, J_sub, J_mul, J_neg, J_lt, J_le, J_eq, J_nat, J_in, J_div] at c5
      omega
    · simp (disch := omega) only [J_lit, J_add, J_sub, J_mul, J_neg, J_lt, J_le, J_eq, J_nat, J_in, J_div] at c3 c4 c5 c6
      obtain ⟨u, rfl⟩ : ∃ u : Nat, y = u := ⟨y.toNat, by omega⟩
      obtain ⟨v, rfl⟩ : ∃ v : Nat, z = v := ⟨z.toNat, by omega⟩
      have q1 := b2_t (show (0 : Int32) ≤ J (t : Int) ∧ J (t : Int) ≤ 10 by simp (disch := omega) only [J_lit, J_add, J_sub, J_mul, J_neg, J_lt, J_le, J_eq, J_nat, J_in, J_div]; omega)
      have q2 := b2_t (show (0 : Int32) ≤ J (u : Int) ∧ J (u : Int) ≤ J (((t + 1) / 2 : Nat) : Int) by simp (disch := omega) only [J_lit, J_add, J_sub, J_mul, J_neg, J_lt, J_le, J_eq, J_nat, J_in, J_div]; omega)
      have q3 := b2_t (show (0 : Int32) ≤ J (v : Int) ∧ J (v : Int) ≤ J ((t / 2 : Nat) : Int) by simp (disch := omega) only [J_lit, J_add, J_sub, J_mul, J_neg, J_lt, J_le, J_eq, J_nat, J_in, J_div]; omega)
      refine c_manned (hL.sub (by omega) (by omega)) (fun hm => ⟨fun _ => ?_, fun z => absurd z (by decide)⟩) (fun hm => ⟨fun z => absurd rfl z, fun _ => ⟨_, rfl, .refl M, ?_⟩⟩)
      · obtain ⟨X, hC, hM⟩ := teams hru hpl hte hm
        have hb0 := cF_b (f := 0) hD hC (by omega)
        refine c_playBack (d := d + 1) (f := 0) hD hC (by omega) hw (fun N FN gN => ⟨by simp (disch := omega) only [J_lit, J_add, J_sub, J_mul, J_neg, J_lt, J_le, J_eq, J_nat, J_in, J_div]; omega, ?_⟩)
        have hRN := hR.so FN
        have hLN := hL2.of FN.1
        have hDN := hD.fl FN (by decide) (by decide) (by decide) (by decide)
        refine c_scIx (hDN.1.sub (by omega) (by omega)) (by omega) (by omega) ⟨by simp (disch := omega) only [J_lit, J_add, J_sub, J_mul, J_neg, J_lt, J_le, J_eq, J_nat, J_in, J_div]; omega, ?_⟩
        have e6 : (J ((6 * u + v : Nat) : Int)).toNatClampNeg = 6 * u + v := by simp (disch := omega) only [J_lit, J_add, J_sub, J_mul, J_neg, J_lt, J_le, J_eq, J_nat, J_in, J_div]; omega
        rw [e6, gN t (by omega) u v (by omega) (by omega)]
        refine ⟨_, rfl, FN.1, ?_⟩
        refine rX12_at D (d + 7) _ _ _ N _ hLN (c_in hLN ?_)
        rw [q1]
        refine ⟨fun z => absurd z (by decide), fun _ => c_in hLN ?_⟩
        rw [eh1, q2]
        refine ⟨fun z => absurd z (by decide), fun _ => c_in hLN ?_⟩
        rw [eh, q3]
        refine ⟨fun _ => c_areTeams hLN hpl.1 hte (FN.2.2.2 82 (by decide)) (fun _ => ⟨fun _ => ?_, fun z => absurd z (by decide)⟩) (fun z => absurd hm z), fun z => absurd z (by decide)⟩
        refine c_layOrder hLN (fun N1 F1 o1 => ?_)
        refine c_mWin (d := d + 1) (f := 0) (hDN.fm F1 (by decide) (by decide) (by decide) (by decide)) ((hM.fl FN (by decide)).fl F1.l (by decide)) hb0 (by omega) o1 (fun N2 F2 z2 o2 g2 => ⟨by simp (disch := omega) only [J_lit, J_add, J_sub, J_mul, J_neg, J_lt, J_le, J_eq, J_nat, J_in, J_div]; omega, ?_⟩)
        have F12 : Fl sm2 N N2 := (F1.l.sub (by decide)).trans F2
        have z12 : ∀ k, k < 23 ∨ 30 ≤ k → gI N2 62 k = gI N 62 k := fun k hk => by rw [z2 k hk, F1.2.2.2 62 (by decide)]
        have ei : (((36 : Int32) * J t + (6 : Int32) * J u) + J v).toNatClampNeg = 36 * t + 6 * u + v := by simp (disch := omega) only [J_lit, J_add, J_sub, J_mul, J_neg, J_lt, J_le, J_eq, J_nat, J_in, J_div]; omega
        rw [ei, g2 t (by omega) u v (by omega) (by omega)]
        exact ⟨_, rfl, F12.1, rfl, hRN.sc (Sc.fl F12 (by decide) (by decide) (fun k hk => z12 k (by omega)) (by decide))⟩
      · refine rX12_at D (d + 7) _ _ _ M _ hL2 (c_in hL2 ?_)
        rw [q1]
        refine ⟨fun z => absurd z (by decide), fun _ => c_in hL2 ?_⟩
        rw [eh1, q2]
        refine ⟨fun z => absurd z (by decide), fun _ => c_in hL2 ?_⟩
        rw [eh, q3]
        exact ⟨fun _ => c_areTeams hL2 hpl.1 hte rfl (fun z => absurd z hm) (fun _ => ⟨fun z => absurd rfl z, fun _ => ⟨_, rfl, .refl M, rfl, hR⟩⟩), fun z => absurd z (by decide)⟩
    · simp (disch := omega) only [J_lit, J_add, J_sub, J_mul, J_neg, J_lt, J_le, J_eq, J_nat, J_in, J_div] at c6
      omega
end
