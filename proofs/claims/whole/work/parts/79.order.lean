/-! order: both -/
def soQ : List Nat := [13, 20, 21, 23, 24, 29, 32, 33, 35, 36, 37, 38, 39, 40, 41, 42, 43, 44]
def cc1 (T r0 r1 : Nat → Int) (X : Nat → Pd) (p k : Nat) (L : Int) : Int := if p < 5 then cF1 T r0 r1 X 0 p k L else 0
def cc2 (T r0 r1 : Nat → Int) (X : Nat → Pd) (k : Nat) (L : Int) : Int := if k < 5 then cF2 T r0 r1 X 0 k L else 0
def codeN (o : Nat → Nat) : Nat := 625 * o 0 + 125 * o 1 + 25 * o 2 + 5 * o 3 + o 4
def dg (c k : Nat) : Nat := [c / 625 % 5, c / 125 % 5, c / 25 % 5, c / 5 % 5, c % 5].getD k 0
theorem dg_b (c k : Nat) : dg c k < 5 := by
  unfold dg
  match k with
  | 0 => exact Nat.mod_lt _ (by omega)
  | 1 => exact Nat.mod_lt _ (by omega)
  | 2 => exact Nat.mod_lt _ (by omega)
  | 3 => exact Nat.mod_lt _ (by omega)
  | 4 => exact Nat.mod_lt _ (by omega)
  | k + 5 => show 0 < 5; omega
theorem dg_of {o : Nat → Nat} (h : ∀ k, k < 5 → o k < 5) : ∀ k, k < 5 → o k = dg (codeN o) k := by
  have h0 := h 0 (by omega)
  have h1 := h 1 (by omega)
  have h2 := h 2 (by omega)
  have h3 := h 3 (by omega)
  have h4 := h 4 (by omega)
  intro k hk
  unfold codeN
  rcases (by omega : k = 0 ∨ k = 1 ∨ k = 2 ∨ k = 3 ∨ k = 4) with rfl | rfl | rfl | rfl | rfl
  · show o 0 = (625 * o 0 + 125 * o 1 + 25 * o 2 + 5 * o 3 + o 4) / 625 % 5
    omega
  · show o 1 = (625 * o 0 + 125 * o 1 + 25 * o 2 + 5 * o 3 + o 4) / 125 % 5
    omega
  · show o 2 = (625 * o 0 + 125 * o 1 + 25 * o 2 + 5 * o 3 + o 4) / 25 % 5
    omega
  · show o 3 = (625 * o 0 + 125 * o 1 + 25 * o 2 + 5 * o 3 + o 4) / 5 % 5
    omega
  · show o 4 = (625 * o 0 + 125 * o 1 + 25 * o 2 + 5 * o 3 + o 4) % 5
    omega
theorem codeN_dg {c : Nat} (hc : c < 3125) : codeN (dg c) = c := by
  show 625 * (c / 625 % 5) + 125 * (c / 125 % 5) + 25 * (c / 25 % 5) + 5 * (c / 5 % 5) + c % 5 = c
  omega
def used5 (a b c d e : Nat) : Nat := ((((0 ||| 2 ^ e) ||| 2 ^ d) ||| 2 ^ c) ||| 2 ^ b) ||| 2 ^ a
def chk5 : Bool := (List.range 5).all fun a => (List.range 5).all fun b => (List.range 5).all fun c => (List.range 5).all fun d => (List.range 5).all fun e => (used5 a b c d e == 31) == (a != b && (a != c && (a != d && (a != e && (b != c && (b != d && (b != e && (c != d && (c != e && d != e)))))))))
theorem chk5_t : chk5 = true := by decide +kernel
theorem used_t (a : Nat) (ha : a < 5) (b : Nat) (hb : b < 5) (c : Nat) (hc : c < 5) (d : Nat) (hd : d < 5) (e : Nat) (he : e < 5) : used5 a b c d e = 31 ↔ (a ≠ b ∧ a ≠ c ∧ a ≠ d ∧ a ≠ e ∧ b ≠ c ∧ b ≠ d ∧ b ≠ e ∧ c ≠ d ∧ c ≠ e ∧ d ≠ e) := by
  have h := chk5_t
  unfold chk5 at h
  have h1 := List.all_eq_true.mp h a (List.mem_range.mpr ha)
  have h2 := List.all_eq_true.mp h1 b (List.mem_range.mpr hb)
  have h3 := List.all_eq_true.mp h2 c (List.mem_range.mpr hc)
  have h4 := List.all_eq_true.mp h3 d (List.mem_range.mpr hd)
  have h5 := List.all_eq_true.mp h4 e (List.mem_range.mpr he)
  have h6 := eq_of_beq h5
  constructor
  · intro q
    have q2 : (used5 a b c d e == 31) = true := by rw [q]; rfl
    rw [h6] at q2
    simpa [bne_iff_ne] using q2
  · intro q
    have q2 : (a != b && (a != c && (a != d && (a != e && (b != c && (b != d && (b != e && (c != d && (c != e && d != e))))))))) = true := by
      simpa [bne_iff_ne] using q
    rw [← h6] at q2
    exact eq_of_beq q2
theorem ix_out {p k p' k' : Nat} {L : Int} (hk : k < 5) (hk' : k' < 5) (hne : ¬ (k' = k ∧ p' = p)) (l1 : -5 ≤ L) (l2 : L ≤ 5) : ix p' k' L < (p * 5 + k) * 11 ∨ (p * 5 + k) * 11 + 11 ≤ ix p' k' L := by
  have h : p' * 5 + k' ≠ p * 5 + k := by omega
  unfold ix
  generalize p' * 5 + k' = y at *
  generalize p * 5 + k = x at *
  omega
theorem used_p {c : Nat} : used5 (dg c 0) (dg c 1) (dg c 2) (dg c 3) (dg c 4) = 31 ↔ Pm5 (dg c) := by
  rw [used_t _ (dg_b c 0) _ (dg_b c 1) _ (dg_b c 2) _ (dg_b c 3) _ (dg_b c 4)]
  constructor
  · intro h
    refine ⟨fun k _ => dg_b c k, fun i j hi hj hij => ?_⟩
    rcases (by omega : i = 0 ∨ i = 1 ∨ i = 2 ∨ i = 3 ∨ i = 4) with rfl | rfl | rfl | rfl | rfl <;> rcases (by omega : j = 0 ∨ j = 1 ∨ j = 2 ∨ j = 3 ∨ j = 4) with rfl | rfl | rfl | rfl | rfl <;> omega
  · intro h
    refine ⟨fun q => ?_, fun q => ?_, fun q => ?_, fun q => ?_, fun q => ?_, fun q => ?_, fun q => ?_, fun q => ?_, fun q => ?_, fun q => ?_⟩
    · have := h.2 0 1 (by omega) (by omega) q; omega
    · have := h.2 0 2 (by omega) (by omega) q; omega
    · have := h.2 0 3 (by omega) (by omega) q; omega
    · have := h.2 0 4 (by omega) (by omega) q; omega
    · have := h.2 1 2 (by omega) (by omega) q; omega
    · have := h.2 1 3 (by omega) (by omega) q; omega
    · have := h.2 1 4 (by omega) (by omega) q; omega
    · have := h.2 2 3 (by omega) (by omega) q; omega
    · have := h.2 2 4 (by omega) (by omega) q; omega
    · have := h.2 3 4 (by omega) (by omega) q; omega
theorem code_row {o o' : Nat → Nat} (h : Pm5 o) (h' : Pm5 o') (hc : codeN o ≤ codeN o') : rowN o ≤ rowN o' := by
  have a0 := h.1 0 (by omega)
  have a1 := h.1 1 (by omega)
  have a2 := h.1 2 (by omega)
  have a3 := h.1 3 (by omega)
  have a4 := h.1 4 (by omega)
  have b0 := h'.1 0 (by omega)
  have b1 := h'.1 1 (by omega)
  have b2 := h'.1 2 (by omega)
  have b3 := h'.1 3 (by omega)
  have b4 := h'.1 4 (by omega)
  unfold codeN at hc
  unfold rowN
  omega
section
variable {D : GD} {d : Nat}
theorem c_seek {M : Mm} {T r0 r1 : Nat → Int} {X : Nat → Pd} {P : Mm → Prop} (hD : Du M T r0 r1) (hX : Tc M X) (hw : Wh (gI M 45)) (h : ∀ M' (bw : Int) (br : Nat), Fl soQ M M' → gI M' 29 3 = J bw → gI M' 29 4 = J br → BS (wO (cc1 T r0 r1 X) (cc2 T r0 r1 X)) Pm5 bw br → P M') : AMv D (d + 8) mX7_seekOrder [.ref 29, .ref 13] M P := by
  have hb := cF_b (f := 0) hD hX (by omega)
  have bc1 : ∀ p k L, 0 ≤ cc1 T r0 r1 X p k L ∧ cc1 T r0 r1 X p k L ≤ 1000000 := fun p k L => by
    unfold cc1
    split
    · exact hb.1 p (by assumption) k L
    · omega
  have bc2 : ∀ k L, 0 ≤ cc2 T r0 r1 X k L ∧ cc2 T r0 r1 X k L ≤ 1000000 := fun k L => by
    unfold cc2
    split
    · exact hb.2 k (by assumption) L
    · omega
  let A : Nat → Nat → Mm → Prop := fun k p N => ∀ p' k' : Nat, p' < 5 → k' < 5 → (k' < k ∨ (k' = k ∧ p' < p)) → ∀ L : Int, -(k' : Int) ≤ L → L ≤ k' → gI N 32 (ix p' k' L) = J (cc1 T r0 r1 X p' k' L)
  let B : Nat → Mm → Prop := fun k N => ∀ k' : Nat, k' < 5 → k' < k → ∀ L : Int, -(k' : Int) - 1 ≤ L → L ≤ k' → gI N 33 (ix k' k' L) = J (cc2 T r0 r1 X k' L)
  have l9 : ∀ (m k p : Nat) (N : Mm) (post : Option Value → Mm → Prop), p + m = 5 → k < 5 → Fl soR M N → A k p N → B k N → (∀ N', Fl soR M N' → A (k + 1) 0 N' → B (k + 1) N' → LX7_seekOrder_2 D (d + 7) (J ((k + 1 : Nat) : Int)) N' post) → LX7_seekOrder_9 D (d + 7) (J k) (J p) N post := by
    intro m
    induction m with
    | zero =>
      intro k p N post hm hk FN hA hB hh
      have hDN := hD.fl FN (by decide) (by decide) (by decide) (by decide)
      refine rX7_seekOrder_9 D (d + 7) _ _ N post (hDN.1.sub (by omega) (by omega)) ⟨fun _ => ?_, fun c => ?_⟩
      · refine c_fillCh (d := d + 2) (s := 1) (f := 1) (p := k) (k := k) hDN (hX.fl FN) (by omega) (by omega) hk hk (fun N1 F1 a1 u1 x8 e8 => ?_)
        rw [e8, J_suc]
        refine hh N1 (FN.trans (F1.sub (by decide))) (fun p' k' q1 q2 q3 L u v => ?_) (fun k' q1 q2 L u v => ?_)
        · rw [F1.2.2.2 32 (by decide)]
          exact hA p' k' q1 q2 (by omega) L u v
        · by_cases e : k' = k
          · subst e
            have := a1 L (by omega) v
            unfold cc2
            rw [if_pos q1]
            exact this
          · rw [u1 _ (by unfold ix; omega)]
            exact hB k' q1 (by omega) L u v
      · exfalso
        simp (disch := omega) only [J_lit, J_add, J_sub, J_mul, J_neg, J_lt, J_le, J_eq, J_nat, J_in, J_div] at c
        omega
    | succ m ih =>
      intro k p N post hm hk FN hA hB hh
      have hDN := hD.fl FN (by decide) (by decide) (by decide) (by decide)
      refine rX7_seekOrder_9 D (d + 7) _ _ N post (hDN.1.sub (by omega) (by omega)) ⟨fun c => ?_, fun _ => ?_⟩
      · exfalso
        simp (disch := omega) only [J_lit, J_add, J_sub, J_mul, J_neg, J_lt, J_le, J_eq, J_nat, J_in, J_div] at c
        omega
      · refine c_fillCh (d := d + 2) (s := 0) (f := 0) (p := p) (k := k) hDN (hX.fl FN) (by omega) (by omega) (by omega) hk (fun N1 F1 a1 u1 x8 e8 => ?_)
        rw [e8, J_suc]
        refine ih k (p + 1) N1 post (by omega) hk (FN.trans (F1.sub (by decide))) (fun p' k' q1 q2 q3 L u v => ?_) (fun k' q1 q2 L u v => ?_) hh
        · by_cases e : k' = k ∧ p' = p
          · obtain ⟨e1, e2⟩ := e
            subst e1 e2
            have := a1 L (by omega) v
            unfold cc1
            rw [if_pos q1, this]
            unfold cF1
            congr 2
          · rw [u1 _ (ix_out hk q2 e (by omega) (by omega))]
            exact hA p' k' q1 q2 (by omega) L u v
        · rw [F1.2.2.2 33 (by decide)]
          exact hB k' q1 q2 L u v
  have l2 : ∀ (m k : Nat) (N : Mm), k + m = 5 → Fl soR M N → A k 0 N → B k N → LX7_seekOrder_2 D (d + 7) (J k) N (fun r M1 => r = none ∧ Sm M M1 ∧ P M1) := by
    intro m
    induction m with
    | zero =>
      intro k N hm FN hA hB
      have hDN := hD.fl FN (by decide) (by decide) (by decide) (by decide)
      refine rX7_seekOrder_2 D (d + 7) _ N _ (hDN.1.sub (by omega) (by omega)) ⟨fun _ M2 e2 M6 e6 => ?_, fun c => ?_⟩
      · have F6 : Fl soQ M M6 := by rw [e6, e2]; exact ((FN.sub (by decide)).si (by decide)).si (by decide)
        have g6 : ∀ x, x ≠ 29 → gI M6 x = gI N x := fun x hx => by rw [e6, fr_s hx, e2, fr_s hx]
        have r45 : gI M6 45 = gI M 45 := F6.2.2.2 45 (by decide)
        have em : (-1 : Int32) = J (-1) := by decide
        have hB0 : BS (wO (cc1 T r0 r1 X) (cc2 T r0 r1 X)) (fun _ => False) (-1) 0 := Or.inl ⟨rfl, rfl, fun _ h => h⟩
        have key := pk (D := D) (d := d + 1) (c := cc1 T r0 r1 X) (c2 := cc2 T r0 r1 X) bc1 bc2 5 (Nat.le_refl 5) (fun _ => 0) 0 M6 (fun _ => False) (-1) 0 (fun M' => Sm M M' ∧ P M') ((hD.1.of F6.1).sub (by omega) (by omega)) (fun p' k' q1 q2 L u v => by rw [g6 32 (by omega)]; exact hA p' k' q1 q2 (by omega) L u v) (fun k' q1 L u v => by rw [g6 33 (by omega)]; exact hB k' q1 (by omega) L u v) (fun t h1 h2 a b ha hb => ?_) (fun k h1 h2 => by omega) (fun i j h1 h2 => by omega) (by omega) (fun p hp => ?_) ?_ ?_ hB0 (fun M' bw br F' _ w3 w4 hBB => ⟨F6.1.trans F'.1, h M' bw br (F6.trans (F'.l.sub (by decide))) w3 w4 (hBB.congr (fun o => ⟨fun ho => Or.inr ⟨ho, fun k h1 h2 => by omega⟩, fun ho => ho.elim False.elim (fun q => q.1)⟩))⟩)
        · exact AMv.mono key (fun M' _ h => ⟨rfl, h.1, h.2⟩)
        · obtain rfl : t = 10 := by omega
          show gI M6 45 (6 * a + b) = J (wv a b)
          rw [r45]
          exact hw a b (by omega) (by omega)
        · simp
          omega
        · rw [e6, gI_sI, if_neg (by omega), e2, gI_sI, if_pos ⟨rfl, rfl⟩, em]
        · rw [e6, gI_sI, if_pos ⟨rfl, rfl⟩]
          rfl
      · exfalso
        simp (disch := omega) only [J_lit, J_add, J_sub, J_mul, J_neg, J_lt, J_le, J_eq, J_nat, J_in, J_div] at c
        omega
    | succ m ih =>
      intro k N hm FN hA hB
      have hDN := hD.fl FN (by decide) (by decide) (by decide) (by decide)
      refine rX7_seekOrder_2 D (d + 7) _ N _ (hDN.1.sub (by omega) (by omega)) ⟨fun c => ?_, fun _ => ?_⟩
      · exfalso
        simp (disch := omega) only [J_lit, J_add, J_sub, J_mul, J_neg, J_lt, J_le, J_eq, J_nat, J_in, J_div] at c
        omega
      · exact l9 5 k 0 N _ (by omega) (by omega) FN hA hB (fun N' F' A' B' => ih (k + 1) N' (by omega) F' A' B')
  exact rX7_seekOrder D (d + 7) M _ (hD.1.sub (by omega) (by omega)) (l2 5 0 M (by omega) (Fl.refl _ M) (fun p' k' q1 q2 q3 => by omega) (fun k' q1 q2 => by omega))
end
