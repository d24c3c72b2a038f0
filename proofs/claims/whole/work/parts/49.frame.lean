/-! frames of the relation's parts -/
/-- only these rows of ints were written -/
def Fm (R : List Nat) (M M' : Mm) : Prop := Sm M M' ∧ gP M' = gP M ∧ gL M' = gL M ∧ ∀ x, R.contains x = false → gI M' x = gI M x
theorem Fm.refl (R : List Nat) (M : Mm) : Fm R M M := ⟨.refl M, rfl, rfl, fun _ _ => rfl⟩
theorem Fm.trans {R : List Nat} {M M1 M2 : Mm} (h : Fm R M M1) (g : Fm R M1 M2) : Fm R M M2 := ⟨h.1.trans g.1, g.2.1.trans h.2.1, g.2.2.1.trans h.2.2.1, fun x hx => (g.2.2.2 x hx).trans (h.2.2.2 x hx)⟩
theorem Fm.ri {R : List Nat} {M M1 : Mm} (h : Fm R M M1) {a : Nat} {f : Nat → Int32} (ha : R.contains a = true) : Fm R M (rI M1 a f) := ⟨h.1.ri, h.2.1, h.2.2.1, fun x hx => (fr_r (fun e => by rw [e, ha] at hx; cases hx)).trans (h.2.2.2 x hx)⟩
theorem Fm.si {R : List Nat} {M M1 : Mm} (h : Fm R M M1) {a k : Nat} {v : Int32} (ha : R.contains a = true) : Fm R M (sI M1 a k v) := ⟨h.1.i, h.2.1, h.2.2.1, fun x hx => (fr_s (fun e => by rw [e, ha] at hx; cases hx)).trans (h.2.2.2 x hx)⟩
theorem Fm.hi {R : List Nat} {M M' : Mm} (h : Fm R M M') (hR : R.all (fun x => decide (x < 98)) = true) (a : Nat) (ha : 98 ≤ a) : gI M' a = gI M a := by
  refine h.2.2.2 a ?_
  cases e : R.contains a with
  | false => rfl
  | true =>
    have h1 := List.all_eq_true.mp hR a (List.contains_iff_mem.mp e)
    have h2 := of_decide_eq_true h1
    omega
theorem Fm.sub {R R' : List Nat} {M M' : Mm} (h : Fm R M M') (hR : R.all (fun x => R'.contains x) = true) : Fm R' M M' := by
  refine ⟨h.1, h.2.1, h.2.2.1, fun x hx => h.2.2.2 x ?_⟩
  cases e : R.contains x with
  | false => rfl
  | true =>
    have h1 := List.all_eq_true.mp hR x (List.contains_iff_mem.mp e)
    rw [hx] at h1
    cases h1
section
variable {M M' : Mm}
theorem Rtb.fr (h : Rtb M) (h14 : gI M' 14 = gI M 14) (h63 : gI M' 63 = gI M 63) (h16 : gI M' 16 = gI M 16) (h17 : gI M' 17 = gI M 17) (h18 : gI M' 18 = gI M 18) : Rtb M' := by
  unfold Rtb Ro Mix at h ⊢
  rw [h14, h63, h16, h17, h18]
  exact h
theorem Rtx.fr (h : Rtx M) (h1 : gI M' 1 2 = gI M 1 2) (h62 : gI M' 62 2 = gI M 62 2) (h2 : gI M' 2 = gI M 2) (h64 : gI M' 64 = gI M 64) : Rtx M' := by
  unfold Rtx at h ⊢
  rw [h1, h62, h2, h64]
  exact h
theorem Rki.fr (h : Rki M) (h25 : gI M' 25 2 = gI M 25 2) (h62 : gI M' 62 32 = gI M 62 32) (h26 : gI M' 26 = gI M 26) (h27 : gI M' 27 = gI M 27) (h79 : gI M' 79 = gI M 79) (h81 : gI M' 81 = gI M 81) : Rki M' := by
  unfold Rki at h ⊢
  rw [h25, h62, h26, h27, h79, h81]
  exact h
theorem Rlo.fr (h : Rlo M) (h46 : gI M' 46 = gI M 46) (h62 : gI M' 62 49 = gI M 62 49) (h93 : gI M' 93 = gI M 93) : Rlo M' := by
  unfold Rlo at h ⊢
  rw [h46, h62, h93]
  exact h
theorem Rta.fr (h : Rta M) (h53 : gI M' 53 = gI M 53) (h94 : gI M' 94 = gI M 94) (h54 : gI M' 54 = gI M 54) (h95 : gI M' 95 = gI M 95) (hl : gL M' = gL M) : Rta M' := by
  unfold Rta at h ⊢
  rw [h53, h94, h54, h95, hl]
  exact h
theorem Te.fr {np a b : Nat} (h : Te M np a b) (p12 : gP M' 12 = gP M 12) (pa : gP M' a = gP M a) (hb : gI M' b = gI M b) : Te M' np a b := by
  unfold Te at h ⊢
  rw [p12, pa, hb]
  exact h
theorem Rim.fr {np : Nat} (h : Rim M np) (h0 : gI M' 0 9 = gI M 0 9) (h62 : gI M' 62 42 = gI M 62 42) (h47 : gI M' 47 = gI M 47) (h88 : gI M' 88 = gI M 88) (h48 : gI M' 48 2 = gI M 48 2) (h623 : gI M' 62 43 = gI M 62 43) (h49 : gI M' 49 = gI M 49) (h50 : gI M' 50 = gI M 50) (h89 : gI M' 89 = gI M 89) (h91 : gI M' 91 = gI M 91) (p12 : gP M' 12 = gP M 12) (p52 : gP M' 52 = gP M 52) (h92 : gI M' 92 = gI M 92) : Rim M' np := by
  unfold Rim Te Ro at h ⊢
  rw [h0, h62, h47, h88, h48, h623, h49, h50, h89, h91, p12, p52, h92]
  exact h
end
theorem cpy0 {α : Type} {f g : Nat → α} {n k : Nat} (h : k < n) : va_cpy f g 0 0 n k = f k := by
  unfold va_cpy
  rw [if_pos (by omega)]
  congr 1
  omega
def plOf (M : Mm) (a : Nat) : Prop := ∀ k p, k < 12 → gP M a k = some p → ∃ c, plc c ∧ Sh M p (0, c)
theorem Te.pl {M : Mm} {nr np a b : Nat} (h : Te M np a b) (hp : Rpl M nr np) : plOf M a := by
  intro k p hk e
  rcases h k hk with ⟨h1, -⟩ | ⟨i, q, hi, h1, h2, -⟩
  · rw [h1] at e
    cases e
  · rw [h2] at e
    cases e
    obtain ⟨q', h3, -, _, _, _, _, _, _, hPl, _⟩ := hp.2.2.2 i hi
    rw [h1] at h3
    cases h3
    exact ⟨_, hPl.2.1, hPl.1⟩
section
variable {D : GD} {d : Nat} {M : Mm}
theorem c_copy' {a b n : Nat} {P : Mm → Prop} (hab : a ≠ b) (hn : n ≤ 1000000) (hL : Lay 62 98 M) (hs : Sh M a (1, n)) (ht : Sh M b (1, n)) (h : ∀ M', Sm M M' → (∀ x, x ≠ b → gI M' x = gI M x) → (∀ k, k < n → gI M' b k = gI M a k) → gP M' = gP M → gL M' = gL M → P M') : AMv D d mX12_copy [.ref 62, .ref a, .ref b] M P :=
  c_copy hab hn hL hs ht (h _ (Sm.refl M).ri (fun x hx => fr_r hx) (fun k hk => by rw [gI_rI, if_pos rfl, if_pos hk]) rfl rfl)
theorem c_image {P : Int32 → Mm → Prop} (hL : Lay 0 62 M) (hp : plOf M 30) (h : ∀ M', Sm M M' → (∀ x, [0, 47, 48, 49, 50].contains x = false → gI M' x = gI M x) → gI M' 0 = va_up (gI M 0) 9 1 → (∀ k, k < 9 → gI M' 47 k = gI M 14 k) → gI M' 48 2 = gI M 25 2 → (∀ k, k < 30 → gI M' 49 k = gI M 26 k) → (∀ k, k < 30 → gI M' 50 k = gI M 27 k) → (∀ a, a ≠ 52 → gP M' a = gP M a) → (∀ k, k < 12 → gP M' 52 k = gP M 30 k) → gL M' = gL M → P (gI M 25 2) M') : AMi D (d + 2) mX11_image [.ref 0] M P := by
  have h52 : (mS M 52).1 = 6 := by rw [(hL.sh 52 (q := (6, 12)) rfl (by omega) (by omega)).2]
  refine rX11_image D (d + 1) M _ hL (fun M1 q1 M5 q5 => ?_)
  have hs5 : Sm M M5 := by rw [q5, q1]; exact (Sm.refl M).i.ri
  have a5 : ∀ x, x ≠ 0 → x ≠ 47 → gI M5 x = gI M x := fun x a b => by rw [q5, fr_r b, q1, fr_s a]
  have b5 : gI M5 0 = va_up (gI M 0) 9 1 := by rw [q5, fr_r (by omega), q1]; rfl
  have c5 : ∀ k, k < 9 → gI M5 47 k = gI M 14 k := fun k hk => by
    rw [q5, gI_rI, if_pos rfl, cpy0 hk, q1, fr_s (by omega)]
  have p5 : gP M5 = gP M := by rw [q5, q1]; rfl
  have l5 : gL M5 = gL M := by rw [q5, q1]; rfl
  refine c_copyM (by omega) ((hL.of hs5).sh 30 rfl (by omega) (by omega)) ((hL.of hs5).sh 52 rfl (by omega) (by omega)) (fun k p hk e => ?_) ?_
  · rw [p5] at e
    obtain ⟨c, h1, h2⟩ := hp k p hk e
    exact ⟨c, h1, h2.of hs5⟩
  · obtain ⟨M9, q9⟩ : ∃ M9, M9 = rP M5 52 (fun k => if k < 12 then gP M5 30 k else gP M5 52 k) := ⟨_, rfl⟩
    rw [← q9]
    have hs9 : Sm M M9 := q9 ▸ hs5.rp h52
    have a9 : ∀ x, gI M9 x = gI M5 x := fun x => by rw [q9]; rfl
    have l9 : gL M9 = gL M5 := by rw [q9]; rfl
    have p9 : ∀ a, a ≠ 52 → gP M9 a = gP M a := fun a ha => by rw [q9, gP_rP, if_neg ha, p5]
    have p9' : ∀ k, k < 12 → gP M9 52 k = gP M 30 k := fun k hk => by rw [q9, gP_rP, if_pos rfl, if_pos hk, p5]
    refine rX1_copyFrom_b D d M9 _ ((hL.of hs9).sub (by omega) (by omega)) (fun M11 q11 M13 q13 M15 q15 => ?_)
    have hs15 : Sm M9 M15 := by rw [q15, q13, q11]; exact (Sm.refl M9).i.ri.ri
    have a15 : ∀ x, x ≠ 48 → x ≠ 49 → x ≠ 50 → gI M15 x = gI M9 x := fun x a b c => by rw [q15, fr_r c, q13, fr_r b, q11, fr_s a]
    have b15 : gI M15 48 2 = gI M9 25 2 := by rw [q15, fr_r (by omega), q13, fr_r (by omega), q11]; rfl
    have c15 : ∀ k, k < 30 → gI M15 49 k = gI M9 26 k := fun k hk => by rw [q15, fr_r (by omega), q13, gI_rI, if_pos rfl, cpy0 hk, q11, fr_s (by omega)]
    have d15 : ∀ k, k < 30 → gI M15 50 k = gI M9 27 k := fun k hk => by rw [q15, gI_rI, if_pos rfl, cpy0 hk, q13, fr_r (by omega), q11, fr_s (by omega)]
    have p15 : gP M15 = gP M9 := by rw [q15, q13, q11]; rfl
    have l15 : gL M15 = gL M9 := by rw [q15, q13, q11]; rfl
    have e25 : gI M15 25 2 = gI M 25 2 := by rw [a15 25 (by omega) (by omega) (by omega), a9, a5 25 (by omega) (by omega)]
    refine ⟨rfl, hs15, ?_⟩
    show ∃ x, some (Value.int (gI M15 25 2)) = some (Value.int x) ∧ Sm M M15 ∧ P x M15
    rw [e25]
    refine ⟨_, rfl, hs9.trans hs15, h M15 (hs9.trans hs15) (fun x hx => ?_) ?_ (fun k hk => ?_) ?_ (fun k hk => ?_) (fun k hk => ?_) (fun a ha => ?_) (fun k hk => ?_) ?_⟩
    · simp only [List.contains_cons, List.contains_nil, Bool.or_false, Bool.or_eq_false_iff, beq_eq_false_iff_ne, ne_eq] at hx
      rw [a15 x (by omega) (by omega) (by omega), a9, a5 x (by omega) (by omega)]
    · rw [a15 0 (by omega) (by omega) (by omega), a9, b5]
    · rw [a15 47 (by omega) (by omega) (by omega), a9, c5 k hk]
    · rw [b15, a9, a5 25 (by omega) (by omega)]
    · rw [c15 k hk, a9, a5 26 (by omega) (by omega)]
    · rw [d15 k hk, a9, a5 27 (by omega) (by omega)]
    · rw [p15, p9 a ha]
    · rw [p15, p9' k hk]
    · rw [l15, l9, l5]
theorem c_mImage {P : Int32 → Mm → Prop} (hL : Lay 62 98 M) (h : ∀ M', Sm M M' → (∀ x, [62, 88, 89, 90, 91, 92].contains x = false → gI M' x = gI M x) → gI M' 62 = va_up (va_up (gI M 62) 42 1) 43 (gI M 62 32) → (∀ k, k < 9 → gI M' 88 k = gI M 63 k) → (∀ k, k < 30 → gI M' 89 k = gI M 79 k) → (∀ k, k < 30 → gI M' 91 k = gI M 81 k) → (∀ k, k < 12 → gI M' 92 k = gI M 82 k) → gP M' = gP M → gL M' = gL M → P (gI M 62 32) M') : AMi D (d + 1) mX12_image [.ref 62] M P := by
  refine rX12_image D d M _ hL (fun M1 q1 M5 q5 => ?_)
  have s5 : Sm M M5 := by rw [q5, q1]; exact (Sm.refl M).i.i
  have a5 : ∀ x, x ≠ 62 → gI M5 x = gI M x := fun x a => by rw [q5, fr_s a, q1, fr_s a]
  have b5 : gI M5 62 = va_up (va_up (gI M 62) 42 1) 43 (gI M 62 32) := by rw [q5, q1]; rfl
  have p5 : gP M5 = gP M := by rw [q5, q1]; rfl
  have l5 : gL M5 = gL M := by rw [q5, q1]; rfl
  refine c_copy' (n := 9) (by omega) (by omega) (hL.of s5) ((hL.of s5).sh 63 rfl (by omega) (by omega)) ((hL.of s5).sh 88 rfl (by omega) (by omega)) (fun M9 t9 a9 b9 p9 l9 => ?_)
  have s9 := s5.trans t9
  refine c_copy' (n := 30) (by omega) (by omega) (hL.of s9) ((hL.of s9).sh 79 rfl (by omega) (by omega)) ((hL.of s9).sh 89 rfl (by omega) (by omega)) (fun M15 t15 a15 b15 p15 l15 => ?_)
  have s15 := s9.trans t15
  refine c_copy' (n := 30) (by omega) (by omega) (hL.of s15) ((hL.of s15).sh 80 rfl (by omega) (by omega)) ((hL.of s15).sh 90 rfl (by omega) (by omega)) (fun M21 t21 a21 b21 p21 l21 => ?_)
  have s21 := s15.trans t21
  refine c_copy' (n := 30) (by omega) (by omega) (hL.of s21) ((hL.of s21).sh 81 rfl (by omega) (by omega)) ((hL.of s21).sh 91 rfl (by omega) (by omega)) (fun M27 t27 a27 b27 p27 l27 => ?_)
  have s27 := s21.trans t27
  refine c_copy' (n := 12) (by omega) (by omega) (hL.of s27) ((hL.of s27).sh 82 rfl (by omega) (by omega)) ((hL.of s27).sh 92 rfl (by omega) (by omega)) (fun M33 t33 a33 b33 p33 l33 => ?_)
  have s33 := s27.trans t33
  have e62 : gI M33 62 = va_up (va_up (gI M 62) 42 1) 43 (gI M 62 32) := by rw [a33 62 (by omega), a27 62 (by omega), a21 62 (by omega), a15 62 (by omega), a9 62 (by omega), b5]
  have e32 : gI M33 62 32 = gI M 62 32 := by rw [e62]; rfl
  rw [e32]
  refine ⟨_, rfl, s33, h M33 s33 (fun x hx => ?_) e62 (fun k hk => ?_) (fun k hk => ?_) (fun k hk => ?_) (fun k hk => ?_) ?_ ?_⟩
  · simp only [List.contains_cons, List.contains_nil, Bool.or_false, Bool.or_eq_false_iff, beq_eq_false_iff_ne, ne_eq] at hx
    rw [a33 x (by omega), a27 x (by omega), a21 x (by omega), a15 x (by omega), a9 x (by omega), a5 x (by omega)]
  · rw [a33 88 (by omega), a27 88 (by omega), a21 88 (by omega), a15 88 (by omega), b9 k hk, a5 63 (by omega)]
  · rw [a33 89 (by omega), a27 89 (by omega), a21 89 (by omega), b15 k hk, a9 79 (by omega), a5 79 (by omega)]
  · rw [a33 91 (by omega), b27 k hk, a21 81 (by omega), a15 81 (by omega), a9 81 (by omega), a5 81 (by omega)]
  · rw [b33 k hk, a27 82 (by omega), a21 82 (by omega), a15 82 (by omega), a9 82 (by omega), a5 82 (by omega)]
  · rw [p33, p27, p21, p15, p9, p5]
  · rw [l33, l27, l21, l15, l9, l5]
theorem k_image (hR : Rall M) : Ki D (d + 8) mX11_image mX12_image [] M := by
  obtain ⟨hL, ⟨T, hb, t1, t2, hx⟩, htx, ⟨n, hn, e1, e2, hq⟩, hlo, hta, hw, nr, np, hru, hpl, hte, him⟩ := id hR
  refine c_image (d := d + 6) (hL.sub (by omega) (by omega)) (hte.pl hpl) (fun M1 s1 a1 z1 c47 c48 c49 c50 pp p52 l1 => ?_)
  refine c_mImage (d := d + 7) ((hL.of s1).sub (by omega) (by omega)) (fun M2 s2 a2 z2 c88 c89 c91 c92 pp2 l2 => ?_)
  have g : ∀ x, [0, 47, 48, 49, 50, 62, 88, 89, 90, 91, 92].contains x = false → gI M2 x = gI M x := fun x hx => by
    simp only [List.contains_cons, List.contains_nil, Bool.or_false, Bool.or_eq_false_iff, beq_eq_false_iff_ne, ne_eq] at hx
    rw [a2 x (by simp only [List.contains_cons, List.contains_nil, Bool.or_false, Bool.or_eq_false_iff, beq_eq_false_iff_ne, ne_eq]; omega), a1 x (by simp only [List.contains_cons, List.contains_nil, Bool.or_false, Bool.or_eq_false_iff, beq_eq_false_iff_ne, ne_eq]; omega)]
  have s := s1.trans s2
  have z0 : gI M2 0 = va_up (gI M 0) 9 1 := (a2 0 (by decide)).trans z1
  have z62 : gI M2 62 = va_up (va_up (gI M 62) 42 1) 43 (gI M 62 32) := by rw [z2, a1 62 (by decide)]
  have p12 : gP M2 12 = gP M 12 := by rw [pp2, pp 12 (by omega)]
  refine ⟨?_, hL.of s, Rtb.fr ⟨T, hb, t1, t2, hx⟩ (g _ (by decide)) (g _ (by decide)) (g _ (by decide)) (g _ (by decide)) (g _ (by decide)), htx.fr (by rw [g 1 (by decide)]) (by rw [z62]; rfl) (g _ (by decide)) (g _ (by decide)), Rki.fr ⟨n, hn, e1, e2, hq⟩ (by rw [g 25 (by decide)]) (by rw [z62]; rfl) (g _ (by decide)) (g _ (by decide)) (g _ (by decide)) (g _ (by decide)), hlo.fr (g _ (by decide)) (by rw [z62]; rfl) (g _ (by decide)), hta.fr (g _ (by decide)) (g _ (by decide)) (g _ (by decide)) (g _ (by decide)) (l2.trans l1), by rw [g 45 (by decide)]; exact hw, nr, np, hru.fr (by rw [z0]; rfl) (by rw [z62]; rfl) (fun j hj => g _ ((by decide : ∀ j, j < 7 → [0, 47, 48, 49, 50, 62, 88, 89, 90, 91, 92].contains (5 + j) = false) j hj)) (g _ (by decide)) (g _ (by decide)) (g _ (by decide)) (g _ (by decide)) (g _ (by decide)) (g _ (by decide)), hpl.fr s.x (fun k => by rw [p12]) (by rw [z0]; rfl) (by rw [z62]; rfl) (g _ (by decide)) (g _ (by decide)) (g _ (by decide)) (fun a ha _ => g a ?_), hte.fr p12 (by rw [pp2, pp 30 (by omega)]) (g _ (by decide)), Or.inr ⟨by rw [z0]; rfl, by rw [z62]; rfl, ⟨T, hb, fun k hk => ?_, fun k hk => ?_⟩, ⟨n, hn, ?_, ?_, fun k hk => ?_⟩, fun i hi => ?_⟩⟩
  · rw [a1 62 (by decide)]
    exact e1.trans e2.symm
  · simp only [List.contains_cons, List.contains_nil, Bool.or_false, Bool.or_eq_false_iff, beq_eq_false_iff_ne, ne_eq]
    omega
  · rw [a2 47 (by decide), c47 k hk]
    exact t1 k hk
  · rw [c88 k hk, a1 63 (by decide)]
    exact t2 k hk
  · rw [a2 48 (by decide), c48]
    exact e1
  · rw [z62]
    exact e2
  · have k30 : k < 30 := by omega
    rw [a2 49 (by decide), a2 50 (by decide), c49 k k30, c50 k k30, c89 k k30, c91 k k30, a1 79 (by decide), a1 81 (by decide)]
    exact hq k hk
  · have h52 : gP M2 52 i = gP M 30 i := by rw [pp2, p52 i hi]
    have h92 : gI M2 92 i = gI M 82 i := by rw [c92 i hi, a1 82 (by decide)]
    rw [p12, h52, h92]
    exact hte i hi
theorem c_undo {T : Nat → Int} {P : Int32 → Mm → Prop} (hL : Lay 0 62 M) (h9 : gI M 0 9 = 1) (hT : Ro M 47 9 T) (hb : Tb T) (hp : plOf M 52) (h : ∀ M', Sm M M' → (∀ x, [14, 16, 17, 18, 25, 26, 27].contains x = false → gI M' x = gI M x) → gI M' 25 2 = gI M 48 2 → Ro M' 14 9 T → Mix M' T → (∀ k, k < 30 → gI M' 26 k = gI M 49 k) → (∀ k, k < 30 → gI M' 27 k = gI M 50 k) → (∀ a, a ≠ 30 → gP M' a = gP M a) → (∀ k, k < 12 → gP M' 30 k = gP M 52 k) → gL M' = gL M → P (gI M 48 2) M') : AMi D (d + 5) mX11_undo [.ref 0] M P := by
  have h30 : (mS M 30).1 = 6 := by rw [(hL.sh 30 (q := (6, 12)) rfl (by omega) (by omega)).2]
  refine rX11_undo D (d + 4) M _ hL ⟨fun _ M2 q2 => ?_, fun c => ?_⟩
  rotate_left
  · rw [h9] at c
    exact absurd c (by decide)
  have s2 : Sm M M2 := by rw [q2]; exact (Sm.refl M).ri
  have a2 : ∀ x, x ≠ 14 → gI M2 x = gI M x := fun x a => by rw [q2, fr_r a]
  have b2 : Ro M2 14 9 T := fun k hk => by
    rw [q2, gI_rI, if_pos rfl, cpy0 hk]
    exact hT k hk
  have p2 : gP M2 = gP M := by rw [q2]; rfl
  have l2 : gL M2 = gL M := by rw [q2]; rfl
  refine c_settleMixes (T := T) ((hL.of s2).sub (by omega) (by omega)) b2 hb (fun f f' g h1 h2 => ?_)
  obtain ⟨M6, q6⟩ : ∃ M6, M6 = rI (rI (rI M2 16 f) 17 f') 18 g := ⟨_, rfl⟩
  rw [← q6]
  have s6 : Sm M M6 := by rw [q6]; exact s2.ri.ri.ri
  have a6 : ∀ x, x ≠ 16 → x ≠ 17 → x ≠ 18 → gI M6 x = gI M2 x := fun x a b c => by rw [q6, fr_r c, fr_r b, fr_r a]
  have m6 : Mix M6 T := by rw [q6]; exact ⟨h1, h2⟩
  have p6 : gP M6 = gP M := by rw [q6, ← p2]; rfl
  have l6 : gL M6 = gL M := by rw [q6, ← l2]; rfl
  refine c_copyM (by omega) ((hL.of s6).sh 52 rfl (by omega) (by omega)) ((hL.of s6).sh 30 rfl (by omega) (by omega)) (fun k p hk e => ?_) ?_
  · rw [p6] at e
    obtain ⟨c, h1, h2⟩ := hp k p hk e
    exact ⟨c, h1, h2.of s6⟩
  · obtain ⟨M9, q9⟩ : ∃ M9, M9 = rP M6 30 (fun k => if k < 12 then gP M6 52 k else gP M6 30 k) := ⟨_, rfl⟩
    rw [← q9]
    have s9 : Sm M M9 := q9 ▸ s6.rp h30
    have a9 : ∀ x, gI M9 x = gI M6 x := fun x => by rw [q9]; rfl
    have l9 : gL M9 = gL M6 := by rw [q9]; rfl
    have p9 : ∀ a, a ≠ 30 → gP M9 a = gP M a := fun a ha => by rw [q9, gP_rP, if_neg ha, p6]
    have p9' : ∀ k, k < 12 → gP M9 30 k = gP M 52 k := fun k hk => by rw [q9, gP_rP, if_pos rfl, if_pos hk, p6]
    refine rX1_copyFrom D (d + 3) M9 _ ((hL.of s9).sub (by omega) (by omega)) (fun M11 q11 M13 q13 M15 q15 => ?_)
    have s15 : Sm M9 M15 := by rw [q15, q13, q11]; exact (Sm.refl M9).i.ri.ri
    have a15 : ∀ x, x ≠ 25 → x ≠ 26 → x ≠ 27 → gI M15 x = gI M9 x := fun x a b c => by rw [q15, fr_r c, q13, fr_r b, q11, fr_s a]
    have b15 : gI M15 25 2 = gI M9 48 2 := by rw [q15, fr_r (by omega), q13, fr_r (by omega), q11]; rfl
    have c15 : ∀ k, k < 30 → gI M15 26 k = gI M9 49 k := fun k hk => by rw [q15, fr_r (by omega), q13, gI_rI, if_pos rfl, cpy0 hk, q11, fr_s (by omega)]
    have d15 : ∀ k, k < 30 → gI M15 27 k = gI M9 50 k := fun k hk => by rw [q15, gI_rI, if_pos rfl, cpy0 hk, q13, fr_r (by omega), q11, fr_s (by omega)]
    have p15 : gP M15 = gP M9 := by rw [q15, q13, q11]; rfl
    have l15 : gL M15 = gL M9 := by rw [q15, q13, q11]; rfl
    have e25 : gI M15 25 2 = gI M 48 2 := by rw [b15, a9, a6 48 (by omega) (by omega) (by omega), a2 48 (by omega)]
    refine ⟨rfl, s15, ?_⟩
    show ∃ x, some (Value.int (gI M15 25 2)) = some (Value.int x) ∧ Sm M M15 ∧ P x M15
    rw [e25]
    refine ⟨_, rfl, s9.trans s15, h M15 (s9.trans s15) (fun x hx => ?_) e25 (fun k hk => ?_) ?_ (fun k hk => ?_) (fun k hk => ?_) (fun a ha => ?_) (fun k hk => ?_) ?_⟩
    · simp only [List.contains_cons, List.contains_nil, Bool.or_false, Bool.or_eq_false_iff, beq_eq_false_iff_ne, ne_eq] at hx
      rw [a15 x (by omega) (by omega) (by omega), a9, a6 x (by omega) (by omega) (by omega), a2 x (by omega)]
    · rw [a15 14 (by omega) (by omega) (by omega), a9, a6 14 (by omega) (by omega) (by omega)]
      exact b2 k hk
    · unfold Mix at m6 ⊢
      rw [a15 16 (by omega) (by omega) (by omega), a15 17 (by omega) (by omega) (by omega), a15 18 (by omega) (by omega) (by omega), a9, a9, a9]
      exact m6
    · rw [c15 k hk, a9, a6 49 (by omega) (by omega) (by omega), a2 49 (by omega)]
    · rw [d15 k hk, a9, a6 50 (by omega) (by omega) (by omega), a2 50 (by omega)]
    · rw [p15, p9 a ha]
    · rw [p15, p9' k hk]
    · rw [l15, l9, l6]
theorem c_mUndo {P : Int32 → Mm → Prop} (hL : Lay 62 98 M) (h42 : gI M 62 42 = 1) (h : ∀ M', Sm M M' → (∀ x, [62, 63, 79, 80, 81, 82].contains x = false → gI M' x = gI M x) → gI M' 62 = va_up (gI M 62) 32 (gI M 62 43) → (∀ k, k < 9 → gI M' 63 k = gI M 88 k) → (∀ k, k < 30 → gI M' 79 k = gI M 89 k) → (∀ k, k < 30 → gI M' 81 k = gI M 91 k) → (∀ k, k < 12 → gI M' 82 k = gI M 92 k) → gP M' = gP M → gL M' = gL M → P (gI M 62 43) M') : AMi D (d + 1) mX12_undo [.ref 62] M P := by
  refine rX12_undo D d M _ hL ⟨fun _ M5 q5 => ?_, fun c => ?_⟩
  rotate_left
  · rw [h42] at c
    exact absurd c (by decide)
  have s5 : Sm M M5 := by rw [q5]; exact (Sm.refl M).i
  have a5 : ∀ x, x ≠ 62 → gI M5 x = gI M x := fun x a => by rw [q5, fr_s a]
  have b5 : gI M5 62 = va_up (gI M 62) 32 (gI M 62 43) := by rw [q5]; rfl
  have p5 : gP M5 = gP M := by rw [q5]; rfl
  have l5 : gL M5 = gL M := by rw [q5]; rfl
  refine c_copy' (n := 9) (by omega) (by omega) (hL.of s5) ((hL.of s5).sh 88 rfl (by omega) (by omega)) ((hL.of s5).sh 63 rfl (by omega) (by omega)) (fun M9 t9 a9 b9 p9 l9 => ?_)
  have s9 := s5.trans t9
  refine c_copy' (n := 30) (by omega) (by omega) (hL.of s9) ((hL.of s9).sh 89 rfl (by omega) (by omega)) ((hL.of s9).sh 79 rfl (by omega) (by omega)) (fun M15 t15 a15 b15 p15 l15 => ?_)
  have s15 := s9.trans t15
  refine c_copy' (n := 30) (by omega) (by omega) (hL.of s15) ((hL.of s15).sh 90 rfl (by omega) (by omega)) ((hL.of s15).sh 80 rfl (by omega) (by omega)) (fun M21 t21 a21 b21 p21 l21 => ?_)
  have s21 := s15.trans t21
  refine c_copy' (n := 30) (by omega) (by omega) (hL.of s21) ((hL.of s21).sh 91 rfl (by omega) (by omega)) ((hL.of s21).sh 81 rfl (by omega) (by omega)) (fun M27 t27 a27 b27 p27 l27 => ?_)
  have s27 := s21.trans t27
  refine c_copy' (n := 12) (by omega) (by omega) (hL.of s27) ((hL.of s27).sh 92 rfl (by omega) (by omega)) ((hL.of s27).sh 82 rfl (by omega) (by omega)) (fun M33 t33 a33 b33 p33 l33 => ?_)
  have s33 := s27.trans t33
  have e62 : gI M33 62 = va_up (gI M 62) 32 (gI M 62 43) := by rw [a33 62 (by omega), a27 62 (by omega), a21 62 (by omega), a15 62 (by omega), a9 62 (by omega), b5]
  have e32 : gI M33 62 32 = gI M 62 43 := by rw [e62]; rfl
  rw [e32]
  refine ⟨_, rfl, s33, h M33 s33 (fun x hx => ?_) e62 (fun k hk => ?_) (fun k hk => ?_) (fun k hk => ?_) (fun k hk => ?_) ?_ ?_⟩
  · simp only [List.contains_cons, List.contains_nil, Bool.or_false, Bool.or_eq_false_iff, beq_eq_false_iff_ne, ne_eq] at hx
    rw [a33 x (by omega), a27 x (by omega), a21 x (by omega), a15 x (by omega), a9 x (by omega), a5 x (by omega)]
  · rw [a33 63 (by omega), a27 63 (by omega), a21 63 (by omega), a15 63 (by omega), b9 k hk, a5 88 (by omega)]
  · rw [a33 79 (by omega), a27 79 (by omega), a21 79 (by omega), b15 k hk, a9 89 (by omega), a5 89 (by omega)]
  · rw [a33 81 (by omega), b27 k hk, a21 91 (by omega), a15 91 (by omega), a9 91 (by omega), a5 91 (by omega)]
  · rw [b33 k hk, a27 92 (by omega), a21 92 (by omega), a15 92 (by omega), a9 92 (by omega), a5 92 (by omega)]
  · rw [p33, p27, p21, p15, p9, p5]
  · rw [l33, l27, l21, l15, l9, l5]
theorem k_undo (hR : Rall M) : Ki D (d + 8) mX11_undo mX12_undo [] M := by
  obtain ⟨hL, htb, htx, hki, hlo, hta, hw, nr, np, hru, hpl, hte, him⟩ := id hR
  have hL1 : Lay 0 62 M := hL.sub (by omega) (by omega)
  have hL2 : Lay 62 98 M := hL.sub (by omega) (by omega)
  rcases id him with ⟨h0, h42⟩ | ⟨h0, h42, ⟨T, hb, t1, t2⟩, ⟨n, hn, e1, e2, hq⟩, hte2⟩
  · refine rX11_undo D (d + 7) M _ hL1 ⟨fun c => absurd h0 c, fun _ => ⟨_, rfl, .refl M, ?_⟩⟩
    exact rX12_undo D (d + 7) M _ hL2 ⟨fun c => absurd h42 c, fun _ => ⟨_, rfl, .refl M, rfl, hR⟩⟩
  · refine c_undo (d := d + 3) (T := T) hL1 h0 t1 hb (hte2.pl hpl) (fun M1 s1 a1 c25 r14 mx c26 c27 pp p30 l1 => ?_)
    refine c_mUndo (d := d + 7) (hL2.of s1) (by rw [a1 62 (by decide)]; exact h42) (fun M2 s2 a2 z2 c63 c79 c81 c82 pp2 l2 => ?_)
    have g : ∀ x, [14, 16, 17, 18, 25, 26, 27, 62, 63, 79, 80, 81, 82].contains x = false → gI M2 x = gI M x := fun x hx => by
      simp only [List.contains_cons, List.contains_nil, Bool.or_false, Bool.or_eq_false_iff, beq_eq_false_iff_ne, ne_eq] at hx
      rw [a2 x (by simp only [List.contains_cons, List.contains_nil, Bool.or_false, Bool.or_eq_false_iff, beq_eq_false_iff_ne, ne_eq]; omega), a1 x (by simp only [List.contains_cons, List.contains_nil, Bool.or_false, Bool.or_eq_false_iff, beq_eq_false_iff_ne, ne_eq]; omega)]
    have s := s1.trans s2
    have z62 : gI M2 62 = va_up (gI M 62) 32 (gI M 62 43) := by rw [z2, a1 62 (by decide)]
    have p12 : gP M2 12 = gP M 12 := by rw [pp2, pp 12 (by omega)]
    have p52 : gP M2 52 = gP M 52 := by rw [pp2, pp 52 (by omega)]
    refine ⟨?_, hL.of s, ⟨T, hb, fun k hk => ?_, fun k hk => ?_, ?_⟩, htx.fr (by rw [g 1 (by decide)]) (by rw [z62]; rfl) (g _ (by decide)) (g _ (by decide)), ⟨n, hn, ?_, ?_, fun k hk => ?_⟩, hlo.fr (g _ (by decide)) (by rw [z62]; rfl) (g _ (by decide)), hta.fr (g _ (by decide)) (g _ (by decide)) (g _ (by decide)) (g _ (by decide)) (l2.trans l1), by rw [g 45 (by decide)]; exact hw, nr, np, hru.fr (by rw [g 0 (by decide)]) (by rw [z62]; rfl) (fun j hj => g _ ((by decide : ∀ j, j < 7 → [14, 16, 17, 18, 25, 26, 27, 62, 63, 79, 80, 81, 82].contains (5 + j) = false) j hj)) (g _ (by decide)) (g _ (by decide)) (g _ (by decide)) (g _ (by decide)) (g _ (by decide)) (g _ (by decide)), hpl.fr s.x (fun k => by rw [p12]) (by rw [g 0 (by decide)]) (by rw [z62]; rfl) (g _ (by decide)) (g _ (by decide)) (g _ (by decide)) (fun a ha _ => g a ?_), fun i hi => ?_, him.fr (by rw [g 0 (by decide)]) (by rw [z62]; rfl) (g _ (by decide)) (g _ (by decide)) (by rw [g 48 (by decide)]) (by rw [z62]; rfl) (g _ (by decide)) (g _ (by decide)) (g _ (by decide)) (g _ (by decide)) p12 p52 (g _ (by decide))⟩
    · rw [a1 62 (by decide)]
      exact e1.trans e2.symm
    · rw [a2 14 (by decide)]
      exact r14 k hk
    · rw [c63 k hk, a1 88 (by decide)]
      exact t2 k hk
    · unfold Mix at mx ⊢
      rw [a2 16 (by decide), a2 17 (by decide), a2 18 (by decide)]
      exact mx
    · rw [a2 25 (by decide), c25]
      exact e1
    · rw [z62]
      exact e2
    · have k30 : k < 30 := by omega
      rw [a2 26 (by decide), a2 27 (by decide), c26 k k30, c27 k k30, c79 k k30, c81 k k30, a1 89 (by decide), a1 91 (by decide)]
      exact hq k hk
    · simp only [List.contains_cons, List.contains_nil, Bool.or_false, Bool.or_eq_false_iff, beq_eq_false_iff_ne, ne_eq]
      omega
    · have h30 : gP M2 30 i = gP M 52 i := by rw [pp2, p30 i hi]
      have h82 : gI M2 82 i = gI M 92 i := by rw [c82 i hi, a1 92 (by decide)]
      rw [p12, h30, h82]
      exact hte2 i hi
end
