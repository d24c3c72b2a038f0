/-! player -/
def Kix (D : GD) (d : Nat) (u u' : MD) (vs : List Value) (M : Mm) : Prop := AMix D d 1 6 u (.ref 0 :: vs) M (fun x M1 => AMi D d u' (.ref 62 :: vs) M1 (fun y M2 => x = y ∧ Rall M2 ∧ mN M2 ≤ mN M + 1))
def Klx (D : GD) (d : Nat) (u u' : MD) (vs : List Value) (M : Mm) : Prop := AMlx D d 1 6 u (.ref 0 :: vs) M (fun x M1 => AMl D d u' (.ref 62 :: vs) M1 (fun y M2 => x = y ∧ Rall M2 ∧ mN M2 ≤ mN M + 1))
section
variable {D : GD} {d : Nat} {M : Mm}
theorem kcl_plc {k : Nat} (hk : k ≤ 6) : plc (kcl k) := by
  unfold plc
  rcases (by omega : k = 0 ∨ k = 1 ∨ k = 2 ∨ k = 3 ∨ k = 4 ∨ k = 5 ∨ k = 6) with rfl | rfl | rfl | rfl | rfl | rfl | rfl <;> decide
theorem c_newPlayer {k v r : Nat} {P : Option Nat → Mm → Prop} (hL : Lay 0 62 M) (hN : mN M < 1000000) (hk : k ≤ 6) (hr : r < 7) (h : P (some (mN M)) (plI (mA M (0, kcl k)) (mN M) (J k) (gI M 0 4) (J v) (J r) (5 + r) 46)) : AMqx D (d + 4) 1 6 mX11_newPlayer [.ref 0, .int (J k), .int (J v), .int (J r)] M P := by
  have e0 : ∀ c, gI (mA M (0, c)) 0 4 = gI M 0 4 := fun c => by
    show va_up (gI M) (mN M) (fun _ => 0) 0 4 = _
    rw [va_up_ne _ _ (by have := hL.1; omega)]
  have er : (J (r : Int)).toNatClampNeg = r := by simp (disch := omega) only [J_lit, J_add, J_sub, J_mul, J_neg, J_lt, J_le, J_eq, J_nat, J_in, J_div]; omega
  have hx : ∀ c (k' n' v' r' : Int32) (cd lg : Nat), Sx M (plI (mA M (0, c)) (mN M) k' n' v' r' cd lg) := fun c _ _ _ _ _ _ => (Sx.mA M (0, c)).pl (Nat.le_refl _)
  refine rX11_newPlayer D d (J k) (J v) (J r) M _ hL ?_
  rw [er]
  refine ⟨by simp (disch := omega) only [J_lit, J_add, J_sub, J_mul, J_neg, J_lt, J_le, J_eq, J_nat, J_in, J_div]; omega, fun c => ⟨hN, fun M9 e9 => ?_⟩, fun c => ⟨hN, fun M9 e9 => ?_⟩, fun c => ⟨hN, fun M9 e9 => ?_⟩, fun c => ⟨hN, fun M9 e9 => ?_⟩, fun c => ⟨hN, fun M9 e9 => ?_⟩, fun c => ⟨hN, fun M9 e9 => ?_⟩, fun c1 c2 c3 c4 c5 c6 => ⟨hN, fun M9 e9 => ?_⟩⟩
  · simp (disch := omega) only [J_lit, J_add, J_sub, J_mul, J_neg, J_lt, J_le, J_eq, J_nat, J_in, J_div] at c
    obtain rfl : k = 1 := by omega
    rw [e0] at e9
    subst e9
    exact ⟨_, rfl, hx _ _ _ _ _ _ _, h⟩
  · simp (disch := omega) only [J_lit, J_add, J_sub, J_mul, J_neg, J_lt, J_le, J_eq, J_nat, J_in, J_div] at c
    obtain rfl : k = 2 := by omega
    rw [e0] at e9
    subst e9
    exact ⟨_, rfl, hx _ _ _ _ _ _ _, h⟩
  · simp (disch := omega) only [J_lit, J_add, J_sub, J_mul, J_neg, J_lt, J_le, J_eq, J_nat, J_in, J_div] at c
    obtain rfl : k = 3 := by omega
    rw [e0] at e9
    subst e9
    exact ⟨_, rfl, hx _ _ _ _ _ _ _, h⟩
  · simp (disch := omega) only [J_lit, J_add, J_sub, J_mul, J_neg, J_lt, J_le, J_eq, J_nat, J_in, J_div] at c
    obtain rfl : k = 4 := by omega
    rw [e0] at e9
    subst e9
    exact ⟨_, rfl, hx _ _ _ _ _ _ _, h⟩
  · simp (disch := omega) only [J_lit, J_add, J_sub, J_mul, J_neg, J_lt, J_le, J_eq, J_nat, J_in, J_div] at c
    obtain rfl : k = 5 := by omega
    rw [e0] at e9
    subst e9
    exact ⟨_, rfl, hx _ _ _ _ _ _ _, h⟩
  · simp (disch := omega) only [J_lit, J_add, J_sub, J_mul, J_neg, J_lt, J_le, J_eq, J_nat, J_in, J_div] at c
    obtain rfl : k = 6 := by omega
    rw [e0] at e9
    subst e9
    exact ⟨_, rfl, hx _ _ _ _ _ _ _, h⟩
  · simp (disch := omega) only [J_lit, J_add, J_sub, J_mul, J_neg, J_lt, J_le, J_eq, J_nat, J_in, J_div] at c1 c2 c3 c4 c5 c6
    obtain rfl : k = 0 := by omega
    rw [e0] at e9
    subst e9
    exact ⟨_, rfl, hx _ _ _ _ _ _ _, h⟩
/-- a new cell touches nothing that is kept -/
theorem Sc.new {c : Nat} {k n v r : Int32} {cd lg : Nat} (hL : 98 ≤ mN M) : Sc M (plI (mA M (0, c)) (mN M) k n v r cd lg) := by
  have gi : ∀ a, a < mN M → gI (plI (mA M (0, c)) (mN M) k n v r cd lg) a = gI M a := fun a ha => by
    show gI (sI (sI (sI (sI (mA M (0, c)) (mN M) 0 k) (mN M) 1 n) (mN M) 2 v) (mN M) 3 r) a = _
    rw [fr_s (by omega), fr_s (by omega), fr_s (by omega), fr_s (by omega)]
    exact va_up_ne _ _ (by show a ≠ mN M; omega)
  have gp : ∀ a, a < mN M → gP (plI (mA M (0, c)) (mN M) k n v r cd lg) a = gP M a := fun a ha => by
    funext i
    unfold plI
    rw [gP_sP, if_neg (by omega), gP_sP, if_neg (by omega)]
    show gP (mA M (0, c)) a i = _
    have : gP (mA M (0, c)) a = gP M a := va_up_ne _ _ (by show a ≠ mN M; omega)
    rw [this]
  have gl : ∀ a, a < mN M → gL (plI (mA M (0, c)) (mN M) k n v r cd lg) a = gL M a := fun a ha => va_up_ne _ _ (by show a ≠ mN M; omega)
  refine ⟨(Sx.mA M (0, c)).pl (Nat.le_refl _), gp 12 (by omega), gp 30 (by omega), gp 52 (by omega), fun a ha => gi a ?_, fun q hq => by rw [gi q.1 (by have := (by decide : ∀ q ∈ relS, q.1 < 98) q hq; omega)], fun a _ ha => gi a ha, fun a ha => gl a (by omega)⟩
  · have := (by decide : ∀ a ∈ relR, a < 98) a ha
    omega
theorem pl_all {nr np k v r N : Nat} {M' : Mm} (hR : Rall M) (hr : gI M 0 2 = J nr) (hp : gI M 0 4 = J np) (hnr : nr ≤ 7) (hnp : np < 10) (hk : k ≤ 6) (hv : v ≤ 2) (hrr : r < nr) (h98 : 98 ≤ N) (hPl : Pl M N (kcl k) r) (e0 : gI M N 0 = J k) (e1 : gI M N 1 = J np) (e2 : gI M N 2 = J v) (e3 : gI M N 3 = J r) (hM : M' = sI (sI (sI (sI (sI (sP M 12 np (some N)) 0 4 (J ((np + 1 : Nat) : Int))) 74 np (J k)) 75 np (J v)) 76 np (J r)) 62 18 (J ((np + 1 : Nat) : Int))) : Rall M' := by
  obtain ⟨hL, htb, htx, hki, hlo, hta, hw, nr', np', hru, hpl, hte, him⟩ := hR
  have h12 : (mS M 12).1 = 6 := by rw [(hL.sh 12 (q := (6, 10)) rfl (by omega) (by omega)).2]
  have en : nr' = nr := by
    have h1 := hru.1
    have h2 := hru.2.1
    rw [hr] at h2
    simp (disch := omega) only [J_lit, J_add, J_sub, J_mul, J_neg, J_lt, J_le, J_eq, J_nat, J_in, J_div] at h2
    omega
  have ep : np' = np := by
    have h1 := hpl.1
    have h2 := hpl.2.1
    rw [hp] at h2
    simp (disch := omega) only [J_lit, J_add, J_sub, J_mul, J_neg, J_lt, J_le, J_eq, J_nat, J_in, J_div] at h2
    omega
  subst en ep
  have hs : Sm M M' := by rw [hM]; exact ((Sm.refl M).p h12).i.i.i.i.i
  have g : ∀ x, [0, 62, 74, 75, 76].contains x = false → gI M' x = gI M x := fun x hx => by
    simp only [List.contains_cons, List.contains_nil, Bool.or_false, Bool.or_eq_false_iff, beq_eq_false_iff_ne, ne_eq] at hx
    rw [hM, fr_s (by omega), fr_s (by omega), fr_s (by omega), fr_s (by omega), fr_s (by omega)]
    rfl
  have z0 : gI M' 0 = va_up (gI M 0) 4 (J ((np' + 1 : Nat) : Int)) := by
    rw [hM, fr_s (by omega), fr_s (by omega), fr_s (by omega), fr_s (by omega)]
    rfl
  have z62 : gI M' 62 = va_up (gI M 62) 18 (J ((np' + 1 : Nat) : Int)) := by
    rw [hM]
    rfl
  have z74 : gI M' 74 = va_up (gI M 74) np' (J k) := by
    rw [hM, fr_s (by omega), fr_s (by omega), fr_s (by omega)]
    rfl
  have z75 : gI M' 75 = va_up (gI M 75) np' (J v) := by
    rw [hM, fr_s (by omega), fr_s (by omega)]
    rfl
  have z76 : gI M' 76 = va_up (gI M 76) np' (J r) := by
    rw [hM, fr_s (by omega)]
    rfl
  have p12 : gP M' 12 = va_up (gP M 12) np' (some N) := by
    rw [hM]
    rfl
  have pp : ∀ a, a ≠ 12 → gP M' a = gP M a := fun a ha => by
    rw [hM]
    exact va_up_ne _ _ ha
  have l : gL M' = gL M := by rw [hM]; rfl
  have tt : ∀ a b, a ≠ 12 → [0, 62, 74, 75, 76].contains b = false → Te M np' a b → Te M' (np' + 1) a b := by
    intro a b ha hb ht i hi
    rw [pp a ha, g b hb, p12]
    rcases ht i hi with h | ⟨p, q, h1, h2, h3, h4⟩
    · exact Or.inl h
    · exact Or.inr ⟨p, q, by omega, by rw [va_up_ne _ _ (by omega)]; exact h2, h3, h4⟩
  refine ⟨hL.of hs, htb.fr (g _ (by decide)) (g _ (by decide)) (g _ (by decide)) (g _ (by decide)) (g _ (by decide)), htx.fr (by rw [g 1 (by decide)]) (by rw [z62]; rfl) (g _ (by decide)) (g _ (by decide)), hki.fr (by rw [g 25 (by decide)]) (by rw [z62]; rfl) (g _ (by decide)) (g _ (by decide)) (g _ (by decide)) (g _ (by decide)), hlo.fr (g _ (by decide)) (by rw [z62]; rfl) (g _ (by decide)), hta.fr (g _ (by decide)) (g _ (by decide)) (g _ (by decide)) (g _ (by decide)) l, by rw [g 45 (by decide)]; exact hw, nr', np' + 1, hru.fr (by rw [z0]; rfl) (by rw [z62]; rfl) (fun j hj => g _ ((by decide : ∀ j, j < 7 → [0, 62, 74, 75, 76].contains (5 + j) = false) j hj)) (g _ (by decide)) (g _ (by decide)) (g _ (by decide)) (g _ (by decide)) (g _ (by decide)) (g _ (by decide)), ⟨by omega, by rw [z0]; rfl, by rw [z62]; rfl, fun p hp' => ?_⟩, tt 30 82 (by omega) (by decide) hte, ?_⟩
  · have hi : ∀ a, 98 ≤ a → gI M' a = gI M a := fun a ha => g a (by (simp only [List.contains_cons, List.contains_nil, Bool.or_false, Bool.or_eq_false_iff, beq_eq_false_iff_ne, ne_eq]; omega))
    by_cases e : p = np'
    · subst e
      refine ⟨N, by rw [p12, va_up_self], h98, k, v, r, hk, hv, hrr, hPl.ofx hs.x, ?_, ?_, ?_, ?_, ?_, ?_, ?_⟩
      · rw [hi N h98]; exact e0
      · rw [hi N h98]; exact e1
      · rw [hi N h98]; exact e2
      · rw [hi N h98]; exact e3
      · rw [z74, va_up_self]
      · rw [z75, va_up_self]
      · rw [z76, va_up_self]
    · obtain ⟨q, e, hq, k', v', j', a1, a2, a3, a4, a5, a6, a7, a8, a9, a10, a11⟩ := hpl.2.2.2 p (by omega)
      have e5 := hi q hq
      refine ⟨q, by rw [p12, va_up_ne _ _ (by omega)]; exact e, hq, k', v', j', a1, a2, a3, a4.ofx hs.x, by rw [e5]; exact a5, by rw [e5]; exact a6, by rw [e5]; exact a7, by rw [e5]; exact a8, ?_, ?_, ?_⟩
      · rw [z74, va_up_ne _ _ (by omega)]; exact a9
      · rw [z75, va_up_ne _ _ (by omega)]; exact a10
      · rw [z76, va_up_ne _ _ (by omega)]; exact a11
  · rcases him with ⟨h1, h2⟩ | ⟨h1, h2, h3, h4, h5⟩
    · exact Or.inl ⟨by rw [z0]; exact h1, by rw [z62]; exact h2⟩
    · refine Or.inr ⟨by rw [z0]; exact h1, by rw [z62]; exact h2, ?_, ?_, tt 52 92 (by omega) (by decide) h5⟩
      · unfold Ro at h3 ⊢
        rw [g 47 (by decide), g 88 (by decide)]
        exact h3
      · rw [g 48 (by decide), z62, g 49 (by decide), g 50 (by decide), g 89 (by decide), g 91 (by decide)]
        exact h4
theorem k_player {a b c : Int32} (hR : Rall M) (hN : mN M < 1000000) : Kix D (d + 8) mX11_player mX12_player [.int a, .int b, .int c] M := by
  obtain ⟨hL, htb, htx, hki, hlo, hta, hw, nr, np, hru, hpl, hte, him⟩ := id hR
  have hL1 : Lay 0 62 M := hL.sub (by omega) (by omega)
  have hL2 : Lay 62 98 M := hL.sub (by omega) (by omega)
  have hN98 : 98 ≤ mN M := hL.1
  have hr7 := hru.1
  have hp10 := hpl.1
  have e1 := hru.2.1
  have e2 := hru.2.2.1
  have e3 := hpl.2.1
  have e4 := hpl.2.2.1
  have ms : ∀ (x : Int32) (N : Mm), Lay 62 98 N → gI N 62 1 = J nr → gI N 62 18 = J np → mN N ≤ mN M + 1 → (¬ ((0 ≤ a ∧ a ≤ 6) ∧ (0 ≤ c ∧ c < J nr)) → x = -1 ∧ Rall N) → ((0 ≤ a ∧ a ≤ 6) ∧ (0 ≤ c ∧ c < J nr) → ¬ (0 ≤ b ∧ b ≤ 2) → x = -2 ∧ Rall N) → ((0 ≤ a ∧ a ≤ 6) ∧ (0 ≤ c ∧ c < J nr) → (0 ≤ b ∧ b ≤ 2) → np = 10 → x = -4 ∧ Rall N) → ((0 ≤ a ∧ a ≤ 6) ∧ (0 ≤ c ∧ c < J nr) → (0 ≤ b ∧ b ≤ 2) → np < 10 → x = J np ∧ Rall (sI (sI (sI (sI N 74 np a) 75 np b) 76 np c) 62 18 (J ((np + 1 : Nat) : Int)))) → AMi D (d + 8) mX12_player [.ref 62, .int a, .int b, .int c] N (fun y M2 => x = y ∧ Rall M2 ∧ mN M2 ≤ mN M + 1) := by
    intro x N hLN g1 g18 hmn h1 h2 h3 h4
    have en : (J (np : Int)).toNatClampNeg = np := by simp (disch := omega) only [J_lit, J_add, J_sub, J_mul, J_neg, J_lt, J_le, J_eq, J_nat, J_in, J_div]; omega
    have cc : b2 (0 ≤ c ∧ c ≤ gI N 62 1 - 1) = b2 (0 ≤ c ∧ c < J nr) := by
      rw [g1]
      have bc := ibd c
      have e := J_of c
      generalize c.toInt = z at *
      subst e
      by_cases q : 0 ≤ J z ∧ J z < J nr
      · rw [b2_t q, b2_t]
        simp (disch := omega) only [J_lit, J_add, J_sub, J_mul, J_neg, J_lt, J_le, J_eq, J_nat, J_in, J_div] at q
        simp (disch := omega) only [J_lit, J_add, J_sub, J_mul, J_neg, J_lt, J_le, J_eq, J_nat, J_in, J_div]
        omega
      · rw [b2_f q, b2_f]
        simp (disch := omega) only [J_lit, J_add, J_sub, J_mul, J_neg, J_lt, J_le, J_eq, J_nat, J_in, J_div] at q
        simp (disch := omega) only [J_lit, J_add, J_sub, J_mul, J_neg, J_lt, J_le, J_eq, J_nat, J_in, J_div]
        omega
    refine rX12_player D (d + 7) a b c N _ hLN (c_in hLN ⟨fun q => ⟨_, rfl, .refl N, (h1 fun z => b2_eq0.mp q z.1).1, (h1 fun z => b2_eq0.mp q z.1).2, hmn⟩, fun q => c_in hLN ?_⟩)
    rw [cc]
    refine ⟨fun q2 => c_in hLN ⟨fun q3 => ?_, fun q3 => ?_⟩, fun q2 => ⟨_, rfl, .refl N, (h1 fun z => b2_eq0.mp q2 z.2).1, (h1 fun z => b2_eq0.mp q2 z.2).2, hmn⟩⟩
    · have hac : (0 ≤ a ∧ a ≤ 6) ∧ (0 ≤ c ∧ c < J nr) := ⟨b2_ne0.mp q, b2_ne0.mp q2⟩
      have hb := b2_ne0.mp q3
      rw [g18, en]
      refine ⟨fun q4 => ⟨by simp (disch := omega) only [J_lit, J_add, J_sub, J_mul, J_neg, J_lt, J_le, J_eq, J_nat, J_in, J_div]; omega, fun M24 e24 => ?_⟩, fun q4 => ?_⟩
      · simp (disch := omega) only [J_lit, J_add, J_sub, J_mul, J_neg, J_lt, J_le, J_eq, J_nat, J_in, J_div] at q4
        have q4' : np < 10 := by omega
        obtain ⟨r1, r2⟩ := h4 hac hb q4'
        have k24 : gI M24 62 18 = J np := by rw [e24]; exact g18
        rw [k24, en]
        refine ⟨by simp (disch := omega) only [J_lit, J_add, J_sub, J_mul, J_neg, J_lt, J_le, J_eq, J_nat, J_in, J_div]; omega, fun M29 e29 => ?_⟩
        have k29 : gI M29 62 18 = J np := by rw [e29]; exact k24
        rw [k29, en]
        refine ⟨by simp (disch := omega) only [J_lit, J_add, J_sub, J_mul, J_neg, J_lt, J_le, J_eq, J_nat, J_in, J_div]; omega, fun M34 e34 M38 e38 => ?_⟩
        have k34 : gI M34 62 18 = J np := by rw [e34]; exact k29
        have es : (J np : Int32) + (1 : Int32) = J ((np + 1 : Nat) : Int) := by simp (disch := omega) only [J_lit, J_add, J_sub, J_mul, J_neg, J_lt, J_le, J_eq, J_nat, J_in, J_div]; congr 1
        rw [k34, es] at e38
        have k38 : gI M38 62 18 = J ((np + 1 : Nat) : Int) := by rw [e38]; rfl
        subst e24 e29 e34 e38
        refine ⟨_, rfl, (Sm.refl N).i.i.i.i, ?_, r2, hmn⟩
        rw [k38, r1]
        simp (disch := omega) only [J_lit, J_add, J_sub, J_mul, J_neg, J_lt, J_le, J_eq, J_nat, J_in, J_div]
        congr 1
        omega
      · simp (disch := omega) only [J_lit, J_add, J_sub, J_mul, J_neg, J_lt, J_le, J_eq, J_nat, J_in, J_div] at q4
        obtain ⟨r1, r2⟩ := h3 hac hb (by omega)
        exact ⟨_, rfl, .refl N, r1, r2, hmn⟩
    · obtain ⟨r1, r2⟩ := h2 ⟨b2_ne0.mp q, b2_ne0.mp q2⟩ (b2_eq0.mp q3)
      exact ⟨_, rfl, .refl N, r1, r2, hmn⟩
  have m1 : ¬ ((0 ≤ a ∧ a ≤ 6) ∧ (0 ≤ c ∧ c < J nr)) → AMi D (d + 8) mX12_player [.ref 62, .int a, .int b, .int c] M (fun y M2 => (-1 : Int32) = y ∧ Rall M2 ∧ mN M2 ≤ mN M + 1) := fun hno =>
    ms _ M hL2 e2 e4 (by omega) (fun _ => ⟨rfl, hR⟩) (fun h => absurd h hno) (fun h => absurd h hno) (fun h => absurd h hno)
  refine rX11_player D (d + 7) a b c M _ hL1 ?_
  rw [e1]
  refine ⟨fun c1 => ⟨_, rfl, .refl M, m1 fun z => ?_⟩, fun c1 => ⟨fun c2 => ⟨_, rfl, .refl M, m1 fun z => ?_⟩, fun c2 => ⟨fun c3 => ⟨_, rfl, .refl M, m1 fun z => ?_⟩, fun c3 => ⟨fun c4 => ?_, fun c4 => ⟨_, rfl, .refl M, m1 fun z => ?_⟩⟩⟩⟩⟩
  · simp only [ilt, ile, Int32.reduceToInt] at z c1
    omega
  · simp only [ilt, ile, Int32.reduceToInt] at z c2
    omega
  · simp only [ilt, ile, Int32.reduceToInt] at z c3
    omega
  · have hac : (0 ≤ a ∧ a ≤ 6) ∧ (0 ≤ c ∧ c < J nr) := by
      refine ⟨?_, ?_, c4⟩
      · simp only [ilt, ile, Int32.reduceToInt] at *
        omega
      · simp only [ilt, ile, Int32.reduceToInt] at *
        omega
    refine c_isSide hL1 ⟨fun q => ?_, fun q => ⟨_, rfl, .refl M, ?_⟩⟩
    · have hb := b2_ne0.mp q
      rw [e3]
      refine ⟨fun c5 => ?_, fun c5 => ⟨_, rfl, .refl M, ?_⟩⟩
      · simp (disch := omega) only [J_lit, J_add, J_sub, J_mul, J_neg, J_lt, J_le, J_eq, J_nat, J_in, J_div] at c5
        obtain ⟨k, hk, rfl⟩ := bd01 (n := 6) (by omega) c1 hac.1.2
        obtain ⟨v, hv, rfl⟩ := sd hb
        obtain ⟨r, hr, rfl⟩ : ∃ r : Nat, r < nr ∧ c = J r := by
          have bc := ibd c
          have e := J_of c
          generalize c.toInt = z at *
          subst e
          simp (disch := omega) only [J_lit, J_add, J_sub, J_mul, J_neg, J_lt, J_le, J_eq, J_nat, J_in, J_div] at c3 c4
          exact ⟨z.toNat, by omega, by congr 1; omega⟩
        have en : (J (np : Int)).toNatClampNeg = np := by simp (disch := omega) only [J_lit, J_add, J_sub, J_mul, J_neg, J_lt, J_le, J_eq, J_nat, J_in, J_div]; omega
        rw [en]
        refine c_newPlayer (d := d + 3) hL1 hN hk (by omega) ?_
        rw [e3]
        obtain ⟨M13, q13⟩ : ∃ M13, M13 = plI (mA M (0, kcl k)) (mN M) (J k) (J np) (J v) (J r) (5 + r) 46 := ⟨_, rfl⟩
        rw [← q13]
        have hc : plc (kcl k) := kcl_plc hk
        have hsc : Sc M M13 := by rw [q13]; exact Sc.new hN98
        have hR13 := hR.sc hsc
        have hx : Sx M M13 := hsc.1
        have hSh : Sh (mA M (0, kcl k)) (mN M) (0, kcl k) := ⟨Nat.lt_succ_self _, va_up_self _ _ _⟩
        have hPl : Pl M13 (mN M) (kcl k) r := by rw [q13]; exact Pl.mk hc (by omega) hSh
        have f1 : gI M13 0 4 = J np := (hsc.2.2.2.2.2.1 (0, 4) (by decide)).trans e3
        have f2 : gI M13 0 2 = J nr := (hsc.2.2.2.2.2.1 (0, 2) (by decide)).trans e1
        have f3 : gI M13 62 1 = J nr := (hsc.2.2.2.2.2.1 (62, 1) (by decide)).trans e2
        have f4 : gI M13 62 18 = J np := (hsc.2.2.2.2.2.1 (62, 18) (by decide)).trans e4
        have g0 : gI M13 (mN M) 0 = J k := by rw [q13]; unfold plI; rw [gI_sP, gI_sP, gI_sI, if_neg (by omega), gI_sI, if_neg (by omega), gI_sI, if_neg (by omega), gI_sI, if_pos ⟨rfl, rfl⟩]
        have g1 : gI M13 (mN M) 1 = J np := by rw [q13]; unfold plI; rw [gI_sP, gI_sP, gI_sI, if_neg (by omega), gI_sI, if_neg (by omega), gI_sI, if_pos ⟨rfl, rfl⟩]
        have g2 : gI M13 (mN M) 2 = J v := by rw [q13]; unfold plI; rw [gI_sP, gI_sP, gI_sI, if_neg (by omega), gI_sI, if_pos ⟨rfl, rfl⟩]
        have g3 : gI M13 (mN M) 3 = J r := by rw [q13]; unfold plI; rw [gI_sP, gI_sP, gI_sI, if_pos ⟨rfl, rfl⟩]
        have hN13 : mN M13 = mN M + 1 := by rw [q13]; rfl
        have hL13 : Lay 0 98 M13 := hL.ofx hx
        have h12 : (mS M13 12).1 = 6 := by rw [(hL13.sh 12 (q := (6, 10)) rfl (by omega) (by omega)).2]
        refine ⟨by simp (disch := omega) only [J_lit, J_add, J_sub, J_mul, J_neg, J_lt, J_le, J_eq, J_nat, J_in, J_div]; omega, fun p hp => ⟨kcl k, hc, by cases hp; exact hPl.1⟩, fun M21 q21 M25 q25 => ?_⟩
        have es : (J np : Int32) + (1 : Int32) = J ((np + 1 : Nat) : Int) := by simp (disch := omega) only [J_lit, J_add, J_sub, J_mul, J_neg, J_lt, J_le, J_eq, J_nat, J_in, J_div]; congr 1
        have f21 : gI M21 0 4 = J np := by rw [q21]; exact f1
        rw [f21, es] at q25
        have f25 : gI M25 0 4 = J ((np + 1 : Nat) : Int) := by rw [q25]; rfl
        have s25 : Sm M13 M25 := by rw [q25, q21]; exact ((Sm.refl M13).p h12).i
        have ea : gI M25 0 4 - (1 : Int32) = J np := by rw [f25]; simp (disch := omega) only [J_lit, J_add, J_sub, J_mul, J_neg, J_lt, J_le, J_eq, J_nat, J_in, J_div]; congr 1; omega
        rw [ea]
        refine ⟨_, rfl, hx.trans s25.x, ?_⟩
        refine ms _ M25 ((hL13.of s25).sub (by omega) (by omega)) ?_ ?_ ?_ (fun h => absurd hac h) (fun _ h => ?_) (fun _ _ h => by omega) (fun _ _ _ => ⟨rfl, ?_⟩)
        · rw [q25, q21]; exact f3
        · rw [q25, q21]; exact f4
        · rw [s25.1, hN13]
          exact Nat.le_refl _
        · exact absurd ((sd2 _).mpr hb) h
        · refine pl_all (N := mN M) hR13 f2 f1 hr7 (by omega) hk (by omega) hr hN98 hPl g0 g1 g2 g3 ?_
          rw [q25, q21]
      · simp (disch := omega) only [J_lit, J_add, J_sub, J_mul, J_neg, J_lt, J_le, J_eq, J_nat, J_in, J_div] at c5
        exact ms _ M hL2 e2 e4 (by omega) (fun h => absurd hac h) (fun _ h => absurd ((sd2 b).mpr hb) h) (fun _ _ _ => ⟨rfl, hR⟩) (fun _ _ h => by omega)
    · have hb := b2_eq0.mp q
      exact ms _ M hL2 e2 e4 (by omega) (fun h => absurd hac h) (fun _ _ => ⟨rfl, hR⟩) (fun _ h => absurd ((sd2 b).mp h) hb) (fun _ h => absurd ((sd2 b).mp h) hb)
  · exact c4 z.2.2
end
