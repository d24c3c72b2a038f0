/-! what only writes where nothing is kept -/
def relR : List Nat := [2, 5, 6, 7, 8, 9, 10, 11, 14, 16, 17, 18, 26, 27, 45, 46, 47, 49, 50, 53, 54, 63, 64, 65, 66, 67, 68, 69, 70, 74, 75, 76, 79, 81, 82, 88, 89, 91, 92, 93, 94, 95]
def relS : List (Nat × Nat) := [(0, 2), (0, 4), (0, 9), (1, 2), (25, 2), (48, 2), (62, 1), (62, 2), (62, 18), (62, 32), (62, 42), (62, 43), (62, 49)]
def Sc (M M' : Mm) : Prop := Sx M M' ∧ gP M' 12 = gP M 12 ∧ gP M' 30 = gP M 30 ∧ gP M' 52 = gP M 52 ∧ (∀ a ∈ relR, gI M' a = gI M a) ∧ (∀ q ∈ relS, gI M' q.1 q.2 = gI M q.1 q.2) ∧ (∀ a, 98 ≤ a → a < mN M → gI M' a = gI M a) ∧ ∀ a, (56 ≤ a ∧ a < 62) ∨ a = 96 → gL M' a = gL M a
theorem Sc.refl (M : Mm) : Sc M M := ⟨Sx.refl M, rfl, rfl, rfl, fun _ _ => rfl, fun _ _ => rfl, fun _ _ _ => rfl, fun _ _ => rfl⟩
theorem Sc.trans {M M1 M2 : Mm} (h : Sc M M1) (g : Sc M1 M2) : Sc M M2 := by
  obtain ⟨a1, a2, a3, a4, a5, a6, a7, a8⟩ := h
  obtain ⟨b1, b2, b3, b4, b5, b6, b7, b8⟩ := g
  exact ⟨a1.trans b1, b2.trans a2, b3.trans a3, b4.trans a4, fun a ha => (b5 a ha).trans (a5 a ha), fun a ha => (b6 a ha).trans (a6 a ha), fun a ha hb => (b7 a ha (Nat.lt_of_lt_of_le hb a1.1)).trans (a7 a ha hb), fun a ha => (b8 a ha).trans (a8 a ha)⟩
/-- a row of ints in which nothing is kept -/
theorem Sc.ri {M M1 : Mm} (h : Sc M M1) {a : Nat} {f : Nat → Int32} (h1 : relR.all (fun q => q != a) = true) (h2 : relS.all (fun q => q.1 != a) = true) (h3 : a < 98) : Sc M (rI M1 a f) := by
  refine h.trans ⟨(Sm.refl M1).ri.x, rfl, rfl, rfl, fun b hb => fr_r ?_, fun q hq => ?_, fun b hb _ => fr_r (by omega), fun _ _ => rfl⟩
  · have := List.all_eq_true.mp h1 b hb
    simpa using this
  · have := List.all_eq_true.mp h2 q hq
    rw [fr_r (by simpa using this)]
/-- an object of which only some fields are kept -/
theorem Sc.ro {M M1 : Mm} (h : Sc M M1) {a : Nat} {f : Nat → Int32} (h1 : relR.all (fun q => q != a) = true) (h2 : ∀ q ∈ relS, q.1 = a → f q.2 = gI M1 a q.2) (h3 : a < 98) : Sc M (rI M1 a f) := by
  refine h.trans ⟨(Sm.refl M1).ri.x, rfl, rfl, rfl, fun b hb => fr_r ?_, fun q hq => ?_, fun b hb _ => fr_r (by omega), fun _ _ => rfl⟩
  · have := List.all_eq_true.mp h1 b hb
    simpa using this
  · by_cases e : q.1 = a
    · rw [gI_rI, if_pos e, h2 q hq e, e]
    · rw [fr_r e]
theorem Sc.si {M M1 : Mm} (h : Sc M M1) {a k : Nat} {x : Int32} (h1 : relR.all (fun q => q != a) = true) (h2 : relS.all (fun q => !(q.1 == a && q.2 == k)) = true) (h3 : a < 98) : Sc M (sI M1 a k x) := by
  refine h.ro h1 (fun q hq e => va_up_ne _ _ ?_) h3
  intro e2
  have := List.all_eq_true.mp h2 q hq
  simp [e, e2] at this
theorem Sc.sl {M M1 : Mm} (h : Sc M M1) {a k : Nat} {x : Int64} (h1 : ¬ ((56 ≤ a ∧ a < 62) ∨ a = 96)) : Sc M (sL M1 a k x) :=
  h.trans ⟨(Sm.refl M1).l.x, rfl, rfl, rfl, fun _ _ => rfl, fun _ _ => rfl, fun _ _ _ => rfl, fun b hb => fr_l (fun e => h1 (e ▸ hb))⟩
theorem Rall.sc {M M' : Mm} (hR : Rall M) (hs : Sc M M') : Rall M' := by
  obtain ⟨hL, htb, htx, hki, hlo, hta, hw, nr, np, hru, hpl, hte, him⟩ := hR
  obtain ⟨hx, p12, p30, p52, hr, hq, h98, hl⟩ := hs
  refine ⟨hL.ofx hx, ?_, ?_, ?_, ?_, ?_, ?_, nr, np, hru.fr (hq (0, 2) (by decide)) (hq (62, 1) (by decide)) (fun j hj => hr _ ?_) (hr _ (by decide)) (hr _ (by decide)) (hr _ (by decide)) (hr _ (by decide)) (hr _ (by decide)) (hr _ (by decide)), hpl.fr hx (fun k => by rw [p12]) (hq (0, 4) (by decide)) (hq (62, 18) (by decide)) (hr _ (by decide)) (hr _ (by decide)) (hr _ (by decide)) h98, ?_, ?_⟩
  · unfold Rtb Ro Mix at htb ⊢
    rw [hr 14 (by decide), hr 63 (by decide), hr 16 (by decide), hr 17 (by decide), hr 18 (by decide)]
    exact htb
  · unfold Rtx at htx ⊢
    rw [hq (1, 2) (by decide), hq (62, 2) (by decide), hr 2 (by decide), hr 64 (by decide)]
    exact htx
  · unfold Rki at hki ⊢
    rw [hq (25, 2) (by decide), hq (62, 32) (by decide), hr 26 (by decide), hr 27 (by decide), hr 79 (by decide), hr 81 (by decide)]
    exact hki
  · unfold Rlo at hlo ⊢
    rw [hr 46 (by decide), hq (62, 49) (by decide), hr 93 (by decide)]
    exact hlo
  · intro t ht
    obtain ⟨s, n, s1, s2, s3, s4, s5, s6, s7, s8, s9⟩ := hta t ht
    rw [hr 53 (by decide), hr 94 (by decide), hr 54 (by decide), hr 95 (by decide), hl (56 + t) (by omega), hl 96 (by omega)]
    exact ⟨s, n, s1, s2, s3, s4, s5, s6, s7, s8, s9⟩
  · rw [hr 45 (by decide)]
    exact hw
  · rcases (by omega : j = 0 ∨ j = 1 ∨ j = 2 ∨ j = 3 ∨ j = 4 ∨ j = 5 ∨ j = 6) with rfl | rfl | rfl | rfl | rfl | rfl | rfl <;> decide
  · unfold Te at hte ⊢
    rw [p12, p30, hr 82 (by decide)]
    exact hte
  · unfold Rim Te Ro at him ⊢
    rw [hq (0, 9) (by decide), hq (62, 42) (by decide), hr 47 (by decide), hr 88 (by decide), hq (48, 2) (by decide), hq (62, 43) (by decide), hr 49 (by decide), hr 50 (by decide), hr 89 (by decide), hr 91 (by decide), p12, p52, hr 92 (by decide)]
    exact him
section
variable {D : GD} {d : Nat} {M : Mm}
theorem Sc.rest {M : Mm} {r o : Nat → Int32} (hg : ∀ k, k ≠ 23 → k ≠ 24 → o k = gI M 62 k) : Sc M (rI (rI M 77 r) 62 o) := by
  refine ((Sc.refl M).ri (by decide) (by decide) (by omega)).ro (by decide) (fun q hq e => ?_) (by omega)
  have hne : q.2 ≠ 23 ∧ q.2 ≠ 24 := by
    have := (by decide : ∀ q ∈ relS, q.2 ≠ 23 ∧ q.2 ≠ 24) q hq
    exact this
  exact hg _ hne.1 hne.2
theorem k_gap (hR : Rall M) : Ki D (d + 8) mX11_gap mX12_gap [] M := by
  obtain ⟨hL, ⟨T, hb, t1, t2, hx0, hx1⟩, hr⟩ := id hR
  refine rX11_gap D (d + 8) M _ (hL.sub (by omega) (by omega)) ⟨_, rfl, .refl M, ?_⟩
  refine rX12_gap D (d + 7) M _ (hL.sub (by omega) (by omega)) (c_findRest (hL.sub (by omega) (by omega)) t2 hb fun r o h0 h1 hg => ⟨_, rfl, (Sm.refl M).ri.ri, ?_, hR.sc (Sc.rest hg)⟩)
  have e0 := (hx0.uniq (by omega) h0).2.2.2
  have e1 := (hx1.uniq (by omega) h1).2.2.2
  rw [e0, e1]
  rfl
end
