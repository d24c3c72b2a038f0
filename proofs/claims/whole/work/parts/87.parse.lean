/-! RULE: what a condition is -/
abbrev Pzz : Type := Nat → Nat → Nat → Option (List Int) → Prop
/-- one: a TEST, a not, a pair of brackets -/
def sOn (ch : Nat → Int) (R0 R3 : Pzz) : Pzz := fun k p p' o =>
  ((k = 4 ∨ (ch p ≠ 33 ∧ ch p ≠ 40)) ∧ p' = (pT ch p).1 ∧ o = (pT ch p).2.map (fun t => [t])) ∨
  (k < 4 ∧ ch p = 33 ∧ ∃ o', R0 (k + 1) (p + 1) p' o' ∧ o = o'.map (fun L => L ++ [-33])) ∨
  (k < 4 ∧ ch p = 40 ∧ ∃ q o', R3 (k + 1) (p + 1) q o' ∧ ((o' = none ∧ p' = q ∧ o = none) ∨ ∃ L, o' = some L ∧ ((ch q = 41 ∧ p' = q + 1 ∧ o = some L) ∨ (ch q ≠ 41 ∧ p' = q ∧ o = none))))
/-- a row of them -/
def sRw (Ri Rl : Pzz) : Pzz := fun k p p' o => ∃ q o', Ri k p q o' ∧ ((o' = none ∧ p' = q ∧ o = none) ∨ ∃ L o2, o' = some L ∧ Rl k q p' o2 ∧ o = o2.map (fun L' => L ++ L'))
/-- the row's rest -/
def sRt (ch : Nat → Int) (c : Int) (Ri Rl : Pzz) : Pzz := fun k p p' o => (ch p ≠ c ∧ p' = p ∧ o = some []) ∨ (ch p = c ∧ ∃ q o', Ri k (p + 1) q o' ∧ ((o' = none ∧ p' = q ∧ o = none) ∨ ∃ L o2, o' = some L ∧ Rl k q p' o2 ∧ o = o2.map (fun L' => L ++ -c :: L')))
def Pa (ch : Nat → Int) : Nat → Nat → Pzz
  | 0, _ => fun _ _ _ _ => False
  | s + 1, 0 => sOn ch (Pa ch s 0) (Pa ch s 3)
  | s + 1, 1 => sRw (Pa ch s 0) (Pa ch s 2)
  | s + 1, 2 => sRt ch 38 (Pa ch s 0) (Pa ch s 2)
  | s + 1, 3 => sRw (Pa ch s 1) (Pa ch s 4)
  | s + 1, _ => sRt ch 124 (Pa ch s 1) (Pa ch s 4)
/-- the text ends somewhere -/
def Tnn (ch : Nat → Int) (n : Nat) : Prop := ∀ p, n ≤ p → ch p = -1
theorem Tnn.lt {ch : Nat → Int} {n p : Nat} (h : Tnn ch n) (z : 0 ≤ ch p) : p < n := by
  by_cases y : p < n
  · exact y
  · rw [h p (by omega)] at z
    omega
theorem idx_c {w : List Int} {x : Int} {r : Nat} (h : idx w x = some r) : r < w.length ∧ x = w.getD r 0 := by
  induction w generalizing r with
  | nil => cases h
  | cons c w ih =>
    have e : idx (c :: w) x = if x = c then some 0 else (idx w x).map (· + 1) := rfl
    rw [e] at h
    by_cases z : x = c
    · rw [if_pos z] at h
      cases h
      exact ⟨by rw [List.length_cons]; omega, z⟩
    · rw [if_neg z] at h
      cases hi : idx w x with
      | none => rw [hi] at h; cases h
      | some y =>
        rw [hi] at h
        cases h
        have := ih hi
        refine ⟨by rw [List.length_cons]; show y + 1 < w.length + 1; omega, ?_⟩
        rw [this.2]
        rfl
theorem pN_ok {ch : Nat → Int} {n p q v : Nat} (ht : Tnn ch n) (h : pN ch p = (q, some v)) : p < q ∧ q ≤ n ∧ v ≤ 99 := by
  unfold pN at h
  by_cases c1 : 48 ≤ ch p ∧ ch p ≤ 57
  · rw [if_pos c1] at h
    have l1 := ht.lt (p := p) (by omega)
    by_cases c2 : 48 ≤ ch (p + 1) ∧ ch (p + 1) ≤ 57
    · rw [if_pos c2] at h
      have l2 := ht.lt (p := p + 1) (by omega)
      cases h
      omega
    · rw [if_neg c2] at h
      cases h
      omega
  · rw [if_neg c1] at h
    cases h
theorem pN_no {ch : Nat → Int} {p q : Nat} (h : pN ch p = (q, none)) : q = p := by
  unfold pN at h
  by_cases c1 : 48 ≤ ch p ∧ ch p ≤ 57
  · rw [if_pos c1] at h
    by_cases c2 : 48 ≤ ch (p + 1) ∧ ch (p + 1) ≤ 57
    · rw [if_pos c2] at h
      cases h
    · rw [if_neg c2] at h
      cases h
  · rw [if_neg c1] at h
    cases h
    rfl
/-- what a TEST's reading says -/
theorem pT_c (ch : Nat → Int) (p : Nat) : (idx [108, 111, 116, 100] (ch p) = none ∧ pT ch p = (p, none)) ∨ ∃ f : Nat, idx [108, 111, 116, 100] (ch p) = some f ∧ f < 4 ∧ ((idx [60, 61, 62] (ch (p + 1)) = none ∧ pT ch p = (p + 1, none)) ∨ ∃ s : Nat, idx [60, 61, 62] (ch (p + 1)) = some s ∧ s < 3 ∧ ((pN ch (p + 2) = (p + 2, none) ∧ pT ch p = (p + 2, none)) ∨ ∃ q v, pN ch (p + 2) = (q, some v) ∧ pT ch p = (q, some (1000 * (f : Int) + 100 * (s : Int) + (v : Int))))) := by
  unfold pT
  cases h1 : idx [108, 111, 116, 100] (ch p) with
  | none => exact Or.inl ⟨rfl, rfl⟩
  | some f =>
    refine Or.inr ⟨f, rfl, (idx_c h1).1, ?_⟩
    cases h2 : idx [60, 61, 62] (ch (p + 1)) with
    | none => exact Or.inl ⟨rfl, rfl⟩
    | some s =>
      refine Or.inr ⟨s, rfl, (idx_c h2).1, ?_⟩
      cases h3 : pN ch (p + 2) with
      | mk q o =>
        cases o with
        | none =>
          have := pN_no h3
          subst this
          exact Or.inl ⟨rfl, rfl⟩
        | some v => exact Or.inr ⟨q, v, rfl, rfl⟩
theorem pT_ok {ch : Nat → Int} {n p q : Nat} {t : Int} (ht : Tnn ch n) (h : pT ch p = (q, some t)) : p + 3 ≤ q ∧ q ≤ n ∧ tkOk t ∧ 0 ≤ t := by
  rcases pT_c ch p with ⟨_, e⟩ | ⟨f, h1, hf, ⟨_, e⟩ | ⟨s, h2, hs, ⟨_, e⟩ | ⟨q', v, h3, e⟩⟩⟩
  · rw [e] at h; cases h
  · rw [e] at h; cases h
  · rw [e] at h; cases h
  · rw [e] at h
    cases h
    have := pN_ok ht h3
    refine ⟨by omega, by omega, Or.inr (Or.inr (Or.inr ⟨by omega, by omega, by omega⟩)), by omega⟩
theorem pT_le {ch : Nat → Int} {n p : Nat} (ht : Tnn ch n) (hp : p ≤ n) : p ≤ (pT ch p).1 ∧ (pT ch p).1 ≤ n := by
  rcases pT_c ch p with ⟨_, e⟩ | ⟨f, h1, hf, h⟩
  · rw [e]; exact ⟨Nat.le_refl p, hp⟩
  · have a1 := (idx_c h1).2
    have l1 := ht.lt (p := p) (by rw [a1]; rcases (by omega : f = 0 ∨ f = 1 ∨ f = 2 ∨ f = 3) with rfl | rfl | rfl | rfl <;> decide)
    rcases h with ⟨_, e⟩ | ⟨s, h2, hs, h⟩
    · rw [e]; exact ⟨Nat.le_succ p, l1⟩
    · have a2 := (idx_c h2).2
      have l2 := ht.lt (p := p + 1) (by rw [a2]; rcases (by omega : s = 0 ∨ s = 1 ∨ s = 2) with rfl | rfl | rfl <;> decide)
      rcases h with ⟨_, e⟩ | ⟨q', v, h3, e⟩
      · rw [e]
        exact ⟨by show p ≤ p + 2; omega, l2⟩
      · have := pT_ok ht e
        rw [e]
        exact ⟨by show p ≤ q'; omega, this.2.1⟩
def nd (md k : Nat) : Nat := 1 + 2 * (4 - k) + [0, 1, 0, 2, 1].getD md 0
def upp (md : Nat) : Nat := [1, 1, 0, 1, 0].getD md 0
/-- what every reading keeps -/
def Pk (n md k p p' : Nat) (o : Option (List Int)) : Prop := p ≤ p' ∧ p' ≤ n ∧ ∀ L, o = some L → (upp md = 1 → p < p') ∧ p + L.length ≤ p' ∧ (∀ t ∈ L, tkOk t) ∧ ∀ R h, upp md + h ≥ 1 → h + nd md k ≤ 20 → hgt (L ++ R) h = hgt R (h + upp md)
theorem hgt_not (R : List Int) {h : Nat} (hh : 1 ≤ h) : hgt (-33 :: R) h = hgt R h := by
  have e : hgt (-33 :: R) h = if (-33 : Int) = -33 then (if h = 0 then none else hgt R h) else if (-33 : Int) < 0 then (if h < 2 then none else hgt R (h - 1)) else (if 20 ≤ h then none else hgt R (h + 1)) := rfl
  rw [e, if_pos rfl, if_neg (by omega)]
theorem hgt_two {c : Int} (R : List Int) {h : Nat} (hc : c < 0) (h33 : c ≠ -33) (hh : 2 ≤ h) : hgt (c :: R) h = hgt R (h - 1) := by
  have e : hgt (c :: R) h = if c = -33 then (if h = 0 then none else hgt R h) else if c < 0 then (if h < 2 then none else hgt R (h - 1)) else (if 20 ≤ h then none else hgt R (h + 1)) := rfl
  rw [e, if_neg h33, if_pos hc, if_neg (by omega)]
theorem hgt_test {t : Int} (R : List Int) {h : Nat} (ht : 0 ≤ t) (hh : h < 20) : hgt (t :: R) h = hgt R (h + 1) := by
  have e : hgt (t :: R) h = if t = -33 then (if h = 0 then none else hgt R h) else if t < 0 then (if h < 2 then none else hgt R (h - 1)) else (if 20 ≤ h then none else hgt R (h + 1)) := rfl
  rw [e, if_neg (by omega), if_neg (by omega), if_neg (by omega)]
section
variable {ch : Nat → Int} {n : Nat}
theorem sRw_k {Ri Rl : Pzz} {mi ml mc k p p' : Nat} {o : Option (List Int)} (ui : upp mi = 1) (ul : upp ml = 0) (uc : upp mc = 1) (ni : nd mi k ≤ nd mc k) (nl : nd ml k + 1 ≤ nd mc k) (hi : ∀ q o, Ri k p q o → Pk n mi k p q o) (hl : ∀ q p' o, q ≤ n → Rl k q p' o → Pk n ml k q p' o) (h : sRw Ri Rl k p p' o) : Pk n mc k p p' o := by
  obtain ⟨q, o', h1, h2⟩ := h
  have a := hi q o' h1
  rcases h2 with ⟨rfl, rfl, rfl⟩ | ⟨L, o2, rfl, h3, rfl⟩
  · exact ⟨a.1, a.2.1, fun L z => by cases z⟩
  · have b := hl q p' o2 a.2.1 h3
    refine ⟨by have := a.1; have := b.1; omega, b.2.1, fun L' z => ?_⟩
    cases o2 with
    | none => cases z
    | some L2 =>
      cases z
      obtain ⟨a1, a2, a3, a4⟩ := a.2.2 L rfl
      obtain ⟨b1, b2, b3, b4⟩ := b.2.2 L2 rfl
      have a5 := a1 ui
      have b5 := b.1
      refine ⟨fun _ => by omega, by rw [List.length_append]; omega, fun t ht => ?_, fun R h h1 h2 => ?_⟩
      · rcases List.mem_append.1 ht with ht | ht
        · exact a3 t ht
        · exact b3 t ht
      · rw [List.append_assoc, a4 _ h (by omega) (by omega), ui, b4 R (h + 1) (by omega) (by omega), ul, uc]
theorem sRt_k {Ri Rl : Pzz} {c : Int} {mi ml k p p' : Nat} {o : Option (List Int)} (ht : Tnn ch n) (hp : p ≤ n) (hc : c = 38 ∨ c = 124) (ui : upp mi = 1) (ul : upp ml = 0) (ni : nd mi k ≤ nd ml k) (hi : ∀ q o, p + 1 ≤ n → Ri k (p + 1) q o → Pk n mi k (p + 1) q o) (hl : ∀ q p' o, q ≤ n → Rl k q p' o → Pk n ml k q p' o) (h : sRt ch c Ri Rl k p p' o) : Pk n ml k p p' o := by
  rcases h with ⟨_, rfl, rfl⟩ | ⟨hcp, q, o', h1, h2⟩
  · refine ⟨Nat.le_refl _, hp, fun L z => ?_⟩
    cases z
    refine ⟨fun z => by omega, Nat.le_refl _, fun t ht => (by cases ht), fun R h h1 h2 => ?_⟩
    rw [ul]
    rfl
  · have hp1 : p + 1 ≤ n := ht.lt (p := p) (by omega)
    have a := hi q o' hp1 h1
    have a0 := a.1
    rcases h2 with ⟨rfl, rfl, rfl⟩ | ⟨L, o2, rfl, h3, rfl⟩
    · exact ⟨by omega, a.2.1, fun L z => by cases z⟩
    · have b := hl q p' o2 a.2.1 h3
      refine ⟨by have := b.1; omega, b.2.1, fun L' z => ?_⟩
      cases o2 with
      | none => cases z
      | some L2 =>
        cases z
        obtain ⟨a1, a2, a3, a4⟩ := a.2.2 L rfl
        obtain ⟨b1, b2, b3, b4⟩ := b.2.2 L2 rfl
        have a5 := a1 ui
        refine ⟨fun z => by omega, by rw [List.length_append, List.length_cons]; omega, fun t ht => ?_, fun R h h1 h2 => ?_⟩
        · rcases List.mem_append.1 ht with ht | ht
          · exact a3 t ht
          · rcases List.mem_cons.1 ht with rfl | ht
            · rcases hc with rfl | rfl
              · exact Or.inr (Or.inl rfl)
              · exact Or.inr (Or.inr (Or.inl rfl))
            · exact b3 t ht
        · rw [List.append_assoc, a4 _ h (by omega) (by omega), ui, List.cons_append, hgt_two _ (by omega) (by omega) (by omega)]
          show hgt (L2 ++ R) h = _
          rw [b4 R h (by omega) h2]
theorem sOn_k {R0 R3 : Pzz} {k p p' : Nat} {o : Option (List Int)} (ht : Tnn ch n) (hp : p ≤ n) (hk : k ≤ 4) (h0 : ∀ q o, k < 4 → p + 1 ≤ n → R0 (k + 1) (p + 1) q o → Pk n 0 (k + 1) (p + 1) q o) (h3 : ∀ q o, k < 4 → p + 1 ≤ n → R3 (k + 1) (p + 1) q o → Pk n 3 (k + 1) (p + 1) q o) (h : sOn ch R0 R3 k p p' o) : Pk n 0 k p p' o := by
  have u0 : upp 0 = 1 := rfl
  have u3 : upp 3 = 1 := rfl
  rcases h with ⟨_, rfl, rfl⟩ | ⟨hk4, hc, o', h1, rfl⟩ | ⟨hk4, hc, q, o', h1, h2⟩
  · refine ⟨(pT_le ht hp).1, (pT_le ht hp).2, fun L z => ?_⟩
    cases e : pT ch p with
    | mk q o =>
      rw [e] at z
      cases o with
      | none => cases z
      | some t =>
        cases z
        obtain ⟨t1, t2, t3, t4⟩ := pT_ok ht e
        refine ⟨fun _ => by show p < q; omega, by show p + 1 ≤ q; omega, fun x hx => ?_, fun R h _ hh => ?_⟩
        · rw [List.mem_singleton.1 hx]
          exact t3
        · unfold nd at hh
          exact hgt_test R t4 (by omega)
  · have hp1 : p + 1 ≤ n := ht.lt (p := p) (by omega)
    have a := h0 p' o' hk4 hp1 h1
    have a0 := a.1
    refine ⟨by omega, a.2.1, fun L' z => ?_⟩
    cases o' with
    | none => cases z
    | some L =>
      cases z
      obtain ⟨a1, a2, a3, a4⟩ := a.2.2 L rfl
      refine ⟨fun _ => by omega, by rw [List.length_append]; show p + (L.length + 1) ≤ p'; omega, fun t ht => ?_, fun R h h1 h2 => ?_⟩
      · rcases List.mem_append.1 ht with ht | ht
        · exact a3 t ht
        · rw [List.mem_singleton.1 ht]
          exact Or.inl rfl
      · have hn : nd 0 (k + 1) ≤ nd 0 k := by unfold nd; show 1 + 2 * (4 - (k + 1)) + 0 ≤ 1 + 2 * (4 - k) + 0; omega
        rw [List.append_assoc, a4 _ h (by omega) (by omega), u0]
        exact hgt_not R (by omega)
  · have hp1 : p + 1 ≤ n := ht.lt (p := p) (by omega)
    have a := h3 q o' hk4 hp1 h1
    have a0 := a.1
    rcases h2 with ⟨rfl, rfl, rfl⟩ | ⟨L, rfl, ⟨hq, rfl, rfl⟩ | ⟨hq, rfl, rfl⟩⟩
    · exact ⟨by omega, a.2.1, fun L z => by cases z⟩
    · have hq1 : q < n := ht.lt (p := q) (by omega)
      refine ⟨by omega, hq1, fun L' z => ?_⟩
      cases z
      obtain ⟨a1, a2, a3, a4⟩ := a.2.2 L rfl
      refine ⟨fun _ => by omega, by omega, a3, fun R h h1 h2 => ?_⟩
      have hn : nd 3 (k + 1) ≤ nd 0 k := by unfold nd; show 1 + 2 * (4 - (k + 1)) + 2 ≤ 1 + 2 * (4 - k) + 0; omega
      exact a4 R h (by omega) (by omega)
    · exact ⟨by omega, a.2.1, fun L z => by cases z⟩
theorem pa_k (ht : Tnn ch n) : ∀ s md k p p' o, md ≤ 4 → k ≤ 4 → p ≤ n → Pa ch s md k p p' o → Pk n md k p p' o := by
  intro s
  induction s with
  | zero => intro md k p p' o _ _ _ h; exact absurd h (fun z => z)
  | succ s ih =>
    intro md k p p' o hmd hk hp h
    have m01 : nd 0 k ≤ nd 1 k := by unfold nd; show 1 + 2 * (4 - k) + 0 ≤ 1 + 2 * (4 - k) + 1; omega
    have m21 : nd 2 k + 1 ≤ nd 1 k := by unfold nd; show 1 + 2 * (4 - k) + 0 + 1 ≤ 1 + 2 * (4 - k) + 1; omega
    have m13 : nd 1 k ≤ nd 3 k := by unfold nd; show 1 + 2 * (4 - k) + 1 ≤ 1 + 2 * (4 - k) + 2; omega
    have m43 : nd 4 k + 1 ≤ nd 3 k := by unfold nd; show 1 + 2 * (4 - k) + 1 + 1 ≤ 1 + 2 * (4 - k) + 2; omega
    rcases (by omega : md = 0 ∨ md = 1 ∨ md = 2 ∨ md = 3 ∨ md = 4) with rfl | rfl | rfl | rfl | rfl
    · exact sOn_k ht hp hk (fun q o h1 h2 h3 => ih 0 _ _ _ _ (by omega) (by omega) h2 h3) (fun q o h1 h2 h3 => ih 3 _ _ _ _ (by omega) (by omega) h2 h3) h
    · exact sRw_k (mi := 0) (ml := 2) rfl rfl rfl m01 m21 (fun q o h => ih 0 _ _ _ _ (by omega) hk hp h) (fun q p' o hq h => ih 2 _ _ _ _ (by omega) hk hq h) h
    · exact sRt_k (mi := 0) (ml := 2) ht hp (Or.inl rfl) rfl rfl (Nat.le_refl _) (fun q o hq h => ih 0 _ _ _ _ (by omega) hk hq h) (fun q p' o hq h => ih 2 _ _ _ _ (by omega) hk hq h) h
    · exact sRw_k (mi := 1) (ml := 4) rfl rfl rfl m13 m43 (fun q o h => ih 1 _ _ _ _ (by omega) hk hp h) (fun q p' o hq h => ih 4 _ _ _ _ (by omega) hk hq h) h
    · exact sRt_k (mi := 1) (ml := 4) ht hp (Or.inr rfl) rfl rfl (Nat.le_refl _) (fun q o hq h => ih 1 _ _ _ _ (by omega) hk hq h) (fun q p' o hq h => ih 4 _ _ _ _ (by omega) hk hq h) h
/-- every text is read somehow -/
theorem pa_ex (ht : Tnn ch n) : ∀ s md k p, md ≤ 4 → k ≤ 4 → p ≤ n → 3 * (n - p) + [0, 1, 0, 2, 0].getD md 0 < s → ∃ p' o, Pa ch s md k p p' o := by
  intro s
  induction s with
  | zero => intro md k p _ _ _ h; omega
  | succ s ih =>
    intro md k p hmd hk hp hs
    have go : ∀ mi ml, mi ≤ 4 → ml ≤ 4 → [0, 1, 0, 2, 0].getD ml 0 = 0 → [0, 1, 0, 2, 0].getD mi 0 + 1 = [0, 1, 0, 2, 0].getD md 0 → ∃ p' o, sRw (Pa ch s mi) (Pa ch s ml) k p p' o := by
      intro mi ml h1 h2 h3 h4
      obtain ⟨q, o', e⟩ := ih mi k p h1 hk hp (by omega)
      have a := pa_k ht s mi k p q o' h1 hk hp e
      cases o' with
      | none => exact ⟨q, none, q, none, e, Or.inl ⟨rfl, rfl, rfl⟩⟩
      | some L =>
        have := a.1
        have := a.2.1
        obtain ⟨p', o2, e2⟩ := ih ml k q h2 hk a.2.1 (by omega)
        exact ⟨p', _, q, some L, e, Or.inr ⟨L, o2, rfl, e2, rfl⟩⟩
    have gl : ∀ c mi ml, (c = 38 ∨ c = 124) → mi ≤ 4 → ml ≤ 4 → [0, 1, 0, 2, 0].getD ml 0 = 0 → [0, 1, 0, 2, 0].getD mi 0 ≤ 1 → ∃ p' o, sRt ch c (Pa ch s mi) (Pa ch s ml) k p p' o := by
      intro c mi ml hc h1 h2 h3 h4
      by_cases e : ch p = c
      · have hp1 : p < n := ht.lt (p := p) (by omega)
        obtain ⟨q, o', e'⟩ := ih mi k (p + 1) h1 hk hp1 (by omega)
        have a := pa_k ht s mi k (p + 1) q o' h1 hk hp1 e'
        cases o' with
        | none => exact ⟨q, none, Or.inr ⟨e, q, none, e', Or.inl ⟨rfl, rfl, rfl⟩⟩⟩
        | some L =>
          have := a.1
          have := a.2.1
          obtain ⟨p', o2, e2⟩ := ih ml k q h2 hk a.2.1 (by omega)
          exact ⟨p', _, Or.inr ⟨e, q, some L, e', Or.inr ⟨L, o2, rfl, e2, rfl⟩⟩⟩
      · exact ⟨p, some [], Or.inl ⟨e, rfl, rfl⟩⟩
    rcases (by omega : md = 0 ∨ md = 1 ∨ md = 2 ∨ md = 3 ∨ md = 4) with rfl | rfl | rfl | rfl | rfl
    · show ∃ p' o, sOn ch (Pa ch s 0) (Pa ch s 3) k p p' o
      have z0 : [0, 1, 0, 2, 0].getD 0 0 = 0 := rfl
      have z3 : [0, 1, 0, 2, 0].getD 3 0 = 2 := rfl
      by_cases c0 : k = 4 ∨ (ch p ≠ 33 ∧ ch p ≠ 40)
      · exact ⟨_, _, Or.inl ⟨c0, rfl, rfl⟩⟩
      · by_cases c1 : ch p = 33
        · have hp1 : p < n := ht.lt (p := p) (by omega)
          obtain ⟨q, o', e'⟩ := ih 0 (k + 1) (p + 1) (by omega) (by omega) hp1 (by omega)
          exact ⟨q, _, Or.inr (Or.inl ⟨by omega, c1, o', e', rfl⟩)⟩
        · have c2 : ch p = 40 := by omega
          have hp1 : p < n := ht.lt (p := p) (by omega)
          obtain ⟨q, o', e'⟩ := ih 3 (k + 1) (p + 1) (by omega) (by omega) hp1 (by omega)
          cases o' with
          | none => exact ⟨q, none, Or.inr (Or.inr ⟨by omega, c2, q, none, e', Or.inl ⟨rfl, rfl, rfl⟩⟩)⟩
          | some L =>
            by_cases c3 : ch q = 41
            · exact ⟨q + 1, some L, Or.inr (Or.inr ⟨by omega, c2, q, some L, e', Or.inr ⟨L, rfl, Or.inl ⟨c3, rfl, rfl⟩⟩⟩)⟩
            · exact ⟨q, none, Or.inr (Or.inr ⟨by omega, c2, q, some L, e', Or.inr ⟨L, rfl, Or.inr ⟨c3, rfl, rfl⟩⟩⟩)⟩
    · exact go 0 2 (by omega) (by omega) rfl rfl
    · exact gl 38 0 2 (Or.inl rfl) (by omega) (by omega) rfl (by decide)
    · exact go 1 4 (by omega) (by omega) rfl rfl
    · exact gl 124 1 4 (Or.inr rfl) (by omega) (by omega) rfl (by decide)
end
