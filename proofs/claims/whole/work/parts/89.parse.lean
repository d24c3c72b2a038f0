/-! RULE: clauses, and the class's whole reading -/
/-- a clause's beginning: what it gives -/
def hG (ch : Nat → Int) (p : Nat) : Nat × Option Nat :=
  if ch p = 103 then
    (match pW ch [103, 111, 32] p with
    | (q, false) => (q, none)
    | (q, true) => match idx [48, 49, 50] (ch q) with
      | none => (q, none)
      | some g => match pW ch [32] (q + 1) with
        | (r, false) => (r, none)
        | (r, true) => (r, some g))
  else
    match pW ch [112, 114, 101, 115, 115, 32] p with
    | (q, false) => (q, none)
    | (q, true) => (q, some 3)
def hH (ch : Nat → Int) (p : Nat) : Nat × Option (Nat × Nat) :=
  match hG ch p with
  | (q, none) => (q, none)
  | (q, some g) => match pN ch q with
    | (r, none) => (r, none)
    | (r, some v) => match pW ch [32] r with
      | (t, false) => (t, none)
      | (t, true) => (t, some (g, v))
def Pc (ch : Nat → Int) (s p p' : Nat) (o : Option Cls) : Prop := ∃ q h, hH ch p = (q, h) ∧ ((h = none ∧ p' = q ∧ o = none) ∨ ∃ g v o', h = some (g, v) ∧ Pa ch s 3 0 q p' o' ∧ o = o'.map (fun L => (g, v, L)))
def Pcs (ch : Nat → Int) (s n : Nat) : Nat → Nat → Nat → Option (List Cls) → Prop
  | 0, p, p', o => p' = p ∧ o = if p = n then some [] else none
  | m + 1, p, p', o => (ch p ≠ 59 ∧ p' = p ∧ o = if p = n then some [] else none) ∨ (ch p = 59 ∧ ∃ q c, Pc ch s (p + 1) q c ∧ ((c = none ∧ p' = q ∧ o = none) ∨ ∃ C o2, c = some C ∧ Pcs ch s n m q p' o2 ∧ o = o2.map (fun R => C :: R)))
/-- a RULE -/
def Prl (ch : Nat → Int) (s n p' : Nat) (o : Option (List Cls)) : Prop := ∃ q c, Pc ch s 0 q c ∧ ((c = none ∧ p' = q ∧ o = none) ∨ ∃ C o2, c = some C ∧ Pcs ch s n 7 q p' o2 ∧ o = o2.map (fun R => C :: R))
section
variable {ch : Nat → Int} {n : Nat}
theorem pW_le (ht : Tnn ch n) : ∀ (w : List Int) (p q : Nat) (b : Bool), (∀ c ∈ w, 0 ≤ c) → p ≤ n → pW ch w p = (q, b) → p ≤ q ∧ q ≤ n := by
  intro w
  induction w with
  | nil =>
    intro p q b _ hp h
    cases h
    exact ⟨Nat.le_refl _, hp⟩
  | cons c w ih =>
    intro p q b hw hp h
    have e : pW ch (c :: w) p = if ch p = c then pW ch w (p + 1) else (p, false) := rfl
    rw [e] at h
    by_cases z : ch p = c
    · rw [if_pos z] at h
      have hp1 : p < n := ht.lt (p := p) (by rw [z]; exact hw c (List.mem_cons_self))
      have := ih (p + 1) q b (fun x hx => hw x (List.mem_cons_of_mem _ hx)) hp1 h
      omega
    · rw [if_neg z] at h
      cases h
      exact ⟨Nat.le_refl _, hp⟩
theorem idx_n {w : List Int} {x : Int} {r : Nat} (hw : ∀ c ∈ w, 0 ≤ c) (h : idx w x = some r) : 0 ≤ x := by
  obtain ⟨h1, h2⟩ := idx_c h
  rw [h2, List.getD_eq_getElem?_getD, List.getElem?_eq_getElem h1]
  exact hw _ (List.getElem_mem h1)
theorem hG_le (ht : Tnn ch n) {p q : Nat} {o : Option Nat} (hp : p ≤ n) (h : hG ch p = (q, o)) : p ≤ q ∧ q ≤ n ∧ ∀ g, o = some g → g ≤ 3 := by
  unfold hG at h
  by_cases c0 : ch p = 103
  · rw [if_pos c0] at h
    cases e1 : pW ch [103, 111, 32] p with
    | mk q1 b1 =>
      have l1 := pW_le ht _ p q1 b1 (by decide) hp e1
      rw [e1] at h
      cases b1 with
      | false => cases h; exact ⟨l1.1, l1.2, fun g z => by cases z⟩
      | true =>
        cases e2 : idx [48, 49, 50] (ch q1) with
        | none =>
          simp only [e2] at h
          cases h
          exact ⟨l1.1, l1.2, fun g z => by cases z⟩
        | some g =>
          have l2 : q1 < n := ht.lt (p := q1) (idx_n (by decide) e2)
          have hg := (idx_c e2).1
          cases e3 : pW ch [32] (q1 + 1) with
          | mk r b3 =>
            have l3 := pW_le ht _ (q1 + 1) r b3 (by decide) l2 e3
            simp only [e2, e3] at h
            cases b3 with
            | false => cases h; exact ⟨by omega, l3.2, fun g z => by cases z⟩
            | true =>
              cases h
              refine ⟨by omega, l3.2, fun g z => ?_⟩
              cases z
              have hg' : g < 3 := hg
              omega
  · rw [if_neg c0] at h
    cases e1 : pW ch [112, 114, 101, 115, 115, 32] p with
    | mk q1 b1 =>
      have l1 := pW_le ht _ p q1 b1 (by decide) hp e1
      rw [e1] at h
      cases b1 with
      | false => cases h; exact ⟨l1.1, l1.2, fun g z => by cases z⟩
      | true => cases h; exact ⟨l1.1, l1.2, fun g z => by cases z; omega⟩
theorem hH_le (ht : Tnn ch n) {p q : Nat} {o : Option (Nat × Nat)} (hp : p ≤ n) (h : hH ch p = (q, o)) : p ≤ q ∧ q ≤ n ∧ ∀ g v, o = some (g, v) → g ≤ 3 ∧ v ≤ 99 ∧ p < q := by
  unfold hH at h
  cases e1 : hG ch p with
  | mk q1 o1 =>
    have l1 := hG_le ht hp e1
    rw [e1] at h
    cases o1 with
    | none => cases h; exact ⟨l1.1, l1.2.1, fun g v z => by cases z⟩
    | some g =>
      have hg := l1.2.2 g rfl
      cases e2 : pN ch q1 with
      | mk r o2 =>
        simp only [e2] at h
        cases o2 with
        | none =>
          have := pN_no e2
          cases h
          exact ⟨by omega, by omega, fun g v z => by cases z⟩
        | some v =>
          have l2 := pN_ok ht e2
          cases e3 : pW ch [32] r with
          | mk t b =>
            have l3 := pW_le ht _ r t b (by decide) l2.2.1 e3
            simp only [e3] at h
            cases b with
            | false => cases h; exact ⟨by omega, l3.2, fun g v z => by cases z⟩
            | true =>
              cases h
              refine ⟨by omega, l3.2, fun g v z => ?_⟩
              cases z
              omega
theorem Pc_k (ht : Tnn ch n) {s p p' : Nat} {o : Option Cls} (hp : p ≤ n) (h : Pc ch s p p' o) : p ≤ p' ∧ p' ≤ n ∧ ∀ C, o = some C → ClOk C ∧ p + (encC C).length ≤ p' := by
  obtain ⟨q, hh, e, h⟩ := h
  have l := hH_le ht hp e
  rcases h with ⟨rfl, rfl, rfl⟩ | ⟨g, v, o', rfl, h1, rfl⟩
  · exact ⟨l.1, l.2.1, fun C z => by cases z⟩
  · have a := pa_k ht s 3 0 q p' o' (by omega) (by omega) l.2.1 h1
    obtain ⟨l1, l2, l3⟩ := l.2.2 g v rfl
    refine ⟨by have := a.1; omega, a.2.1, fun C z => ?_⟩
    cases o' with
    | none => cases z
    | some L =>
      cases z
      obtain ⟨a1, a2, a3, a4⟩ := a.2.2 L rfl
      refine ⟨⟨l1, l2, a3, ?_⟩, ?_⟩
      · have := a4 [] 0 (by show 1 + 0 ≥ 1; omega) (by decide)
        rw [List.append_nil] at this
        exact this
      · show p + (L.map tkC ++ [_]).length ≤ p'
        rw [List.length_append, List.length_map]
        show p + (L.length + 1) ≤ p'
        omega
theorem Pc_ex (ht : Tnn ch n) (p : Nat) (hp : p ≤ n) : ∃ p' o, Pc ch (3 * n + 3) p p' o := by
  cases e : hH ch p with
  | mk q h =>
    have l := hH_le ht hp e
    cases h with
    | none => exact ⟨q, none, q, none, e, Or.inl ⟨rfl, rfl, rfl⟩⟩
    | some gv =>
      obtain ⟨p', o', h1⟩ := pa_ex ht (3 * n + 3) 3 0 q (by omega) (by omega) l.2.1 (by show 3 * (n - q) + 2 < 3 * n + 3; omega)
      exact ⟨p', _, q, some gv, e, Or.inr ⟨gv.1, gv.2, o', rfl, h1, rfl⟩⟩
theorem Pcs_ex (ht : Tnn ch n) : ∀ m p, p ≤ n → ∃ p' o, Pcs ch (3 * n + 3) n m p p' o := by
  intro m
  induction m with
  | zero => intro p _; exact ⟨p, _, rfl, rfl⟩
  | succ m ih =>
    intro p hp
    by_cases c : ch p = 59
    · have hp1 : p < n := ht.lt (p := p) (by omega)
      obtain ⟨q, o, h⟩ := Pc_ex ht (p + 1) hp1
      have a := Pc_k ht hp1 h
      cases o with
      | none => exact ⟨q, none, Or.inr ⟨c, q, none, h, Or.inl ⟨rfl, rfl, rfl⟩⟩⟩
      | some C =>
        obtain ⟨p', o2, h2⟩ := ih q a.2.1
        exact ⟨p', _, Or.inr ⟨c, q, some C, h, Or.inr ⟨C, o2, rfl, h2, rfl⟩⟩⟩
    · exact ⟨p, _, Or.inl ⟨c, rfl, rfl⟩⟩
theorem Prl_ex (ht : Tnn ch n) : ∃ p' o, Prl ch (3 * n + 3) n p' o := by
  obtain ⟨q, o, h⟩ := Pc_ex ht 0 (by omega)
  have a := Pc_k ht (by omega) h
  cases o with
  | none => exact ⟨q, none, q, none, h, Or.inl ⟨rfl, rfl, rfl⟩⟩
  | some C =>
    obtain ⟨p', o2, h2⟩ := Pcs_ex ht 7 q a.2.1
    exact ⟨p', _, q, some C, h, Or.inr ⟨C, o2, rfl, h2, rfl⟩⟩
end
section
variable {D : GD} {d : Nat} {ch : Nat → Int} {n : Nat} {M0 M : Mm} {p : Nat} {f : Option (List Int)}
theorem pF_s {ch : Nat → Int} {w : List Int} {p q : Nat} {b : Bool} {A : List Int} (e : pW ch w p = (q, b)) : pF ch w p (some A) = (q, if b = true then some A else none) := by
  unfold pF
  rw [e]
  rfl
/-- behind a clause's gain -/
theorem t_tail (hE : ExOk D) {s : Nat} {x : Int32} {P : Mm → Prop} (hL : Lay 1 4 M0) (hc : Ctx ch n M0) (h : Rd ch n M0 M p f) (k0 : f = none → ∀ M', Rd ch n M0 M' p none → P M')
    (k1 : ∀ A, f = some A → ∃ g : Nat, g ≤ 3 ∧ x = J g ∧ ((∃ q, pN ch p = (q, none) ∧ ∀ M', Rd ch n M0 M' q none → P M') ∨ ∃ r v, pN ch p = (r, some v) ∧ ((∃ t, pW ch [32] r = (t, false) ∧ ∀ M', Rd ch n M0 M' t none → P M') ∨ ∃ t p' o', pW ch [32] r = (t, true) ∧ Pa ch s 3 0 t p' o' ∧ ∀ M', Rd ch n M0 M' p' (o'.map (fun L => A ++ encC (g, v, L))) → P M')) ) : AMi D (d + 19) mX6_passNumber [.ref 1] M (fun x15 M14 => AMv D (d + 19) mX6_pass [.ref 1, .ref (1000000 + 2)] M14 (fun M20 => AMv D (d + 19) mX6_parseEither [.ref 1, .int (0 : Int32)] M20 (fun M26 => AMv D (d + 19) mX6_make [.ref 1, .int (5 : Int32), .int x, .int (0 : Int32), .int x15] M26 P))) := by
  have dead : ∀ (q : Nat) (N : Mm) (w x y z : Int32) (Q : Mm → Prop), Rd ch n M0 N q none → (∀ M', Rd ch n M0 M' q none → Q M') → AMv D (d + 19) mX6_make [.ref 1, .int w, .int x, .int y, .int z] N Q := fun q N w x y z Q hN hQ => t_make (x := 0) hL hc hN (fun z => by cases z) (fun A z => by cases z) hQ
  have dead2 : ∀ (q : Nat) (N : Mm) (y z : Int32) (Q : Mm → Prop), Rd ch n M0 N q none → (∀ M', Rd ch n M0 M' q none → Q M') → AMv D (d + 19) mX6_parseEither [.ref 1, .int (0 : Int32)] N (fun M26 => AMv D (d + 19) mX6_make [.ref 1, .int (5 : Int32), .int y, .int (0 : Int32), .int z] M26 Q) := fun q N y z Q hN hQ => f_either (d := d + 12) (k := 0) hE (by omega) hL hc hN (fun N' h' => dead q N' _ _ _ _ Q h' hQ)
  have dead3 : ∀ (q : Nat) (N : Mm) (y z : Int32) (Q : Mm → Prop), Rd ch n M0 N q none → (∀ M', Rd ch n M0 M' q none → Q M') → AMv D (d + 19) mX6_pass [.ref 1, .ref (1000000 + 2)] N (fun M20 => AMv D (d + 19) mX6_parseEither [.ref 1, .int (0 : Int32)] M20 (fun M26 => AMv D (d + 19) mX6_make [.ref 1, .int (5 : Int32), .int y, .int (0 : Int32), .int z] M26 Q)) := fun q N y z Q hN hQ => t_pass (d := d + 15) hE (by omega) hL hc hN (fun N' h' => dead2 q N' _ _ Q h' hQ)
  have ht := hc.tn
  refine t_num (d := d + 18) hL hc h (fun e N hN => dead3 p N _ _ _ hN (fun N' hN' => ?_)) (fun A q v e e2 N hN => ?_)
  · cases f with
    | none => exact k0 rfl N' hN'
    | some A =>
      rcases e with e | e
      · cases e
      · obtain ⟨g, _, _, h⟩ := k1 A rfl
        rcases h with ⟨q, h1, h2⟩ | ⟨r, v, h1, _⟩
        · rw [e] at h1
          cases h1
          exact h2 N' hN'
        · rw [e] at h1
          cases h1
  · obtain ⟨g, hg, ex, hh⟩ := k1 A e
    rcases hh with ⟨q', h1, h2⟩ | ⟨r, v', h1, hh⟩
    · rw [e2] at h1
      cases h1
    · rw [e2] at h1
      cases h1
      have ok := pN_ok ht e2
      refine t_pass (d := d + 15) hE (by omega) hL hc hN (fun N2 hN2 => ?_)
      have ew : wd7 2 = [32] := rfl
      rw [ew] at hN2
      rcases hh with ⟨t, h1, h2⟩ | ⟨t, p', o', h1, h2, h3⟩
      · rw [pF_s h1] at hN2
        exact dead2 t N2 _ _ _ hN2 h2
      · rw [pF_s h1] at hN2
        have l3 := pW_le ht _ q t true (by decide) ok.2.1 h1
        have a := pa_k ht s 3 0 t p' o' (by omega) (by omega) l3.2 h2
        have R2 : Rd ch n M0 N2 t (some A) := hN2
        have hA := (h.2.2.2.2.2.1 A e).2.2.1
        refine (c_cond hE hL hc s).2.2.2.1 d 0 4 t p' o' A N2 _ rfl h2 R2 (fun N3 hN3 => ?_)
        cases o' with
        | none => exact dead p' N3 _ _ _ _ _ hN3 (fun N' hN' => h3 N' hN')
        | some L =>
          obtain ⟨a1, a2, a3, _⟩ := a.2.2 L rfl
          refine t_make (x := 5 + 8 * (g : Int) + 128 * (v : Int)) hL hc hN3 (fun _ => ?_) (fun B z => ?_) (fun N' hN' => h3 N' ?_)
          · rw [ex]
            have := mk_code (c := 5) (f := g) (s := 0) (v := v) (by omega) (by omega) (by omega) (by omega)
            rw [(by omega : ((5 + 8 * g + 32 * 0 + 128 * v : Nat) : Int) = 5 + 8 * (g : Int) + 128 * (v : Int))] at this
            exact this
          · cases z
            rw [List.length_append, List.length_map]
            omega
          · show Rd ch n M0 N' p' (some (A ++ (L.map tkC ++ [5 + 8 * (g : Int) + 128 * (v : Int)])))
            rw [← List.append_assoc]
            exact hN'
end
