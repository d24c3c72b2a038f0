/-! RULE: the class reads a condition -/
theorem or_code : ∀ c, c < 6 → ∀ f, f < 4 → ∀ s, s < 3 → ∀ v, v < 100 → ((c ||| f * 2 ^ 3) ||| s * 2 ^ 5) ||| v * 2 ^ 7 = c + 8 * f + 32 * s + 128 * v := by decide +kernel
theorem mk_code {c f s v : Nat} (hc : c < 6) (hf : f < 4) (hs : s < 3) (hv : v < 100) : ((J (c : Int) ||| (J (f : Int) <<< ((3 : Int32) &&& 31))) ||| (J (s : Int) <<< ((5 : Int32) &&& 31))) ||| (J (v : Int) <<< ((7 : Int32) &&& 31)) = J ((c + 8 * f + 32 * s + 128 * v : Nat) : Int) := by
  rw [J_shl _ 3 (by decide +kernel), J_shl _ 5 (by decide +kernel), J_shl _ 7 (by decide +kernel), J_or, J_or, J_or, or_code c hc f hf s hs v hv]
theorem tkC_t {f s v : Nat} (hf : f < 4) (hs : s < 3) (hv : v < 100) : tkC (1000 * (f : Int) + 100 * (s : Int) + (v : Int)) = ((1 + 8 * f + 32 * s + 128 * v : Nat) : Int) := by
  unfold tkC
  rw [if_neg (by omega), if_neg (by omega), if_neg (by omega)]
  omega
section
variable {D : GD} {d : Nat} {ch : Nat → Int} {n : Nat} {M0 M : Mm} {p : Nat} {f : Option (List Int)}
theorem Ctx.tn (hc : Ctx ch n M0) : Tnn ch n := hc.2.2.2
/-- a TEST, or a FAULT for it -/
theorem t_test (hE : ExOk D) {P : Mm → Prop} (hL : Lay 1 4 M0) (hc : Ctx ch n M0) (h : Rd ch n M0 M p f) (k0 : f = none → ∀ M', Rd ch n M0 M' p none → P M') (k1 : ∀ A, f = some A → ∀ M', Rd ch n M0 M' (pT ch p).1 ((pT ch p).2.map (fun t => A ++ [tkC t])) → P M') : AMi D (d + 4) mX6_passOneOf [.ref 1, .ref (1000000 + 5)] M (fun x4 M3 => AMi D (d + 4) mX6_passOneOf [.ref 1, .ref (1000000 + 6)] M3 (fun x10 M9 => AMi D (d + 4) mX6_passNumber [.ref 1] M9 (fun x16 M15 => AMv D (d + 4) mX6_make [.ref 1, .int (1 : Int32), .int x4, .int x10, .int x16] M15 P))) := by
  have dead : ∀ (q : Nat) (N : Mm) (x y z : Int32) (Q : Mm → Prop), Rd ch n M0 N q none → (∀ M', Rd ch n M0 M' q none → Q M') → AMv D (d + 4) mX6_make [.ref 1, .int (1 : Int32), .int x, .int y, .int z] N Q := fun q N x y z Q hN hQ => t_make (x := 0) hL hc hN (fun z => by cases z) (fun A z => by cases z) hQ
  have dead2 : ∀ (q : Nat) (N : Mm) (x y : Int32) (Q : Mm → Prop), Rd ch n M0 N q none → (∀ M', Rd ch n M0 M' q none → Q M') → AMi D (d + 4) mX6_passNumber [.ref 1] N (fun x16 M15 => AMv D (d + 4) mX6_make [.ref 1, .int (1 : Int32), .int x, .int y, .int x16] M15 Q) := fun q N x y Q hN hQ => t_num (d := d + 3) hL hc hN (fun _ N' h' => dead q N' _ _ _ Q h' hQ) (fun A _ _ z => by cases z)
  have dead3 : ∀ (q : Nat) (N : Mm) (x : Int32) (Q : Mm → Prop), Rd ch n M0 N q none → (∀ M', Rd ch n M0 M' q none → Q M') → AMi D (d + 4) mX6_passOneOf [.ref 1, .ref (1000000 + 6)] N (fun x10 M9 => AMi D (d + 4) mX6_passNumber [.ref 1] M9 (fun x16 M15 => AMv D (d + 4) mX6_make [.ref 1, .int (1 : Int32), .int x, .int x10, .int x16] M15 Q)) := fun q N x Q hN hQ => t_one hE (by omega) hL hc hN (fun _ N' h' => dead2 q N' _ _ Q h' hQ) (fun A _ z => by cases z)
  refine t_one hE (by omega) hL hc h (fun e N hN => dead3 p N _ _ hN (fun N' hN' => ?_)) (fun A r e er N hN => ?_)
  · cases f with
    | none => exact k0 rfl N' hN'
    | some A =>
      rcases e with e | e
      · cases e
      · rcases pT_c ch p with ⟨_, eT⟩ | ⟨f', h1, _⟩
        · have := k1 A rfl N'
          rw [eT] at this
          exact this hN'
        · have e' : idx [108, 111, 116, 100] (ch p) = none := e
          rw [e'] at h1
          cases h1
  · have er' : idx [108, 111, 116, 100] (ch p) = some r := er
    have k1' := k1 A e
    rcases pT_c ch p with ⟨e', _⟩ | ⟨f', h1, hf, hrest⟩
    · rw [e'] at er'
      cases er'
    · rw [er'] at h1
      cases h1
      refine t_one hE (by omega) hL hc hN (fun e2 N2 hN2 => dead2 (p + 1) N2 _ _ _ hN2 (fun N' hN' => ?_)) (fun A2 r2 z er2 N2 hN2 => ?_)
      · rcases e2 with e2 | e2
        · cases e2
        · have e2' : idx [60, 61, 62] (ch (p + 1)) = none := e2
          rcases hrest with ⟨_, eT⟩ | ⟨s, h2, _⟩
          · have := k1' N'
            rw [eT] at this
            exact this hN'
          · rw [e2'] at h2
            cases h2
      · cases z
        have er2' : idx [60, 61, 62] (ch (p + 1)) = some r2 := er2
        rcases hrest with ⟨e2, _⟩ | ⟨s, h2, hs, hrest⟩
        · rw [e2] at er2'
          cases er2'
        · rw [er2'] at h2
          cases h2
          refine t_num (d := d + 3) hL hc hN2 (fun e3 N3 hN3 => dead (p + 2) N3 _ _ _ _ hN3 (fun N' hN' => ?_)) (fun A3 q v z e3 N3 hN3 => ?_)
          · rcases e3 with e3 | e3
            · cases e3
            · rcases hrest with ⟨_, eT⟩ | ⟨q, v, h3, _⟩
              · have := k1' N'
                rw [eT] at this
                exact this hN'
              · have e3' : pN ch (p + 2) = (p + 2, none) := e3
                rw [e3'] at h3
                cases h3
          · cases z
            have e3' : pN ch (p + 2) = (q, some v) := e3
            have ok := pN_ok hc.tn e3'
            rcases hrest with ⟨h3, _⟩ | ⟨q', v', h3, eT⟩
            · rw [e3'] at h3
              cases h3
            · rw [e3'] at h3
              cases h3
              refine t_make (x := tkC (1000 * (r : Int) + 100 * (r2 : Int) + (v : Int))) hL hc hN3 (fun _ => ?_) (fun B z => ?_) (fun N' hN' => ?_)
              · rw [tkC_t hf hs (by omega)]
                exact mk_code (c := 1) (by omega) hf hs (by omega)
              · cases z
                have := (hN2.2.2.2.2.2.1 A rfl).2.2.1
                have := (h.2.2.2.2.2.1 A e).2.2.1
                omega
              · have := k1' N'
                rw [eT] at this
                exact this hN'
/-- after a FAULT nothing is passed any more -/
theorem f_one (hE : ExOk D) {k : Nat} {P : Mm → Prop} (hk : k ≤ 4) (hL : Lay 1 4 M0) (hc : Ctx ch n M0) (h : Rd ch n M0 M p none) (kk : ∀ M', Rd ch n M0 M' p none → P M') : AMv D (d + 5) mX6_parseSingle [.ref 1, .int (J k)] M P := by
  have tt := t_test (D := D) (d := d) hE (P := fun M21 => (none : Option Value) = none ∧ Sm M M21 ∧ P M21) hL hc h (fun _ M' h' => ⟨rfl, h.sm h', kk M' h'⟩) (fun A z => by cases z)
  refine rX6_parseSingle D (d + 4) _ M _ (h.lay hL) ⟨fun c => ⟨fun _ => tt, fun c' => absurd c c'⟩, fun c => t_sees (c := 33) hL hc h (by omega) (by omega) ?_⟩
  rw [b2_f (fun z => by cases z.1)]
  refine ⟨fun _ => ⟨fun c' => absurd c' c, fun _ => t_sees (c := 40) hL hc h (by omega) (by omega) ?_⟩, fun z => absurd rfl z⟩
  rw [b2_f (fun z => by cases z.1)]
  exact ⟨fun _ => tt, fun z => absurd rfl z⟩
theorem f_bl {k i : Nat} {post : Option Value → Mm → Prop} (hL : Lay 1 4 M0) (hc : Ctx ch n M0) (h : Rd ch n M0 M p none) (kk : post none M) : LX6_parseBoth_7 D d (J k) (J i) M post := by
  refine rX6_parseBoth_7 D d _ _ M _ (h.lay hL) ⟨fun _ => kk, fun _ => t_sees (c := 38) hL hc h (by omega) (by omega) ?_⟩
  rw [b2_f (fun z => by cases z.1)]
  exact ⟨fun _ => kk, fun z => absurd rfl z⟩
theorem f_el {k i : Nat} {post : Option Value → Mm → Prop} (hL : Lay 1 4 M0) (hc : Ctx ch n M0) (h : Rd ch n M0 M p none) (kk : post none M) : LX6_parseEither_7 D d (J k) (J i) M post := by
  refine rX6_parseEither_7 D d _ _ M _ (h.lay hL) ⟨fun _ => kk, fun _ => t_sees (c := 124) hL hc h (by omega) (by omega) ?_⟩
  rw [b2_f (fun z => by cases z.1)]
  exact ⟨fun _ => kk, fun z => absurd rfl z⟩
theorem f_either (hE : ExOk D) {k : Nat} {P : Mm → Prop} (hk : k ≤ 4) (hL : Lay 1 4 M0) (hc : Ctx ch n M0) (h : Rd ch n M0 M p none) (kk : ∀ M', Rd ch n M0 M' p none → P M') : AMv D (d + 7) mX6_parseEither [.ref 1, .int (J k)] M P := by
  refine rX6_parseEither D (d + 6) _ M _ (h.lay hL) ?_
  refine rX6_parseBoth D (d + 5) _ M _ (h.lay hL) ?_
  refine f_one hE hk hL hc h (fun N hN => f_bl (k := k) (i := 0) hL hc hN ⟨rfl, h.sm hN, f_el (k := k) (i := 0) hL hc hN ⟨rfl, h.sm hN, kk N hN⟩⟩)
/-- the class reads what is to be read -/
def Cr (ch : Nat → Int) (n : Nat) (M0 : Mm) (A : List Int) (p' : Nat) (o : Option (List Int)) (M' : Mm) : Prop := Rd ch n M0 M' p' (o.map (fun L => A ++ L.map tkC))
theorem c_cond (hE : ExOk D) (hL : Lay 1 4 M0) (hc : Ctx ch n M0) : ∀ s,
    (∀ d k m p p' o A M (P : Mm → Prop), k + m = 4 → Pa ch s 0 k p p' o → Rd ch n M0 M p (some A) → (∀ M', Cr ch n M0 A p' o M' → P M') → AMv D (d + 3 * m + 5) mX6_parseSingle [.ref 1, .int (J (k : Nat))] M P) ∧
    (∀ d k m p p' o A M (P : Mm → Prop), k + m = 4 → Pa ch s 1 k p p' o → Rd ch n M0 M p (some A) → (∀ M', Cr ch n M0 A p' o M' → P M') → AMv D (d + 3 * m + 6) mX6_parseBoth [.ref 1, .int (J (k : Nat))] M P) ∧
    (∀ d k m p p' o A M i (post : Option Value → Mm → Prop), k + m = 4 → i ≤ p → Pa ch s 2 k p p' o → Rd ch n M0 M p (some A) → (∀ M', Cr ch n M0 A p' o M' → post none M') → LX6_parseBoth_7 D (d + 3 * m + 5) (J (k : Nat)) (J (i : Nat)) M post) ∧
    (∀ d k m p p' o A M (P : Mm → Prop), k + m = 4 → Pa ch s 3 k p p' o → Rd ch n M0 M p (some A) → (∀ M', Cr ch n M0 A p' o M' → P M') → AMv D (d + 3 * m + 7) mX6_parseEither [.ref 1, .int (J (k : Nat))] M P) ∧
    (∀ d k m p p' o A M i (post : Option Value → Mm → Prop), k + m = 4 → i ≤ p → Pa ch s 4 k p p' o → Rd ch n M0 M p (some A) → (∀ M', Cr ch n M0 A p' o M' → post none M') → LX6_parseEither_7 D (d + 3 * m + 6) (J (k : Nat)) (J (i : Nat)) M post) := by
  have hn := hc.1
  have ht := hc.tn
  have mapA : ∀ (A L : List Int) (o2 : Option (List Int)) (g : List Int), (o2.map (fun L' => L ++ g ++ L')).map (fun L => A ++ L.map tkC) = o2.map (fun L' => (A ++ L.map tkC ++ g.map tkC) ++ L'.map tkC) := by
    intro A L o2 g
    cases o2 with
    | none => rfl
    | some L' =>
      show some (A ++ (L ++ g ++ L').map tkC) = some ((A ++ L.map tkC ++ g.map tkC) ++ L'.map tkC)
      rw [List.map_append, List.map_append, List.append_assoc, List.append_assoc, List.append_assoc]
  have dead : ∀ (d q : Nat) (N : Mm) (w x y z : Int32) (Q : Mm → Prop), Rd ch n M0 N q none → (∀ M', Rd ch n M0 M' q none → Q M') → AMv D d mX6_make [.ref 1, .int w, .int x, .int y, .int z] N Q := fun d q N w x y z Q hN hQ => t_make (x := 0) hL hc hN (fun z => by cases z) (fun A z => by cases z) hQ
  have Jk : ∀ k : Nat, k ≤ 4 → ((4 : Int32) ≤ J (k : Int) ↔ k = 4) := by
    intro k hk
    constructor
    · intro z
      simp (disch := omega) only [J_lit, J_add, J_sub, J_mul, J_neg, J_lt, J_le, J_eq, J_nat, J_in, J_div] at z
      omega
    · intro z
      simp (disch := omega) only [J_lit, J_add, J_sub, J_mul, J_neg, J_lt, J_le, J_eq, J_nat, J_in, J_div]
      omega
  have ac : ∀ (L : List Int) (c : Int) (o2 : Option (List Int)), o2.map (fun L' => L ++ c :: L') = o2.map (fun L' => L ++ [c] ++ L') := by
    intro L c o2
    cases o2 with
    | none => rfl
    | some L' =>
      show some (L ++ c :: L') = some (L ++ [c] ++ L')
      rw [List.append_assoc]
      rfl
  intro s
  induction s with
  | zero => exact ⟨fun _ _ _ _ _ _ _ _ _ _ h => absurd h (fun z => z), fun _ _ _ _ _ _ _ _ _ _ h => absurd h (fun z => z), fun _ _ _ _ _ _ _ _ _ _ _ _ h => absurd h (fun z => z), fun _ _ _ _ _ _ _ _ _ _ h => absurd h (fun z => z), fun _ _ _ _ _ _ _ _ _ _ _ _ h => absurd h (fun z => z)⟩
  | succ s ih =>
    obtain ⟨i0, i1, i2, i3, i4⟩ := ih
    refine ⟨?_, ?_, ?_, ?_, ?_⟩
    · intro d k m p p' o A M P hk h hM kk
      have hpn := hM.2.2.1
      have hA := (hM.2.2.2.2.2.1 A rfl).2.2.1
      have jk := Jk k (by omega)
      rcases h with ⟨c0, rfl, rfl⟩ | ⟨hk4, c0, o', h1, rfl⟩ | ⟨hk4, c0, q, o', h1, h2⟩
      · have tt := t_test (D := D) (d := d + 3 * m) hE (P := fun M21 => (none : Option Value) = none ∧ Sm M M21 ∧ P M21) hL hc hM (fun z => by cases z) (fun B z M' h' => by
          cases z
          have h2 : Cr ch n M0 A (pT ch p).1 ((pT ch p).2.map (fun t => [t])) M' := by
            unfold Cr
            rw [Option.map_map]
            exact h'
          exact ⟨rfl, hM.sm h2, kk M' h2⟩)
        refine rX6_parseSingle D (d + 3 * m + 4) _ M _ (hM.lay hL) ⟨fun c => ⟨fun _ => tt, fun c' => absurd c c'⟩, fun c => t_sees (c := 33) hL hc hM (by omega) (by omega) ?_⟩
        have k4 : ¬ k = 4 := fun z => c (jk.2 z)
        rw [b2_f (fun z => by have := z.2; omega)]
        refine ⟨fun _ => ⟨fun c' => absurd c' c, fun _ => t_sees (c := 40) hL hc hM (by omega) (by omega) ?_⟩, fun z => absurd rfl z⟩
        rw [b2_f (fun z => by have := z.2; omega)]
        exact ⟨fun _ => tt, fun z => absurd rfl z⟩
      · obtain ⟨m', rfl⟩ : ∃ m', m = m' + 1 := ⟨m - 1, by omega⟩
        have n4 : ¬ (4 : Int32) ≤ J (k : Int) := fun z => by have := jk.1 z; omega
        have hp1 : p < n := ht.lt (p := p) (by omega)
        have a := pa_k ht s 0 (k + 1) (p + 1) p' o' (by omega) (by omega) hp1 h1
        refine rX6_parseSingle D (d + 3 * (m' + 1) + 4) _ M _ (hM.lay hL) ⟨fun c => absurd c n4, fun _ => t_sees (c := 33) hL hc hM (by omega) (by omega) ?_⟩
        rw [b2_t ⟨rfl, c0⟩]
        refine ⟨fun z => absurd z (by decide), fun _ N1 q1 => ?_⟩
        have R1 : Rd ch n M0 N1 (p + 1) (some A) := by rw [q1]; exact hM.adv hp1 hn
        rw [J_suc, (by omega : d + 3 * (m' + 1) + 4 = d + 2 + 3 * m' + 5)]
        refine i0 (d + 2) (k + 1) m' (p + 1) p' o' A N1 _ (by omega) h1 R1 (fun N2 hN2 => ?_)
        cases o' with
        | none => exact dead _ _ N2 _ _ _ _ _ hN2 (fun N3 hN3 => ⟨rfl, hM.sm hN3, kk N3 hN3⟩)
        | some L =>
          obtain ⟨a1, a2, a3, _⟩ := a.2.2 L rfl
          refine t_make (x := tkC (-33)) hL hc hN2 (fun _ => by decide +kernel) (fun B z => ?_) (fun N3 hN3 => ?_)
          · cases z
            rw [List.length_append, List.length_map]
            omega
          · have h2 : Cr ch n M0 A p' (some (L ++ [-33])) N3 := by
              show Rd ch n M0 N3 p' (some (A ++ (L ++ [-33]).map tkC))
              rw [List.map_append, ← List.append_assoc]
              exact hN3
            exact ⟨rfl, hM.sm h2, kk N3 h2⟩
      · obtain ⟨m', rfl⟩ : ∃ m', m = m' + 1 := ⟨m - 1, by omega⟩
        have n4 : ¬ (4 : Int32) ≤ J (k : Int) := fun z => by have := jk.1 z; omega
        have hp1 : p < n := ht.lt (p := p) (by omega)
        have a := pa_k ht s 3 (k + 1) (p + 1) q o' (by omega) (by omega) hp1 h1
        refine rX6_parseSingle D (d + 3 * (m' + 1) + 4) _ M _ (hM.lay hL) ⟨fun c => absurd c n4, fun _ => t_sees (c := 33) hL hc hM (by omega) (by omega) ?_⟩
        rw [b2_f (fun z => by have := z.2; omega)]
        refine ⟨fun _ => ⟨fun c => absurd c n4, fun _ => t_sees (c := 40) hL hc hM (by omega) (by omega) ?_⟩, fun z => absurd rfl z⟩
        rw [b2_t ⟨rfl, c0⟩]
        refine ⟨fun z => absurd z (by decide), fun _ N1 q1 => ?_⟩
        have R1 : Rd ch n M0 N1 (p + 1) (some A) := by rw [q1]; exact hM.adv hp1 hn
        rw [J_suc]
        refine i3 d (k + 1) m' (p + 1) q o' A N1 _ (by omega) h1 R1 (fun N2 hN2 => ?_)
        refine t_pass (d := d + 3 * m' + 3) hE (by omega) hL hc hN2 (fun N3 hN3 => ?_)
        have ew : wd7 4 = [41] := rfl
        rw [ew] at hN3
        rcases h2 with ⟨rfl, rfl, rfl⟩ | ⟨L, rfl, ⟨hq, rfl, rfl⟩ | ⟨hq, rfl, rfl⟩⟩
        · have h2 : Cr ch n M0 A p' none N3 := hN3
          exact ⟨rfl, hM.sm h2, kk N3 h2⟩
        · rw [pF_y ⟨rfl, hq⟩, pF_nil] at hN3
          have h2 : Cr ch n M0 A (q + 1) (some L) N3 := hN3
          exact ⟨rfl, hM.sm h2, kk N3 h2⟩
        · rw [pF_n (fun z => hq z.2)] at hN3
          have h2 : Cr ch n M0 A p' none N3 := hN3
          exact ⟨rfl, hM.sm h2, kk N3 h2⟩
    · intro d k m p p' o A M P hk h hM kk
      obtain ⟨q, o', h1, h2⟩ := h
      refine rX6_parseBoth D (d + 3 * m + 5) _ M _ (hM.lay hL) (i0 d k m p q o' A M _ hk h1 hM (fun N hN => ?_))
      rcases h2 with ⟨rfl, rfl, rfl⟩ | ⟨L, o2, rfl, h3, rfl⟩
      · exact f_bl (k := k) (i := 0) hL hc hN ⟨rfl, hM.sm hN, kk N hN⟩
      · refine i2 d k m q p' o2 _ N 0 _ hk (by omega) h3 hN (fun N' hN' => ?_)
        have e := mapA A L o2 []
        rw [List.map_nil, List.append_nil, List.append_nil] at e
        have hN2 : Cr ch n M0 A p' (o2.map (fun L' => L ++ L')) N' := by
          unfold Cr
          rw [e]
          exact hN'
        exact ⟨rfl, hM.sm hN2, kk N' hN2⟩
    · intro d k m p p' o A M i post hk hi h hM kk
      have hpn := hM.2.2.1
      have hA := (hM.2.2.2.2.2.1 A rfl).2.2.1
      rcases h with ⟨c0, rfl, rfl⟩ | ⟨c0, q, o', h1, h2⟩
      · have kM : post none M := kk M (by
          show Rd ch n M0 M p' (some (A ++ []))
          rw [List.append_nil]
          exact hM)
        refine rX6_parseBoth_7 D (d + 3 * m + 5) _ _ M _ (hM.lay hL) ⟨fun _ => kM, fun _ => t_sees (c := 38) hL hc hM (by omega) (by omega) ?_⟩
        rw [b2_f (fun z => c0 z.2)]
        exact ⟨fun _ => kM, fun z => absurd rfl z⟩
      · have hp1 : p < n := ht.lt (p := p) (by omega)
        have a := pa_k ht s 0 k (p + 1) q o' (by omega) (by omega) hp1 h1
        refine rX6_parseBoth_7 D (d + 3 * m + 5) _ _ M _ (hM.lay hL) ⟨fun z => ?_, fun _ => t_sees (c := 38) hL hc hM (by omega) (by omega) ?_⟩
        · exfalso
          simp (disch := omega) only [J_lit, J_add, J_sub, J_mul, J_neg, J_lt, J_le, J_eq, J_nat, J_in, J_div] at z
          omega
        · rw [b2_t ⟨rfl, c0⟩]
          refine ⟨fun z => absurd z (by decide), fun _ N1 q1 => ?_⟩
          have R1 : Rd ch n M0 N1 (p + 1) (some A) := by rw [q1]; exact hM.adv hp1 hn
          refine i0 d k m (p + 1) q o' A N1 _ hk h1 R1 (fun N2 hN2 => ?_)
          rcases h2 with ⟨rfl, rfl, rfl⟩ | ⟨L, o2, rfl, h3, rfl⟩
          · refine dead _ _ N2 _ _ _ _ _ hN2 (fun N3 hN3 x ex => ?_)
            rw [ex, J_suc]
            exact f_bl (k := k) (i := i + 1) hL hc hN3 (kk N3 hN3)
          · obtain ⟨a1, a2, a3, _⟩ := a.2.2 L rfl
            refine t_make (x := tkC (-38)) hL hc hN2 (fun _ => by decide +kernel) (fun B z => ?_) (fun N3 hN3 x ex => ?_)
            · cases z
              rw [List.length_append, List.length_map]
              omega
            · rw [ex, J_suc]
              refine i2 d k m q p' o2 (A ++ L.map tkC ++ [tkC (-38)]) N3 (i + 1) _ hk (by omega) h3 hN3 (fun N4 hN4 => kk N4 ?_)
              unfold Cr
              rw [ac, mapA A L o2 [-38]]
              exact hN4
    · intro d k m p p' o A M P hk h hM kk
      obtain ⟨q, o', h1, h2⟩ := h
      refine rX6_parseEither D (d + 3 * m + 6) _ M _ (hM.lay hL) (i1 d k m p q o' A M _ hk h1 hM (fun N hN => ?_))
      rcases h2 with ⟨rfl, rfl, rfl⟩ | ⟨L, o2, rfl, h3, rfl⟩
      · exact f_el (k := k) (i := 0) hL hc hN ⟨rfl, hM.sm hN, kk N hN⟩
      · refine i4 d k m q p' o2 _ N 0 _ hk (by omega) h3 hN (fun N' hN' => ?_)
        have e := mapA A L o2 []
        rw [List.map_nil, List.append_nil, List.append_nil] at e
        have hN2 : Cr ch n M0 A p' (o2.map (fun L' => L ++ L')) N' := by
          unfold Cr
          rw [e]
          exact hN'
        exact ⟨rfl, hM.sm hN2, kk N' hN2⟩
    · intro d k m p p' o A M i post hk hi h hM kk
      have hpn := hM.2.2.1
      have hA := (hM.2.2.2.2.2.1 A rfl).2.2.1
      rcases h with ⟨c0, rfl, rfl⟩ | ⟨c0, q, o', h1, h2⟩
      · have kM : post none M := kk M (by
          show Rd ch n M0 M p' (some (A ++ []))
          rw [List.append_nil]
          exact hM)
        refine rX6_parseEither_7 D (d + 3 * m + 6) _ _ M _ (hM.lay hL) ⟨fun _ => kM, fun _ => t_sees (c := 124) hL hc hM (by omega) (by omega) ?_⟩
        rw [b2_f (fun z => c0 z.2)]
        exact ⟨fun _ => kM, fun z => absurd rfl z⟩
      · have hp1 : p < n := ht.lt (p := p) (by omega)
        have a := pa_k ht s 1 k (p + 1) q o' (by omega) (by omega) hp1 h1
        refine rX6_parseEither_7 D (d + 3 * m + 6) _ _ M _ (hM.lay hL) ⟨fun z => ?_, fun _ => t_sees (c := 124) hL hc hM (by omega) (by omega) ?_⟩
        · exfalso
          simp (disch := omega) only [J_lit, J_add, J_sub, J_mul, J_neg, J_lt, J_le, J_eq, J_nat, J_in, J_div] at z
          omega
        · rw [b2_t ⟨rfl, c0⟩]
          refine ⟨fun z => absurd z (by decide), fun _ N1 q1 => ?_⟩
          have R1 : Rd ch n M0 N1 (p + 1) (some A) := by rw [q1]; exact hM.adv hp1 hn
          refine i1 d k m (p + 1) q o' A N1 _ hk h1 R1 (fun N2 hN2 => ?_)
          rcases h2 with ⟨rfl, rfl, rfl⟩ | ⟨L, o2, rfl, h3, rfl⟩
          · refine dead _ _ N2 _ _ _ _ _ hN2 (fun N3 hN3 x ex => ?_)
            rw [ex, J_suc]
            exact f_el (k := k) (i := i + 1) hL hc hN3 (kk N3 hN3)
          · obtain ⟨a1, a2, a3, _⟩ := a.2.2 L rfl
            refine t_make (x := tkC (-124)) hL hc hN2 (fun _ => by decide +kernel) (fun B z => ?_) (fun N3 hN3 x ex => ?_)
            · cases z
              rw [List.length_append, List.length_map]
              omega
            · rw [ex, J_suc]
              refine i4 d k m q p' o2 (A ++ L.map tkC ++ [tkC (-124)]) N3 (i + 1) _ hk (by omega) h3 hN3 (fun N4 hN4 => kk N4 ?_)
              unfold Cr
              rw [ac, mapA A L o2 [-124]]
              exact hN4
end
