/-! act -/
/-- the bodies that ran, as the class and as the reference keep them -/
def Lc (M : Mm) (L : List Int32) : Prop := gI M 46 0 = J L.length ∧ ∀ k b, k < 20 → L[k]? = some b → gI M 46 (1 + k) = b
def Lm (M : Mm) (L : List Int32) : Prop := gI M 62 49 = J L.length ∧ ∀ k b, k < 20 → L[k]? = some b → gI M 93 k = b
def Ac (M : Mm) (q c j : Nat) (i v : Int32) (L : List Int32) : Prop := Lay 46 47 M ∧ Pl M q c j ∧ 98 ≤ q ∧ gI M q 1 = i ∧ gI M q 2 = v ∧ Lc M L
def SpC (D : GD) (e : Nat) (u : MD) (q c j : Nat) (i v : Int32) (bs : List Int32) (f : Int32 → Int32) : Prop := ∀ (M : Mm) (L : List Int32) (x : Int32) (P : Int32 → Mm → Prop), Ac M q c j i v L → L.length + bs.length ≤ 1000 → (∀ M', Fm [46] M M' → Ac M' q c j i v (L ++ bs) → P (f x) M') → AMi D e u [.ref q, .int x] M P
theorem Ac.fm {M M' : Mm} {q c j : Nat} {i v : Int32} {L L' : List Int32} (h : Ac M q c j i v L) (F : Fm [46] M M') (hl : Lc M' L') : Ac M' q c j i v L' := by
  obtain ⟨h1, h2, h3, h4, h5, -⟩ := h
  have e : gI M' q = gI M q := F.hi (by decide) q h3
  exact ⟨h1.of F.1, h2.ofx F.1.x, h3, by rw [e]; exact h4, by rw [e]; exact h5, hl⟩
theorem Ac.cons {M : Mm} {q c j : Nat} {i v b : Int32} {L bs : List Int32} (h : Ac M q c j i v (L ++ [b] ++ bs)) : Ac M q c j i v (L ++ (b :: bs)) := by
  rw [List.append_assoc] at h
  exact h
theorem Ac.cons2 {M : Mm} {q c j : Nat} {i v b : Int32} {L bs bs2 : List Int32} (h : Ac M q c j i v (L ++ [b] ++ bs ++ bs2)) : Ac M q c j i v (L ++ (b :: (bs ++ bs2))) := by
  rw [List.append_assoc, List.append_assoc] at h
  exact h
section
variable {D : GD} {d : Nat}
theorem a_begin {M : Mm} {q c j : Nat} {i v b : Int32} {L : List Int32} {P : Mm → Prop} (hA : Ac M q c j i v L) (hn : L.length ≤ 1000) (h : ∀ M', Fm [46] M M' → Ac M' q c j i v (L ++ [b]) → P M') : AMv D d (vm_begin c) [.ref q, .int b] M P := by
  obtain ⟨hL, hp, h98, hi, hv, hl, hk⟩ := id hA
  have eB : vm_begin c = mX5_begin := rfl
  rw [eB]
  have e1 : (J L.length : Int32) + (1 : Int32) = J ((L ++ [b]).length : Int) := by rw [List.length_append]; simp (disch := omega) only [J_lit, J_add, J_sub, J_mul, J_neg, J_lt, J_le, J_eq, J_nat, J_in, J_div]; congr 1
  refine rX5_begin D d q c j b M _ hL hp ⟨fun c1 => ?_, fun _ => ⟨fun c2 M8 e8 => ?_, fun c2 => ⟨?_, fun M14 e14 M19 e19 => ?_⟩⟩⟩
  · rw [hl] at c1
    exfalso
    simp (disch := omega) only [J_lit, J_add, J_sub, J_mul, J_neg, J_lt, J_le, J_eq, J_nat, J_in, J_div] at c1
    omega
  · rw [hl] at c2 e8
    simp (disch := omega) only [J_lit, J_add, J_sub, J_mul, J_neg, J_lt, J_le, J_eq, J_nat, J_in, J_div] at c2
    rw [e1] at e8
    have F : Fm [46] M M8 := by rw [e8]; exact (Fm.refl _ M).si (by decide)
    refine ⟨rfl, F.1, h M8 F (hA.fm F ⟨by rw [e8]; rfl, fun k b' hk20 hb => ?_⟩)⟩
    have hlt : k < L.length := by omega
    rw [List.getElem?_append_left hlt] at hb
    rw [e8, gI_sI, if_neg (by omega)]
    exact hk k b' hk20 hb
  · rw [hl] at c2 ⊢
    simp (disch := omega) only [J_lit, J_add, J_sub, J_mul, J_neg, J_lt, J_le, J_eq, J_nat, J_in, J_div] at c2
    simp (disch := omega) only [J_lit, J_add, J_sub, J_mul, J_neg, J_lt, J_le, J_eq, J_nat, J_in, J_div]
    omega
  · rw [hl] at c2 e14
    simp (disch := omega) only [J_lit, J_add, J_sub, J_mul, J_neg, J_lt, J_le, J_eq, J_nat, J_in, J_div] at c2
    have en : ((1 : Int32) + J (L.length : Int)).toNatClampNeg = 1 + L.length := by simp (disch := omega) only [J_lit, J_add, J_sub, J_mul, J_neg, J_lt, J_le, J_eq, J_nat, J_in, J_div]; omega
    rw [en] at e14
    have e46 : gI M14 46 0 = J L.length := by rw [e14, gI_sI, if_neg (by omega)]; exact hl
    rw [e46, e1] at e19
    have F : Fm [46] M M19 := by rw [e19, e14]; exact ((Fm.refl _ M).si (by decide)).si (by decide)
    refine ⟨rfl, F.1, h M19 F (hA.fm F ⟨by rw [e19]; rfl, fun k b' hk20 hb => ?_⟩)⟩
    rw [e19, gI_sI, if_neg (by omega), e14, gI_sI]
    by_cases hlt : k < L.length
    · rw [List.getElem?_append_left hlt] at hb
      rw [if_neg (by omega)]
      exact hk k b' hk20 hb
    · by_cases heq : k = L.length
      · subst heq
        rw [List.getElem?_append_right (by omega)] at hb
        simp at hb
        rw [if_pos ⟨rfl, rfl⟩, hb]
      · rw [List.getElem?_append_right (by omega)] at hb
        have : ([b] : List Int32)[k - L.length]? = none := by
          rw [List.getElem?_eq_none_iff]
          simp
          omega
        rw [this] at hb
        cases hb
variable {q c j : Nat} {i v : Int32}
theorem sp_looks5 : SpC D (d + 1) mX5_looks q c j i v [10] (fun x => x + i) := by
  intro M L x P hA hn h
  refine rX5_looks D d q c j x M _ (.nil M) hA.2.1 (a_begin hA (by simp at hn; omega) (fun M' F A => ?_))
  rw [A.2.2.2.1]
  exact ⟨_, rfl, F.1, h M' F A⟩
theorem sp_looks2 (hc : c = 2 ∨ c = 3 ∨ c = 8) : SpC D (d + 2) mX2_looks q c j i v [30, 10] (fun x => x * 3 + i) := by
  intro M L x P hA hn h
  refine rX2_looks D (d + 1) q c j x M _ (.nil M) hA.2.1 hc (a_begin hA (by simp at hn; omega) (fun M' F A => ?_))
  refine sp_looks5 M' _ _ _ A (by simp at hn ⊢; omega) (fun M2 F2 A2 => ⟨_, rfl, F.1.trans F2.1, h M2 (F.trans F2) A2.cons⟩)
theorem sp_looks10 (hc : c = 10) : SpC D (d + 2) mX10_looks q c j i v [50, 10] (fun x => -(x + i)) := by
  intro M L x P hA hn h
  refine rX10_looks D (d + 1) q c j x M _ (.nil M) hA.2.1 hc (a_begin hA (by simp at hn; omega) (fun M' F A => ?_))
  refine sp_looks5 M' _ _ _ A (by simp at hn ⊢; omega) (fun M2 F2 A2 => ⟨_, rfl, F.1.trans F2.1, h M2 (F.trans F2) A2.cons⟩)
theorem sp_looks8 (hc : c = 8) : SpC D (d + 3) mX8_looks q c j i v [71, 30, 10] (fun x => (x * 3 + i) ^^^ v) := by
  intro M L x P hA hn h
  refine rX8_looks D (d + 2) q c j x M _ (.nil M) hA.2.1 hc (a_begin hA (by simp at hn; omega) (fun M' F A => ?_))
  refine sp_looks2 (Or.inr (Or.inr hc)) M' _ _ _ A (by simp at hn ⊢; omega) (fun M2 F2 A2 => ?_)
  rw [A2.2.2.2.2.1]
  exact ⟨_, rfl, F.1.trans F2.1, h M2 (F.trans F2) A2.cons⟩
theorem sp_goes5 {e : Nat} {bs : List Int32} {f : Int32 → Int32} (hs : SpC D e (vm_looks c) q c j i v bs f) : SpC D (e + 1) mX5_goes q c j i v (11 :: bs) (fun x => f x - v) := by
  intro M L x P hA hn h
  refine rX5_goes D e q c j x M _ (.nil M) hA.2.1 (a_begin hA (by simp at hn; omega) (fun M' F A => ?_))
  refine hs M' _ _ _ A (by simp at hn ⊢; omega) (fun M2 F2 A2 => ?_)
  rw [A2.2.2.2.2.1]
  exact ⟨_, rfl, F.1.trans F2.1, h M2 (F.trans F2) A2.cons⟩
theorem sp_goes4 {e : Nat} {bs : List Int32} {f : Int32 → Int32} (hc : c = 4 ∨ c = 10) (hs : SpC D e mX5_goes q c j i v bs f) : SpC D (e + 1) mX4_goes q c j i v (20 :: bs) (fun x => f x ^^^ 6) := by
  intro M L x P hA hn h
  refine rX4_goes D e q c j x M _ (.nil M) hA.2.1 hc (a_begin hA (by simp at hn; omega) (fun M' F A => ?_))
  exact hs M' _ _ _ A (by simp at hn ⊢; omega) (fun M2 F2 A2 => ⟨_, rfl, F.1.trans F2.1, h M2 (F.trans F2) A2.cons⟩)
theorem sp_goes10 {e : Nat} {bs : List Int32} {f : Int32 → Int32} (hc : c = 10) (hs : SpC D e mX4_goes q c j i v bs f) : SpC D (e + 1) mX10_goes q c j i v (51 :: bs) (fun x => f (x + 1)) := by
  intro M L x P hA hn h
  refine rX10_goes D e q c j x M _ (.nil M) hA.2.1 hc (a_begin hA (by simp at hn; omega) (fun M' F A => ?_))
  exact hs M' _ _ _ A (by simp at hn ⊢; omega) (fun M2 F2 A2 => ⟨_, rfl, F.1.trans F2.1, h M2 (F.trans F2) A2.cons⟩)
theorem sp_goes8 {e : Nat} {bs bs2 : List Int32} {f f2 : Int32 → Int32} (hc : c = 8) (hs : SpC D e mX5_goes q c j i v bs f) (hs2 : SpC D e mX2_looks q c j i v bs2 f2) : SpC D (e + 1) mX8_goes q c j i v (70 :: (bs ++ bs2)) (fun x => f x + f2 2) := by
  intro M L x P hA hn h
  refine rX8_goes D e q c j x M _ (.nil M) hA.2.1 hc (a_begin hA (by simp at hn; omega) (fun M' F A => ?_))
  refine hs M' _ _ _ A (by simp at hn ⊢; omega) (fun M2 F2 A2 => ?_)
  exact hs2 M2 _ _ _ A2 (by simp at hn ⊢; omega) (fun M3 F3 A3 => ⟨_, rfl, (F.1.trans F2.1).trans F3.1, h M3 ((F.trans F2).trans F3) A3.cons2⟩)
theorem sp_tells5 {e : Nat} {bs : List Int32} {f : Int32 → Int32} (hs : SpC D e (vm_goes c) q c j i v bs f) : SpC D (e + 1) mX5_tells q c j i v (12 :: bs) (fun x => f x * 2) := by
  intro M L x P hA hn h
  refine rX5_tells D e q c j x M _ (.nil M) hA.2.1 (a_begin hA (by simp at hn; omega) (fun M' F A => ?_))
  exact hs M' _ _ _ A (by simp at hn ⊢; omega) (fun M2 F2 A2 => ⟨_, rfl, F.1.trans F2.1, h M2 (F.trans F2) A2.cons⟩)
theorem sp_tells3 {e : Nat} {bs : List Int32} {f : Int32 → Int32} (hc : c = 3) (hs : SpC D e mX5_tells q c j i v bs f) : SpC D (e + 1) mX3_tells q c j i v (60 :: bs) (fun x => f (x - i)) := by
  intro M L x P hA hn h
  refine rX3_tells D e q c j x M _ (.nil M) hA.2.1 hc (a_begin hA (by simp at hn; omega) (fun M' F A => ?_))
  rw [A.2.2.2.1]
  exact hs M' _ _ _ A (by simp at hn ⊢; omega) (fun M2 F2 A2 => ⟨_, rfl, F.1.trans F2.1, h M2 (F.trans F2) A2.cons⟩)
theorem sp_tells9 {e : Nat} {bs bs2 : List Int32} {f f2 : Int32 → Int32} (hc : c = 9) (hs : SpC D e mX5_tells q c j i v bs f) (hs2 : SpC D e (vm_goes c) q c j i v bs2 f2) : SpC D (e + 1) mX9_tells q c j i v (40 :: (bs ++ bs2)) (fun x => f x + f2 1) := by
  intro M L x P hA hn h
  refine rX9_tells D e q c j x M _ (.nil M) hA.2.1 hc (a_begin hA (by simp at hn; omega) (fun M' F A => ?_))
  refine hs M' _ _ _ A (by simp at hn ⊢; omega) (fun M2 F2 A2 => ?_)
  exact hs2 M2 _ _ _ A2 (by simp at hn ⊢; omega) (fun M3 F3 A3 => ⟨_, rfl, (F.1.trans F2.1).trans F3.1, h M3 ((F.trans F2).trans F3) A3.cons2⟩)
end
def lkB : Nat → List Int32
  | 2 => [30, 10]
  | 4 => [50, 10]
  | 5 => [30, 10]
  | 6 => [71, 30, 10]
  | _ => [10]
def lkV (i v : Int32) : Nat → Int32 → Int32
  | 2, x => x * 3 + i
  | 4, x => -(x + i)
  | 5, x => x * 3 + i
  | 6, x => (x * 3 + i) ^^^ v
  | _, x => x + i
def goB : Nat → List Int32
  | 1 => 20 :: 11 :: lkB 1
  | 4 => 51 :: 20 :: 11 :: lkB 4
  | 6 => 70 :: ((11 :: lkB 6) ++ [30, 10])
  | k => 11 :: lkB k
def goV (i v : Int32) : Nat → Int32 → Int32
  | 1, x => (lkV i v 1 x - v) ^^^ 6
  | 4, x => (lkV i v 4 (x + 1) - v) ^^^ 6
  | 6, x => (lkV i v 6 x - v) + (2 * 3 + i)
  | k, x => lkV i v k x - v
def teB : Nat → List Int32
  | 3 => 40 :: ((12 :: goB 3) ++ goB 3)
  | 5 => 60 :: 12 :: goB 5
  | k => 12 :: goB k
def teV (i v : Int32) : Nat → Int32 → Int32
  | 3, x => goV i v 3 x * 2 + goV i v 3 1
  | 5, x => goV i v 5 (x - i) * 2
  | k, x => goV i v k x * 2
section
variable {D : GD} {d : Nat} {q j : Nat} {i v : Int32}
theorem sp_looks {k : Nat} (hk : k ≤ 6) : SpC D (d + 3) (vm_looks (kcl k)) q (kcl k) j i v (lkB k) (lkV i v k) := by
  rcases (by omega : k = 0 ∨ k = 1 ∨ k = 2 ∨ k = 3 ∨ k = 4 ∨ k = 5 ∨ k = 6) with rfl | rfl | rfl | rfl | rfl | rfl | rfl
  · exact sp_looks5 (c := 5)
  · exact sp_looks5 (c := 4)
  · exact sp_looks2 (c := 2) (by omega)
  · exact sp_looks5 (c := 9)
  · exact sp_looks10 (c := 10) rfl
  · exact sp_looks2 (c := 3) (by omega)
  · exact sp_looks8 (c := 8) rfl
theorem sp_goes {k : Nat} (hk : k ≤ 6) : SpC D (d + 6) (vm_goes (kcl k)) q (kcl k) j i v (goB k) (goV i v k) := by
  rcases (by omega : k = 0 ∨ k = 1 ∨ k = 2 ∨ k = 3 ∨ k = 4 ∨ k = 5 ∨ k = 6) with rfl | rfl | rfl | rfl | rfl | rfl | rfl
  · exact sp_goes5 (c := 5) (sp_looks (k := 0) (by omega))
  · exact sp_goes4 (c := 4) (by omega) (sp_goes5 (c := 4) (sp_looks (k := 1) (by omega)))
  · exact sp_goes5 (c := 2) (sp_looks (k := 2) (by omega))
  · exact sp_goes5 (c := 9) (sp_looks (k := 3) (by omega))
  · exact sp_goes10 (c := 10) rfl (sp_goes4 (c := 10) (by omega) (sp_goes5 (c := 10) (sp_looks (k := 4) (by omega))))
  · exact sp_goes5 (c := 3) (sp_looks (k := 5) (by omega))
  · exact sp_goes8 (c := 8) rfl (sp_goes5 (c := 8) (sp_looks (k := 6) (by omega))) (sp_looks2 (c := 8) (by omega))
theorem sp_tells {k : Nat} (hk : k ≤ 6) : SpC D (d + 7) (vm_tells (kcl k)) q (kcl k) j i v (teB k) (teV i v k) := by
  rcases (by omega : k = 0 ∨ k = 1 ∨ k = 2 ∨ k = 3 ∨ k = 4 ∨ k = 5 ∨ k = 6) with rfl | rfl | rfl | rfl | rfl | rfl | rfl
  · exact sp_tells5 (c := 5) (sp_goes (k := 0) (by omega))
  · exact sp_tells5 (c := 4) (sp_goes (k := 1) (by omega))
  · exact sp_tells5 (c := 2) (sp_goes (k := 2) (by omega))
  · exact sp_tells9 (c := 9) rfl (sp_tells5 (c := 9) (sp_goes5 (c := 9) (sp_looks (k := 3) (by omega)))) (sp_goes5 (c := 9) (sp_looks (k := 3) (by omega)))
  · exact sp_tells5 (c := 10) (sp_goes (k := 4) (by omega))
  · exact sp_tells3 (c := 3) rfl (sp_tells5 (c := 3) (sp_goes5 (c := 3) (sp_looks (k := 5) (by omega))))
  · exact sp_tells5 (c := 8) (sp_goes (k := 6) (by omega))
end
/-! act: the reference -/
def Am (M : Mm) (p k : Nat) (v : Int32) (L : List Int32) : Prop := Lay 62 98 M ∧ p < 10 ∧ gI M 74 p = J k ∧ gI M 75 p = v ∧ Lm M L
def F2 (M M' : Mm) : Prop := Fm [62, 93] M M' ∧ ∀ k, k ≠ 49 → gI M' 62 k = gI M 62 k
theorem F2.trans {M M1 M2 : Mm} (h : F2 M M1) (g : F2 M1 M2) : F2 M M2 := ⟨h.1.trans g.1, fun k hk => (g.2 k hk).trans (h.2 k hk)⟩
def SpM (D : GD) (e : Nat) (u : MD) (p k : Nat) (v : Int32) (bs : List Int32) (f : Int32 → Int32) : Prop := ∀ (M : Mm) (L : List Int32) (x : Int32) (P : Int32 → Mm → Prop), Am M p k v L → L.length + bs.length ≤ 1000 → (∀ M', F2 M M' → Am M' p k v (L ++ bs) → P (f x) M') → AMi D e u [.ref 62, .int (J p), .int x] M P
theorem Am.fm {M M' : Mm} {p k : Nat} {v : Int32} {L L' : List Int32} (h : Am M p k v L) (F : Fm [62, 93] M M') (hl : Lm M' L') : Am M' p k v L' := by
  obtain ⟨h1, h2, h3, h4, -⟩ := h
  exact ⟨h1.of F.1, h2, by rw [F.2.2.2 74 (by decide)]; exact h3, by rw [F.2.2.2 75 (by decide)]; exact h4, hl⟩
theorem Am.cons {M : Mm} {p k : Nat} {v b : Int32} {L bs : List Int32} (h : Am M p k v (L ++ [b] ++ bs)) : Am M p k v (L ++ (b :: bs)) := by
  rw [List.append_assoc] at h
  exact h
theorem Am.cons2 {M : Mm} {p k : Nat} {v b : Int32} {L bs bs2 : List Int32} (h : Am M p k v (L ++ [b] ++ bs ++ bs2)) : Am M p k v (L ++ (b :: (bs ++ bs2))) := by
  rw [List.append_assoc, List.append_assoc] at h
  exact h
section
variable {D : GD} {d : Nat}
theorem a_body {M : Mm} {p k : Nat} {v b : Int32} {L : List Int32} {P : Mm → Prop} (hA : Am M p k v L) (hn : L.length ≤ 1000) (h : ∀ M', F2 M M' → Am M' p k v (L ++ [b]) → P M') : AMv D d mX12_body [.ref 62, .int b] M P := by
  obtain ⟨hL, hp, h74, h75, hl, hk⟩ := id hA
  have e1 : (J L.length : Int32) + (1 : Int32) = J ((L ++ [b]).length : Int) := by rw [List.length_append]; simp (disch := omega) only [J_lit, J_add, J_sub, J_mul, J_neg, J_lt, J_le, J_eq, J_nat, J_in, J_div]; congr 1
  refine rX12_body D d b M _ hL ⟨fun c2 M8 e8 => ?_, fun c2 => ⟨?_, fun M14 e14 M19 e19 => ?_⟩⟩
  · rw [hl] at c2 e8
    simp (disch := omega) only [J_lit, J_add, J_sub, J_mul, J_neg, J_lt, J_le, J_eq, J_nat, J_in, J_div] at c2
    rw [e1] at e8
    have F : Fm [62, 93] M M8 := by rw [e8]; exact (Fm.refl _ M).si (by decide)
    refine ⟨rfl, F.1, h M8 ⟨F, fun k hk => ?_⟩ (hA.fm F ⟨by rw [e8]; rfl, fun k b' hk20 hb => ?_⟩)⟩
    · rw [e8, gI_sI, if_neg (by omega)]
    · have hlt : k < L.length := by omega
      rw [List.getElem?_append_left hlt] at hb
      rw [e8, gI_sI, if_neg (by omega)]
      exact hk k b' hk20 hb
  · rw [hl] at c2 ⊢
    simp (disch := omega) only [J_lit, J_add, J_sub, J_mul, J_neg, J_lt, J_le, J_eq, J_nat, J_in, J_div] at c2
    simp (disch := omega) only [J_lit, J_add, J_sub, J_mul, J_neg, J_lt, J_le, J_eq, J_nat, J_in, J_div]
    omega
  · rw [hl] at c2 e14
    simp (disch := omega) only [J_lit, J_add, J_sub, J_mul, J_neg, J_lt, J_le, J_eq, J_nat, J_in, J_div] at c2
    have en : (J (L.length : Int)).toNatClampNeg = L.length := by simp (disch := omega) only [J_lit, J_add, J_sub, J_mul, J_neg, J_lt, J_le, J_eq, J_nat, J_in, J_div]; omega
    rw [en] at e14
    have e46 : gI M14 62 49 = J L.length := by rw [e14, gI_sI, if_neg (by omega)]; exact hl
    rw [e46, e1] at e19
    have F : Fm [62, 93] M M19 := by rw [e19, e14]; exact ((Fm.refl _ M).si (by decide)).si (by decide)
    refine ⟨rfl, F.1, h M19 ⟨F, fun k hk => ?_⟩ (hA.fm F ⟨by rw [e19]; rfl, fun k b' hk20 hb => ?_⟩)⟩
    · rw [e19, gI_sI, if_neg (by omega), e14, gI_sI, if_neg (by omega)]
    · rw [e19, gI_sI, if_neg (by omega), e14, gI_sI]
      by_cases hlt : k < L.length
      · rw [List.getElem?_append_left hlt] at hb
        rw [if_neg (by omega)]
        exact hk k b' hk20 hb
      · by_cases heq : k = L.length
        · subst heq
          rw [List.getElem?_append_right (by omega)] at hb
          simp at hb
          rw [if_pos ⟨rfl, rfl⟩, hb]
        · rw [List.getElem?_append_right (by omega)] at hb
          have : ([b] : List Int32)[k - L.length]? = none := by
            rw [List.getElem?_eq_none_iff]
            simp
            omega
          rw [this] at hb
          cases hb
variable {p k : Nat} {v : Int32}
theorem sm_plainLooks : SpM D (d + 1) mX12_plainLooks p k v [10] (fun x => x + J p) := by
  intro M L x P hA hn h
  exact rX12_plainLooks D d _ x M _ hA.1 (a_body hA (by simp at hn; omega) (fun M' F A => ⟨_, rfl, F.1.1, h M' F A⟩))
theorem sm_mixedLooks : SpM D (d + 2) mX12_mixedLooks p k v [30, 10] (fun x => x * 3 + J p) := by
  intro M L x P hA hn h
  refine rX12_mixedLooks D (d + 1) _ x M _ hA.1 (a_body hA (by simp at hn; omega) (fun M' F A => ?_))
  exact sm_plainLooks M' _ _ _ A (by simp at hn ⊢; omega) (fun M2 F2 A2 => ⟨_, rfl, F.1.1.trans F2.1.1, h M2 (F.trans F2) A2.cons⟩)
theorem pin (hp : p < 10) : vp_in (J (p : Int)) 11 ∧ (J (p : Int)).toNatClampNeg = p := ⟨by simp (disch := omega) only [J_lit, J_add, J_sub, J_mul, J_neg, J_lt, J_le, J_eq, J_nat, J_in, J_div]; omega, by simp (disch := omega) only [J_lit, J_add, J_sub, J_mul, J_neg, J_lt, J_le, J_eq, J_nat, J_in, J_div]; omega⟩
theorem sm_looks (hk : k ≤ 6) : SpM D (d + 3) mX12_looksAct p k v (lkB k) (lkV (J p) v k) := by
  intro M L x P hA hn h
  obtain ⟨h1, h2⟩ := pin hA.2.1
  refine rX12_looksAct D (d + 2) _ x M _ hA.1 ?_
  rw [h2, hA.2.2.1]
  refine ⟨h1, fun c => ?_, fun c => ?_, fun c => ?_, fun c => ?_, fun c => ?_, fun c1 c2 c3 c4 c5 => ?_⟩
  · simp (disch := omega) only [J_lit, J_add, J_sub, J_mul, J_neg, J_lt, J_le, J_eq, J_nat, J_in, J_div] at c
    obtain rfl : k = 2 := by omega
    exact sm_mixedLooks M L x _ hA hn (fun M2 F2 A2 => ⟨_, rfl, F2.1.1, h M2 F2 A2⟩)
  · simp (disch := omega) only [J_lit, J_add, J_sub, J_mul, J_neg, J_lt, J_le, J_eq, J_nat, J_in, J_div] at c
    obtain rfl : k = 3 := by omega
    exact sm_plainLooks M L x _ hA hn (fun M2 F2 A2 => ⟨_, rfl, F2.1.1, h M2 F2 A2⟩)
  · simp (disch := omega) only [J_lit, J_add, J_sub, J_mul, J_neg, J_lt, J_le, J_eq, J_nat, J_in, J_div] at c
    obtain rfl : k = 4 := by omega
    refine a_body hA (by simp [lkB] at hn; omega) (fun M' F A => ?_)
    exact sm_plainLooks M' _ x _ A (by simp [lkB] at hn ⊢; omega) (fun M2 F2 A2 => ⟨_, rfl, F.1.1.trans F2.1.1, h M2 (F.trans F2) A2.cons⟩)
  · simp (disch := omega) only [J_lit, J_add, J_sub, J_mul, J_neg, J_lt, J_le, J_eq, J_nat, J_in, J_div] at c
    obtain rfl : k = 5 := by omega
    exact sm_mixedLooks M L x _ hA hn (fun M2 F2 A2 => ⟨_, rfl, F2.1.1, h M2 F2 A2⟩)
  · simp (disch := omega) only [J_lit, J_add, J_sub, J_mul, J_neg, J_lt, J_le, J_eq, J_nat, J_in, J_div] at c
    obtain rfl : k = 6 := by omega
    refine a_body hA (by simp [lkB] at hn; omega) (fun M' F A => ?_)
    refine sm_mixedLooks M' _ x _ A (by simp [lkB] at hn ⊢; omega) (fun M2 F2 A2 => ?_)
    rw [A2.2.2.2.1]
    exact ⟨_, rfl, F.1.1.trans F2.1.1, h M2 (F.trans F2) A2.cons⟩
  · simp (disch := omega) only [J_lit, J_add, J_sub, J_mul, J_neg, J_lt, J_le, J_eq, J_nat, J_in, J_div] at c1 c2 c3 c4 c5
    have e : lkB k = [10] ∧ lkV (J p) v k = fun x => x + J p := by
      rcases (by omega : k = 0 ∨ k = 1) with rfl | rfl
      · exact ⟨rfl, rfl⟩
      · exact ⟨rfl, rfl⟩
    rw [e.1] at hn h
    rw [e.2] at h
    exact sm_plainLooks M L x _ hA hn (fun M2 F2 A2 => ⟨_, rfl, F2.1.1, h M2 F2 A2⟩)
theorem sm_plainGoes (hk : k ≤ 6) : SpM D (d + 4) mX12_plainGoes p k v (11 :: lkB k) (fun x => lkV (J p) v k x - v) := by
  intro M L x P hA hn h
  obtain ⟨h1, h2⟩ := pin hA.2.1
  refine rX12_plainGoes D (d + 3) _ x M _ hA.1 (a_body hA (by simp at hn; omega) (fun M' F A => ?_))
  refine sm_looks hk M' _ x _ A (by simp at hn ⊢; omega) (fun M2 F2 A2 => ?_)
  rw [h2, A2.2.2.2.1]
  exact ⟨h1, _, rfl, F.1.1.trans F2.1.1, h M2 (F.trans F2) A2.cons⟩
theorem sm_ownGoes (hk : k ≤ 6) : SpM D (d + 5) mX12_ownGoes p k v (20 :: 11 :: lkB k) (fun x => (lkV (J p) v k x - v) ^^^ 6) := by
  intro M L x P hA hn h
  refine rX12_ownGoes D (d + 4) _ x M _ hA.1 (a_body hA (by simp at hn; omega) (fun M' F A => ?_))
  exact sm_plainGoes hk M' _ x _ A (by simp at hn ⊢; omega) (fun M2 F2 A2 => ⟨_, rfl, F.1.1.trans F2.1.1, h M2 (F.trans F2) A2.cons⟩)
theorem sm_goes (hk : k ≤ 6) : SpM D (d + 6) mX12_goesAct p k v (goB k) (goV (J p) v k) := by
  intro M L x P hA hn h
  obtain ⟨h1, h2⟩ := pin hA.2.1
  refine rX12_goesAct D (d + 5) _ x M _ hA.1 ?_
  rw [h2, hA.2.2.1]
  refine ⟨h1, fun c => ?_, fun c => ?_, fun c => ?_, fun c1 c2 c3 => ?_⟩
  · simp (disch := omega) only [J_lit, J_add, J_sub, J_mul, J_neg, J_lt, J_le, J_eq, J_nat, J_in, J_div] at c
    obtain rfl : k = 1 := by omega
    exact sm_ownGoes hk M L x _ hA hn (fun M2 F2 A2 => ⟨_, rfl, F2.1.1, h M2 F2 A2⟩)
  · simp (disch := omega) only [J_lit, J_add, J_sub, J_mul, J_neg, J_lt, J_le, J_eq, J_nat, J_in, J_div] at c
    obtain rfl : k = 4 := by omega
    refine a_body hA (by simp [goB] at hn; omega) (fun M' F A => ?_)
    exact sm_ownGoes hk M' _ _ _ A (by simp [goB] at hn ⊢; omega) (fun M2 F2 A2 => ⟨_, rfl, F.1.1.trans F2.1.1, h M2 (F.trans F2) A2.cons⟩)
  · simp (disch := omega) only [J_lit, J_add, J_sub, J_mul, J_neg, J_lt, J_le, J_eq, J_nat, J_in, J_div] at c
    obtain rfl : k = 6 := by omega
    refine a_body hA (by simp [goB] at hn; omega) (fun M' F A => ?_)
    refine sm_plainGoes hk M' _ x _ A (by simp [goB] at hn ⊢; omega) (fun M2 F2 A2 => ?_)
    exact sm_mixedLooks M2 _ _ _ A2 (by simp [goB] at hn ⊢; omega) (fun M3 F3 A3 => ⟨_, rfl, (F.1.1.trans F2.1.1).trans F3.1.1, h M3 ((F.trans F2).trans F3) A3.cons2⟩)
  · simp (disch := omega) only [J_lit, J_add, J_sub, J_mul, J_neg, J_lt, J_le, J_eq, J_nat, J_in, J_div] at c1 c2 c3
    have e : goB k = 11 :: lkB k ∧ goV (J p) v k = fun x => lkV (J p) v k x - v := by
      rcases (by omega : k = 0 ∨ k = 2 ∨ k = 3 ∨ k = 5) with rfl | rfl | rfl | rfl
      · exact ⟨rfl, rfl⟩
      · exact ⟨rfl, rfl⟩
      · exact ⟨rfl, rfl⟩
      · exact ⟨rfl, rfl⟩
    rw [e.1] at hn h
    rw [e.2] at h
    exact sm_plainGoes hk M L x _ hA hn (fun M2 F2 A2 => ⟨_, rfl, F2.1.1, h M2 F2 A2⟩)
/-- of those that tell their own way the reference's depth is less -/
theorem sm_goes' (hk : k = 3 ∨ k = 5) : SpM D (d + 5) mX12_goesAct p k v (goB k) (goV (J p) v k) := by
  intro M L x P hA hn h
  obtain ⟨h1, h2⟩ := pin hA.2.1
  refine rX12_goesAct D (d + 4) _ x M _ hA.1 ?_
  rw [h2, hA.2.2.1]
  refine ⟨h1, fun c => ?_, fun c => ?_, fun c => ?_, fun c1 c2 c3 => ?_⟩
  · exfalso
    simp (disch := omega) only [J_lit, J_add, J_sub, J_mul, J_neg, J_lt, J_le, J_eq, J_nat, J_in, J_div] at c
    omega
  · exfalso
    simp (disch := omega) only [J_lit, J_add, J_sub, J_mul, J_neg, J_lt, J_le, J_eq, J_nat, J_in, J_div] at c
    omega
  · exfalso
    simp (disch := omega) only [J_lit, J_add, J_sub, J_mul, J_neg, J_lt, J_le, J_eq, J_nat, J_in, J_div] at c
    omega
  · have e : goB k = 11 :: lkB k ∧ goV (J p) v k = fun x => lkV (J p) v k x - v := by
      rcases hk with rfl | rfl
      · exact ⟨rfl, rfl⟩
      · exact ⟨rfl, rfl⟩
    rw [e.1] at hn h
    rw [e.2] at h
    exact sm_plainGoes (by omega) M L x _ hA hn (fun M2 F2 A2 => ⟨_, rfl, F2.1.1, h M2 F2 A2⟩)
theorem sm_plainTells {e : Nat} (hs : SpM D e mX12_goesAct p k v (goB k) (goV (J p) v k)) : SpM D (e + 1) mX12_plainTells p k v (12 :: goB k) (fun x => goV (J p) v k x * 2) := by
  intro M L x P hA hn h
  refine rX12_plainTells D e _ x M _ hA.1 (a_body hA (by simp at hn; omega) (fun M' F A => ?_))
  exact hs M' _ x _ A (by simp at hn ⊢; omega) (fun M2 F2 A2 => ⟨_, rfl, F.1.1.trans F2.1.1, h M2 (F.trans F2) A2.cons⟩)
theorem sm_tells (hk : k ≤ 6) : SpM D (d + 8) mX12_tellsAct p k v (teB k) (teV (J p) v k) := by
  intro M L x P hA hn h
  obtain ⟨h1, h2⟩ := pin hA.2.1
  refine rX12_tellsAct D (d + 7) _ x M _ hA.1 ?_
  rw [h2, hA.2.2.1]
  refine ⟨h1, fun c => ?_, fun c => ?_, fun c1 c2 => ?_⟩
  · simp (disch := omega) only [J_lit, J_add, J_sub, J_mul, J_neg, J_lt, J_le, J_eq, J_nat, J_in, J_div] at c
    obtain rfl : k = 3 := by omega
    refine a_body hA (by simp [teB] at hn; omega) (fun M' F A => ?_)
    refine sm_plainTells (sm_goes' (Or.inl rfl)) M' _ x _ A (by simp [teB] at hn ⊢; omega) (fun M2 F2 A2 => ?_)
    exact sm_goes' (Or.inl rfl) M2 _ _ _ A2 (by simp [teB] at hn ⊢; omega) (fun M3 F3 A3 => ⟨_, rfl, (F.1.1.trans F2.1.1).trans F3.1.1, h M3 ((F.trans F2).trans F3) A3.cons2⟩)
  · simp (disch := omega) only [J_lit, J_add, J_sub, J_mul, J_neg, J_lt, J_le, J_eq, J_nat, J_in, J_div] at c
    obtain rfl : k = 5 := by omega
    refine a_body hA (by simp [teB] at hn; omega) (fun M' F A => ?_)
    exact sm_plainTells (sm_goes' (Or.inr rfl)) M' _ _ _ A (by simp [teB] at hn ⊢; omega) (fun M2 F2 A2 => ⟨_, rfl, F.1.1.trans F2.1.1, h M2 (F.trans F2) A2.cons⟩)
  · simp (disch := omega) only [J_lit, J_add, J_sub, J_mul, J_neg, J_lt, J_le, J_eq, J_nat, J_in, J_div] at c1 c2
    have e : teB k = 12 :: goB k ∧ teV (J p) v k = fun x => goV (J p) v k x * 2 := by
      rcases (by omega : k = 0 ∨ k = 1 ∨ k = 2 ∨ k = 4 ∨ k = 6) with rfl | rfl | rfl | rfl | rfl
      · exact ⟨rfl, rfl⟩
      · exact ⟨rfl, rfl⟩
      · exact ⟨rfl, rfl⟩
      · exact ⟨rfl, rfl⟩
      · exact ⟨rfl, rfl⟩
    rw [e.1] at hn h
    rw [e.2] at h
    exact sm_plainTells (sm_goes hk) M L x _ hA hn (fun M2 F2 A2 => ⟨_, rfl, F2.1.1, h M2 F2 A2⟩)
end
