/-! WEIGHTS: the class -/
def mn99 (x : Int) : Int := if x < 99 then x else 99
def bnd (f : Nat → Int) (s : Nat) : Int := if mn99 (f 0) + mn99 (f 1) + mn99 (f 2) = 0 ∧ s = 1 then 1 else mn99 (f s)
def chc (T : Nat → Int) (w : Nat) (g : Nat → Int) (s : Nat) : Int := g 0 * cl T w s 0 + g 1 * cl T w s 1 + g 2 * cl T w s 2
def rpA (T : Nat → Int) (w : Nat) (g : Nat → Int) : Nat := if bt w (chc T w g 1) (chc T w g 0) then 1 else 0
def rpl (T : Nat → Int) (w : Nat) (g : Nat → Int) : Nat := if bt w (chc T w g 2) (chc T w g (rpA T w g)) then 2 else rpA T w g
def hd (k : Nat) : Bool := k == 4 || k == 5
def wPl (k v : Nat) (F : Nat → Int) (R : List Cls) (r : Nat → Int) (s : Nat) : Int := if k = 2 ∨ k = 5 then r s else if k = 6 then r s + (if s = 1 then 5 * (v : Int) else 0) else if k = 3 ∧ (s : Int) = F 0 then 0 else (gain F s R : Int) + (if (k = 1 ∨ k = 4) ∧ s = v then 30 else 0)
def ans (k q : Nat) (f : Nat → Int) (s : Nat) : Int := if k = 5 then (if s = q then 1 else 0) else (if s = q then 3 * f s else f s)
def wgF (k v : Nat) (F : Nat → Int) (R : List Cls) (r : Nat → Int) (z : Int) (s : Nat) : Int := if hd k = true ∧ 0 ≤ z then ans k z.toNat (wPl k v F R r) s else wPl k v F R r s
theorem wPl_0 (v : Nat) (F : Nat → Int) (R : List Cls) (r : Nat → Int) (s : Nat) : wPl 0 v F R r s = (gain F s R : Int) := by simp [wPl]
theorem wPl_1 (v : Nat) (F : Nat → Int) (R : List Cls) (r : Nat → Int) (s : Nat) : wPl 1 v F R r s = (gain F s R : Int) + (if s = v then 30 else 0) := by simp [wPl]
theorem wPl_2 (v : Nat) (F : Nat → Int) (R : List Cls) (r : Nat → Int) (s : Nat) : wPl 2 v F R r s = r s := by simp [wPl]
theorem wPl_3 (v : Nat) (F : Nat → Int) (R : List Cls) (r : Nat → Int) (s : Nat) : wPl 3 v F R r s = if (s : Int) = F 0 then 0 else (gain F s R : Int) := by simp [wPl]
theorem wPl_4 (v : Nat) (F : Nat → Int) (R : List Cls) (r : Nat → Int) (s : Nat) : wPl 4 v F R r s = (gain F s R : Int) + (if s = v then 30 else 0) := by simp [wPl]
theorem wPl_5 (v : Nat) (F : Nat → Int) (R : List Cls) (r : Nat → Int) (s : Nat) : wPl 5 v F R r s = r s := by simp [wPl]
theorem wPl_6 (v : Nat) (F : Nat → Int) (R : List Cls) (r : Nat → Int) (s : Nat) : wPl 6 v F R r s = r s + (if s = 1 then 5 * (v : Int) else 0) := by simp [wPl]
theorem rpA_le (T : Nat → Int) (w : Nat) (g : Nat → Int) : rpA T w g < 3 := by unfold rpA; split <;> omega
theorem rpl_le (T : Nat → Int) (w : Nat) (g : Nat → Int) : rpl T w g < 3 := by
  have := rpA_le T w g
  unfold rpl
  split <;> omega
theorem chc_b {T : Nat → Int} {g : Nat → Int} {w s : Nat} (hb : Tb T) (hs : s < 3) (hg : ∀ i, i < 3 → 0 ≤ g i ∧ g i ≤ 1000) : 0 ≤ chc T w g s ∧ chc T w g s ≤ 300000 := by
  unfold chc
  have p0 := pb (hg 0 (by omega)).1 (cl_b hb (w := w) (own := s) (other := 0) hs (by omega)).1 (cl_b hb (w := w) (own := s) (other := 0) hs (by omega)).2
  have p1 := pb (hg 1 (by omega)).1 (cl_b hb (w := w) (own := s) (other := 1) hs (by omega)).1 (cl_b hb (w := w) (own := s) (other := 1) hs (by omega)).2
  have p2 := pb (hg 2 (by omega)).1 (cl_b hb (w := w) (own := s) (other := 2) hs (by omega)).1 (cl_b hb (w := w) (own := s) (other := 2) hs (by omega)).2
  have q0 := (hg 0 (by omega)).2
  have q1 := (hg 1 (by omega)).2
  have q2 := (hg 2 (by omega)).2
  omega
theorem mn99_b {x : Int} (h : 0 ≤ x) : 0 ≤ mn99 x ∧ mn99 x ≤ 99 := by unfold mn99; split <;> omega
theorem bnd_b {f : Nat → Int} {s : Nat} (h : 0 ≤ f s) : 0 ≤ bnd f s ∧ bnd f s ≤ 99 := by
  have := mn99_b h
  unfold bnd
  split <;> omega
section
variable {D : GD} {d : Nat} {M : Mm}
theorem c_replySide {T g : Nat → Int} {w : Nat} {P : Int32 → Mm → Prop} (hL : Lay 13 25 M) (hT : Ro M 14 9 T) (hb : Tb T) (hw : w < 2) (hg : ∀ i, i < 3 → gI M (23 + (1 - w)) i = J (g i) ∧ 0 ≤ g i ∧ g i ≤ 1000) (h : P (J (rpl T w g)) M) : AMi D (d + 1) mX0_replySide [.ref 13, .int (J w)] M P := by
  have hs : Sh M (23 + (1 - w)) (1, 4) := (row_22 hL (by omega) (by omega) (j := 1 - w) (by omega)).2
  have hg2 : ∀ i, i < 3 → 0 ≤ g i ∧ g i ≤ 1000 := fun i hi => (hg i hi).2
  have cb : ∀ s, s < 3 → 0 ≤ chc T w g s ∧ chc T w g s ≤ 300000 := fun s hs => chc_b hb hs hg2
  -- one step of the inner row
  have st : ∀ (best side o : Nat) (bc acc : Int) (post : Option Value → Mm → Prop), side < 3 → o < 3 → 0 ≤ acc → acc ≤ 1000000 → LX0_replySide_29 D d (J w) (23 + (1 - w)) (J best) (J bc) (J side) (J (acc + g o * cl T w side o)) (J ((o + 1 : Nat) : Int)) M post → LX0_replySide_29 D d (J w) (23 + (1 - w)) (J best) (J bc) (J side) (J acc) (J o) M post := by
    intro best side o bc acc post hsd ho ha1 ha2 hk
    have eo : (J (o : Int)).toNatClampNeg = o := by simp (disch := omega) only [J_lit, J_add, J_sub, J_mul, J_neg, J_lt, J_le, J_eq, J_nat, J_in, J_div]; omega
    refine rX0_replySide_29 D d _ _ _ _ _ _ _ M post hL hs ⟨fun c => ?_, fun _ => ⟨by simp (disch := omega) only [J_lit, J_add, J_sub, J_mul, J_neg, J_lt, J_le, J_eq, J_nat, J_in, J_div]; omega, c_cell hL hT hw hsd ho (fun x20 e20 x21 e21 => ?_)⟩⟩
    · exfalso
      simp (disch := omega) only [J_lit, J_add, J_sub, J_mul, J_neg, J_lt, J_le, J_eq, J_nat, J_in, J_div] at c
      omega
    · rw [eo, (hg o ho).1] at e20
      have e20' : x20 = J (acc + g o * cl T w side o) := by rw [e20]; simp (disch := omega) only [J_lit, J_add, J_sub, J_mul, J_neg, J_lt, J_le, J_eq, J_nat, J_in, J_div]
      rw [e20', e21, J_suc]
      exact hk
  have row : ∀ (best side : Nat) (bc : Int) (post : Option Value → Mm → Prop), side < 3 → LX0_replySide_29 D d (J w) (23 + (1 - w)) (J best) (J bc) (J side) (J (chc T w g side)) (J ((3 : Nat) : Int)) M post → LX0_replySide_17 D d (J w) (23 + (1 - w)) (J best) (J bc) (J side) M post := by
    intro best side bc post hsd hk
    have p0 := pb (hg2 0 (by omega)).1 (cl_b hb (w := w) (own := side) (other := 0) hsd (by omega)).1 (cl_b hb (w := w) (own := side) (other := 0) hsd (by omega)).2
    have p1 := pb (hg2 1 (by omega)).1 (cl_b hb (w := w) (own := side) (other := 1) hsd (by omega)).1 (cl_b hb (w := w) (own := side) (other := 1) hsd (by omega)).2
    have q0 := (hg2 0 (by omega)).2
    have q1 := (hg2 1 (by omega)).2
    refine rX0_replySide_17 D d _ _ _ _ _ M post hL hs ⟨fun c => ?_, fun _ => ?_⟩
    · exfalso
      simp (disch := omega) only [J_lit, J_add, J_sub, J_mul, J_neg, J_lt, J_le, J_eq, J_nat, J_in, J_div] at c
      omega
    · refine st best side 0 bc 0 post hsd (by omega) (by omega) (by omega) ?_
      refine st best side 1 bc _ post hsd (by omega) (by omega) (by omega) ?_
      refine st best side 2 bc _ post hsd (by omega) (by omega) (by omega) ?_
      have e : 0 + g 0 * cl T w side 0 + g 1 * cl T w side 1 + g 2 * cl T w side 2 = chc T w g side := by unfold chc; omega
      rw [e]
      exact hk
  have better : ∀ (best side : Nat) (bc c : Int) (post : Option Value → Mm → Prop), 1 ≤ side → side < 3 → 0 ≤ bc → bc ≤ 300000 → 0 ≤ c → c ≤ 300000 → (bt w c bc → LX0_replySide_17 D d (J w) (23 + (1 - w)) (J side) (J c) (J ((side + 1 : Nat) : Int)) M post) → (¬ bt w c bc → LX0_replySide_17 D d (J w) (23 + (1 - w)) (J best) (J bc) (J ((side + 1 : Nat) : Int)) M post) → LX0_replySide_29 D d (J w) (23 + (1 - w)) (J best) (J bc) (J side) (J c) (J ((3 : Nat) : Int)) M post := by
    intro best side bc c post h1 h2 b1 b2 c1 c2 hy hn
    refine rX0_replySide_29 D d _ _ _ _ _ _ _ M post hL hs ⟨fun _ => ⟨fun q => ?_, fun _ => c_better hL hw (by omega) (by omega) ⟨fun q x11 e11 => ?_, fun q x12 e12 => ?_⟩⟩, fun q => absurd (by decide) q⟩
    · exfalso
      simp (disch := omega) only [J_lit, J_add, J_sub, J_mul, J_neg, J_lt, J_le, J_eq, J_nat, J_in, J_div] at q
      omega
    · rw [e11, J_suc]
      exact hn (b2_eq0.mp q)
    · rw [e12, J_suc]
      exact hy (b2_ne0.mp q)
  have ew : (J ((1 - w : Nat) : Int)).toNatClampNeg = 1 - w := by simp (disch := omega) only [J_lit, J_add, J_sub, J_mul, J_neg, J_lt, J_le, J_eq, J_nat, J_in, J_div]; omega
  refine rX0_replySide D d (J w) M _ hL ?_
  rw [J_w hw, ew]
  refine ⟨by simp (disch := omega) only [J_lit, J_add, J_sub, J_mul, J_neg, J_lt, J_le, J_eq, J_nat, J_in, J_div]; omega, ?_⟩
  refine row 0 0 0 _ (by omega) ?_
  refine rX0_replySide_29 D d _ _ _ _ _ _ _ M _ hL hs ⟨fun _ => ⟨fun _ x3 e3 => ?_, fun q => absurd rfl q⟩, fun q => absurd (by decide) q⟩
  rw [e3, J_suc]
  have fin : ∀ (b1 : Nat), b1 = rpA T w g → LX0_replySide_17 D d (J w) (23 + (1 - w)) (J b1) (J (chc T w g b1)) (J ((2 : Nat) : Int)) M (fun r M1 => ∃ x, r = some (.int x) ∧ Sm M M1 ∧ P x M1) := by
    intro b1 hb1
    have hb3 : b1 < 3 := by rw [hb1]; exact rpA_le T w g
    unfold rpl at h
    rw [← hb1] at h
    refine row _ 2 _ _ (by omega) (better _ 2 _ _ _ (by omega) (by omega) (cb b1 hb3).1 (cb b1 hb3).2 (cb 2 (by omega)).1 (cb 2 (by omega)).2 (fun q => ?_) (fun q => ?_))
    · rw [if_pos q] at h
      exact rX0_replySide_17 D d _ _ _ _ _ M _ hL hs ⟨fun _ => ⟨_, rfl, .refl M, h⟩, fun q => absurd (by decide) q⟩
    · rw [if_neg q] at h
      exact rX0_replySide_17 D d _ _ _ _ _ M _ hL hs ⟨fun _ => ⟨_, rfl, .refl M, h⟩, fun q => absurd (by decide) q⟩
  refine row _ 1 _ _ (by omega) (better _ 1 _ _ _ (by omega) (by omega) (cb 0 (by omega)).1 (cb 0 (by omega)).2 (cb 1 (by omega)).1 (cb 1 (by omega)).2 (fun q => fin 1 ?_) (fun q => fin 0 ?_))
  · unfold rpA
    rw [if_pos q]
  · unfold rpA
    rw [if_neg q]
theorem c_temper {a : Nat} {f : Nat → Int} {P : Mm → Prop} (hs : Sh M a (1, 4)) (hf : ∀ s, s < 3 → gI M a s = J (f s) ∧ 0 ≤ f s ∧ f s ≤ 1000000) (h : ∀ M', Fm [a] M M' → (∀ s, s < 3 → gI M' a s = J (bnd f s)) → P M') : AMv D (d + 1) mX0_temper [.ref a] M P := by
  have st : ∀ (i : Nat) (acc : Int) (M : Mm) (post : Option Value → Mm → Prop), i < 3 → 0 ≤ acc → acc ≤ 1000 → Sh M a (1, 4) → gI M a i = J (f i) → LX0_temper_4 D d a (J (acc + mn99 (f i))) (J ((i + 1 : Nat) : Int)) (sI M a i (J (mn99 (f i)))) post → LX0_temper_4 D d a (J acc) (J i) M post := by
    intro i acc M post hi h1 h2 hsh hfi hk
    have ei : (J (i : Int)).toNatClampNeg = i := by simp (disch := omega) only [J_lit, J_add, J_sub, J_mul, J_neg, J_lt, J_le, J_eq, J_nat, J_in, J_div]; omega
    have hb := (hf i hi).2
    refine rX0_temper_4 D d _ _ _ M post (.nil M) hsh ⟨fun c => ?_, fun _ => ⟨by simp (disch := omega) only [J_lit, J_add, J_sub, J_mul, J_neg, J_lt, J_le, J_eq, J_nat, J_in, J_div]; omega, fun M8 e8 x12 e12 x13 e13 => ?_⟩⟩
    · exfalso
      simp (disch := omega) only [J_lit, J_add, J_sub, J_mul, J_neg, J_lt, J_le, J_eq, J_nat, J_in, J_div] at c
      omega
    · rw [ei, hfi] at e8
      have em : (if J (f i) < (99 : Int32) then J (f i) else (99 : Int32)) = J (mn99 (f i)) := by
        unfold mn99
        simp (disch := omega) only [J_lit, J_add, J_sub, J_mul, J_neg, J_lt, J_le, J_eq, J_nat, J_in, J_div]
        split <;> rfl
      rw [em] at e8
      subst e8
      rw [ei, gI_sI, if_pos ⟨rfl, rfl⟩] at e12
      rw [e12, e13, J_suc, J_add]
      exact hk
  have m0 := mn99_b (hf 0 (by omega)).2.1
  have m1 := mn99_b (hf 1 (by omega)).2.1
  have m2 := mn99_b (hf 2 (by omega)).2.1
  refine rX0_temper D d a M _ (.nil M) hs ?_
  refine st 0 0 M _ (by omega) (by omega) (by omega) hs (hf 0 (by omega)).1 ?_
  obtain ⟨M1, q1⟩ : ∃ M1, M1 = sI M a 0 (J (mn99 (f 0))) := ⟨_, rfl⟩
  rw [← q1]
  have F1 : Fm [a] M M1 := by rw [q1]; exact (Fm.refl _ M).si (by simp)
  refine st 1 _ M1 _ (by omega) (by omega) (by omega) (hs.of F1.1) (by rw [q1, gI_sI, if_neg (by omega)]; exact (hf 1 (by omega)).1) ?_
  obtain ⟨M2, q2⟩ : ∃ M2, M2 = sI M1 a 1 (J (mn99 (f 1))) := ⟨_, rfl⟩
  rw [← q2]
  have F2 : Fm [a] M M2 := by rw [q2]; exact F1.si (by simp)
  refine st 2 _ M2 _ (by omega) (by omega) (by omega) (hs.of F2.1) (by rw [q2, gI_sI, if_neg (by omega), q1, gI_sI, if_neg (by omega)]; exact (hf 2 (by omega)).1) ?_
  obtain ⟨M3, q3⟩ : ∃ M3, M3 = sI M2 a 2 (J (mn99 (f 2))) := ⟨_, rfl⟩
  rw [← q3]
  have F3 : Fm [a] M M3 := by rw [q3]; exact F2.si (by simp)
  have g3 : ∀ s, s < 3 → gI M3 a s = J (mn99 (f s)) := by
    intro s hs3
    rcases (by omega : s = 0 ∨ s = 1 ∨ s = 2) with rfl | rfl | rfl
    · rw [q3, gI_sI, if_neg (by omega), q2, gI_sI, if_neg (by omega), q1, gI_sI, if_pos ⟨rfl, rfl⟩]
    · rw [q3, gI_sI, if_neg (by omega), q2, gI_sI, if_pos ⟨rfl, rfl⟩]
    · rw [q3, gI_sI, if_pos ⟨rfl, rfl⟩]
  refine rX0_temper_4 D d _ _ _ M3 _ (.nil M3) (hs.of F3.1) ⟨fun _ => ⟨fun c => ⟨rfl, F3.1, h M3 F3 (fun s hs3 => ?_)⟩, fun c M4 e4 => ?_⟩, fun q => absurd (by decide) q⟩
  · rw [g3 s hs3]
    unfold bnd
    rw [if_neg]
    intro q
    simp (disch := omega) only [J_lit, J_add, J_sub, J_mul, J_neg, J_lt, J_le, J_eq, J_nat, J_in, J_div] at c
    omega
  · simp (disch := omega) only [J_lit, J_add, J_sub, J_mul, J_neg, J_lt, J_le, J_eq, J_nat, J_in, J_div] at c
    have F4 : Fm [a] M M4 := by rw [e4]; exact F3.si (by simp)
    refine ⟨rfl, F4.1, h M4 F4 (fun s hs3 => ?_)⟩
    rw [e4, gI_sI]
    unfold bnd
    by_cases e : s = 1
    · rw [if_pos ⟨rfl, e⟩, if_pos ⟨by omega, e⟩]
      rfl
    · rw [if_neg (fun q => e q.2), if_neg (fun q => e q.2), g3 s hs3]
theorem c_heeds {q k j : Nat} {P : Int32 → Mm → Prop} (hk : k ≤ 6) (hPl : Pl M q (kcl k) j) (h : P (if hd k = true then 1 else 0) M) : AMi D d (vm_heeds (kcl k)) [.ref q] M P := by
  rcases (by omega : k = 0 ∨ k = 1 ∨ k = 2 ∨ k = 3 ∨ k = 4 ∨ k = 5 ∨ k = 6) with rfl | rfl | rfl | rfl | rfl | rfl | rfl
  · exact rX5_heeds D d q 5 j M _ (.nil M) hPl ⟨_, rfl, .refl M, h⟩
  · exact rX5_heeds D d q 4 j M _ (.nil M) hPl ⟨_, rfl, .refl M, h⟩
  · exact rX5_heeds D d q 2 j M _ (.nil M) hPl ⟨_, rfl, .refl M, h⟩
  · exact rX5_heeds D d q 9 j M _ (.nil M) hPl ⟨_, rfl, .refl M, h⟩
  · exact rX10_heeds D d q 10 j M _ (.nil M) hPl rfl ⟨_, rfl, .refl M, h⟩
  · exact rX3_heeds D d q 3 j M _ (.nil M) hPl rfl ⟨_, rfl, .refl M, h⟩
  · exact rX5_heeds D d q 8 j M _ (.nil M) hPl ⟨_, rfl, .refl M, h⟩
theorem c_weigh2 {q c j a1 a2 : Nat} {x y : Int32} {P : Mm → Prop} (hc : c = 2 ∨ c = 3 ∨ c = 8) (hPl : Pl M q c j) (s1 : Sh M a1 (1, 4)) (s2 : Sh M a2 (1, 3)) (h : ∀ M', Fm [a1] M M' → (∀ s, s < 3 → gI M' a1 s = gI M a2 s) → P M') : AMv D (d + 1) mX2_weigh [.ref q, .ref a1, .ref a2, .int x, .int y] M P := by
  refine rX2_weigh D d q c j a1 a2 x y M _ (.nil M) hPl hc s1 s2 (fun M1 e1 => ?_)
  have F1 : Fm [a1] M M1 := by rw [e1]; exact (Fm.refl _ M).ri (by simp)
  refine ⟨rfl, F1.1, h M1 F1 (fun s hs => ?_)⟩
  rw [e1, gI_rI, if_pos rfl, cpy0 hs]
theorem c_weigh4 {q c j a1 a2 v : Nat} {x y : Int32} {P : Mm → Prop} {f : Nat → Int} (hc : c = 4 ∨ c = 10) (hPl : Pl M q c j) (s1 : Sh M a1 (1, 4)) (s2 : Sh M a2 (1, 3)) (hv : v ≤ 2) (ev : gI M q 2 = J v) (hf : ∀ s, s < 3 → gI M a1 s = J (f s)) (h : ∀ M', Fm [a1] M M' → (∀ s, s < 3 → gI M' a1 s = J (f s + (if s = v then 30 else 0))) → P M') : AMv D d mX4_weigh [.ref q, .ref a1, .ref a2, .int x, .int y] M P := by
  have en : (J (v : Int)).toNatClampNeg = v := by simp (disch := omega) only [J_lit, J_add, J_sub, J_mul, J_neg, J_lt, J_le, J_eq, J_nat, J_in, J_div]; omega
  refine rX4_weigh D d q c j a1 a2 x y M _ (.nil M) hPl hc s1 s2 ?_
  rw [ev, en]
  refine ⟨fun c => ?_, fun _ => ⟨fun c => ?_, fun _ => ⟨by simp (disch := omega) only [J_lit, J_add, J_sub, J_mul, J_neg, J_lt, J_le, J_eq, J_nat, J_in, J_div]; omega, fun M4 e4 => ?_⟩⟩⟩
  · exfalso
    simp (disch := omega) only [J_lit, J_add, J_sub, J_mul, J_neg, J_lt, J_le, J_eq, J_nat, J_in, J_div] at c
    omega
  · exfalso
    simp (disch := omega) only [J_lit, J_add, J_sub, J_mul, J_neg, J_lt, J_le, J_eq, J_nat, J_in, J_div] at c
    omega
  · have F1 : Fm [a1] M M4 := by rw [e4]; exact (Fm.refl _ M).si (by simp)
    refine ⟨rfl, F1.1, h M4 F1 (fun s hs => ?_)⟩
    rw [e4, gI_sI, hf v (by omega)]
    by_cases e : s = v
    · subst e
      rw [if_pos ⟨rfl, rfl⟩, if_pos rfl]
      simp (disch := omega) only [J_lit, J_add, J_sub, J_mul, J_neg, J_lt, J_le, J_eq, J_nat, J_in, J_div]
    · rw [if_neg (fun z => e z.2), if_neg e, Int.add_zero, hf s hs]
theorem c_weigh {q k v j a1 a2 : Nat} {F r : Nat → Int} {R : List Cls} {z : Int} {P : Mm → Prop} (hL : Lay 0 62 M) (hk : k ≤ 6) (hv : v ≤ 2) (hPl : Pl M q (kcl k) j) (h98 : 98 ≤ q) (ha : a1 < 98) (s1 : Sh M a1 (1, 4)) (s2 : Sh M a2 (1, 3)) (ev : gI M q 2 = J v) (hg : ∀ s, s < 3 → gI M a1 s = J ((gain F s R : Nat) : Int)) (hr : ∀ s, s < 3 → gI M a2 s = J (r s)) (hF0 : 0 ≤ F 0 ∧ F 0 ≤ 3) (hz : z = -1 ∨ (0 ≤ z ∧ z < 3 ∧ hd k = true)) (h : ∀ M', Fm [a1] M M' → (∀ s, s < 3 → gI M' a1 s = J (wgF k v F R r z s)) → P M') : AMv D (d + 2) (vm_weigh (kcl k)) [.ref q, .ref a1, .ref a2, .int (J (F 0)), .int (J z)] M P := by
  have side : ∀ x : Int, -1 ≤ x → x ≤ 3 → b2 ((0 : Int32) ≤ J x ∧ J x < (3 : Int32)) = b2 (0 ≤ x ∧ x < 3) := by
    intro x h1 h2
    by_cases q : 0 ≤ x ∧ x < 3
    · rw [b2_t q, b2_t (by simp (disch := omega) only [J_lit, J_add, J_sub, J_mul, J_neg, J_lt, J_le, J_eq, J_nat, J_in, J_div]; omega)]
    · rw [b2_f q, b2_f (by simp (disch := omega) only [J_lit, J_add, J_sub, J_mul, J_neg, J_lt, J_le, J_eq, J_nat, J_in, J_div]; omega)]
  have plain : hd k = false → ∀ s, wgF k v F R r z s = wPl k v F R r s := by
    intro hh s
    unfold wgF
    rw [if_neg (fun q => by rw [hh] at q; cases q.1)]
  rcases (by omega : k = 0 ∨ k = 1 ∨ k = 2 ∨ k = 3 ∨ k = 4 ∨ k = 5 ∨ k = 6) with rfl | rfl | rfl | rfl | rfl | rfl | rfl
  · -- player
    refine rX5_weigh D (d + 2) q 5 j a1 a2 _ _ M _ (.nil M) hPl s1 s2 ⟨rfl, .refl M, h M (Fm.refl _ M) (fun s hs => ?_)⟩
    rw [plain rfl, hg s hs, wPl_0]
  · -- own
    refine c_weigh4 (c := 4) (f := fun s => (gain F s R : Int)) (by omega) hPl s1 s2 hv ev hg (fun M' F1 hh => h M' F1 (fun s hs => ?_))
    rw [plain rfl, hh s hs, wPl_1]
  · -- mixed
    refine c_weigh2 (c := 2) (by omega) hPl s1 s2 (fun M' F1 hh => h M' F1 (fun s hs => ?_))
    rw [plain rfl, hh s hs, hr s hs, wPl_2]
  · -- turning
    refine rX9_weigh D (d + 1) q 9 j a1 a2 _ _ M _ (.nil M) hPl rfl s1 s2 (c_isSide hL ?_)
    rw [side _ (by omega) (by omega)]
    refine ⟨fun c => ⟨rfl, .refl M, h M (Fm.refl _ M) (fun s hs => ?_)⟩, fun c => ⟨?_, fun M10 e10 => ?_⟩⟩
    · have c := b2_eq0.mp c
      have hne : ¬ (s : Int) = F 0 := by omega
      rw [plain rfl, hg s hs, wPl_3, if_neg hne]
    · have c := b2_ne0.mp c
      simp (disch := omega) only [J_lit, J_add, J_sub, J_mul, J_neg, J_lt, J_le, J_eq, J_nat, J_in, J_div]
      omega
    · have c := b2_ne0.mp c
      have en : (J (F 0)).toNatClampNeg = (F 0).toNat := by simp (disch := omega) only [J_lit, J_add, J_sub, J_mul, J_neg, J_lt, J_le, J_eq, J_nat, J_in, J_div]
      rw [en] at e10
      have F1 : Fm [a1] M M10 := by rw [e10]; exact (Fm.refl _ M).si (by simp)
      refine ⟨rfl, F1.1, h M10 F1 (fun s hs => ?_)⟩
      rw [plain rfl, e10, gI_sI, wPl_3]
      by_cases e : s = (F 0).toNat
      · have e2 : (s : Int) = F 0 := by omega
        rw [if_pos (⟨rfl, e⟩ : a1 = a1 ∧ s = (F 0).toNat), if_pos e2]
        rfl
      · have e2 : ¬ (s : Int) = F 0 := by omega
        rw [if_neg (fun q : a1 = a1 ∧ s = (F 0).toNat => e q.2), if_neg e2, hg s hs]
  · -- waiting
    refine rX10_weigh D (d + 1) q 10 j a1 a2 _ _ M _ (.nil M) hPl rfl s1 s2 ?_
    refine c_weigh4 (c := 10) (f := fun s => (gain F s R : Int)) (by omega) hPl s1 s2 hv ev hg (fun M' F1 hh => c_isSide (hL.of F1.1) ?_)
    have hp : ∀ s, s < 3 → gI M' a1 s = J (wPl 4 v F R r s) := by
      intro s hs
      rw [hh s hs, wPl_4]
    rw [side _ (by omega) (by omega)]
    refine ⟨fun c => ⟨rfl, F1.1, h M' F1 (fun s hs => ?_)⟩, fun c => ⟨?_, fun M17 e17 => ?_⟩⟩
    · have c := b2_eq0.mp c
      rw [hp s hs]
      unfold wgF
      rw [if_neg (fun q : hd 4 = true ∧ 0 ≤ z => by omega)]
    · have c := b2_ne0.mp c
      simp (disch := omega) only [J_lit, J_add, J_sub, J_mul, J_neg, J_lt, J_le, J_eq, J_nat, J_in, J_div]
      omega
    · have c := b2_ne0.mp c
      have en : (J z).toNatClampNeg = z.toNat := by simp (disch := omega) only [J_lit, J_add, J_sub, J_mul, J_neg, J_lt, J_le, J_eq, J_nat, J_in, J_div]
      rw [en, hp _ (by omega)] at e17
      have F2 : Fm [a1] M M17 := by rw [e17]; exact F1.si (by simp)
      refine ⟨rfl, F2.1, h M17 F2 (fun s hs => ?_)⟩
      have ew : wgF 4 v F R r z s = if s = z.toNat then 3 * wPl 4 v F R r s else wPl 4 v F R r s := by
        unfold wgF
        rw [if_pos (⟨rfl, c.1⟩ : hd 4 = true ∧ 0 ≤ z)]
        simp [ans]
      rw [e17, gI_sI, ew]
      by_cases e : s = z.toNat
      · rw [if_pos (⟨rfl, e⟩ : a1 = a1 ∧ s = z.toNat), if_pos e, e]
        simp (disch := omega) only [J_lit, J_add, J_sub, J_mul, J_neg, J_lt, J_le, J_eq, J_nat, J_in, J_div]
        congr 1
        omega
      · rw [if_neg (fun q : a1 = a1 ∧ s = z.toNat => e q.2), if_neg e, hp s hs]
  · -- noted
    refine rX3_weigh D (d + 1) q 3 j a1 a2 _ _ M _ (.nil M) hPl rfl s1 s2 (c_isSide hL ?_)
    rw [side _ (by omega) (by omega)]
    refine ⟨fun c => c_weigh2 (c := 3) (by omega) hPl s1 s2 (fun M' F1 hh => ⟨rfl, F1.1, h M' F1 (fun s hs => ?_)⟩), fun c => c_fill (n := 4) (by omega) s1 ?_⟩
    · have c := b2_eq0.mp c
      rw [hh s hs, hr s hs]
      unfold wgF
      rw [if_neg (fun q : hd 5 = true ∧ 0 ≤ z => by omega), wPl_5]
    · have c := b2_ne0.mp c
      refine ⟨by simp (disch := omega) only [J_lit, J_add, J_sub, J_mul, J_neg, J_lt, J_le, J_eq, J_nat, J_in, J_div]; omega, fun M24 e24 => ?_⟩
      have en : (J z).toNatClampNeg = z.toNat := by simp (disch := omega) only [J_lit, J_add, J_sub, J_mul, J_neg, J_lt, J_le, J_eq, J_nat, J_in, J_div]
      rw [en] at e24
      have F2 : Fm [a1] M M24 := by rw [e24]; exact ((Fm.refl _ M).ri (by simp)).si (by simp)
      refine ⟨rfl, F2.1, h M24 F2 (fun s hs => ?_)⟩
      have ew : wgF 5 v F R r z s = if s = z.toNat then 1 else 0 := by
        unfold wgF
        rw [if_pos (⟨rfl, c.1⟩ : hd 5 = true ∧ 0 ≤ z)]
        simp [ans]
      rw [e24, gI_sI, ew]
      by_cases e : s = z.toNat
      · rw [if_pos (⟨rfl, e⟩ : a1 = a1 ∧ s = z.toNat), if_pos e]
        rfl
      · rw [if_neg (fun q : a1 = a1 ∧ s = z.toNat => e q.2), if_neg e, gI_rI, if_pos rfl, if_pos (by omega)]
        rfl
  · -- staying
    refine rX8_weigh D (d + 1) q 8 j a1 a2 _ _ M _ (.nil M) hPl rfl s1 s2 ?_
    refine c_weigh2 (c := 8) (by omega) hPl s1 s2 (fun M' F1 hh M8 e8 => ?_)
    have eq : gI M' q 2 = J v := by
      have : gI M' q = gI M q := F1.2.2.2 q (by simp; omega)
      rw [this]
      exact ev
    rw [eq, hh 1 (by omega), hr 1 (by omega)] at e8
    have F2 : Fm [a1] M M8 := by rw [e8]; exact F1.si (by simp)
    refine ⟨rfl, F2.1, h M8 F2 (fun s hs => ?_)⟩
    rw [plain rfl, e8, gI_sI, wPl_6]
    by_cases e : s = 1
    · rw [if_pos (⟨rfl, e⟩ : a1 = a1 ∧ s = 1), if_pos e, e]
      simp (disch := omega) only [J_lit, J_add, J_sub, J_mul, J_neg, J_lt, J_le, J_eq, J_nat, J_in, J_div]
      congr 1
      omega
    · rw [if_neg (fun q : a1 = a1 ∧ s = 1 => e q.2), if_neg e, hh s hs, hr s hs, Int.add_zero]
end
