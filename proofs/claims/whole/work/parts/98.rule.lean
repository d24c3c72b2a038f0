/-! RULE: the call -/
theorem Pcs_k {ch : Nat → Int} {n s : Nat} (ht : Tnn ch n) : ∀ m p p' R, p ≤ n → Pcs ch s n m p p' (some R) → R.length ≤ m ∧ ∀ C ∈ R, ClOk C := by
  have base : ∀ (p : Nat) (R : List Cls), some R = (if p = n then some [] else none) → R = [] := by
    intro p R h
    by_cases e : p = n
    · rw [if_pos e] at h
      cases h
      rfl
    · rw [if_neg e] at h
      cases h
  intro m
  induction m with
  | zero =>
    intro p p' R hp h
    have := base p R h.2
    subst this
    exact ⟨Nat.le_refl 0, fun C hC => by cases hC⟩
  | succ m ih =>
    intro p p' R hp h
    rcases h with ⟨_, _, e⟩ | ⟨c0, q, c, h1, ⟨_, _, z⟩ | ⟨C, o2, rfl, h3, z⟩⟩
    · have := base p R e
      subst this
      exact ⟨Nat.zero_le _, fun C hC => by cases hC⟩
    · cases z
    · have hp1 : p < n := ht.lt (p := p) (by omega)
      have a := Pc_k ht hp1 h1
      cases o2 with
      | none => cases z
      | some R2 =>
        cases z
        have := ih q p' R2 a.2.1 h3
        refine ⟨by rw [List.length_cons]; omega, fun X hX => ?_⟩
        rcases List.mem_cons.1 hX with rfl | hX
        · exact (a.2.2 X rfl).1
        · exact this.2 X hX
theorem Prl_k {ch : Nat → Int} {n s p' : Nat} {R : List Cls} (ht : Tnn ch n) (h : Prl ch s n p' (some R)) : 1 ≤ R.length ∧ R.length ≤ 8 ∧ ∀ C ∈ R, ClOk C := by
  obtain ⟨q, c, h1, ⟨_, _, z⟩ | ⟨C, o2, rfl, h3, z⟩⟩ := h
  · cases z
  · have a := Pc_k ht (Nat.zero_le n) h1
    cases o2 with
    | none => cases z
    | some R2 =>
      cases z
      have := Pcs_k ht 7 q p' R2 a.2.1 h3
      refine ⟨by rw [List.length_cons]; omega, by rw [List.length_cons]; omega, fun X hX => ?_⟩
      rcases List.mem_cons.1 hX with rfl | hX
      · exact (a.2.2 X rfl).1
      · exact this.2 X hX
theorem RuOk.old {M M' : Mm} {j nr : Nat} (h : RuOk M j) (hj : j < nr) (h5 : gI M' (5 + j) = gI M (5 + j)) (h65 : gI M' 65 j = gI M 65 j) (h6 : ∀ a i, 66 ≤ a → a ≤ 69 → i < 8 * nr → gI M' a i = gI M a i) (h70 : ∀ i, i < 100 * nr → gI M' 70 i = gI M 70 i) : RuOk M' j := by
  obtain ⟨R, a1, a2, a3, a4, a5, a6, a7⟩ := h
  refine ⟨R, a1, a2, a3, a4, fun k hk => by rw [h5]; exact a5 k hk, by rw [h65]; exact a6, fun i c hi => ?_⟩
  have hiR : i < R.length := (List.getElem?_eq_some_iff.1 hi).1
  obtain ⟨b1, b2, a, b3, b4, b5, b6⟩ := a7 i c hi
  refine ⟨by rw [h6 66 _ (by omega) (by omega) (by omega)]; exact b1, by rw [h6 67 _ (by omega) (by omega) (by omega)]; exact b2, a, b3, by rw [h6 68 _ (by omega) (by omega) (by omega)]; exact b4, by rw [h6 69 _ (by omega) (by omega) (by omega)]; exact b5, fun k t hk => ?_⟩
  have hkl : k < c.2.2.length := (List.getElem?_eq_some_iff.1 hk).1
  rw [h70 (a + k) (by omega)]
  exact b6 k t hk
theorem Rpl.up {M : Mm} {nr nr' np : Nat} (h : Rpl M nr np) (hn : nr ≤ nr') : Rpl M nr' np := by
  refine ⟨h.1, h.2.1, h.2.2.1, fun p hp => ?_⟩
  obtain ⟨q, e, hq, k, v, j, a1, a2, a3, a4⟩ := h.2.2.2 p hp
  exact ⟨q, e, hq, k, v, j, a1, a2, by omega, a4⟩
def rulR : List Nat := [0, 1, 3, 5, 6, 7, 8, 9, 10, 11, 62, 65, 66, 67, 68, 69, 70, 71]
theorem rule_all {M M' : Mm} {nr : Nat} (hR : Rall M) (F : Fm rulR M M') (f0 : ∀ j, j ≠ 2 → gI M' 0 j = gI M 0 j) (f62 : ∀ j, j ≠ 1 → j ≠ 2 → j ≠ 3 → j ≠ 4 → j ≠ 13 → j ≠ 14 → j ≠ 15 → gI M' 62 j = gI M 62 j) (g1 : gI M' 1 2 = J ((0 : Nat) : Int)) (g62 : gI M' 62 2 = J ((0 : Nat) : Int)) (hru : Rru M' nr) (hn : ∀ k, Rru M k → k ≤ nr) : Rall M' := by
  obtain ⟨hL, htb, htx, hki, hlo, hta, hw, nr0, np, hru0, hpl, hte, him⟩ := hR
  have g := F.2.2.2
  have p12 : gP M' 12 = gP M 12 := by rw [F.2.1]
  have v : ∀ j, j ∈ [18, 32, 42, 43, 49] → gI M' 62 j = gI M 62 j := by
    intro j hj
    simp only [List.mem_cons, List.not_mem_nil, or_false] at hj
    exact f62 j (by omega) (by omega) (by omega) (by omega) (by omega) (by omega) (by omega)
  exact ⟨hL.of F.1, htb.fr (g _ (by decide)) (g _ (by decide)) (g _ (by decide)) (g _ (by decide)) (g _ (by decide)), ⟨0, by omega, g1, g62, fun k hk => absurd hk (Nat.not_lt_zero k)⟩, hki.fr (by rw [g 25 (by decide)]) (v 32 (by decide)) (g _ (by decide)) (g _ (by decide)) (g _ (by decide)) (g _ (by decide)), hlo.fr (g _ (by decide)) (v 49 (by decide)) (g _ (by decide)), hta.fr (g _ (by decide)) (g _ (by decide)) (g _ (by decide)) (g _ (by decide)) F.2.2.1, by rw [g 45 (by decide)]; exact hw, nr, np, hru, (hpl.fr F.1.x (fun k => by rw [p12]) (f0 4 (by omega)) (v 18 (by decide)) (g _ (by decide)) (g _ (by decide)) (g _ (by decide)) (fun a ha _ => F.hi (by decide) a ha)).up (hn nr0 hru0), hte.fr p12 (by rw [F.2.1]) (g _ (by decide)), him.fr (f0 9 (by omega)) (v 42 (by decide)) (g _ (by decide)) (g _ (by decide)) (by rw [g 48 (by decide)]) (v 43 (by decide)) (g _ (by decide)) (g _ (by decide)) (g _ (by decide)) (g _ (by decide)) p12 (by rw [F.2.1]) (g _ (by decide))⟩
section
variable {D : GD} {d : Nat} {M : Mm}
theorem k_rule (hE : ExOk D) (hR : Rall M) : Ki D (d + 22) mX11_rule mX12_rule [] M := by
  obtain ⟨hL, htb, ⟨n, hn, e1, e2, hx⟩, hki, hlo, hta, hw, nr, np, hru, hpl, hte, him⟩ := id hR
  obtain ⟨r1, r2, r3, r4, r5⟩ := id hru
  have hL1 : Lay 0 62 M := hL.sub (by omega) (by omega)
  have hL14 : Lay 1 4 M := hL.sub (by omega) (by omega)
  have hL2 : Lay 62 98 M := hL.sub (by omega) (by omega)
  have uniq : ∀ k, Rru M k → k = nr := by
    intro k hk
    have h1 := hk.2.1
    have h2 := hk.1
    rw [r2] at h1
    simp (disch := omega) only [J_lit, J_add, J_sub, J_mul, J_neg, J_lt, J_le, J_eq, J_nat, J_in, J_div] at h1
    omega
  obtain ⟨ch, ech⟩ : ∃ ch : Nat → Int, ch = fun p => if p < n then (gI M 64 p).toInt else -1 := ⟨_, rfl⟩
  have sb : ∀ b : Nat, b < 256 → -128 ≤ sby b ∧ sby b ≤ 127 := by
    intro b hb
    unfold sby
    split <;> omega
  have chs : ∀ p, p < n → ∃ b : Nat, b < 256 ∧ gI M 2 p = J b ∧ gI M 64 p = J (ch p) ∧ ch p = sby b := by
    intro p hp
    obtain ⟨b, hb, h1, h2⟩ := hx p hp
    have hs := sb b hb
    have ec : ch p = sby b := by
      rw [ech]
      show (if p < n then (gI M 64 p).toInt else -1) = _
      rw [if_pos hp, h2, J_int (by omega) (by omega)]
    exact ⟨b, hb, h1, by rw [ec]; exact h2, ec⟩
  have che : ∀ p, n ≤ p → ch p = -1 := by
    intro p hp
    rw [ech]
    show (if p < n then (gI M 64 p).toInt else -1) = _
    rw [if_neg (by omega)]
  have hc : Ctx ch n M := ⟨hn, e1, fun p hp => by obtain ⟨b, h1, h2, _, h4⟩ := chs p hp; exact ⟨b, h1, h2, h4⟩, che⟩
  have hm : Mtx ch n M := ⟨hn, e2, fun p hp => by obtain ⟨b, _, _, h3, _⟩ := chs p hp; exact h3, che, fun p => by
    by_cases hp : p < n
    · obtain ⟨b, h1, _, _, h4⟩ := chs p hp
      rw [h4]
      exact sb b h1
    · rw [che p (by omega)]
      omega⟩
  obtain ⟨p', o, hP⟩ := Prl_ex hc.tn
  have en : (J (nr : Int)).toNatClampNeg = nr := by simp (disch := omega) only [J_lit, J_add, J_sub, J_mul, J_neg, J_lt, J_le, J_eq, J_nat, J_in, J_div]; omega
  refine rX11_rule D (d + 21) M _ hL1 ⟨fun c => c_parses (d := d) hE hL14 hc hP (fun x M2 hx2 M8 q8 => ?_), fun c => ⟨_, rfl, .refl M, ?_⟩⟩
  · rw [r2] at c
    simp (disch := omega) only [J_lit, J_add, J_sub, J_mul, J_neg, J_lt, J_le, J_eq, J_nat, J_in, J_div] at c
    obtain ⟨F2, l2, hno, hso⟩ := hx2
    have g02 : gI M8 0 2 = J nr := by rw [q8, fr_s (by omega), F2.2.2.2 0 (by decide)]; exact r2
    have n7 : ¬ gI M 62 1 = (7 : Int32) := by
      rw [r3]
      intro z
      simp (disch := omega) only [J_lit, J_add, J_sub, J_mul, J_neg, J_lt, J_le, J_eq, J_nat, J_in, J_div] at z
      omega
    cases o with
    | none =>
      obtain ⟨x0, e4⟩ := hno rfl
      subst x0
      refine ⟨fun y => absurd rfl y, fun _ => ⟨_, rfl, by rw [q8]; exact F2.1, ?_⟩⟩
      have e4' : gI M8 1 4 = J p' := by rw [q8, gI_sI, if_neg (by omega)]; exact e4
      have F8 : Fm [1, 3] M M8 := by rw [q8]; exact F2.si (by decide)
      have r62 : gI M8 62 = gI M 62 := F8.2.2.2 62 (by decide)
      have hm8 : Mtx ch n M8 := ⟨hn, by rw [r62]; exact e2, fun p hp => by rw [F8.2.2.2 64 (by decide)]; exact hm.2.2.1 p hp, hm.2.2.2.1, hm.2.2.2.2⟩
      have hL8 : Lay 62 98 M8 := hL2.of F8.1
      refine rX12_rule D (d + 21) M8 _ hL8 ?_
      rw [r62, r3]
      refine ⟨fun _ => u_goes (d := d + 15) hL8 hm8 (by omega) hP (fun _ M3 hG M9 q9 => ⟨fun y => absurd rfl y, fun _ => ?_⟩) (fun R z => by cases z), fun z => absurd (by rw [r3]; exact z) n7⟩
      obtain ⟨b1, b2, b3, b4, b5, b6, b7⟩ := hG
      have F9 : Fm rulR M M9 := by rw [q9]; exact ((F8.sub (by decide)).trans (b1.sub (by decide))).si (by decide)
      refine ⟨_, rfl, by rw [q9]; exact b1.1, ?_, rule_all (nr := nr) hR F9 (fun j _ => ?_) (fun j j1 j2 j3 j4 j5 j6 j7 => ?_) ?_ ?_ ?_ (fun k hk => Nat.le_of_eq (uniq k hk))⟩
      · rw [e4', q9, gI_sI, if_neg (by omega), b7]
      · rw [q9, fr_s (by omega), b1.2.2.2 0 (by decide), F8.2.2.2 0 (by decide)]
      · rw [q9, gI_sI, if_neg (by omega), b2 j j3 j4 j5 j6 j7, r62]
      · rw [q9, fr_s (by omega), b1.2.2.2 1 (by decide), q8, gI_sI, if_pos ⟨rfl, rfl⟩]; rfl
      · rw [q9, gI_sI, if_pos ⟨rfl, rfl⟩]; rfl
      · have g5 : ∀ j, j < 7 → gI M9 (5 + j) = gI M (5 + j) := by
          intro j hj
          rw [q9, fr_s (by omega), b1.2.2.2 _ ((by decide : ∀ j, j < 7 → [62, 65, 66, 67, 68, 69, 70, 71].contains (5 + j) = false) j hj), F8.2.2.2 _ ((by decide : ∀ j, j < 7 → [1, 3].contains (5 + j) = false) j hj)]
        refine ⟨r1, ?_, ?_, fun j hj => ?_, fun j h1 h2 k hk => ?_⟩
        · rw [q9, fr_s (by omega), b1.2.2.2 0 (by decide)]; exact g02
        · rw [q9, gI_sI, if_neg (by omega), b2 1 (by omega) (by omega) (by omega) (by omega) (by omega), r62]; exact r3
        · refine (r4 j hj).old hj (g5 j (by omega)) ?_ (fun a i h1 h2 h3 => ?_) (fun i hi => ?_)
          · rw [q9, fr_s (by omega), b4 j (by omega), F8.2.2.2 65 (by decide)]
          · rw [q9, fr_s (by omega), b3 a i h1 h2 h3, F8.2.2.2 a (by (simp only [List.contains_cons, List.contains_nil, Bool.or_false, Bool.or_eq_false_iff, beq_eq_false_iff_ne, ne_eq]; omega))]
          · rw [q9, fr_s (by omega), b5 i hi, F8.2.2.2 70 (by decide)]
        · rw [g5 j h2]; exact r5 j h1 h2 k hk
    | some R =>
      obtain ⟨x1, hRd⟩ := hso R rfl
      subst x1
      obtain ⟨rl1, rl8, rcl⟩ := Prl_k hc.tn hP
      have z := hRd.2.2.2.2.2.1 ([] ++ encR R) rfl
      rw [List.nil_append] at z
      obtain ⟨z5, z3, zl, za⟩ := z
      have hpn := hRd.2.2.1
      have l100 : (encR R).length ≤ 100 := by omega
      have g13 : gI M8 1 3 = J (encR R).length := by rw [q8, gI_sI, if_neg (by omega)]; exact z3
      have el : (J ((encR R).length : Int)).toNatClampNeg = (encR R).length := by simp (disch := omega) only [J_lit, J_add, J_sub, J_mul, J_neg, J_lt, J_le, J_eq, J_nat, J_in, J_div]; omega
      rw [g02, g13, en, el]
      refine ⟨fun _ => ⟨by simp (disch := omega) only [J_lit, J_add, J_sub, J_mul, J_neg, J_lt, J_le, J_eq, J_nat, J_in, J_div]; omega, ?_, by omega, by omega, fun M17 q17 M21 q21 => ⟨_, rfl, ?_, ?_⟩⟩, fun y => absurd y (by decide)⟩
      · intro y
        simp (disch := omega) only [J_lit, J_add, J_sub, J_mul, J_neg, J_lt, J_le, J_eq, J_nat, J_in, J_div] at y
        omega
      · rw [q21, q17, q8]; exact F2.1
      · have g17 : gI M17 0 2 = J nr := by rw [q17, fr_r (by omega)]; exact g02
        rw [g17, J_suc] at q21
        have F21 : Fm [0, 1, 3, 5, 6, 7, 8, 9, 10, 11] M M21 := by
          rw [q21, q17, q8]
          exact (((F2.sub (by decide)).si (by decide)).ri ((by decide : ∀ j, j < 7 → [0, 1, 3, 5, 6, 7, 8, 9, 10, 11].contains (5 + j) = true) nr (by omega))).si (by decide)
        have r62 : gI M21 62 = gI M 62 := F21.2.2.2 62 (by decide)
        have hm21 : Mtx ch n M21 := ⟨hn, by rw [r62]; exact e2, fun p hp => by rw [F21.2.2.2 64 (by decide)]; exact hm.2.2.1 p hp, hm.2.2.2.1, hm.2.2.2.2⟩
        have hL21 : Lay 62 98 M21 := hL2.of F21.1
        refine rX12_rule D (d + 21) M21 _ hL21 ?_
        rw [r62, r3]
        refine ⟨fun _ => u_goes (d := d + 15) hL21 hm21 (by omega) hP (fun z => by cases z) (fun R' zR M3 S hG e65 M9 q9 => ⟨fun _ Mf qf => ?_, fun y => absurd y (by decide)⟩), fun z => absurd (by rw [r3]; exact z) n7⟩
        cases zR
        obtain ⟨⟨b1, b2, b3, b4, b5, b6, b7⟩, h13, hS, hSl, hGc⟩ := hG
        have g91 : gI M9 62 1 = J nr := by rw [q9, gI_sI, if_neg (by omega), b2 1 (by omega) (by omega) (by omega) (by omega) (by omega), r62]; exact r3
        rw [g91, J_suc] at qf
        have Ff : Fm rulR M Mf := by rw [qf, q9]; exact (((F21.sub (by decide)).trans (b1.sub (by decide))).si (by decide)).si (by decide)
        have af : ∀ a, a ≠ 62 → gI Mf a = gI M3 a := fun a ha => by rw [qf, fr_s ha, q9, fr_s ha]
        have g21 : gI M21 0 2 = J ((nr + 1 : Nat) : Int) := by rw [q21, gI_sI, if_pos ⟨rfl, rfl⟩]
        have gf1 : gI Mf 62 1 = J ((nr + 1 : Nat) : Int) := by rw [qf, gI_sI, if_pos ⟨rfl, rfl⟩]
        have f5 : ∀ j, j < 7 → gI Mf (5 + j) = gI M21 (5 + j) := fun j hj => by rw [af _ (by omega), b1.2.2.2 _ ((by decide : ∀ j, j < 7 → [62, 65, 66, 67, 68, 69, 70, 71].contains (5 + j) = false) j hj)]
        have f5o : ∀ j, j < 7 → j ≠ nr → gI Mf (5 + j) = gI M (5 + j) := fun j hj hne => by
          rw [f5 j hj, q21, fr_s (by omega), q17, fr_r (by omega), q8, fr_s (by omega), F2.2.2.2 _ ((by decide : ∀ j, j < 7 → [1, 3].contains (5 + j) = false) j hj)]
        refine ⟨_, rfl, by rw [qf, q9]; exact b1.1, by rw [g21, gf1], rule_all (nr := nr + 1) hR Ff (fun j hj => ?_) (fun j j1 j2 j3 j4 j5 j6 j7 => ?_) ?_ ?_ ⟨by omega, ?_, gf1, fun j hj => ?_, fun j h1 h2 k hk => ?_⟩ (fun k hk => by have := uniq k hk; omega)⟩
        · rw [af 0 (by omega), b1.2.2.2 0 (by decide), q21, gI_sI, if_neg (by omega), q17, fr_r (by omega), q8, fr_s (by omega), F2.2.2.2 0 (by decide)]
        · rw [qf, gI_sI, if_neg (by omega), q9, gI_sI, if_neg (by omega), b2 j j3 j4 j5 j6 j7, r62]
        · rw [af 1 (by omega), b1.2.2.2 1 (by decide), q21, fr_s (by omega), q17, fr_r (by omega), q8, gI_sI, if_pos ⟨rfl, rfl⟩]; rfl
        · rw [qf, gI_sI, if_neg (by omega), q9, gI_sI, if_pos ⟨rfl, rfl⟩]; rfl
        · rw [af 0 (by omega), b1.2.2.2 0 (by decide)]; exact g21
        · by_cases hjn : j < nr
          · refine (r4 j hjn).old hjn (f5o j (by omega) (by omega)) ?_ (fun a i h1 h2 h3 => ?_) (fun i hi => ?_)
            · rw [af 65 (by omega), b4 j (by omega), F21.2.2.2 65 (by decide)]
            · rw [af a (by omega), b3 a i h1 h2 h3, F21.2.2.2 a (by (simp only [List.contains_cons, List.contains_nil, Bool.or_false, Bool.or_eq_false_iff, beq_eq_false_iff_ne, ne_eq]; omega))]
            · rw [af 70 (by omega), b5 i hi, F21.2.2.2 70 (by decide)]
          · obtain rfl : j = nr := by omega
            refine ⟨R, rl1, rl8, rcl, l100, fun k hk => ?_, by rw [af 65 (by omega)]; exact e65, fun i C hi => ?_⟩
            · rw [f5 j (by omega), q21, fr_s (by omega), q17, gI_rI, if_pos rfl]
              unfold va_cpy
              by_cases hkl : k < (encR R).length
              · rw [if_pos ⟨by omega, by omega⟩, Nat.zero_add, Nat.sub_zero, q8, fr_s (by omega)]
                rw [za k (encR R)[k] (List.getElem?_eq_getElem hkl), List.getD_eq_getElem?_getD, List.getElem?_eq_getElem hkl]
                rfl
              · rw [if_neg (by omega), q8, fr_s (by omega), F2.2.2.2 _ ((by decide : ∀ j, j < 7 → [1, 3].contains (5 + j) = false) j (by omega)), r5 j (Nat.le_refl _) (by omega) k hk, List.getD_eq_getElem?_getD, List.getElem?_eq_none (by omega)]
                rfl
            · obtain ⟨c1, c2, off, c3, c4, c5, c6⟩ := hGc i C hi
              refine ⟨by rw [af 66 (by omega)]; exact c1, by rw [af 67 (by omega)]; exact c2, 100 * j + off, by omega, by rw [af 68 (by omega)]; exact c4, by rw [af 69 (by omega)]; exact c5, fun k t hk => ?_⟩
              rw [af 70 (by omega), Nat.add_assoc]
              exact hS _ _ (c6 k t hk)
        · rw [f5o j h2 (by omega)]; exact r5 j (by omega) h2 k hk
  · rw [r2] at c
    simp (disch := omega) only [J_lit, J_add, J_sub, J_mul, J_neg, J_lt, J_le, J_eq, J_nat, J_in, J_div] at c
    have e7 : nr = 7 := by omega
    refine rX12_rule D (d + 21) M _ hL2 ?_
    rw [r3, e7]
    exact ⟨fun z => absurd rfl z, fun _ => ⟨_, rfl, .refl M, rfl, hR⟩⟩
end
