/-! leak, odds -/
theorem oA_100 {T W V : Nat → Int} {pr : Int} : ∃ z, oA T W V 0 pr = 100 * z := by
  have e : ∀ s, gq T W V 0 s = 100 * (W s * gs T V s) := by
    intro s
    unfold gq
    rw [Int.zero_mul, Int.zero_mul, Int.zero_add, Int.sub_zero, ← Int.mul_assoc, Int.mul_comm (W s) 100, Int.mul_assoc]
  refine ⟨(W 0 * gs T V 0 + W 1 * gs T V 1 + W 2 * gs T V 2) * (100 - pr), ?_⟩
  unfold oA
  rw [e, e, e, ← Int.mul_add, ← Int.mul_add, Int.mul_assoc]
theorem lo_b {a : Int} {b : Nat} (ha : 0 ≤ a) (hb : 0 < b) (h1 : ∃ z, a = 100 * z) (h2 : ∃ z : Nat, b = 100 * z) : 0 ≤ loA a b ∧ 100 * loA a b ≤ a ∧ 0 < loB a b ∧ 100 * loB a b ≤ b := by
  obtain ⟨n, rfl⟩ : ∃ n : Nat, a = n := ⟨a.toNat, by omega⟩
  have g := gcd_b (p := n) hb
  have hd : 100 ∣ Nat.gcd n b := Nat.dvd_gcd (by omega) (by omega)
  have hg : 100 ≤ Nat.gcd n b := Nat.le_of_dvd g.1 hd
  have eA : loA (n : Int) b = ((n / Nat.gcd n b : Nat) : Int) := by
    unfold loA
    rw [Int.natAbs_natCast]
    rfl
  have eB : loB (n : Int) b = ((b / Nat.gcd n b : Nat) : Int) := by
    unfold loB
    rw [Int.natAbs_natCast]
    rfl
  rw [eA, eB]
  generalize Nat.gcd n b = G at *
  have k1 : G * (n / G) ≤ n := Nat.mul_div_le n G
  have k2 : G * (b / G) ≤ b := Nat.mul_div_le b G
  have k3 : 1 ≤ b / G := (Nat.one_le_div_iff (by omega)).mpr g.2
  have m1 := Nat.mul_le_mul_right (n / G) hg
  have m2 := Nat.mul_le_mul_right (b / G) hg
  generalize n / G = x at *
  generalize b / G = y at *
  generalize G * x = u at *
  generalize G * y = w at *
  omega
section
variable {D : GD} {d : Nat} {M : Mm}
theorem c_isPart {x : Int32} {P : Int32 → Mm → Prop} (hL : Lay 0 62 M) (h : P (b2 (x = 0 ∨ x = 1)) M) : AMi D d mX11_isPart [.int x] M P := by
  refine rX11_isPart D d x M _ hL ⟨fun c => ⟨_, rfl, .refl M, ?_⟩, fun c => ⟨fun c2 => ⟨_, rfl, .refl M, ?_⟩, fun c2 => ⟨_, rfl, .refl M, ?_⟩⟩⟩
  · rwa [b2_t (Or.inl c)] at h
  · rwa [b2_f (by rintro (h | h); exact c h; exact c2 h)] at h
  · rwa [b2_t (Or.inr c2)] at h
theorem Rall.mo {M' : Mm} (hR : Rall M) (F : Fl [13, 20, 21, 23, 24] M M') : Rall M' := hR.sc (Sc.fl F (by decide) (by decide) (fun k _ => by rw [F.2.2.2 62 (by decide)]) (by decide))
theorem k_leak {a b n t q e : Int32} (hR : Rall M) : Kl D (d + 8) mX11_leak mX12_leak [.int a, .int b, .int n, .int t, .int q, .int e] M := by
  obtain ⟨hL, htb, htx, hki, hlo, hta, hw, nr, np, hru, hpl, hte, him⟩ := id hR
  have hL1 : Lay 0 62 M := hL.sub (by omega) (by omega)
  have hL2 : Lay 62 98 M := hL.sub (by omega) (by omega)
  obtain ⟨T, r0, r1, hD⟩ := hR.du
  have m1 : ¬ (((0 ≤ a ∧ a < J np) ∧ (0 ≤ b ∧ b < J np)) ∧ (0 ≤ n ∧ n ≤ 100) ∧ ((0 : Int32) ≤ 3 ∧ (3 : Int32) ≤ 3 ∧ (0 : Int32) ≤ 3 ∧ (3 : Int32) ≤ 3 ∧ 0 ≤ t ∧ t ≤ 99 ∧ 0 ≤ q ∧ q ≤ 20) ∧ (e = 0 ∨ e = 1)) → AMl D (d + 8) mX12_leak [.ref 62, .int a, .int b, .int n, .int t, .int q, .int e] M (fun y M2 => (-9223372036854775808 : Int64) = y ∧ Rall M2) := by
    intro hno
    refine rX12_leak D (d + 7) _ _ _ _ _ _ M _ hL2 (c_arePl hL2 hpl.1 hpl.2.2.1 ⟨fun _ => ⟨_, rfl, .refl M, rfl, hR⟩, fun z1 => c_in hL2 ⟨fun _ => ⟨_, rfl, .refl M, rfl, hR⟩, fun z2 => c_mState hL2 ⟨fun _ => ⟨_, rfl, .refl M, rfl, hR⟩, fun z3 => c_inWho hL2 ⟨fun z4 => ?_, fun _ => ⟨_, rfl, .refl M, rfl, hR⟩⟩⟩⟩⟩)
    exact absurd ⟨b2_ne0.mp z1, b2_ne0.mp z2, b2_ne0.mp z3, b2_ne0.mp z4⟩ hno
  refine rX11_leak D (d + 7) _ _ _ _ _ _ M _ hL1 (c_plr2 hL1 hru hpl (fun p0 q0 k0 v0 j0 R0 hp0 ea _ _ _ P0 M0 => ?_) (fun hno => ?_))
  · refine c_plr2 hL1 hru hpl (fun p1 q1 k1 v1 j1 R1 hp1 eb _ _ _ P1 M1 => ⟨fun z => (by cases z), fun x0 z0 => ⟨fun z => (by cases z), fun x1 z1 => ?_⟩⟩) (fun hno => ⟨fun z => (by cases z), fun x0 z0 => ⟨fun _ => ⟨_, rfl, .refl M, m1 (fun z => hno z.1.2)⟩, fun x1 z => by cases z⟩⟩)
    cases z0
    cases z1
    have ha : 0 ≤ a ∧ a < J np := by rw [ea]; exact J_pl hp0 hpl.1
    have hb : 0 ≤ b ∧ b < J np := by rw [eb]; exact J_pl hp1 hpl.1
    refine ⟨fun z => ⟨_, rfl, .refl M, m1 (fun y => ?_)⟩, fun zn => ⟨fun z => ⟨_, rfl, .refl M, m1 (fun y => ?_)⟩, fun zn2 => c_isState hL1 ⟨fun z3 => ⟨_, rfl, .refl M, m1 (fun y => b2_eq0.mp z3 y.2.2.1)⟩, fun z3 => c_isPart hL1 ⟨fun z4 => ?_, fun z4 => ⟨_, rfl, .refl M, m1 (fun y => b2_eq0.mp z4 y.2.2.2)⟩⟩⟩⟩⟩
    · have := y.2.1
      simp only [ilt, ile, Int32.reduceToInt] at this z
      omega
    · have := y.2.1
      simp only [ilt, ile, Int32.reduceToInt] at this z
      omega
    · have hst := b2_ne0.mp z3
      have he := b2_ne0.mp z4
      have hn : 0 ≤ n ∧ n ≤ 100 := by
        simp only [ilt, ile, Int32.reduceToInt] at zn zn2 ⊢
        omega
      have bst := b2_t hst
      obtain ⟨l', o', t', q', el, eo, rfl, rfl, hs⟩ := st_of hst
      have bn := ibd n
      obtain ⟨n', rfl, hn'⟩ : ∃ n' : Int, n = J n' ∧ 0 ≤ n' ∧ n' ≤ 100 := by
        refine ⟨n.toInt, J_of n, ?_⟩
        simp only [ile, Int32.reduceToInt] at hn
        omega
      rw [el]
      have el3 : J l' = J o' := by rw [← el, ← eo]
      have elo : l' = o' := by
        have h1 := hs.1
        have h2 := hs.2.1
        have h3 := hs.2.2.1
        have h4 := hs.2.2.2.1
        simp (disch := omega) only [J_lit, J_add, J_sub, J_mul, J_neg, J_lt, J_le, J_eq, J_nat, J_in, J_div] at el3
        exact el3
      refine c_setState (l := l') (o := l') (hD.1.sub (by omega) (by omega)) ⟨hs.2.2.2.2.2.2.1, hs.2.2.2.2.2.2.2⟩ (fun N1 F1 g0 g1 => ?_)
      have hs' : sOk l' l' t' q' := by
        rw [← elo] at hs
        exact hs
      refine c_dScore (d := d + 2) (n := n') (l := l') (o := l') (t := t') (q := q') (hD.fm F1 (by decide) (by decide) (by decide) (by decide)) hs' hn' g0 g1 (P0.fm F1 (by decide)) (P1.fm F1 (by decide)) (fun N F2 l0 l1 => ?_)
      have FN : Fl [13, 20, 21, 23, 24] M N := (F1.l.sub (by decide)).trans (F2.sub (by decide))
      have hRN := hR.mo FN
      have hDN := hD.fl FN (by decide) (by decide) (by decide) (by decide)
      have hLN := hL2.of FN.1
      have eN : gI N 62 18 = J np := by rw [FN.2.2.2 62 (by decide)]; exact hpl.2.2.1
      have mo : ∀ x : Int64, (∀ N2, Rall N2 → gL N2 62 30 = K (loA (odA T n' l' l' t' q' k0 v0 R0 r0 k1 v1 R1 r1) (odB T l' l' t' q' k0 v0 R0 r0 k1 v1 R1 r1)) → gL N2 62 31 = K (loB (odA T n' l' l' t' q' k0 v0 R0 r0 k1 v1 R1 r1) (odB T l' l' t' q' k0 v0 R0 r0 k1 v1 R1 r1)) → (¬ e = 0 → x = gL N2 62 31) ∧ (e = 0 → x = gL N2 62 30)) → AMl D (d + 8) mX12_leak [.ref 62, .int a, .int b, .int (J n'), .int (J t'), .int (J q'), .int e] N (fun y M2 => x = y ∧ Rall M2) := by
        intro x hx
        refine rX12_leak D (d + 7) _ _ _ _ _ _ N _ hLN (c_arePl hLN hpl.1 eN ?_)
        rw [b2_t ⟨ha, hb⟩]
        refine ⟨fun z => absurd z (by decide), fun _ => c_in hLN ?_⟩
        rw [b2_t hn]
        refine ⟨fun z => absurd z (by decide), fun _ => c_mState hLN ?_⟩
        rw [bst]
        refine ⟨fun z => absurd z (by decide), fun _ => c_inWho hLN ?_⟩
        rw [b2_t he]
        refine ⟨fun _ => ?_, fun z => absurd z (by decide)⟩
        rw [ea, eb, el]
        refine c_mRest hDN (fun N1 G1 z1 x0 x1 => ?_)
        have hD1 := hDN.fm G1 (by decide) (by decide) (by decide) (by decide)
        refine c_layState (hD1.1.sub (by omega) (by omega)) (fun N2 G2 s1 s2 s3 s4 z2 => ?_)
        have G12 : Fm [62, 77] N N2 := G1.trans (G2.sub (by decide))
        have hD2 := hDN.fm G12 (by decide) (by decide) (by decide) (by decide)
        refine c_findOdds (d := d + 3) (n := n') (l := l') (o := l') (t := t') (q := q') hD2 hs' hn' ⟨s1, s2, s3, s4⟩ (fun s hs => by rw [G2.2.2.2 77 (by decide)]; exact x0 s hs) (fun s hs => by rw [G2.2.2.2 77 (by decide)]; exact x1 s hs) (M0.fm (fun x hx => by rw [G12.2.2.2 x (by (simp only [List.contains_cons, List.contains_nil, Bool.or_false, Bool.or_eq_false_iff, beq_eq_false_iff_ne, ne_eq]; omega))]; exact FN.2.2.2 x (by (simp only [List.contains_cons, List.contains_nil, Bool.or_false, Bool.or_eq_false_iff, beq_eq_false_iff_ne, ne_eq]; omega)))) (M1.fm (fun x hx => by rw [G12.2.2.2 x (by (simp only [List.contains_cons, List.contains_nil, Bool.or_false, Bool.or_eq_false_iff, beq_eq_false_iff_ne, ne_eq]; omega))]; exact FN.2.2.2 x (by (simp only [List.contains_cons, List.contains_nil, Bool.or_false, Bool.or_eq_false_iff, beq_eq_false_iff_ne, ne_eq]; omega)))) (fun N3 G3 y0 y1 => ?_)
        have GG : Fl [62, 72, 73, 77, 78] N N3 := (G12.l.sub (by decide)).trans (G3.sub (by decide))
        have hR3 : Rall N3 := hRN.sc (Sc.fl GG (by decide) (by decide) (fun k hk => by rw [G3.2.2.2 62 (by decide), z2 k (by omega), z1 k (by omega)]) (by decide))
        obtain ⟨i1, i2⟩ := hx N3 hR3 y0 y1
        exact ⟨fun c => ⟨_, rfl, GG.1, i1 c, hR3⟩, fun c => ⟨_, rfl, GG.1, i2 c, hR3⟩⟩
      refine ⟨fun c => ⟨_, rfl, FN.1, mo _ (fun N2 _ y0 y1 => ⟨fun _ => ?_, fun c2 => absurd c2 c⟩)⟩, fun c => ⟨_, rfl, FN.1, mo _ (fun N2 _ y0 y1 => ⟨fun c2 => absurd c c2, fun _ => ?_⟩)⟩⟩
      · rw [l1, y1]
      · rw [l0, y0]
  · have hn := m1 (fun z => hno z.1.1)
    refine c_plr2 hL1 hru hpl (fun p1 q1 k1 v1 j1 R1 hp1 eb _ _ _ P1 M1 => ⟨fun _ => ⟨_, rfl, .refl M, hn⟩, fun x0 z => by cases z⟩) (fun _ => ⟨fun _ => ⟨_, rfl, .refl M, hn⟩, fun x0 z => by cases z⟩)
end
