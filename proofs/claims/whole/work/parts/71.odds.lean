/-! odds: the call -/
section
variable {D : GD} {d : Nat} {M : Mm}
theorem k_odds {a b c l o t q e : Int32} (hR : Rall M) (hN : mN M < 1000000) : Klx D (d + 9) mX11_odds mX12_odds [.int a, .int b, .int c, .int l, .int o, .int t, .int q, .int e] M := by
  obtain ⟨hL, htb, htx, hki, hlo, hta, hw, nr, np, hru, hpl, hte, him⟩ := id hR
  have hL1 : Lay 0 62 M := hL.sub (by omega) (by omega)
  have hL2 : Lay 62 98 M := hL.sub (by omega) (by omega)
  obtain ⟨T, r0, r1, hD⟩ := hR.du
  have m1 : ¬ (((0 ≤ a ∧ a < J np) ∧ (0 ≤ b ∧ b < J np)) ∧ (0 ≤ l ∧ l ≤ 3 ∧ 0 ≤ o ∧ o ≤ 3 ∧ 0 ≤ t ∧ t ≤ 99 ∧ 0 ≤ q ∧ q ≤ 20) ∧ (c = 0 ∨ c = 1) ∧ (e = 0 ∨ e = 1)) → AMl D (d + 9) mX12_odds [.ref 62, .int a, .int b, .int c, .int l, .int o, .int t, .int q, .int e] M (fun y M2 => (-9223372036854775808 : Int64) = y ∧ Rall M2 ∧ mN M2 ≤ mN M + 1) := by
    intro hno
    refine rX12_odds D (d + 8) _ _ _ _ _ _ _ _ M _ hL2 (c_arePl hL2 hpl.1 hpl.2.2.1 ⟨fun _ => ⟨_, rfl, .refl M, rfl, hR, by omega⟩, fun z1 => c_mState hL2 ⟨fun _ => ⟨_, rfl, .refl M, rfl, hR, by omega⟩, fun z2 => c_inWho hL2 ⟨fun _ => ⟨_, rfl, .refl M, rfl, hR, by omega⟩, fun z3 => c_inWho hL2 ⟨fun z4 => ?_, fun _ => ⟨_, rfl, .refl M, rfl, hR, by omega⟩⟩⟩⟩⟩)
    exact absurd ⟨b2_ne0.mp z1, b2_ne0.mp z2, b2_ne0.mp z3, b2_ne0.mp z4⟩ hno
  refine rX11_odds D (d + 8) _ _ _ _ _ _ _ _ M _ hL1 (c_plr2 hL1 hru hpl (fun p0 q0 k0 v0 j0 R0 hp0 ea _ _ _ P0 M0 => ?_) (fun hno => ?_))
  · refine c_plr2 hL1 hru hpl (fun p1 q1 k1 v1 j1 R1 hp1 eb _ _ _ P1 M1 => ⟨fun z => (by cases z), fun x0 z0 => ⟨fun z => (by cases z), fun x1 z1 => ?_⟩⟩) (fun hno => ⟨fun z => (by cases z), fun x0 z0 => ⟨fun _ => ⟨_, rfl, .refl M, m1 (fun z => hno z.1.2)⟩, fun x1 z => by cases z⟩⟩)
    cases z0
    cases z1
    have ha : 0 ≤ a ∧ a < J np := by rw [ea]; exact J_pl hp0 hpl.1
    have hb : 0 ≤ b ∧ b < J np := by rw [eb]; exact J_pl hp1 hpl.1
    refine c_isState hL1 ⟨fun z3 => ⟨_, rfl, .refl M, m1 (fun y => b2_eq0.mp z3 y.2.1)⟩, fun z3 => ⟨fun z => ⟨_, rfl, .refl M, m1 (fun y => ?_)⟩, fun zc => ⟨fun z => ⟨_, rfl, .refl M, m1 (fun y => ?_)⟩, fun zc2 => c_isPart hL1 ⟨fun z4 => ?_, fun z4 => ⟨_, rfl, .refl M, m1 (fun y => b2_eq0.mp z4 y.2.2.2)⟩⟩⟩⟩⟩
    · have := y.2.2.1
      simp only [ilt, ieq, Int32.reduceToInt] at this z
      omega
    · have := y.2.2.1
      simp only [ilt, ieq, Int32.reduceToInt] at this z
      omega
    · have hst := b2_ne0.mp z3
      have he := b2_ne0.mp z4
      have hc : c = 0 ∨ c = 1 := by
        simp only [ilt, ieq, Int32.reduceToInt] at zc zc2 ⊢
        omega
      have bst := b2_t hst
      obtain ⟨l', o', t', q', rfl, rfl, rfl, rfl, hs⟩ := st_of hst
      obtain ⟨A, eA⟩ : ∃ A, A = loA (odA T 0 l' o' t' q' k0 v0 R0 r0 k1 v1 R1 r1) (odB T l' o' t' q' k0 v0 R0 r0 k1 v1 R1 r1) := ⟨_, rfl⟩
      obtain ⟨B, eB⟩ : ∃ B, B = loB (odA T 0 l' o' t' q' k0 v0 R0 r0 k1 v1 R1 r1) (odB T l' o' t' q' k0 v0 R0 r0 k1 v1 R1 r1) := ⟨_, rfl⟩
      obtain ⟨A2, eA2⟩ : ∃ A, A = loA (odA T 0 l' o' t' q' k0 v0 R0 r0 5 v1 R1 r1) (odB T l' o' t' q' k0 v0 R0 r0 5 v1 R1 r1) := ⟨_, rfl⟩
      obtain ⟨B2, eB2⟩ : ∃ B, B = loB (odA T 0 l' o' t' q' k0 v0 R0 r0 5 v1 R1 r1) (odB T l' o' t' q' k0 v0 R0 r0 5 v1 R1 r1) := ⟨_, rfl⟩
      have hTb := hD.2.1
      have x0 := hD.2.2.2.2.1
      have x1 := hD.2.2.2.2.2.1
      have bd1 := od_b (l := l') (o := o') (t := t') (q := q') hTb x0 x1 P0.2.1 P0.2.2.1 P0.2.2.2.2.2.2.1 P0.2.2.2.2.2.2.2.1 P1.2.1 P1.2.2.1 P1.2.2.2.2.2.2.1 P1.2.2.2.2.2.2.2.1
      have bd2 := od_b (l := l') (o := o') (t := t') (q := q') (k1 := 5) hTb x0 x1 P0.2.1 P0.2.2.1 P0.2.2.2.2.2.2.1 P0.2.2.2.2.2.2.2.1 (by omega) P1.2.2.1 P1.2.2.2.2.2.2.1 P1.2.2.2.2.2.2.2.1
      rw [← eA, ← eB] at bd1
      rw [← eA2, ← eB2] at bd2
      have bb := bA_b bd1.1 bd1.2 bd2.1 bd2.2
      -- the reference behind its questions
      have mo : ∀ (x : Int64) (N : Mm), Rall N → Sc M N → mN N ≤ mN M + 1 → ((c = 0 → (¬ e = 0 → x = K B) ∧ (e = 0 → x = K A)) ∧ (c = 1 → (¬ e = 0 → x = K (loB (bA A B A2 B2) (B2 * B).toNat)) ∧ (e = 0 → x = K (loA (bA A B A2 B2) (B2 * B).toNat)))) → AMl D (d + 9) mX12_odds [.ref 62, .int a, .int b, .int c, .int (J l'), .int (J o'), .int (J t'), .int (J q'), .int e] N (fun y M2 => x = y ∧ Rall M2 ∧ mN M2 ≤ mN M + 1) := by
        intro x N hRN sN hNN hx
        have hLN : Lay 62 98 N := (hL.ofx sN.1).sub (by omega) (by omega)
        have hDN := hD.sc sN
        have eN : gI N 62 18 = J np := (sN.2.2.2.2.2.1 (62, 18) (by decide)).trans hpl.2.2.1
        refine rX12_odds D (d + 8) _ _ _ _ _ _ _ _ N _ hLN (c_arePl hLN hpl.1 eN ?_)
        rw [b2_t ⟨ha, hb⟩]
        refine ⟨fun z => absurd z (by decide), fun _ => c_mState hLN ?_⟩
        rw [bst]
        refine ⟨fun z => absurd z (by decide), fun _ => c_inWho hLN ?_⟩
        rw [b2_t hc]
        refine ⟨fun z => absurd z (by decide), fun _ => c_inWho hLN ?_⟩
        rw [b2_t he]
        refine ⟨fun _ => ?_, fun z => absurd z (by decide)⟩
        rw [ea, eb]
        refine c_mRest hDN (fun N1 G1 z1 y0 y1 => ?_)
        have hD1 := hDN.fm G1 (by decide) (by decide) (by decide) (by decide)
        refine c_layState (hD1.1.sub (by omega) (by omega)) (fun N2 G2 s1 s2 s3 s4 z2 => ?_)
        have G12 : Fm [62, 77] N N2 := G1.trans (G2.sub (by decide))
        have hD2 := hDN.fm G12 (by decide) (by decide) (by decide) (by decide)
        have sc2 : Sc N N2 := Sc.fm1 G12 (by decide) (by decide) (fun k hk => by rw [z2 k (by omega), z1 k (by omega)]) (by decide)
        refine c_findOdds (d := d + 4) (n := 0) hD2 hs (by omega) ⟨s1, s2, s3, s4⟩ (fun s hs => by rw [G2.2.2.2 77 (by decide)]; exact y0 s hs) (fun s hs => by rw [G2.2.2.2 77 (by decide)]; exact y1 s hs) ((M0.sc sN).sc sc2) ((M1.sc sN).sc sc2) (fun N3 G3 u0 u1 => ?_)
        rw [← eA] at u0
        rw [← eB] at u1
        have sc3 : Sc N2 N3 := Sc.fl G3 (by decide) (by decide) (fun k _ => by rw [G3.2.2.2 62 (by decide)]) (by decide)
        have hR3 : Rall N3 := (hRN.sc sc2).sc sc3
        have sm3 : Sm N N3 := G12.1.trans G3.1
        have n3 : mN N3 ≤ mN M + 1 := by rw [sm3.1]; exact hNN
        refine ⟨fun z => ?_, fun z x49 e49 x50 e50 M51 e51 => ?_⟩
        · have c0 : c = 0 := by rcases hc with h | h; exact h; exact absurd h z
          obtain ⟨i1, i2⟩ := hx.1 c0
          exact ⟨fun w => ⟨_, rfl, sm3, (i1 w).trans u1.symm, hR3, n3⟩, fun w => ⟨_, rfl, sm3, (i2 w).trans u0.symm, hR3, n3⟩⟩
        · obtain ⟨i1, i2⟩ := hx.2 z
          have hp11 := M1.1
          have ep : (J (p1 : Int)).toNatClampNeg = p1 := by simp (disch := omega) only [J_lit, J_add, J_sub, J_mul, J_neg, J_lt, J_le, J_eq, J_nat, J_in, J_div]; omega
          have hp10 := hpl.1
          have M1' := ((M1.sc sN).sc sc2).sc sc3
          obtain ⟨w1, w2, w3, w4, w5, w6, w7, w8⟩ := M1'
          rw [ep]
          refine ⟨by simp (disch := omega) only [J_lit, J_add, J_sub, J_mul, J_neg, J_lt, J_le, J_eq, J_nat, J_in, J_div]; omega, fun M56 e56 M60 e60 => ?_⟩
          have f1 : gI M51 75 p1 = J v1 := by rw [e51, gI_sI, if_neg (by omega)]; exact w6
          rw [f1] at e56
          have f2 : gI M56 76 p1 = J j1 := by rw [e56, gI_sI, if_neg (by omega), e51, gI_sI, if_neg (by omega)]; exact w7
          rw [f2] at e60
          have F60 : Fm [74, 75, 76] N3 M60 := by rw [e60, e56, e51]; exact (((Fm.refl _ N3).si (by decide)).si (by decide)).si (by decide)
          have hR60 : Rall M60 := by rw [e60, e56, e51]; exact hR3.p10
          have hD60 := ((hD2.sc sc3).fm F60 (by decide) (by decide) (by decide) (by decide))
          have pm0 : Pm M60 p0 k0 v0 j0 R0 := by
            obtain ⟨a1, a2, a3, a4, a5, a6, a7, a8⟩ := ((M0.sc sN).sc sc2).sc sc3
            refine ⟨a1, a2, a3, a4, ?_, ?_, ?_, a8.fm (fun x h1 h2 => F60.2.2.2 x (by (simp only [List.contains_cons, List.contains_nil, Bool.or_false, Bool.or_eq_false_iff, beq_eq_false_iff_ne, ne_eq]; omega)))⟩
            · rw [e60, gI_sI, if_neg (by omega), e56, gI_sI, if_neg (by omega), e51, gI_sI, if_neg (by omega)]; exact a5
            · rw [e60, gI_sI, if_neg (by omega), e56, gI_sI, if_neg (by omega), e51, gI_sI, if_neg (by omega)]; exact a6
            · rw [e60, gI_sI, if_neg (by omega), e56, gI_sI, if_neg (by omega), e51, gI_sI, if_neg (by omega)]; exact a7
          have pm1 : Pm M60 10 5 v1 j1 R1 := by
            refine ⟨by omega, by omega, w3, w4, ?_, ?_, ?_, w8.fm (fun x h1 h2 => F60.2.2.2 x (by (simp only [List.contains_cons, List.contains_nil, Bool.or_false, Bool.or_eq_false_iff, beq_eq_false_iff_ne, ne_eq]; omega)))⟩
            · rw [e60, gI_sI, if_neg (by omega), e56, gI_sI, if_neg (by omega), e51, gI_sI, if_pos ⟨rfl, rfl⟩]
              rfl
            · rw [e60, gI_sI, if_neg (by omega), e56, gI_sI, if_pos ⟨rfl, rfl⟩]
            · rw [e60, gI_sI, if_pos ⟨rfl, rfl⟩]
          have g62 : gI M60 62 = gI N2 62 := by rw [F60.2.2.2 62 (by decide), G3.2.2.2 62 (by decide)]
          have g77 : gI M60 77 = gI N2 77 := by rw [F60.2.2.2 77 (by decide), G3.2.2.2 77 (by decide)]
          refine c_findOdds (d := d + 4) (n := 0) (p1 := 10) hD60 hs (by omega) ⟨by rw [g62]; exact s1, by rw [g62]; exact s2, by rw [g62]; exact s3, by rw [g62]; exact s4⟩ (fun s hs => by rw [g77, G2.2.2.2 77 (by decide)]; exact y0 s hs) (fun s hs => by rw [g77, G2.2.2.2 77 (by decide)]; exact y1 s hs) pm0 pm1 (fun M64 G64 t0 t1 M70 e70 M74 e74 => ?_)
          rw [← eA2] at t0
          rw [← eB2] at t1
          have f31 : gL M70 62 31 = K B2 := by rw [e70, gL_sL, if_neg (by omega)]; exact t1
          rw [t0, t1, e49, e50, u0, u1, K_mul, K_mul, K_sub] at e70
          rw [f31, e50, u1, K_mul] at e74
          have F74 : Fl [72, 73, 78] M60 M74 := by rw [e74, e70]; exact (G64.sl (by omega)).sl (by omega)
          have g30 : gL M74 62 30 = K (bA A B A2 B2) := by rw [e74, gL_sL, if_neg (by omega), e70, gL_sL, if_pos ⟨rfl, rfl⟩]; rfl
          have g31 : gL M74 62 31 = K (((B2 * B).toNat : Nat) : Int) := by rw [e74, gL_sL, if_pos ⟨rfl, rfl⟩, Int.toNat_of_nonneg (by omega)]
          refine c_lower (a := bA A B A2 B2) (b := (B2 * B).toNat) ((hD60.1.of F74.1).sub (by omega) (by omega)) g30 g31 bb.1 (by omega) (by omega) (fun M78 F78 _ k0' k1' => ?_)
          have FF : Fl [72, 73, 78] M60 M78 := F74.trans (F78.sub (by decide))
          have hR78 : Rall M78 := hR60.sc (Sc.fl FF (by decide) (by decide) (fun k _ => by rw [FF.2.2.2 62 (by decide)]) (by decide))
          have sm : Sm N M78 := (sm3.trans F60.1).trans FF.1
          have nn : mN M78 ≤ mN M + 1 := by rw [sm.1]; exact hNN
          exact ⟨fun w => ⟨_, rfl, sm, (i1 w).trans k1'.symm, hR78, nn⟩, fun w => ⟨_, rfl, sm, (i2 w).trans k0'.symm, hR78, nn⟩⟩
      refine c_setState (hD.1.sub (by omega) (by omega)) ⟨hs.2.2.2.2.2.2.1, hs.2.2.2.2.2.2.2⟩ (fun N1 F1 g0 g1 => ?_)
      have sc1 : Sc M N1 := Sc.fm0 F1 (by decide) (by decide) (by decide)
      have hD1 := hD.fm F1 (by decide) (by decide) (by decide) (by decide)
      refine ⟨fun z => ?_, fun z => ?_⟩
      · have c1 : c = 1 := by rcases hc with h | h; exact absurd h z; exact h
        refine c_bottle (d := d + 2) hD1 (by rw [F1.1.1]; exact hN) hs g0 g1 (P0.fm F1 (by decide)) (P1.fm F1 (by decide)) A B A2 B2 eA eB eA2 eB2 (fun N2 sc2 n2 u0 u1 => ?_)
        have sc := sc1.trans sc2
        have n2' : mN N2 ≤ mN M + 1 := by rw [n2, F1.1.1]; exact Nat.le_refl _
        refine ⟨fun w => ⟨_, rfl, sc.1, mo _ N2 (hR.sc sc) sc n2' ⟨fun h => absurd h z, fun _ => ⟨fun _ => u1, fun h => absurd h w⟩⟩⟩, fun w => ⟨_, rfl, sc.1, mo _ N2 (hR.sc sc) sc n2' ⟨fun h => absurd h z, fun _ => ⟨fun h => absurd w h, fun _ => u0⟩⟩⟩⟩
      · refine c_dScore (d := d + 3) (n := 0) hD1 hs (by omega) g0 g1 (P0.fm F1 (by decide)) (P1.fm F1 (by decide)) (fun N2 F2 u0 u1 => ?_)
        rw [← eA] at u0
        rw [← eB] at u1
        have sc2 : Sc N1 N2 := Sc.fl F2 (by decide) (by decide) (fun k _ => by rw [F2.2.2.2 62 (by decide)]) (by decide)
        have sc := sc1.trans sc2
        have n2' : mN N2 ≤ mN M + 1 := by rw [F2.1.1, F1.1.1]; omega
        have cn : ¬ c = 1 := by rw [z]; decide
        refine ⟨fun w => ⟨_, rfl, sc.1, mo _ N2 (hR.sc sc) sc n2' ⟨fun _ => ⟨fun _ => u1, fun h => absurd h w⟩, fun h => absurd h cn⟩⟩, fun w => ⟨_, rfl, sc.1, mo _ N2 (hR.sc sc) sc n2' ⟨fun _ => ⟨fun h => absurd w h, fun _ => u0⟩, fun h => absurd h cn⟩⟩⟩
  · have hn := m1 (fun z => hno z.1.1)
    refine c_plr2 hL1 hru hpl (fun p1 q1 k1 v1 j1 R1 hp1 eb _ _ _ P1 M1 => ⟨fun _ => ⟨_, rfl, .refl M, hn⟩, fun x0 z => by cases z⟩) (fun _ => ⟨fun _ => ⟨_, rfl, .refl M, hn⟩, fun x0 z => by cases z⟩)
end
