/-! odds -/
theorem new_gi {M : Mm} {c : Nat} {k n v r : Int32} {cd lg a : Nat} (ha : a < mN M) : gI (plI (mA M (0, c)) (mN M) k n v r cd lg) a = gI M a := by
  show gI (sI (sI (sI (sI (mA M (0, c)) (mN M) 0 k) (mN M) 1 n) (mN M) 2 v) (mN M) 3 r) a = _
  rw [fr_s (by omega), fr_s (by omega), fr_s (by omega), fr_s (by omega)]
  exact va_up_ne _ _ (by show a ≠ mN M; omega)
theorem Du.sc {M M' : Mm} {T r0 r1 : Nat → Int} (h : Du M T r0 r1) (s : Sc M M') : Du M' T r0 r1 := by
  obtain ⟨hL, hb, t1, t2, a0, a1, x0, x1, u0, u1⟩ := h
  have g := s.2.2.2.2.1
  refine ⟨hL.ofx s.1, hb, fun i hi => ?_, fun i hi => ?_, a0, a1, fun i hi => ?_, fun i hi => ?_, u0, u1⟩
  · rw [g 14 (by decide)]; exact t1 i hi
  · rw [g 63 (by decide)]; exact t2 i hi
  · rw [g 16 (by decide)]; exact x0 i hi
  · rw [g 17 (by decide)]; exact x1 i hi
theorem Pm.sc {M M' : Mm} {p k v j : Nat} {R : List Cls} (h : Pm M p k v j R) (s : Sc M M') : Pm M' p k v j R := by
  refine h.fm (fun x hx => s.2.2.2.2.1 x ?_)
  rcases (by omega : x = 65 ∨ x = 66 ∨ x = 67 ∨ x = 68 ∨ x = 69 ∨ x = 70 ∨ x = 74 ∨ x = 75 ∨ x = 76) with rfl | rfl | rfl | rfl | rfl | rfl | rfl | rfl | rfl <;> decide
theorem Pq.sc {M M' : Mm} {q k v j : Nat} {R : List Cls} (h : Pq M q k v j R) (s : Sc M M') : Pq M' q k v j R := by
  obtain ⟨h1, h2, h3, h4, h5, h6, h7, h8, h9, h10⟩ := h
  refine ⟨h1, h2, h3, h4, h5.ofx s.1, ?_, h7, h8, h9, fun i hi => ?_⟩
  · rw [s.2.2.2.2.2.2.1 q h1 h5.1.1]
    exact h6
  · rw [s.2.2.2.2.1 (5 + j) (by rcases (by omega : j = 0 ∨ j = 1 ∨ j = 2 ∨ j = 3 ∨ j = 4 ∨ j = 5 ∨ j = 6) with rfl | rfl | rfl | rfl | rfl | rfl | rfl <;> decide)]
    exact h10 i hi
theorem Rall.p10 {M : Mm} {x y z : Int32} (hR : Rall M) : Rall (sI (sI (sI M 74 10 x) 75 10 y) 76 10 z) := by
  obtain ⟨hL, htb, htx, hki, hlo, hta, hw, nr, np, hru, hpl, hte, him⟩ := hR
  obtain ⟨M', hM⟩ : ∃ M', M' = sI (sI (sI M 74 10 x) 75 10 y) 76 10 z := ⟨_, rfl⟩
  rw [← hM]
  have F : Fm [74, 75, 76] M M' := by rw [hM]; exact (((Fm.refl _ M).si (by decide)).si (by decide)).si (by decide)
  have g := F.2.2.2
  have s := F.1
  have p12 : gP M' 12 = gP M 12 := by rw [F.2.1]
  refine ⟨hL.of s, htb.fr (g _ (by decide)) (g _ (by decide)) (g _ (by decide)) (g _ (by decide)) (g _ (by decide)), htx.fr (by rw [g 1 (by decide)]) (by rw [g 62 (by decide)]) (g _ (by decide)) (g _ (by decide)), hki.fr (by rw [g 25 (by decide)]) (by rw [g 62 (by decide)]) (g _ (by decide)) (g _ (by decide)) (g _ (by decide)) (g _ (by decide)), hlo.fr (g _ (by decide)) (by rw [g 62 (by decide)]) (g _ (by decide)), hta.fr (g _ (by decide)) (g _ (by decide)) (g _ (by decide)) (g _ (by decide)) F.2.2.1, by rw [g 45 (by decide)]; exact hw, nr, np, hru.fr (by rw [g 0 (by decide)]) (by rw [g 62 (by decide)]) (fun j hj => g _ ((by decide : ∀ j, j < 7 → [74, 75, 76].contains (5 + j) = false) j hj)) (g _ (by decide)) (g _ (by decide)) (g _ (by decide)) (g _ (by decide)) (g _ (by decide)) (g _ (by decide)), ⟨hpl.1, by rw [g 0 (by decide)]; exact hpl.2.1, by rw [g 62 (by decide)]; exact hpl.2.2.1, fun p hp => ?_⟩, hte.fr p12 (by rw [F.2.1]) (g _ (by decide)), him.fr (by rw [g 0 (by decide)]) (by rw [g 62 (by decide)]) (g _ (by decide)) (g _ (by decide)) (by rw [g 48 (by decide)]) (by rw [g 62 (by decide)]) (g _ (by decide)) (g _ (by decide)) (g _ (by decide)) (g _ (by decide)) p12 (by rw [F.2.1]) (g _ (by decide))⟩
  have h10 := hpl.1
  obtain ⟨q, e, hq, k, v, j, a1, a2, a3, a4, a5, a6, a7, a8, a9, a10, a11⟩ := hpl.2.2.2 p hp
  have e5 := F.hi (by decide) q hq
  refine ⟨q, by rw [p12]; exact e, hq, k, v, j, a1, a2, a3, a4.ofx s.x, by rw [e5]; exact a5, by rw [e5]; exact a6, by rw [e5]; exact a7, by rw [e5]; exact a8, ?_, ?_, ?_⟩
  · rw [hM, gI_sI, if_neg (by omega), gI_sI, if_neg (by omega), gI_sI, if_neg (by omega)]
    exact a9
  · rw [hM, gI_sI, if_neg (by omega), gI_sI, if_neg (by omega), gI_sI, if_neg (by omega)]
    exact a10
  · rw [hM, gI_sI, if_neg (by omega), gI_sI, if_neg (by omega), gI_sI, if_neg (by omega)]
    exact a11
/-- the two fractions of a BOTTLE -/
def bA (a1 b1 a2 b2 : Int) : Int := a2 * b1 - a1 * b2
theorem bA_b {a1 b1 a2 b2 : Int} (h1 : 0 ≤ a1 ∧ a1 ≤ 1764180000) (h2 : 0 < b1 ∧ b1 ≤ 882090000) (h3 : 0 ≤ a2 ∧ a2 ≤ 1764180000) (h4 : 0 < b2 ∧ b2 ≤ 882090000) : (-4611686018427387904 < bA a1 b1 a2 b2 ∧ bA a1 b1 a2 b2 < 4611686018427387904) ∧ 0 < b2 * b1 ∧ b2 * b1 < 4611686018427387904 := by
  have p1 := mulb h3.1 (by omega : (0 : Int) ≤ b1) h3.2 h2.2
  have p2 := mulb h1.1 (by omega : (0 : Int) ≤ b2) h1.2 h4.2
  have p3 := mulb (by omega : (0 : Int) ≤ b2) (by omega : (0 : Int) ≤ b1) h4.2 h2.2
  have p4 : 1 * 1 ≤ b2 * b1 := Int.mul_le_mul (by omega) (by omega) (by omega) (by omega)
  unfold bA
  omega
theorem od_b {T r0 r1 : Nat → Int} {l o t q : Int} {k0 v0 k1 v1 : Nat} {R0 R1 : List Cls} (hb : Tb T) (a0 : Rr r0) (a1 : Rr r1) (hk0 : k0 ≤ 6) (hv0 : v0 ≤ 2) (h80 : R0.length ≤ 8) (hR0 : ∀ c ∈ R0, ClOk c) (hk1 : k1 ≤ 6) (hv1 : v1 ≤ 2) (h81 : R1.length ≤ 8) (hR1 : ∀ c ∈ R1, ClOk c) : (0 ≤ loA (odA T 0 l o t q k0 v0 R0 r0 k1 v1 R1 r1) (odB T l o t q k0 v0 R0 r0 k1 v1 R1 r1) ∧ loA (odA T 0 l o t q k0 v0 R0 r0 k1 v1 R1 r1) (odB T l o t q k0 v0 R0 r0 k1 v1 R1 r1) ≤ 1764180000) ∧ (0 < loB (odA T 0 l o t q k0 v0 R0 r0 k1 v1 R1 r1) (odB T l o t q k0 v0 R0 r0 k1 v1 R1 r1) ∧ loB (odA T 0 l o t q k0 v0 R0 r0 k1 v1 R1 r1) (odB T l o t q k0 v0 R0 r0 k1 v1 R1 r1) ≤ 882090000) := by
  have W0k := fW_k (T := T) (w := 0) (F := fs0 l o t q) (k' := k1) (v' := v1) (F' := fs1 l o t q) (r' := r1) (R' := R1) hk0 hv0 a0 h80 hR0
  have W1k := fW_k (T := T) (w := 1) (F := fs1 l o t q) (k' := k0) (v' := v0) (F' := fs0 l o t q) (r' := r0) (R' := R0) hk1 hv1 a1 h81 hR1
  have pb : 0 ≤ mn99 (gain (fs0 l o t q) 3 R0) ∧ mn99 (gain (fs0 l o t q) 3 R0) ≤ 99 := mn99_b (Int.natCast_nonneg _)
  have ob := oB_b W0k W1k
  have oa := oA_b (T := T) (n := 0) hb W0k W1k (by omega) pb
  unfold odA odB
  generalize fW T 0 k0 v0 (fs0 l o t q) R0 r0 k1 v1 (fs1 l o t q) R1 r1 = W0 at *
  generalize fW T 1 k1 v1 (fs1 l o t q) R1 r1 k0 v0 (fs0 l o t q) R0 r0 = W1 at *
  have h := lo_b (a := oA T W0 W1 0 (mn99 (gain (fs0 l o t q) 3 R0))) (b := (oB W0 W1).toNat) oa.1 (by omega) oA_100 ⟨(sW W0 * sW W1 * 10000).toNat, by unfold oB; omega⟩
  omega
section
variable {D : GD} {d : Nat}
theorem c_bottle {M : Mm} {T r0 r1 : Nat → Int} {l o t q : Int} {q0 k0 v0 j0 q1 k1 v1 j1 : Nat} {R0 R1 : List Cls} {P : Mm → Prop} (hD : Du M T r0 r1) (hN : mN M < 1000000) (hs : sOk l o t q) (g20 : ∀ i, i < 4 → gI M 20 i = J (fs0 l o t q i)) (g21 : ∀ i, i < 4 → gI M 21 i = J (fs1 l o t q i)) (hp0 : Pq M q0 k0 v0 j0 R0) (hp1 : Pq M q1 k1 v1 j1 R1) (a1 b1 a2 b2 : Int) (ea1 : a1 = loA (odA T 0 l o t q k0 v0 R0 r0 k1 v1 R1 r1) (odB T l o t q k0 v0 R0 r0 k1 v1 R1 r1)) (eb1 : b1 = loB (odA T 0 l o t q k0 v0 R0 r0 k1 v1 R1 r1) (odB T l o t q k0 v0 R0 r0 k1 v1 R1 r1)) (ea2 : a2 = loA (odA T 0 l o t q k0 v0 R0 r0 5 v1 R1 r1) (odB T l o t q k0 v0 R0 r0 5 v1 R1 r1)) (eb2 : b2 = loB (odA T 0 l o t q k0 v0 R0 r0 5 v1 R1 r1) (odB T l o t q k0 v0 R0 r0 5 v1 R1 r1)) (h : ∀ M', Sc M M' → mN M' = mN M + 1 → gL M' 13 6 = K (loA (bA a1 b1 a2 b2) (b2 * b1).toNat) → gL M' 13 7 = K (loB (bA a1 b1 a2 b2) (b2 * b1).toNat) → P M') : AMvx D (d + 6) 1 6 mX0_scoreBottle [.ref 13, .ref q0, .ref q1] M P := by
  obtain ⟨hL, hb, t1, t2, x0, x1, -⟩ := id hD
  have bd1 := od_b (l := l) (o := o) (t := t) (q := q) hb x0 x1 hp0.2.1 hp0.2.2.1 hp0.2.2.2.2.2.2.1 hp0.2.2.2.2.2.2.2.1 hp1.2.1 hp1.2.2.1 hp1.2.2.2.2.2.2.1 hp1.2.2.2.2.2.2.2.1
  have bd2 := od_b (l := l) (o := o) (t := t) (q := q) (k1 := 5) hb x0 x1 hp0.2.1 hp0.2.2.1 hp0.2.2.2.2.2.2.1 hp0.2.2.2.2.2.2.2.1 (by omega) hp1.2.2.1 hp1.2.2.2.2.2.2.1 hp1.2.2.2.2.2.2.2.1
  rw [← ea1, ← eb1] at bd1
  rw [← ea2, ← eb2] at bd2
  have bb := bA_b bd1.1 bd1.2 bd2.1 bd2.2
  refine rX0_scoreBottle D (d + 2) q0 (kcl k0) j0 q1 (kcl k1) j1 M _ (hL.sub (by omega) (by omega)) hp0.2.2.2.2.1 hp1.2.2.2.2.1 ?_
  refine c_dScore (d := d) (n := 0) hD hs (by omega) g20 g21 hp0 hp1 (fun M1 F1 l0 l1 x9 e9 x10 e10 => ?_)
  have hN1 : mN M1 = mN M := F1.1.1
  have sc1 : Sc M M1 := Sc.fl F1 (by decide) (by decide) (fun k _ => by rw [F1.2.2.2 62 (by decide)]) (by decide)
  have hL1 := hL.of F1.1
  have h98 : 98 ≤ mN M1 := hL1.1
  refine ⟨by omega, fun M19 e19 => ?_⟩
  have hp1' := hp1.sc sc1
  have hp0' := hp0.sc sc1
  have hq1 : q1 < mN M1 := hp1'.2.2.2.2.1.1.1
  have em : ∀ i, gI (mA M1 (0, 3)) q1 i = gI M1 q1 i := fun i => by
    have : gI (mA M1 (0, 3)) q1 = gI M1 q1 := va_up_ne _ _ (by show q1 ≠ mN M1; omega)
    rw [this]
  rw [em, em, em, hp1'.2.2.2.2.2.1] at e19
  have sc2 : Sc M1 M19 := by rw [e19]; exact Sc.new h98
  have hD19 := (hD.sc sc1).sc sc2
  have hj1 := hp1.2.2.2.1
  have hSh : Sh (mA M1 (0, 3)) (mN M1) (0, 3) := ⟨Nat.lt_succ_self _, va_up_self _ _ _⟩
  have hPl : Pl M19 (mN M1) (kcl 5) j1 := by rw [e19]; exact Pl.mk (kcl_plc (k := 5) (by omega)) hj1 hSh
  have hp19 : Pq M19 (mN M1) 5 v1 j1 R1 := by
    obtain ⟨z1, z2, z3, z4, z5, z6, z7, z8, z9, z10⟩ := hp1'
    refine ⟨h98, by omega, z3, z4, hPl, ?_, z7, z8, z9, fun i hi => ?_⟩
    · rw [e19]
      unfold plI
      rw [gI_sP, gI_sP, gI_sI, if_neg (by omega), gI_sI, if_pos ⟨rfl, rfl⟩]
    · rw [e19, new_gi (by omega)]
      exact z10 i hi
  have r20 : gI M19 20 = gI M 20 := by rw [e19, new_gi (by omega), F1.2.2.2 20 (by decide)]
  have r21 : gI M19 21 = gI M 21 := by rw [e19, new_gi (by omega), F1.2.2.2 21 (by decide)]
  have hN19 : mN M19 = mN M1 + 1 := by rw [e19]; rfl
  refine c_dScore (d := d) (n := 0) hD19 hs (by omega) (fun i hi => by rw [r20]; exact g20 i hi) (fun i hi => by rw [r21]; exact g21 i hi) (hp0'.sc sc2) hp19 (fun M25 F25 y0 y1 M33 e33 M39 e39 => ?_)
  rw [← ea1] at l0
  rw [← eb1] at l1
  rw [← ea2] at y0
  rw [← eb2] at y1
  have f33 : gL M33 13 7 = K b2 := by rw [e33, gL_sL, if_neg (by omega)]; exact y1
  rw [y0, y1, e9, e10, l0, l1, K_mul, K_mul, K_sub] at e33
  rw [f33, e10, l1, K_mul] at e39
  have F39 : Fl [13, 23, 24] M19 M39 := by rw [e39, e33]; exact (F25.sl (by omega)).sl (by omega)
  have g6 : gL M39 13 6 = K (bA a1 b1 a2 b2) := by rw [e39, gL_sL, if_neg (by omega), e33, gL_sL, if_pos ⟨rfl, rfl⟩]; rfl
  have g7 : gL M39 13 7 = K (((b2 * b1).toNat : Nat) : Int) := by rw [e39, gL_sL, if_pos ⟨rfl, rfl⟩, Int.toNat_of_nonneg (by omega)]
  refine c_reduce (a := bA a1 b1 a2 b2) (b := (b2 * b1).toNat) ((hD19.1.of F39.1).sub (by omega) (by omega)) g6 g7 bb.1 (by omega) (by omega) (fun M45 F45 _ z0 z1 => ?_)
  have F4 : Fl [13, 23, 24] M19 M45 := F39.trans (F45.sub (by decide))
  have sc3 : Sc M19 M45 := Sc.fl F4 (by decide) (by decide) (fun k _ => by rw [F4.2.2.2 62 (by decide)]) (by decide)
  have sc := (sc1.trans sc2).trans sc3
  exact ⟨rfl, sc.1, h M45 sc (by rw [F4.1.1, hN19, hN1]) z0 z1⟩
end
