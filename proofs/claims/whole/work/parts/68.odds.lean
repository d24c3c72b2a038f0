/-! leak, odds: the calls -/
theorem bnd_k {f : Nat → Int} (h : ∀ s, s < 3 → 0 ≤ f s) : Wk (bnd f) := by
  have m0 := mn99_b (h 0 (by omega))
  have m1 := mn99_b (h 1 (by omega))
  have m2 := mn99_b (h 2 (by omega))
  refine ⟨fun s hs => bnd_b (h s hs), ?_⟩
  unfold sW bnd
  by_cases e : mn99 (f 0) + mn99 (f 1) + mn99 (f 2) = 0
  · rw [if_neg (fun q => by omega), if_pos ⟨e, rfl⟩, if_neg (fun q => by omega)]
    omega
  · rw [if_neg (fun q => e q.1), if_neg (fun q => e q.1), if_neg (fun q => e q.1)]
    omega
theorem fW_k {T : Nat → Int} {w k v : Nat} {F r : Nat → Int} {R : List Cls} {k' v' : Nat} {F' r' : Nat → Int} {R' : List Cls} (hk : k ≤ 6) (hv : v ≤ 2) (hr : Rr r) (h8 : R.length ≤ 8) (hR : ∀ c ∈ R, ClOk c) : Wk (fW T w k v F R r k' v' F' R' r') := by
  have : fW T w k v F R r k' v' F' R' r' = bnd (wgF k v F R r (zF T w k k' (bnd (wgF k' v' F' R' r' (-1))))) := by funext s; rfl
  rw [this]
  exact bnd_k (fun s hs => (wgF_b _ hs hk hv hr h8 hR).1)
/-- what a kick's odds are, above and below the line -/
def odA (T : Nat → Int) (n l o t q : Int) (k0 v0 : Nat) (R0 : List Cls) (r0 : Nat → Int) (k1 v1 : Nat) (R1 : List Cls) (r1 : Nat → Int) : Int := oA T (fW T 0 k0 v0 (fs0 l o t q) R0 r0 k1 v1 (fs1 l o t q) R1 r1) (fW T 1 k1 v1 (fs1 l o t q) R1 r1 k0 v0 (fs0 l o t q) R0 r0) n (mn99 (gain (fs0 l o t q) 3 R0))
def odB (T : Nat → Int) (l o t q : Int) (k0 v0 : Nat) (R0 : List Cls) (r0 : Nat → Int) (k1 v1 : Nat) (R1 : List Cls) (r1 : Nat → Int) : Nat := (oB (fW T 0 k0 v0 (fs0 l o t q) R0 r0 k1 v1 (fs1 l o t q) R1 r1) (fW T 1 k1 v1 (fs1 l o t q) R1 r1 k0 v0 (fs0 l o t q) R0 r0)).toNat
section
variable {D : GD} {d : Nat}
theorem c_dScore {M : Mm} {T r0 r1 : Nat → Int} {n l o t q : Int} {q0 k0 v0 j0 q1 k1 v1 j1 : Nat} {R0 R1 : List Cls} {P : Mm → Prop} (hD : Du M T r0 r1) (hs : sOk l o t q) (hn : 0 ≤ n ∧ n ≤ 100) (g20 : ∀ i, i < 4 → gI M 20 i = J (fs0 l o t q i)) (g21 : ∀ i, i < 4 → gI M 21 i = J (fs1 l o t q i)) (hp0 : Pq M q0 k0 v0 j0 R0) (hp1 : Pq M q1 k1 v1 j1 R1) (h : ∀ M', Fl [13, 23, 24] M M' → gL M' 13 6 = K (loA (odA T n l o t q k0 v0 R0 r0 k1 v1 R1 r1) (odB T l o t q k0 v0 R0 r0 k1 v1 R1 r1)) → gL M' 13 7 = K (loB (odA T n l o t q k0 v0 R0 r0 k1 v1 R1 r1) (odB T l o t q k0 v0 R0 r0 k1 v1 R1 r1)) → P M') : AMv D (d + 5) mX0_score [.ref 13, .ref q0, .ref q1, .int (J n)] M P := by
  obtain ⟨hL, hb, t1, t2, a0, a1, x0, x1, u0, u1⟩ := id hD
  have W0k := fW_k (T := T) (w := 0) (F := fs0 l o t q) (k' := k1) (v' := v1) (F' := fs1 l o t q) (r' := r1) (R' := R1) hp0.2.1 hp0.2.2.1 a0 hp0.2.2.2.2.2.2.1 hp0.2.2.2.2.2.2.2.1
  have W1k := fW_k (T := T) (w := 1) (F := fs1 l o t q) (k' := k0) (v' := v0) (F' := fs0 l o t q) (r' := r0) (R' := R0) hp1.2.1 hp1.2.2.1 a1 hp1.2.2.2.2.2.2.1 hp1.2.2.2.2.2.2.2.1
  unfold odA odB at h
  refine rX0_score D (d + 4) q0 q1 (J n) M _ (hL.sub (by omega) (by omega)) ?_
  refine c_meet (F0 := fs0 l o t q) (F1 := fs1 l o t q) (r0 := r0) (r1 := r1) (hL.sub (by omega) (by omega)) t1 hb a0 a1 x0 x1 hs.f0 hs.f1 g20 g21 hp0 hp1 (fun M2 F2 w0 w1 pr => ?_)
  have pb : 0 ≤ mn99 (gain (fs0 l o t q) 3 R0) ∧ mn99 (gain (fs0 l o t q) 3 R0) ≤ 99 := mn99_b (Int.natCast_nonneg _)
  have hD2 := hD.fm F2 (by decide) (by decide) (by decide) (by decide)
  generalize fW T 0 k0 v0 (fs0 l o t q) R0 r0 k1 v1 (fs1 l o t q) R1 r1 = W0 at *
  generalize fW T 1 k1 v1 (fs1 l o t q) R1 r1 k0 v0 (fs0 l o t q) R0 r0 = W1 at *
  generalize mn99 (gain (fs0 l o t q) 3 R0) = pp at *
  refine c_weighGoals (hD2.1.sub (by omega) (by omega)) hD2.2.2.1 hb W0k W1k hn pb w0 w1 pr (fun M3 F3 _ l0 l1 => ?_)
  have ob := oB_b W0k W1k
  have oa := oA_b (T := T) hb W0k W1k hn pb
  refine c_reduce (a := oA T W0 W1 n pp) (b := (oB W0 W1).toNat) ((hD2.1.of F3.1).sub (by omega) (by omega)) l0 (by rw [l1, Int.toNat_of_nonneg (by omega)]) (by omega) (by omega) (by omega) (fun M4 F4 _ y0 y1 => ?_)
  have FF : Fl [13, 23, 24] M M4 := (F2.l.trans (F3.sub (by decide))).trans (F4.sub (by decide))
  exact ⟨rfl, FF.1, h M4 FF y0 y1⟩
theorem c_findOdds {M : Mm} {T r0 r1 : Nat → Int} {n l o t q : Int} {p0 k0 v0 j0 p1 k1 v1 j1 : Nat} {R0 R1 : List Cls} {P : Mm → Prop} (hD : Du M T r0 r1) (hs : sOk l o t q) (hn : 0 ≤ n ∧ n ≤ 100) (hS : Stm M l o t q) (y0 : ∀ s, s < 3 → gI M 77 s = J (r0 s)) (y1 : ∀ s, s < 3 → gI M 77 (3 + s) = J (r1 s)) (hp0 : Pm M p0 k0 v0 j0 R0) (hp1 : Pm M p1 k1 v1 j1 R1) (h : ∀ M', Fl [72, 73, 78] M M' → gL M' 62 30 = K (loA (odA T n l o t q k0 v0 R0 r0 k1 v1 R1 r1) (odB T l o t q k0 v0 R0 r0 k1 v1 R1 r1)) → gL M' 62 31 = K (loB (odA T n l o t q k0 v0 R0 r0 k1 v1 R1 r1) (odB T l o t q k0 v0 R0 r0 k1 v1 R1 r1)) → P M') : AMv D (d + 4) mX12_findOdds [.ref 62, .int (J p0), .int (J p1), .int (J n)] M P := by
  obtain ⟨hL, hb, t1, t2, a0, a1, x0, x1, u0, u1⟩ := id hD
  have hq : 0 ≤ q ∧ q ≤ 20 := ⟨hs.2.2.2.2.2.2.1, hs.2.2.2.2.2.2.2⟩
  have hL2 : Lay 62 98 M := hL.sub (by omega) (by omega)
  have W0k := fW_k (T := T) (w := 0) (F := fs0 l o t q) (k' := k1) (v' := v1) (F' := fs1 l o t q) (r' := r1) (R' := R1) hp0.2.1 hp0.2.2.1 a0 hp0.2.2.2.2.2.2.2.1 hp0.2.2.2.2.2.2.2.2.1
  have W1k := fW_k (T := T) (w := 1) (F := fs1 l o t q) (k' := k0) (v' := v0) (F' := fs0 l o t q) (r' := r0) (R' := R0) hp1.2.1 hp1.2.2.1 a1 hp1.2.2.2.2.2.2.2.1 hp1.2.2.2.2.2.2.2.2.1
  unfold odA odB at h
  refine rX12_findOdds D (d + 3) _ _ _ M _ hL2 (c_layWeights (r0 := r0) (r1 := r1) hL2 t2 hb hS hq hs.f0 hs.f1 a0 a1 y0 y1 hp0 hp1 (fun M1 F1 w0 w1 => ?_))
  refine c_sumW (w := 1) (hL2.of F1.1) (by omega) w1 (fun x13 e13 M14 e14 => ?_)
  have vs := W1k.s
  rw [J_i2l (by omega) (by omega)] at e13
  rw [e13]
  have F14 : Fl [72, 73, 78] M M14 := by rw [e14]; exact F1.l.sl (by omega)
  have g14 : gI M14 = gI M1 := by rw [e14]; rfl
  have hS14 : Stm M14 l o t q := by unfold Stm at hS ⊢; rw [F14.2.2.2 62 (by decide)]; exact hS
  exact l_findOdds (d := d + 1) F14.1 (hL2.of F14.1) (fun i hi => by rw [F14.2.2.2 63 (by decide)]; exact t2 i hi) hb W0k W1k hn (fun s hs => by rw [g14]; exact w0 s hs) (fun s hs => by rw [g14]; exact w1 s hs) hS14 hq hs.f0 (hp0.fm (fun x hx => F14.2.2.2 x (by (simp only [List.contains_cons, List.contains_nil, Bool.or_false, Bool.or_eq_false_iff, beq_eq_false_iff_ne, ne_eq]; omega)))) (by rw [e14, gL_sL, if_pos ⟨rfl, rfl⟩]; rfl) (fun M' F' z0 z1 => h M' (F14.trans (F'.sub (by decide))) z0 z1)
end
