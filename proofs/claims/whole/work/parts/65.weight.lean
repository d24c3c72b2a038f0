/-! weight, reply: the calls -/
theorem mixR {T : Nat → Int} {w : Nat} {f : Nat → Int32} {b : Int32} (hw : w < 2) (h : Rst T w f b) : ∃ r : Nat → Int, Rr r ∧ ∀ f' b', Rst T w f' b' → ∀ s, s < 3 → f' s = J (r s) := by
  obtain ⟨l, m, hB, e0, e1, e2, -⟩ := id h
  obtain ⟨⟨v1, v2, v3, -⟩, -⟩ := hB
  refine ⟨fun s => [l, m, 20 - l - m].getD s 0, fun s hs => ?_, fun f' b' h' s hs => ?_⟩
  · rcases (by omega : s = 0 ∨ s = 1 ∨ s = 2) with rfl | rfl | rfl
    · show 0 ≤ l ∧ l ≤ 20
      omega
    · show 0 ≤ m ∧ m ≤ 20
      omega
    · show 0 ≤ 20 - l - m ∧ 20 - l - m ≤ 20
      omega
  · obtain ⟨u0, u1, u2, -⟩ := h'.uniq hw h
    rcases (by omega : s = 0 ∨ s = 1 ∨ s = 2) with rfl | rfl | rfl
    · rw [u0, e0]; rfl
    · rw [u1, e1]; rfl
    · rw [u2, e2]; rfl
/-- what a kick's reckoning rests on -/
def Du (M : Mm) (T r0 r1 : Nat → Int) : Prop := Lay 0 98 M ∧ Tb T ∧ Ro M 14 9 T ∧ Ro M 63 9 T ∧ Rr r0 ∧ Rr r1 ∧ (∀ s, s < 3 → gI M 16 s = J (r0 s)) ∧ (∀ s, s < 3 → gI M 17 s = J (r1 s)) ∧ (∀ f b, Rst T 0 f b → ∀ s, s < 3 → f s = J (r0 s)) ∧ (∀ f b, Rst T 1 f b → ∀ s, s < 3 → f s = J (r1 s))
theorem Rall.du {M : Mm} (hR : Rall M) : ∃ T r0 r1, Du M T r0 r1 := by
  obtain ⟨hL, ⟨T, hb, t1, t2, hx0, hx1⟩, -⟩ := hR
  obtain ⟨r0, a0, u0⟩ := mixR (by omega) hx0
  obtain ⟨r1, a1, u1⟩ := mixR (by omega) hx1
  exact ⟨T, r0, r1, hL, hb, t1, t2, a0, a1, u0 _ _ hx0, u1 _ _ hx1, u0, u1⟩
theorem Du.fm {M M' : Mm} {T r0 r1 : Nat → Int} {L : List Nat} (h : Du M T r0 r1) (F : Fm L M M') (h14 : L.contains 14 = false) (h63 : L.contains 63 = false) (h16 : L.contains 16 = false) (h17 : L.contains 17 = false) : Du M' T r0 r1 := by
  obtain ⟨hL, hb, t1, t2, a0, a1, x0, x1, u0, u1⟩ := h
  refine ⟨hL.of F.1, hb, fun i hi => ?_, fun i hi => ?_, a0, a1, fun s hs => ?_, fun s hs => ?_, u0, u1⟩
  · rw [F.2.2.2 14 h14]; exact t1 i hi
  · rw [F.2.2.2 63 h63]; exact t2 i hi
  · rw [F.2.2.2 16 h16]; exact x0 s hs
  · rw [F.2.2.2 17 h17]; exact x1 s hs
def sOk (l o t q : Int) : Prop := 0 ≤ l ∧ l ≤ 3 ∧ 0 ≤ o ∧ o ≤ 3 ∧ 0 ≤ t ∧ t ≤ 99 ∧ 0 ≤ q ∧ q ≤ 20
theorem sOk.f0 {l o t q : Int} (h : sOk l o t q) : Fs (fs0 l o t q) := by
  obtain ⟨h1, h2, h3, h4, h5, h6, h7, h8⟩ := h
  refine ⟨fun i hi => ?_, h2⟩
  rcases (by omega : i = 0 ∨ i = 1 ∨ i = 2 ∨ i = 3) with rfl | rfl | rfl | rfl
  · show 0 ≤ l ∧ l ≤ 99; omega
  · show 0 ≤ o ∧ o ≤ 99; omega
  · show 0 ≤ t ∧ t ≤ 99; omega
  · show 0 ≤ q ∧ q ≤ 99; omega
theorem sOk.f1 {l o t q : Int} (h : sOk l o t q) : Fs (fs1 l o t q) := by
  obtain ⟨h1, h2, h3, h4, h5, h6, h7, h8⟩ := h
  refine ⟨fun i hi => ?_, h4⟩
  rcases (by omega : i = 0 ∨ i = 1 ∨ i = 2 ∨ i = 3) with rfl | rfl | rfl | rfl
  · show 0 ≤ o ∧ o ≤ 99; omega
  · show 0 ≤ l ∧ l ≤ 99; omega
  · show 0 ≤ t ∧ t ≤ 99; omega
  · show 0 ≤ 20 - q ∧ 20 - q ≤ 99; omega
theorem Sc.fm {M M' : Mm} {L : List Nat} (F : Fm L M M') (h1 : relR.all (fun x => !L.contains x) = true) (h2 : ∀ q ∈ relS, gI M' q.1 q.2 = gI M q.1 q.2) (h3 : L.all (fun x => decide (x < 98)) = true) : Sc M M' := by
  refine ⟨F.1.x, by rw [F.2.1], by rw [F.2.1], by rw [F.2.1], fun a ha => F.2.2.2 a ?_, h2, fun a ha _ => F.hi h3 a ha, fun a _ => by rw [F.2.2.1]⟩
  have := List.all_eq_true.mp h1 a ha
  simpa using this
theorem Sc.fm0 {M M' : Mm} {L : List Nat} (F : Fm L M M') (h1 : relR.all (fun x => !L.contains x) = true) (h2 : relS.all (fun q => !L.contains q.1) = true) (h3 : L.all (fun x => decide (x < 98)) = true) : Sc M M' := by
  refine Sc.fm F h1 (fun q hq => ?_) h3
  have := List.all_eq_true.mp h2 q hq
  rw [F.2.2.2 q.1 (by simpa using this)]
/-- the reference's scratch: its object's fields 23 .. 31, and rows -/
theorem Sc.fm1 {M M' : Mm} {L : List Nat} (F : Fm L M M') (h1 : relR.all (fun x => !L.contains x) = true) (h2 : relS.all (fun q => q.1 == 62 || !L.contains q.1) = true) (h62 : ∀ k, k < 23 ∨ 32 ≤ k → gI M' 62 k = gI M 62 k) (h3 : L.all (fun x => decide (x < 98)) = true) : Sc M M' := by
  refine Sc.fm F h1 (fun q hq => ?_) h3
  have := List.all_eq_true.mp h2 q hq
  by_cases e : q.1 = 62
  · have hk := (by decide : ∀ q ∈ relS, q.1 = 62 → q.2 < 23 ∨ 32 ≤ q.2) q hq e
    rw [e]
    exact h62 _ hk
  · have h4 : L.contains q.1 = false := by
      simp only [Bool.or_eq_true, beq_iff_eq] at this
      rcases this with h | h
      · exact absurd h e
      · simpa using h
    rw [F.2.2.2 q.1 h4]
theorem both_pl {M : Mm} {nr np p q : Nat} (hru : Rru M nr) (hpl : Rpl M nr np) (hp : p < np) (hq : gP M 12 p = some q) : ∃ (k v j : Nat) (R : List Cls), gI M q 1 = J p ∧ gI M q 3 = J j ∧ Pq M q k v j R ∧ Pm M p k v j R := by
  obtain ⟨q', h1, h98, k, v, j, a1, a2, a3, a4, a5, a6, a7, a8, a9, a10, a11⟩ := hpl.2.2.2 p hp
  rw [hq] at h1
  cases h1
  obtain ⟨R, b1, b2, b3, b4, b5, b6, b7⟩ := hru.2.2.2.1 j a3
  have h7 := hru.1
  have h10 := hpl.1
  have b7' : ∀ i c, R[i]? = some c → gI M 66 (8 * j + i) = J c.1 ∧ gI M 67 (8 * j + i) = J c.2.1 ∧ ∃ a : Nat, a + c.2.2.length ≤ 700 ∧ gI M 68 (8 * j + i) = J a ∧ gI M 69 (8 * j + i) = J ((a + c.2.2.length : Nat) : Int) ∧ ∀ k t, c.2.2[k]? = some t → gI M 70 (a + k) = J t := by
    intro i c hi
    obtain ⟨e1, e2, a, e3, e4⟩ := b7 i c hi
    exact ⟨e1, e2, a, by omega, e4⟩
  exact ⟨k, v, j, R, a6, a8, ⟨h98, a1, a2, by omega, a4, a7, b2, b3, b4, b5⟩, ⟨by omega, a1, a2, by omega, a9, a10, a11, b2, b3, b6, b7'⟩⟩
section
variable {D : GD} {d : Nat}
theorem c_plr2 {M : Mm} {nr np : Nat} {a : Int32} {P : Option Nat → Mm → Prop} (hL : Lay 0 62 M) (hru : Rru M nr) (hpl : Rpl M nr np) (h1 : ∀ (p q k v j : Nat) (R : List Cls), p < np → a = J p → gP M 12 p = some q → gI M q 1 = J p → gI M q 3 = J j → Pq M q k v j R → Pm M p k v j R → P (some q) M) (h2 : ¬ (0 ≤ a ∧ a < J np) → P none M) : AMq D d mX11_playerOrNull [.ref 0, .int a] M P :=
  c_plr hL hpl (fun p q hp ea hq _ => by
    obtain ⟨k, v, j, R, b1, b2, b3, b4⟩ := both_pl hru hpl hp hq
    exact h1 p q k v j R hp ea hq b1 b2 b3 b4) h2
theorem c_arePl {M : Mm} {np : Nat} {a b : Int32} {P : Int32 → Mm → Prop} (hL : Lay 62 98 M) (hn : np ≤ 10) (h2 : gI M 62 18 = J np) (h : P (b2 ((0 ≤ a ∧ a < J np) ∧ (0 ≤ b ∧ b < J np))) M) : AMi D (d + 2) mX12_arePlayers [.ref 62, .int a, .int b] M P := by
  refine rX12_arePlayers D (d + 1) a b M _ hL (c_isPlayer hL hn h2 ⟨fun q => ⟨_, rfl, .refl M, ?_⟩, fun q => c_isPlayer hL hn h2 ⟨fun q2 => ⟨_, rfl, .refl M, ?_⟩, fun q2 => ⟨_, rfl, .refl M, ?_⟩⟩⟩)
  · rwa [b2_f (fun z => b2_eq0.mp q z.1)] at h
  · rwa [b2_f (fun z => b2_eq0.mp q2 z.2)] at h
  · rwa [b2_t ⟨b2_ne0.mp q, b2_ne0.mp q2⟩] at h
theorem c_mState {M : Mm} {l o t q : Int32} {P : Int32 → Mm → Prop} (hL : Lay 62 98 M) (h : P (b2 (0 ≤ l ∧ l ≤ 3 ∧ 0 ≤ o ∧ o ≤ 3 ∧ 0 ≤ t ∧ t ≤ 99 ∧ 0 ≤ q ∧ q ≤ 20)) M) : AMi D (d + 1) mX12_isState [.ref 62, .int l, .int o, .int t, .int q] M P := by
  refine rX12_isState D d l o t q M _ hL (c_in hL ⟨fun q1 => ⟨_, rfl, .refl M, ?_⟩, fun q1 => c_in hL ⟨fun q2 => ⟨_, rfl, .refl M, ?_⟩, fun q2 => c_in hL ⟨fun q3 => ⟨_, rfl, .refl M, ?_⟩, fun q3 => c_in hL ⟨fun q4 => ⟨_, rfl, .refl M, ?_⟩, fun q4 => ⟨_, rfl, .refl M, ?_⟩⟩⟩⟩⟩)
  · rwa [b2_f (fun z => b2_eq0.mp q1 ⟨z.1, z.2.1⟩)] at h
  · rwa [b2_f (fun z => b2_eq0.mp q2 ⟨z.2.2.1, z.2.2.2.1⟩)] at h
  · rwa [b2_f (fun z => b2_eq0.mp q3 ⟨z.2.2.2.2.1, z.2.2.2.2.2.1⟩)] at h
  · rwa [b2_f (fun z => b2_eq0.mp q4 z.2.2.2.2.2.2)] at h
  · rwa [b2_t ⟨(b2_ne0.mp q1).1, (b2_ne0.mp q1).2, (b2_ne0.mp q2).1, (b2_ne0.mp q2).2, (b2_ne0.mp q3).1, (b2_ne0.mp q3).2, b2_ne0.mp q4⟩] at h
theorem st_of {l o t q : Int32} (h : 0 ≤ l ∧ l ≤ 3 ∧ 0 ≤ o ∧ o ≤ 3 ∧ 0 ≤ t ∧ t ≤ 99 ∧ 0 ≤ q ∧ q ≤ 20) : ∃ l' o' t' q' : Int, l = J l' ∧ o = J o' ∧ t = J t' ∧ q = J q' ∧ sOk l' o' t' q' := by
  refine ⟨l.toInt, o.toInt, t.toInt, q.toInt, J_of l, J_of o, J_of t, J_of q, ?_⟩
  simp only [ile, Int32.reduceToInt] at h
  unfold sOk
  omega
theorem c_cMeet {M : Mm} {T r0 r1 : Nat → Int} {l o t q : Int} {q0 k0 v0 j0 q1 k1 v1 j1 : Nat} {R0 R1 : List Cls} {Q : Mm → Prop} (hD : Du M T r0 r1) (hs : sOk l o t q) (hp0 : Pq M q0 k0 v0 j0 R0) (hp1 : Pq M q1 k1 v1 j1 R1) (h : ∀ M', Fm [13, 20, 21, 23, 24] M M' → (∀ s, s < 3 → gI M' 23 s = J (fW T 0 k0 v0 (fs0 l o t q) R0 r0 k1 v1 (fs1 l o t q) R1 r1 s)) → (∀ s, s < 3 → gI M' 24 s = J (fW T 1 k1 v1 (fs1 l o t q) R1 r1 k0 v0 (fs0 l o t q) R0 r0 s)) → gI M' 13 5 = J (mn99 (gain (fs0 l o t q) 3 R0)) → (∀ i, i < 4 → gI M' 20 i = J (fs0 l o t q i)) → (∀ i, i < 4 → gI M' 21 i = J (fs1 l o t q i)) → Q M') : AMv D (d + 4) mX0_setState [.ref 13, .int (J l), .int (J o), .int (J t), .int (J q)] M (fun M38 => AMv D (d + 4) mX0_meet [.ref 13, .ref q0, .ref q1] M38 Q) := by
  refine c_setState (hD.1.sub (by omega) (by omega)) ⟨hs.2.2.2.2.2.2.1, hs.2.2.2.2.2.2.2⟩ (fun M1 F1 g0 g1 => ?_)
  obtain ⟨hL, hb, t1, t2, a0, a1, x0, x1, u0, u1⟩ := hD.fm F1 (by decide) (by decide) (by decide) (by decide)
  refine c_meet (F0 := fs0 l o t q) (F1 := fs1 l o t q) (r0 := r0) (r1 := r1) (hL.sub (by omega) (by omega)) t1 hb a0 a1 x0 x1 hs.f0 hs.f1 g0 g1 (hp0.fm F1 (by decide)) (hp1.fm F1 (by decide)) (fun M2 F2 w0 w1 pr => h M2 ((F1.sub (by decide)).trans (F2.sub (by decide))) w0 w1 pr (fun i hi => ?_) (fun i hi => ?_))
  · rw [F2.2.2.2 20 (by decide)]; exact g0 i hi
  · rw [F2.2.2.2 21 (by decide)]; exact g1 i hi
theorem c_mRest {M : Mm} {T r0 r1 : Nat → Int} {Q : Mm → Prop} (hD : Du M T r0 r1) (h : ∀ M', Fm [62, 77] M M' → (∀ k, k < 23 ∨ 25 ≤ k → gI M' 62 k = gI M 62 k) → (∀ s, s < 3 → gI M' 77 s = J (r0 s)) → (∀ s, s < 3 → gI M' 77 (3 + s) = J (r1 s)) → Q M') : AMv D (d + 1) mX12_findRest [.ref 62] M Q := by
  obtain ⟨hL, hb, t1, t2, a0, a1, x0, x1, u0, u1⟩ := hD
  refine c_findRest (hL.sub (by omega) (by omega)) t2 hb (fun r o h0 h1 hg => h _ (((Fm.refl _ M).ri (by decide)).ri (by decide)) (fun k hk => ?_) (fun s hs => ?_) (fun s hs => ?_))
  · rw [gI_rI, if_pos rfl]
    exact hg k (by omega) (by omega)
  · rw [fr_r (by omega), gI_rI, if_pos rfl]
    exact u0 _ _ h0 s hs
  · rw [fr_r (by omega), gI_rI, if_pos rfl]
    exact u1 _ _ h1 s hs
theorem c_mMeet {M : Mm} {T r0 r1 : Nat → Int} {l o t q : Int} {p0 k0 v0 j0 p1 k1 v1 j1 : Nat} {R0 R1 : List Cls} {Q : Mm → Prop} (hD : Du M T r0 r1) (hs : sOk l o t q) (hp0 : Pm M p0 k0 v0 j0 R0) (hp1 : Pm M p1 k1 v1 j1 R1) (h : ∀ M', Fm [62, 72, 73, 77, 78] M M' → (∀ k, k < 23 ∨ 30 ≤ k → gI M' 62 k = gI M 62 k) → Wr M' 0 (fW T 0 k0 v0 (fs0 l o t q) R0 r0 k1 v1 (fs1 l o t q) R1 r1) → Wr M' 1 (fW T 1 k1 v1 (fs1 l o t q) R1 r1 k0 v0 (fs0 l o t q) R0 r0) → Q M') : AMv D (d + 3) mX12_findRest [.ref 62] M (fun M29 => AMv D (d + 3) mX12_layState [.ref 62, .int (J l), .int (J o), .int (J t), .int (J q)] M29 (fun M35 => AMv D (d + 3) mX12_layWeights [.ref 62, .int (J p0), .int (J p1)] M35 Q)) := by
  have hq : 0 ≤ q ∧ q ≤ 20 := ⟨hs.2.2.2.2.2.2.1, hs.2.2.2.2.2.2.2⟩
  refine c_mRest hD (fun M1 F1 z1 x0 x1 => ?_)
  have hD1 := hD.fm F1 (by decide) (by decide) (by decide) (by decide)
  refine c_layState (hD1.1.sub (by omega) (by omega)) (fun M2 F2 s1 s2 s3 s4 z2 => ?_)
  have hD2 := hD1.fm F2 (by decide) (by decide) (by decide) (by decide)
  have F12 : Fm [62, 77] M M2 := F1.trans (F2.sub (by decide))
  refine c_layWeights (r0 := r0) (r1 := r1) (hD2.1.sub (by omega) (by omega)) hD2.2.2.2.1 hD2.2.1 ⟨s1, s2, s3, s4⟩ hq hs.f0 hs.f1 hD2.2.2.2.2.1 hD2.2.2.2.2.2.1 (fun s hs => by rw [F2.2.2.2 77 (by decide)]; exact x0 s hs) (fun s hs => by rw [F2.2.2.2 77 (by decide)]; exact x1 s hs) (hp0.fm (fun x hx => F12.2.2.2 x (by (simp only [List.contains_cons, List.contains_nil, Bool.or_false, Bool.or_eq_false_iff, beq_eq_false_iff_ne, ne_eq]; omega)))) (hp1.fm (fun x hx => F12.2.2.2 x (by (simp only [List.contains_cons, List.contains_nil, Bool.or_false, Bool.or_eq_false_iff, beq_eq_false_iff_ne, ne_eq]; omega)))) (fun M3 F3 w0 w1 => h M3 ((F12.sub (by decide)).trans (F3.sub (by decide))) (fun k hk => ?_) w0 w1)
  rw [F3.2.2.2 62 (by decide), z2 k (by omega), z1 k (by omega)]
variable {M : Mm}
theorem k_weight {a b c e l o t q : Int32} (hR : Rall M) : Ki D (d + 8) mX11_weight mX12_weight [.int a, .int b, .int c, .int e, .int l, .int o, .int t, .int q] M := by
  obtain ⟨hL, htb, htx, hki, hlo, hta, hw, nr, np, hru, hpl, hte, him⟩ := id hR
  have hL1 : Lay 0 62 M := hL.sub (by omega) (by omega)
  have hL2 : Lay 62 98 M := hL.sub (by omega) (by omega)
  obtain ⟨T, r0, r1, hD⟩ := hR.du
  have m1 : ¬ (((0 ≤ a ∧ a < J np) ∧ (0 ≤ b ∧ b < J np)) ∧ (c = 0 ∨ c = 1) ∧ (0 ≤ e ∧ e < 3)) → AMi D (d + 8) mX12_weight [.ref 62, .int a, .int b, .int c, .int e, .int l, .int o, .int t, .int q] M (fun y M2 => (-1 : Int32) = y ∧ Rall M2) := by
    intro hno
    refine rX12_weight D (d + 7) _ _ _ _ _ _ _ _ M _ hL2 (c_arePl hL2 hpl.1 hpl.2.2.1 ⟨fun _ => ⟨_, rfl, .refl M, rfl, hR⟩, fun z1 => c_inWho hL2 ⟨fun _ => ⟨_, rfl, .refl M, rfl, hR⟩, fun z2 => c_mSide' hL2 ⟨fun z3 => ?_, fun _ => ⟨_, rfl, .refl M, rfl, hR⟩⟩⟩⟩)
    exact absurd ⟨b2_ne0.mp z1, b2_ne0.mp z2, b2_ne0.mp z3⟩ hno
  refine rX11_weight D (d + 7) _ _ _ _ _ _ _ _ M _ hL1 (c_plr2 hL1 hru hpl (fun p0 q0 k0 v0 j0 R0 hp0 ea _ _ _ P0 M0 => ?_) (fun hno => ?_))
  · refine c_plr2 hL1 hru hpl (fun p1 q1 k1 v1 j1 R1 hp1 eb _ _ _ P1 M1 => ⟨fun z => (by cases z), fun x0 z0 => ⟨fun z => (by cases z), fun x1 z1 => ?_⟩⟩) (fun hno => ⟨fun z => (by cases z), fun x0 z0 => ⟨fun _ => ⟨_, rfl, .refl M, m1 (fun z => hno z.1.2)⟩, fun x1 z => by cases z⟩⟩)
    cases z0
    cases z1
    have ha : 0 ≤ a ∧ a < J np := by rw [ea]; exact J_pl hp0 hpl.1
    have hb : 0 ≤ b ∧ b < J np := by rw [eb]; exact J_pl hp1 hpl.1
    refine c_isWho hL1 ⟨fun z => ⟨_, rfl, .refl M, m1 (fun y => b2_eq0.mp z y.2.1)⟩, fun z => c_isSide hL1 ⟨fun z2 => c_isState hL1 ⟨fun z3 => ?_, fun z3 => ⟨_, rfl, .refl M, ?_⟩⟩, fun z2 => ⟨_, rfl, .refl M, m1 (fun y => b2_eq0.mp z2 y.2.2)⟩⟩⟩
    · have hc := b2_ne0.mp z
      have he := b2_ne0.mp z2
      have hst := b2_ne0.mp z3
      have bst := b2_t hst
      obtain ⟨l', o', t', q', rfl, rfl, rfl, rfl, hs⟩ := st_of hst
      obtain ⟨s, hs3, rfl⟩ := sd he
      obtain ⟨w, hw2, rfl⟩ : ∃ w : Nat, w < 2 ∧ c = J w := by
        rcases hc with rfl | rfl
        · exact ⟨0, by omega, rfl⟩
        · exact ⟨1, by omega, rfl⟩
      have es : (J (s : Int)).toNatClampNeg = s := by simp (disch := omega) only [J_lit, J_add, J_sub, J_mul, J_neg, J_lt, J_le, J_eq, J_nat, J_in, J_div]; omega
      have ew : (J (w : Int)).toNatClampNeg = w := by simp (disch := omega) only [J_lit, J_add, J_sub, J_mul, J_neg, J_lt, J_le, J_eq, J_nat, J_in, J_div]; omega
      have ei : ((3 : Int32) * J w + J s).toNatClampNeg = 3 * w + s := by simp (disch := omega) only [J_lit, J_add, J_sub, J_mul, J_neg, J_lt, J_le, J_eq, J_nat, J_in, J_div]; omega
      rw [es, ew]
      refine c_cMeet (d := d + 3) hD hs P0 P1 (fun N FN w0 w1 _ _ _ => ⟨by simp (disch := omega) only [J_lit, J_add, J_sub, J_mul, J_neg, J_lt, J_le, J_eq, J_nat, J_in, J_div]; omega, by simp (disch := omega) only [J_lit, J_add, J_sub, J_mul, J_neg, J_lt, J_le, J_eq, J_nat, J_in, J_div]; omega, _, rfl, FN.1, ?_⟩)
      have hRN := hR.sc (Sc.fm0 FN (by decide) (by decide) (by decide))
      have hDN := hD.fm FN (by decide) (by decide) (by decide) (by decide)
      have hLN := hL2.of FN.1
      have eN : gI N 62 18 = J np := by rw [FN.2.2.2 62 (by decide)]; exact hpl.2.2.1
      refine rX12_weight D (d + 7) _ _ _ _ _ _ _ _ N _ hLN (c_arePl hLN hpl.1 eN ?_)
      rw [b2_t ⟨ha, hb⟩]
      refine ⟨fun z => absurd z (by decide), fun _ => c_inWho hLN ?_⟩
      rw [b2_t hc]
      refine ⟨fun z => absurd z (by decide), fun _ => c_mSide' hLN ?_⟩
      rw [b2_t he]
      refine ⟨fun _ => c_mState hLN ?_, fun z => absurd z (by decide)⟩
      rw [bst]
      refine ⟨fun _ => ?_, fun z => absurd z (by decide)⟩
      rw [ea, eb, ei]
      refine c_mMeet (d := d + 4) hDN hs (M0.fm (fun x hx => FN.2.2.2 x (by (simp only [List.contains_cons, List.contains_nil, Bool.or_false, Bool.or_eq_false_iff, beq_eq_false_iff_ne, ne_eq]; omega)))) (M1.fm (fun x hx => FN.2.2.2 x (by (simp only [List.contains_cons, List.contains_nil, Bool.or_false, Bool.or_eq_false_iff, beq_eq_false_iff_ne, ne_eq]; omega)))) (fun N2 F2 z62 y0 y1 => ⟨by simp (disch := omega) only [J_lit, J_add, J_sub, J_mul, J_neg, J_lt, J_le, J_eq, J_nat, J_in, J_div]; omega, _, rfl, F2.1, ?_, hRN.sc (Sc.fm1 F2 (by decide) (by decide) (fun k hk => z62 k (by omega)) (by decide))⟩)
      rcases (by omega : w = 0 ∨ w = 1) with rfl | rfl
      · exact (w0 s hs3).trans (y0 s hs3).symm
      · exact (w1 s hs3).trans (y1 s hs3).symm
    · refine rX12_weight D (d + 7) _ _ _ _ _ _ _ _ M _ hL2 (c_arePl hL2 hpl.1 hpl.2.2.1 ?_)
      rw [b2_t ⟨ha, hb⟩]
      refine ⟨fun z => absurd z (by decide), fun _ => c_inWho hL2 ?_⟩
      rw [b2_t (b2_ne0.mp z)]
      refine ⟨fun z => absurd z (by decide), fun _ => c_mSide' hL2 ?_⟩
      rw [b2_t (b2_ne0.mp z2)]
      refine ⟨fun _ => c_mState hL2 ?_, fun z => absurd z (by decide)⟩
      rw [b2_f (b2_eq0.mp z3)]
      exact ⟨fun z => absurd rfl z, fun _ => ⟨_, rfl, .refl M, rfl, hR⟩⟩
  · have hn := m1 (fun z => hno z.1.1)
    refine c_plr2 hL1 hru hpl (fun p1 q1 k1 v1 j1 R1 hp1 eb _ _ _ P1 M1 => ⟨fun _ => ⟨_, rfl, .refl M, hn⟩, fun x0 z => by cases z⟩) (fun _ => ⟨fun _ => ⟨_, rfl, .refl M, hn⟩, fun x0 z => by cases z⟩)
theorem fW_b {T : Nat → Int} {w k v : Nat} {F r : Nat → Int} {R : List Cls} {k' v' : Nat} {F' r' : Nat → Int} {R' : List Cls} {s : Nat} (hs : s < 3) (hk : k ≤ 6) (hv : v ≤ 2) (hr : Rr r) (h8 : R.length ≤ 8) (hR : ∀ c ∈ R, ClOk c) : 0 ≤ fW T w k v F R r k' v' F' R' r' s ∧ fW T w k v F R r k' v' F' R' r' s ≤ 99 := by
  unfold fW
  exact bnd_b (wgF_b _ hs hk hv hr h8 hR).1
theorem k_reply {a b c l o t q : Int32} (hR : Rall M) : Ki D (d + 8) mX11_reply mX12_reply [.int a, .int b, .int c, .int l, .int o, .int t, .int q] M := by
  obtain ⟨hL, htb, htx, hki, hlo, hta, hw, nr, np, hru, hpl, hte, him⟩ := id hR
  have hL1 : Lay 0 62 M := hL.sub (by omega) (by omega)
  have hL2 : Lay 62 98 M := hL.sub (by omega) (by omega)
  obtain ⟨T, r0, r1, hD⟩ := hR.du
  have m1 : ¬ (((0 ≤ a ∧ a < J np) ∧ (0 ≤ b ∧ b < J np)) ∧ (c = 0 ∨ c = 1)) → AMi D (d + 8) mX12_reply [.ref 62, .int a, .int b, .int c, .int l, .int o, .int t, .int q] M (fun y M2 => (-1 : Int32) = y ∧ Rall M2) := by
    intro hno
    refine rX12_reply D (d + 7) _ _ _ _ _ _ _ M _ hL2 (c_arePl hL2 hpl.1 hpl.2.2.1 ⟨fun _ => ⟨_, rfl, .refl M, rfl, hR⟩, fun z1 => c_inWho hL2 ⟨fun z2 => ?_, fun _ => ⟨_, rfl, .refl M, rfl, hR⟩⟩⟩)
    exact absurd ⟨b2_ne0.mp z1, b2_ne0.mp z2⟩ hno
  refine rX11_reply D (d + 7) _ _ _ _ _ _ _ M _ hL1 (c_plr2 hL1 hru hpl (fun p0 q0 k0 v0 j0 R0 hp0 ea _ _ _ P0 M0 => ?_) (fun hno => ?_))
  · refine c_plr2 hL1 hru hpl (fun p1 q1 k1 v1 j1 R1 hp1 eb _ _ _ P1 M1 => ⟨fun z => (by cases z), fun x0 z0 => ⟨fun z => (by cases z), fun x1 z1 => ?_⟩⟩) (fun hno => ⟨fun z => (by cases z), fun x0 z0 => ⟨fun _ => ⟨_, rfl, .refl M, m1 (fun z => hno z.1.2)⟩, fun x1 z => by cases z⟩⟩)
    cases z0
    cases z1
    have ha : 0 ≤ a ∧ a < J np := by rw [ea]; exact J_pl hp0 hpl.1
    have hb : 0 ≤ b ∧ b < J np := by rw [eb]; exact J_pl hp1 hpl.1
    refine c_isWho hL1 ⟨fun z => c_isState hL1 ⟨fun z3 => ?_, fun z3 => ⟨_, rfl, .refl M, ?_⟩⟩, fun z => ⟨_, rfl, .refl M, m1 (fun y => b2_eq0.mp z y.2)⟩⟩
    · have hc := b2_ne0.mp z
      have hst := b2_ne0.mp z3
      have bst := b2_t hst
      obtain ⟨l', o', t', q', rfl, rfl, rfl, rfl, hs⟩ := st_of hst
      obtain ⟨w, hw2, rfl⟩ : ∃ w : Nat, w < 2 ∧ c = J w := by
        rcases hc with rfl | rfl
        · exact ⟨0, by omega, rfl⟩
        · exact ⟨1, by omega, rfl⟩
      refine c_cMeet (d := d + 3) hD hs P0 P1 (fun N FN w0 w1 _ _ _ => ?_)
      have hRN := hR.sc (Sc.fm0 FN (by decide) (by decide) (by decide))
      have hDN := hD.fm FN (by decide) (by decide) (by decide) (by decide)
      have hLN := hL2.of FN.1
      have eN : gI N 62 18 = J np := by rw [FN.2.2.2 62 (by decide)]; exact hpl.2.2.1
      have b0 : ∀ s, s < 3 → 0 ≤ fW T 0 k0 v0 (fs0 l' o' t' q') R0 r0 k1 v1 (fs1 l' o' t' q') R1 r1 s ∧ fW T 0 k0 v0 (fs0 l' o' t' q') R0 r0 k1 v1 (fs1 l' o' t' q') R1 r1 s ≤ 1000 := fun s hs => by
        have := fW_b (T := T) (w := 0) (F := fs0 l' o' t' q') (k' := k1) (v' := v1) (F' := fs1 l' o' t' q') (r' := r1) (R' := R1) hs P0.2.1 P0.2.2.1 hD.2.2.2.2.1 P0.2.2.2.2.2.2.1 P0.2.2.2.2.2.2.2.1
        omega
      have b1 : ∀ s, s < 3 → 0 ≤ fW T 1 k1 v1 (fs1 l' o' t' q') R1 r1 k0 v0 (fs0 l' o' t' q') R0 r0 s ∧ fW T 1 k1 v1 (fs1 l' o' t' q') R1 r1 k0 v0 (fs0 l' o' t' q') R0 r0 s ≤ 1000 := fun s hs => by
        have := fW_b (T := T) (w := 1) (F := fs1 l' o' t' q') (k' := k0) (v' := v0) (F' := fs0 l' o' t' q') (r' := r0) (R' := R0) hs P1.2.1 P1.2.2.1 hD.2.2.2.2.2.1 P1.2.2.2.2.2.2.1 P1.2.2.2.2.2.2.2.1
        omega
      have mo : ∀ x : Int32, (∀ N2, Rall N2 → Du N2 T r0 r1 → Wr N2 0 (fW T 0 k0 v0 (fs0 l' o' t' q') R0 r0 k1 v1 (fs1 l' o' t' q') R1 r1) → Wr N2 1 (fW T 1 k1 v1 (fs1 l' o' t' q') R1 r1 k0 v0 (fs0 l' o' t' q') R0 r0) → AMi D (d + 7) mX12_replyOf [.ref 62, .int (J w)] N2 (fun y M2 => M2 = N2 ∧ x = y)) → AMi D (d + 8) mX12_reply [.ref 62, .int a, .int b, .int (J w), .int (J l'), .int (J o'), .int (J t'), .int (J q')] N (fun y M2 => x = y ∧ Rall M2) := by
        intro x hx
        refine rX12_reply D (d + 7) _ _ _ _ _ _ _ N _ hLN (c_arePl hLN hpl.1 eN ?_)
        rw [b2_t ⟨ha, hb⟩]
        refine ⟨fun z => absurd z (by decide), fun _ => c_inWho hLN ?_⟩
        rw [b2_t hc]
        refine ⟨fun _ => c_mState hLN ?_, fun z => absurd z (by decide)⟩
        rw [bst]
        refine ⟨fun _ => ?_, fun z => absurd z (by decide)⟩
        rw [ea, eb]
        refine c_mMeet (d := d + 4) hDN hs (M0.fm (fun x hx => FN.2.2.2 x (by (simp only [List.contains_cons, List.contains_nil, Bool.or_false, Bool.or_eq_false_iff, beq_eq_false_iff_ne, ne_eq]; omega)))) (M1.fm (fun x hx => FN.2.2.2 x (by (simp only [List.contains_cons, List.contains_nil, Bool.or_false, Bool.or_eq_false_iff, beq_eq_false_iff_ne, ne_eq]; omega)))) (fun N2 F2 z62 y0 y1 => ?_)
        have hR2 := hRN.sc (Sc.fm1 F2 (by decide) (by decide) (fun k hk => z62 k (by omega)) (by decide))
        refine (hx N2 hR2 (hDN.fm F2 (by decide) (by decide) (by decide) (by decide)) y0 y1).mono (fun y M2 sm h => ⟨_, rfl, F2.1.trans sm, h.2, ?_⟩)
        rw [h.1]
        exact hR2
      rcases (by omega : w = 0 ∨ w = 1) with rfl | rfl
      · refine c_replySide (w := 0) (T := T) (g := fW T 1 k1 v1 (fs1 l' o' t' q') R1 r1 k0 v0 (fs0 l' o' t' q') R0 r0) (hDN.1.sub (by omega) (by omega)) hDN.2.2.1 hDN.2.1 (by omega) (fun i hi => ⟨w1 i hi, b1 i hi⟩) ⟨_, rfl, FN.1, mo _ (fun N2 h2 D2 y0 y1 => ?_)⟩
        exact c_mReply (w := 0) (T := T) (g := fW T 1 k1 v1 (fs1 l' o' t' q') R1 r1 k0 v0 (fs0 l' o' t' q') R0 r0) (D2.1.sub (by omega) (by omega)) D2.2.2.2.1 D2.2.1 (by omega) y1 b1 ⟨rfl, rfl⟩
      · refine c_replySide (w := 1) (T := T) (g := fW T 0 k0 v0 (fs0 l' o' t' q') R0 r0 k1 v1 (fs1 l' o' t' q') R1 r1) (hDN.1.sub (by omega) (by omega)) hDN.2.2.1 hDN.2.1 (by omega) (fun i hi => ⟨w0 i hi, b0 i hi⟩) ⟨_, rfl, FN.1, mo _ (fun N2 h2 D2 y0 y1 => ?_)⟩
        exact c_mReply (w := 1) (T := T) (g := fW T 0 k0 v0 (fs0 l' o' t' q') R0 r0 k1 v1 (fs1 l' o' t' q') R1 r1) (D2.1.sub (by omega) (by omega)) D2.2.2.2.1 D2.2.1 (by omega) y0 b0 ⟨rfl, rfl⟩
    · refine rX12_reply D (d + 7) _ _ _ _ _ _ _ M _ hL2 (c_arePl hL2 hpl.1 hpl.2.2.1 ?_)
      rw [b2_t ⟨ha, hb⟩]
      refine ⟨fun z => absurd z (by decide), fun _ => c_inWho hL2 ?_⟩
      rw [b2_t (b2_ne0.mp z)]
      refine ⟨fun _ => c_mState hL2 ?_, fun z => absurd z (by decide)⟩
      rw [b2_f (b2_eq0.mp z3)]
      exact ⟨fun z => absurd rfl z, fun _ => ⟨_, rfl, .refl M, rfl, hR⟩⟩
  · have hn := m1 (fun z => hno z.1.1)
    refine c_plr2 hL1 hru hpl (fun p1 q1 k1 v1 j1 R1 hp1 eb _ _ _ P1 M1 => ⟨fun _ => ⟨_, rfl, .refl M, hn⟩, fun x0 z => by cases z⟩) (fun _ => ⟨fun _ => ⟨_, rfl, .refl M, hn⟩, fun x0 z => by cases z⟩)
end
