/-! the constructors -/
def Lz (n : Nat) (M : Mm) : Prop := mN M = n ∧ ∀ a, a < n → mS M a = lay a
def Pz (ps : List (Nat × Nat × Nat)) (M : Mm) : Prop := ∀ q ∈ ps, gP M q.1 q.2.1 = some q.2.2
theorem Lz.sh {n : Nat} {M : Mm} (h : Lz n M) {a : Nat} {q : Nat × Nat} (ha : a < n) (hq : lay a = q) : Sh M a q := ⟨by rw [h.1]; exact ha, (h.2 a ha).trans hq⟩
theorem Lz.ma {n : Nat} {M : Mm} (h : Lz n M) {q : Nat × Nat} (hq : lay n = q) : Lz (n + 1) (mA M q) := by
  obtain ⟨h1, h2⟩ := h
  refine ⟨by show M.1 + 1 = _; rw [show M.1 = n from h1], fun a ha => ?_⟩
  show va_up M.2.1 M.1 q a = _
  by_cases e : a = M.1
  · subst e
    rw [va_up_self, ← hq, ← h1]
    rfl
  · rw [va_up_ne _ _ e]
    exact h2 a (by have : M.1 = n := h1; omega)
theorem Pz.ma {ps : List (Nat × Nat × Nat)} {n : Nat} {M : Mm} (h : Pz ps M) (hz : Lz n M) {q : Nat × Nat} (hp : ps.all (fun q => q.1 < n) = true) : Pz ps (mA M q) := by
  intro x hx
  have hlt : x.1 < n := by have := List.all_eq_true.mp hp x hx; simpa using this
  have hne : x.1 ≠ M.1 := by have : M.1 = n := hz.1; omega
  show va_up M.2.2.2.2 M.1 (fun _ => none) x.1 x.2.1 = _
  rw [va_up_ne _ _ hne]
  exact h x hx
theorem Pz.sp {ps : List (Nat × Nat × Nat)} {M : Mm} (h : Pz ps M) {a k r : Nat} (hp : ps.all (fun q => !(q.1 == a && q.2.1 == k)) = true) : Pz ((a, k, r) :: ps) (sP M a k (some r)) := by
  intro x hx
  rw [gP_sP]
  rcases List.mem_cons.mp hx with rfl | hx
  · simp
  · have := List.all_eq_true.mp hp x hx
    rw [if_neg (by intro e; simp [e.1, e.2] at this)]
    exact h x hx
theorem Lz.rw {n : Nat} {M : Mm} (h : Lz n M) {t ti N K : Nat} (hq : lay n = (t, N)) : ∀ j, (∀ i, i < j → lay (n + 1 + i) = (ti, K)) → Lz (n + 1 + j) (mRw M t ti N K j)
  | 0, _ => h.ma hq
  | j + 1, hr => (Lz.rw h hq j (fun i hi => hr i (by omega))).ma (hr j (by omega))
def rws (n : Nat) : Nat → List (Nat × Nat × Nat)
  | 0 => []
  | j + 1 => (n, j, n + 1 + j) :: rws n j
theorem rws_lt (n : Nat) : ∀ j q, q ∈ rws n j → q.1 = n ∧ q.2.1 < j
  | 0, q, h => by cases h
  | j + 1, q, h => by
    rcases List.mem_cons.mp h with rfl | h
    · exact ⟨rfl, Nat.lt_succ_self _⟩
    · exact ⟨(rws_lt n j q h).1, Nat.lt_succ_of_lt (rws_lt n j q h).2⟩
theorem Pz.rw {ps : List (Nat × Nat × Nat)} {n : Nat} {M : Mm} (h : Pz ps M) (hz : Lz n M) {t ti N K : Nat} (hp : ps.all (fun q => q.1 < n) = true) : ∀ j, Pz (rws n j ++ ps) (mRw M t ti N K j)
  | 0 => h.ma hz hp
  | j + 1 => by
    have ih := Pz.rw (t := t) (ti := ti) (N := N) (K := K) h hz hp j
    have hn : mN M = n := hz.1
    intro x hx
    show gP (sP (mA (mRw M t ti N K j) (ti, K)) (mN M) j (some (mN M + 1 + j))) x.1 x.2.1 = _
    rw [gP_sP]
    rcases List.mem_cons.mp hx with rfl | hx
    · simp [hn]
    · have hlt : x.1 < n + 1 + j ∧ ¬ (x.1 = n ∧ x.2.1 = j) := by
        rcases List.mem_append.mp hx with h1 | h1
        · have := rws_lt n j x h1
          omega
        · have := List.all_eq_true.mp hp x h1
          simp at this
          omega
      rw [if_neg (by rw [hn]; exact hlt.2)]
      have hne : x.1 ≠ (mRw M t ti N K j).1 := by
        have e : (mRw M t ti N K j).1 = mN M + 1 + j := mRw_n M t ti N K j
        omega
      show va_up (mRw M t ti N K j).2.2.2.2 (mRw M t ti N K j).1 (fun _ => none) x.1 x.2.1 = _
      rw [va_up_ne _ _ hne]
      exact ih x hx
section
variable {D : GD} {d mc ms : Nat} {u : MD} {kc ks pc : Nat} {lv : List (Nat × Value)} {st : List Value} {M : Mm} {post : Option Value → Mm → Prop}
theorem ab_eqM {M1 : Mm} (e : M1 = M) (k : AW D d mc ms u kc ks pc lv st M1 post) : AW D d mc ms u kc ks pc lv st M post := e ▸ k
end
/-- nothing is made yet -/
def st_0 (f f' g h : Nat → Int32) : Mm := (0, fun _ => (0, 0), fun _ _ => 0, fun _ _ => 0, fun _ _ => none)
def ps_0 : List (Nat × Nat × Nat) := []
theorem hz_0 (f f' g h : Nat → Int32) : Lz 0 (st_0 f f' g h) := ⟨rfl, fun a ha => absurd ha (Nat.not_lt_zero a)⟩
theorem hp_0 (f f' g h : Nat → Int32) : Pz ps_0 (st_0 f f' g h) := fun q hq => by cases hq

theorem dX7_init_0 : decode cX7_init 0 = .ok (.aload_n 0, 1) := by decide +kernel
theorem dX7_init_1 : decode cX7_init 1 = .ok (.invokespecial 3, 3) := by decide +kernel
theorem dX7_init_4 : decode cX7_init 4 = .ok (.aload_n 0, 1) := by decide +kernel
theorem dX7_init_5 : decode cX7_init 5 = .ok (.bipush 12, 2) := by decide +kernel
theorem dX7_init_7 : decode cX7_init 7 = .ok (.anewarray 9, 3) := by decide +kernel
theorem dX7_init_10 : decode cX7_init 10 = .ok (.putfield 11, 3) := by decide +kernel
theorem dX7_init_13 : decode cX7_init 13 = .ok (.aload_n 0, 1) := by decide +kernel
theorem dX7_init_14 : decode cX7_init 14 = .ok (.iconst 2, 1) := by decide +kernel
theorem dX7_init_15 : decode cX7_init 15 = .ok (.sipush 275, 3) := by decide +kernel
theorem dX7_init_18 : decode cX7_init 18 = .ok (.multianewarray 17 2, 4) := by decide +kernel
theorem dX7_init_22 : decode cX7_init 22 = .ok (.putfield 19, 3) := by decide +kernel
theorem dX7_init_25 : decode cX7_init 25 = .ok (.aload_n 0, 1) := by decide +kernel
theorem dX7_init_26 : decode cX7_init 26 = .ok (.bipush 11, 2) := by decide +kernel
theorem dX7_init_28 : decode cX7_init 28 = .ok (.bipush 36, 2) := by decide +kernel
theorem dX7_init_30 : decode cX7_init 30 = .ok (.multianewarray 17 2, 4) := by decide +kernel
theorem dX7_init_34 : decode cX7_init 34 = .ok (.putfield 22, 3) := by decide +kernel
theorem dX7_init_37 : decode cX7_init 37 = .ok (.aload_n 0, 1) := by decide +kernel
theorem dX7_init_38 : decode cX7_init 38 = .ok (.iconst 0, 1) := by decide +kernel
theorem dX7_init_39 : decode cX7_init 39 = .ok (.putfield 25, 3) := by decide +kernel
theorem dX7_init_42 : decode cX7_init 42 = .ok (.aload_n 0, 1) := by decide +kernel
theorem dX7_init_43 : decode cX7_init 43 = .ok (.iconst 0, 1) := by decide +kernel
theorem dX7_init_44 : decode cX7_init 44 = .ok (.putfield 29, 3) := by decide +kernel
theorem dX7_init_47 : decode cX7_init 47 = .ok (.iconst 0, 1) := by decide +kernel
theorem dX7_init_48 : decode cX7_init 48 = .ok (.istore_n 1, 1) := by decide +kernel
theorem dX7_init_49 : decode cX7_init 49 = .ok (.iload_n 1, 1) := by decide +kernel
theorem dX7_init_50 : decode cX7_init 50 = .ok (.bipush 6, 2) := by decide +kernel
theorem dX7_init_52 : decode cX7_init 52 = .ok (.if_icmp .ge 57, 3) := by decide +kernel
theorem dX7_init_55 : decode cX7_init 55 = .ok (.iconst 0, 1) := by decide +kernel
theorem dX7_init_56 : decode cX7_init 56 = .ok (.istore_n 2, 1) := by decide +kernel
theorem dX7_init_57 : decode cX7_init 57 = .ok (.iload_n 2, 1) := by decide +kernel
theorem dX7_init_58 : decode cX7_init 58 = .ok (.bipush 6, 2) := by decide +kernel
theorem dX7_init_60 : decode cX7_init 60 = .ok (.if_icmp .ge 43, 3) := by decide +kernel
theorem dX7_init_63 : decode cX7_init 63 = .ok (.aload_n 0, 1) := by decide +kernel
theorem dX7_init_64 : decode cX7_init 64 = .ok (.getfield 22, 3) := by decide +kernel
theorem dX7_init_67 : decode cX7_init 67 = .ok (.bipush 10, 2) := by decide +kernel
theorem dX7_init_69 : decode cX7_init 69 = .ok (.aaload, 1) := by decide +kernel
theorem dX7_init_70 : decode cX7_init 70 = .ok (.iload_n 1, 1) := by decide +kernel
theorem dX7_init_71 : decode cX7_init 71 = .ok (.iload_n 2, 1) := by decide +kernel
theorem dX7_init_72 : decode cX7_init 72 = .ok (.invokestatic 32, 3) := by decide +kernel
theorem dX7_init_75 : decode cX7_init 75 = .ok (.iload_n 1, 1) := by decide +kernel
theorem dX7_init_76 : decode cX7_init 76 = .ok (.iload_n 2, 1) := by decide +kernel
theorem dX7_init_77 : decode cX7_init 77 = .ok (.if_icmp .le 8, 3) := by decide +kernel
theorem dX7_init_80 : decode cX7_init 80 = .ok (.ldc 36, 2) := by decide +kernel
theorem dX7_init_82 : decode cX7_init 82 = .ok (.goto 14, 3) := by decide +kernel
theorem dX7_init_85 : decode cX7_init 85 = .ok (.iload_n 1, 1) := by decide +kernel
theorem dX7_init_86 : decode cX7_init 86 = .ok (.iload_n 2, 1) := by decide +kernel
theorem dX7_init_87 : decode cX7_init 87 = .ok (.if_icmp .ne 8, 3) := by decide +kernel
theorem dX7_init_90 : decode cX7_init 90 = .ok (.ldc 37, 2) := by decide +kernel
theorem dX7_init_92 : decode cX7_init 92 = .ok (.goto 4, 3) := by decide +kernel
theorem dX7_init_95 : decode cX7_init 95 = .ok (.iconst 0, 1) := by decide +kernel
theorem dX7_init_96 : decode cX7_init 96 = .ok (.iastore, 1) := by decide +kernel
theorem dX7_init_97 : decode cX7_init 97 = .ok (.iinc 2 1, 3) := by decide +kernel
theorem dX7_init_100 : decode cX7_init 100 = .ok (.goto (-43), 3) := by decide +kernel
theorem dX7_init_103 : decode cX7_init 103 = .ok (.iinc 1 1, 3) := by decide +kernel
theorem dX7_init_106 : decode cX7_init 106 = .ok (.goto (-57), 3) := by decide +kernel
theorem dX7_init_109 : decode cX7_init 109 = .ok (.return_, 1) := by decide +kernel
def LX7_init_49 (D : GD) (d : Nat) (v1 : Int32) (M : Mm) (post : Option Value → Mm → Prop) : Prop := ∀ mc ms kc ks, AW D (d + 1) mc ms mX7_init kc ks 49 [(0, .ref 29), (1, .int v1)] [] M post
def LX7_init_57 (D : GD) (d : Nat) (v1 : Int32) (v2 : Int32) (M : Mm) (post : Option Value → Mm → Prop) : Prop := ∀ mc ms kc ks, AW D (d + 1) mc ms mX7_init kc ks 57 [(0, .ref 29), (1, .int v1), (2, .int v2)] [] M post
set_option maxRecDepth 20000 in
theorem rX7_init_49 (D : GD) (d : Nat) (v1 : Int32) (M : Mm) (post : Option Value → Mm → Prop) (hL : Lay 29 46 M)
    (h : (((6 : Int32) ≤ v1 → post none M) ∧ (¬ (6 : Int32) ≤ v1 → LX7_init_57 D d v1 (0 : Int32) M post))) :
    LX7_init_49 D d v1 M post := by
  intro mc ms kc ks
  show AW D (d + 1) mc ms mX7_init kc ks 49 [(0, .ref 29), (1, .int v1)] [] M post
  refine ab_iload_n 1 dX7_init_49 rfl ?_
  refine ab_bipush (v := 6) dX7_init_50 (by decide) ?_
  refine ab_icmp_ge (tgt := 109) dX7_init_52 (by decide) (fun c1 => ?_) (fun c1 => ?_)
  · have h := h.1 c1
    exact ab_vret dX7_init_109 rfl h
  · have h := h.2 c1
    refine ab_iconst (v := 0) dX7_init_55 (by decide) ?_
    refine ab_istore_n (lv1 := [(2, .int (0 : Int32)), (0, .ref 29), (1, .int v1)]) dX7_init_56 (by decide) rfl ?_
    exact ab_sub [1, 2, 0] rfl (h mc ms _ _)
set_option maxRecDepth 20000 in
theorem rX7_init_57 (D : GD) (d : Nat) (v1 : Int32) (v2 : Int32) (M : Mm) (post : Option Value → Mm → Prop) (hL : Lay 29 46 M)
    (h : (((6 : Int32) ≤ v2 → ∀ x2 : Int32, x2 = v1 + (1 : Int32) → LX7_init_49 D d x2 M post) ∧ (¬ (6 : Int32) ≤ v2 → AMi D d mX7_scoreIndex [.int v1, .int v2] M (fun x4 M3 => ((v1 ≤ v2 → ((¬ v1 = v2 → vp_in x4 36 ∧ ∀ M12 : Mm, M12 = sI M3 45 x4.toNatClampNeg (0 : Int32) → ∀ x16 : Int32, x16 = v2 + (1 : Int32) → LX7_init_57 D d v1 x16 M12 post) ∧ (v1 = v2 → vp_in x4 36 ∧ ∀ M18 : Mm, M18 = sI M3 45 x4.toNatClampNeg (500000 : Int32) → ∀ x22 : Int32, x22 = v2 + (1 : Int32) → LX7_init_57 D d v1 x22 M18 post))) ∧ (¬ v1 ≤ v2 → vp_in x4 36 ∧ ∀ M24 : Mm, M24 = sI M3 45 x4.toNatClampNeg (1000000 : Int32) → ∀ x28 : Int32, x28 = v2 + (1 : Int32) → LX7_init_57 D d v1 x28 M24 post)))))) :
    LX7_init_57 D d v1 v2 M post := by
  intro mc ms kc ks
  show AW D (d + 1) mc ms mX7_init kc ks 57 [(0, .ref 29), (1, .int v1), (2, .int v2)] [] M post
  refine ab_iload_n 2 dX7_init_57 rfl ?_
  refine ab_bipush (v := 6) dX7_init_58 (by decide) ?_
  refine ab_icmp_ge (tgt := 103) dX7_init_60 (by decide) (fun c1 => ?_) (fun c1 => ?_)
  · have h := h.1 c1
    obtain ⟨x2, hx2⟩ : ∃ y : Int32, y = v1 + (1 : Int32) := ⟨_, rfl⟩
    have h := h x2 hx2
    refine ab_iinc (v := x2) 1 (lv1 := [(1, .int x2), (0, .ref 29), (2, .int v2)]) dX7_init_103 rfl (by rw [hx2]; rfl) (by decide) rfl ?_
    refine ab_goto (tgt := 49) dX7_init_106 (by decide) ?_
    exact ab_sub [1, 0] rfl (h mc ms _ _)
  · have h := h.2 c1
    refine ab_aload_n 0 dX7_init_63 rfl ?_
    refine ab_getP (r := 34) dX7_init_64 fs_7_22_7 rfl (hL.sh 29 rfl (by decide) (by decide)).1 (hL.sh 29 rfl (by decide) (by decide)).2 (hL.pt 38 rfl (by decide) (by decide)) ?_
    refine ab_bipush (v := 10) dX7_init_67 (by decide) ?_
    refine ab_aald4j (j := 10) (r := 45) dX7_init_69 (hL.sh 34 rfl (by decide) (by decide)) (vin (by decide)) (by decide) (hL.pt 51 rfl (by decide) (by decide)) ?_
    refine ab_iload_n 1 dX7_init_70 rfl ?_
    refine ab_iload_n 2 dX7_init_71 rfl ?_
    refine ab_callS (d' := d) (mc' := 0) (ms' := 0) (vs := [.int v1, .int v2]) (st := [.ref 45]) dX7_init_72 ⟨cw_X7_scoreIndex, w_236⟩ w_237 rfl rfl (Nat.le_of_ble_eq_true rfl) (Nat.le_refl _) (Nat.zero_le _) (Nat.zero_le _) (AM.mono h (fun r M3 ⟨x4, hr5, hc6, h⟩ => ?_))
    subst hr5
    refine ab_rs ?_
    have hm7 : Sm M M3 := (Sm.refl M).trans hc6
    have hl8 := hL.of hm7
    refine ab_iload_n 1 dX7_init_75 rfl ?_
    refine ab_iload_n 2 dX7_init_76 rfl ?_
    refine ab_icmp_le (tgt := 85) dX7_init_77 (by decide) (fun c9 => ?_) (fun c9 => ?_)
    · have h := h.1 c9
      refine ab_iload_n 1 dX7_init_85 rfl ?_
      refine ab_iload_n 2 dX7_init_86 rfl ?_
      refine ab_icmp_ne (tgt := 95) dX7_init_87 (by decide) (fun c10 => ?_) (fun c10 => ?_)
      · have h := h.1 c10
        refine ab_iconst (v := 0) dX7_init_95 (by decide) ?_
        have hb11 := h.1
        have h := h.2
        refine ab_iastj (j := x4.toNatClampNeg) dX7_init_96 (hl8.sh 45 rfl (by decide) (by decide)) hb11 rfl ?_
        refine ab_nameM (fun M12 hM12 => ?_)
        have h := h M12 hM12
        have hs15 : Sm M3 M12 := hM12 ▸ (Sm.refl _).i
        have hm13 : Sm M M12 := hm7.trans hs15
        have hl14 := hL.of hm13
        obtain ⟨x16, hx16⟩ : ∃ y : Int32, y = v2 + (1 : Int32) := ⟨_, rfl⟩
        have h := h x16 hx16
        refine ab_iinc (v := x16) 2 (lv1 := [(2, .int x16), (0, .ref 29), (1, .int v1)]) dX7_init_97 rfl (by rw [hx16]; rfl) (by decide) rfl ?_
        refine ab_goto (tgt := 57) dX7_init_100 (by decide) ?_
        exact ab_sub [1, 2, 0] rfl (h mc ms _ _)
      · have h := h.2 c10
        refine ab_ldc dX7_init_90 w_240 ?_
        refine ab_goto (tgt := 96) dX7_init_92 (by decide) ?_
        have hb17 := h.1
        have h := h.2
        refine ab_iastj (j := x4.toNatClampNeg) dX7_init_96 (hl8.sh 45 rfl (by decide) (by decide)) hb17 rfl ?_
        refine ab_nameM (fun M18 hM18 => ?_)
        have h := h M18 hM18
        have hs21 : Sm M3 M18 := hM18 ▸ (Sm.refl _).i
        have hm19 : Sm M M18 := hm7.trans hs21
        have hl20 := hL.of hm19
        obtain ⟨x22, hx22⟩ : ∃ y : Int32, y = v2 + (1 : Int32) := ⟨_, rfl⟩
        have h := h x22 hx22
        refine ab_iinc (v := x22) 2 (lv1 := [(2, .int x22), (0, .ref 29), (1, .int v1)]) dX7_init_97 rfl (by rw [hx22]; rfl) (by decide) rfl ?_
        refine ab_goto (tgt := 57) dX7_init_100 (by decide) ?_
        exact ab_sub [1, 2, 0] rfl (h mc ms _ _)
    · have h := h.2 c9
      refine ab_ldc dX7_init_80 w_239 ?_
      refine ab_goto (tgt := 96) dX7_init_82 (by decide) ?_
      have hb23 := h.1
      have h := h.2
      refine ab_iastj (j := x4.toNatClampNeg) dX7_init_96 (hl8.sh 45 rfl (by decide) (by decide)) hb23 rfl ?_
      refine ab_nameM (fun M24 hM24 => ?_)
      have h := h M24 hM24
      have hs27 : Sm M3 M24 := hM24 ▸ (Sm.refl _).i
      have hm25 : Sm M M24 := hm7.trans hs27
      have hl26 := hL.of hm25
      obtain ⟨x28, hx28⟩ : ∃ y : Int32, y = v2 + (1 : Int32) := ⟨_, rfl⟩
      have h := h x28 hx28
      refine ab_iinc (v := x28) 2 (lv1 := [(2, .int x28), (0, .ref 29), (1, .int v1)]) dX7_init_97 rfl (by rw [hx28]; rfl) (by decide) rfl ?_
      refine ab_goto (tgt := 57) dX7_init_100 (by decide) ?_
      exact ab_sub [1, 2, 0] rfl (h mc ms _ _)

theorem c_score {D : GD} {d a b : Nat} {M : Mm} {P : Int32 → Mm → Prop} (hL : Lay 29 46 M) (h : P (J ((6 * a + b : Nat) : Int)) M) : AMi D d mX7_scoreIndex [.int (J a), .int (J b)] M P := by
  refine rX7_scoreIndex D d (J a) (J b) M _ hL (iret (.refl M) ?_)
  have e : J (a : Int) * (6 : Int32) + J b = J ((6 * a + b : Nat) : Int) := by
    simp only [J_lit, J_mul, J_add]
    congr 1
    omega
  rw [e]
  exact h
def wv (a b : Nat) : Int := if b < a then 1000000 else if a = b then 500000 else 0
/-- all TURNs are behind: who has more has won -/
def Wh (h : Nat → Int32) : Prop := ∀ a b, a < 6 → b < 6 → h (6 * a + b) = J (wv a b)
theorem l_wins {D : GD} {d : Nat} {M : Mm} {post : Option Value → Mm → Prop} (hL : Lay 29 46 M) (hq : ∀ h, Wh h → post none (rI M 45 h)) : ∀ (n a b : Nat) (h0 : Nat → Int32), n = (6 - a) * 7 + (6 - b) → a < 6 → b ≤ 6 → (∀ a' b', a' < 6 → b' < 6 → (a' < a ∨ a' = a ∧ b' < b) → h0 (6 * a' + b') = J (wv a' b')) → LX7_init_57 D d (J a) (J b) (rI M 45 h0) post := by
  intro n
  induction n using Nat.strongRecOn with
  | ind n ih =>
  intro a b h0 hn ha hb hh
  have hL1 : Lay 29 46 (rI M 45 h0) := hL.of (Sm.refl M).ri
  have en : ∀ n : Nat, (J n : Int32) + (1 : Int32) = J ((n + 1 : Nat) : Int) := fun n => by simp (disch := omega) only [J_lit, J_add, J_sub, J_mul, J_neg, J_lt, J_le, J_eq, J_nat, J_in, J_div]; congr 1
  have fin : ∀ (v : Int32), b < 6 → v = J (wv a b) → ∀ M12 : Mm, M12 = sI (rI M 45 h0) 45 (J ((6 * a + b : Nat) : Int)).toNatClampNeg v → ∀ x16 : Int32, x16 = J b + (1 : Int32) → LX7_init_57 D d (J a) x16 M12 post := by
    intro v hb6 hv M12 e12 x16 e16
    have ei : (J ((6 * a + b : Nat) : Int)).toNatClampNeg = 6 * a + b := by
      rw [J_nat (by omega) (by omega)]
      omega
    rw [e12, e16, en, ei, sI_rI]
    refine ih _ ?_ a (b + 1) _ rfl ha (by omega) (fun a' b' h1 h2 h3 => ?_)
    · omega
    · by_cases e : a' = a ∧ b' = b
      · obtain ⟨rfl, rfl⟩ := e
        rw [va_up_self]
        exact hv
      · rw [va_up_ne _ _ (by omega)]
        exact hh a' b' h1 h2 (by omega)
  refine rX7_init_57 D d (J a) (J b) _ post hL1 ⟨fun c x2 e2 => ?_, fun c => ?_⟩
  · simp (disch := omega) only [J_lit, J_add, J_sub, J_mul, J_neg, J_lt, J_le, J_eq, J_nat, J_in, J_div] at c
    rw [e2, en]
    refine rX7_init_49 D d _ _ post hL1 ⟨fun c4 => ?_, fun c4 => ?_⟩
    · simp (disch := omega) only [J_lit, J_add, J_sub, J_mul, J_neg, J_lt, J_le, J_eq, J_nat, J_in, J_div] at c4
      exact hq h0 (fun a' b' h1 h2 => hh a' b' h1 h2 (by omega))
    · simp (disch := omega) only [J_lit, J_add, J_sub, J_mul, J_neg, J_lt, J_le, J_eq, J_nat, J_in, J_div] at c4
      exact ih _ (by omega) (a + 1) 0 h0 rfl (by omega) (by omega) (fun a' b' h1 h2 h3 => hh a' b' h1 h2 (by omega))
  · simp (disch := omega) only [J_lit, J_add, J_sub, J_mul, J_neg, J_lt, J_le, J_eq, J_nat, J_in, J_div] at c
    refine c_score hL1 ⟨fun c1 => ⟨fun c2 => ?_, fun c2 => ?_⟩, fun c1 => ?_⟩
    · simp (disch := omega) only [J_lit, J_add, J_sub, J_mul, J_neg, J_lt, J_le, J_eq, J_nat, J_in, J_div] at c1 c2
      refine ⟨by simp (disch := omega) only [J_lit, J_add, J_sub, J_mul, J_neg, J_lt, J_le, J_eq, J_nat, J_in, J_div]; omega, fin 0 (by omega) ?_⟩
      unfold wv
      rw [if_neg (by omega), if_neg (by omega)]
      rfl
    · simp (disch := omega) only [J_lit, J_add, J_sub, J_mul, J_neg, J_lt, J_le, J_eq, J_nat, J_in, J_div] at c1 c2
      refine ⟨by simp (disch := omega) only [J_lit, J_add, J_sub, J_mul, J_neg, J_lt, J_le, J_eq, J_nat, J_in, J_div]; omega, fin 500000 (by omega) ?_⟩
      unfold wv
      rw [if_neg (by omega), if_pos (by omega)]
      rfl
    · simp (disch := omega) only [J_lit, J_add, J_sub, J_mul, J_neg, J_lt, J_le, J_eq, J_nat, J_in, J_div] at c1
      refine ⟨by simp (disch := omega) only [J_lit, J_add, J_sub, J_mul, J_neg, J_lt, J_le, J_eq, J_nat, J_in, J_div]; omega, fin 1000000 (by omega) ?_⟩
      unfold wv
      rw [if_pos (by omega)]
      rfl
theorem c_wins {D : GD} {d : Nat} {M : Mm} {post : Option Value → Mm → Prop} (hL : Lay 29 46 M) (hq : ∀ h, Wh h → post none (rI M 45 h)) : LX7_init_49 D d (0 : Int32) M post := by
  refine rX7_init_49 D d _ M post hL ⟨fun c => absurd c (by decide), fun c => ?_⟩
  have := l_wins (d := d) (D := D) hL hq _ 0 0 (gI M 45) rfl (by omega) (by omega) (fun a' b' _ _ h => by omega)
  rw [rI_id] at this
  exact this

def st_1 (f f' g h : Nat → Int32) : Mm := mA (st_0 f f' g h) (0, 11)
theorem hz_1 (f f' g h : Nat → Int32) : Lz 1 (st_1 f f' g h) := (hz_0 f f' g h).ma rfl
theorem hp_1 (f f' g h : Nat → Int32) : Pz ps_0 (st_1 f f' g h) := (hp_0 f f' g h).ma (hz_0 f f' g h) (by decide +kernel)
def st_2 (f f' g h : Nat → Int32) : Mm := mA (st_1 f f' g h) (0, 6)
theorem hz_2 (f f' g h : Nat → Int32) : Lz 2 (st_2 f f' g h) := (hz_1 f f' g h).ma rfl
theorem hp_2 (f f' g h : Nat → Int32) : Pz ps_0 (st_2 f f' g h) := (hp_1 f f' g h).ma (hz_1 f f' g h) (by decide +kernel)
theorem dX6_init_0 : decode cX6_init 0 = .ok (.aload_n 0, 1) := by decide +kernel
theorem dX6_init_1 : decode cX6_init 1 = .ok (.invokespecial 3, 3) := by decide +kernel
theorem dX6_init_4 : decode cX6_init 4 = .ok (.aload_n 0, 1) := by decide +kernel
theorem dX6_init_5 : decode cX6_init 5 = .ok (.bipush 100, 2) := by decide +kernel
theorem dX6_init_7 : decode cX6_init 7 = .ok (.newarray .int, 2) := by decide +kernel
theorem dX6_init_9 : decode cX6_init 9 = .ok (.putfield 9, 3) := by decide +kernel
theorem dX6_init_12 : decode cX6_init 12 = .ok (.aload_n 0, 1) := by decide +kernel
theorem dX6_init_13 : decode cX6_init 13 = .ok (.bipush 100, 2) := by decide +kernel
theorem dX6_init_15 : decode cX6_init 15 = .ok (.newarray .int, 2) := by decide +kernel
theorem dX6_init_17 : decode cX6_init 17 = .ok (.putfield 15, 3) := by decide +kernel
theorem dX6_init_20 : decode cX6_init 20 = .ok (.aload_n 0, 1) := by decide +kernel
theorem dX6_init_21 : decode cX6_init 21 = .ok (.iconst 0, 1) := by decide +kernel
theorem dX6_init_22 : decode cX6_init 22 = .ok (.putfield 18, 3) := by decide +kernel
theorem dX6_init_25 : decode cX6_init 25 = .ok (.aload_n 0, 1) := by decide +kernel
theorem dX6_init_26 : decode cX6_init 26 = .ok (.iconst 0, 1) := by decide +kernel
theorem dX6_init_27 : decode cX6_init 27 = .ok (.putfield 22, 3) := by decide +kernel
theorem dX6_init_30 : decode cX6_init 30 = .ok (.aload_n 0, 1) := by decide +kernel
theorem dX6_init_31 : decode cX6_init 31 = .ok (.iconst 0, 1) := by decide +kernel
theorem dX6_init_32 : decode cX6_init 32 = .ok (.putfield 25, 3) := by decide +kernel
theorem dX6_init_35 : decode cX6_init 35 = .ok (.aload_n 0, 1) := by decide +kernel
theorem dX6_init_36 : decode cX6_init 36 = .ok (.iconst 0, 1) := by decide +kernel
theorem dX6_init_37 : decode cX6_init 37 = .ok (.putfield 28, 3) := by decide +kernel
theorem dX6_init_40 : decode cX6_init 40 = .ok (.return_, 1) := by decide +kernel
def st_3 (f f' g h : Nat → Int32) : Mm := mA (st_2 f f' g h) (1, 100)
theorem hz_3 (f f' g h : Nat → Int32) : Lz 3 (st_3 f f' g h) := (hz_2 f f' g h).ma rfl
theorem hp_3 (f f' g h : Nat → Int32) : Pz ps_0 (st_3 f f' g h) := (hp_2 f f' g h).ma (hz_2 f f' g h) (by decide +kernel)
def st_4 (f f' g h : Nat → Int32) : Mm := sP (st_3 f f' g h) 1 0 (some 2)
def ps_1 : List (Nat × Nat × Nat) := (1, 0, 2) :: ps_0
theorem hz_4 (f f' g h : Nat → Int32) : Lz 3 (st_4 f f' g h) := (hz_3 f f' g h)
theorem hp_4 (f f' g h : Nat → Int32) : Pz ps_1 (st_4 f f' g h) := (hp_3 f f' g h).sp (by decide +kernel)
def st_5 (f f' g h : Nat → Int32) : Mm := mA (st_4 f f' g h) (1, 100)
theorem hz_5 (f f' g h : Nat → Int32) : Lz 4 (st_5 f f' g h) := (hz_4 f f' g h).ma rfl
theorem hp_5 (f f' g h : Nat → Int32) : Pz ps_1 (st_5 f f' g h) := (hp_4 f f' g h).ma (hz_4 f f' g h) (by decide +kernel)
def st_6 (f f' g h : Nat → Int32) : Mm := sP (st_5 f f' g h) 1 1 (some 3)
def ps_2 : List (Nat × Nat × Nat) := (1, 1, 3) :: ps_1
theorem hz_6 (f f' g h : Nat → Int32) : Lz 4 (st_6 f f' g h) := (hz_5 f f' g h)
theorem hp_6 (f f' g h : Nat → Int32) : Pz ps_2 (st_6 f f' g h) := (hp_5 f f' g h).sp (by decide +kernel)
def st_7 (f f' g h : Nat → Int32) : Mm := sI (st_6 f f' g h) 1 2 0
theorem hz_7 (f f' g h : Nat → Int32) : Lz 4 (st_7 f f' g h) := (hz_6 f f' g h)
theorem hp_7 (f f' g h : Nat → Int32) : Pz ps_2 (st_7 f f' g h) := (hp_6 f f' g h)
def st_8 (f f' g h : Nat → Int32) : Mm := sI (st_7 f f' g h) 1 3 0
theorem hz_8 (f f' g h : Nat → Int32) : Lz 4 (st_8 f f' g h) := (hz_7 f f' g h)
theorem hp_8 (f f' g h : Nat → Int32) : Pz ps_2 (st_8 f f' g h) := (hp_7 f f' g h)
def st_9 (f f' g h : Nat → Int32) : Mm := sI (st_8 f f' g h) 1 4 0
theorem hz_9 (f f' g h : Nat → Int32) : Lz 4 (st_9 f f' g h) := (hz_8 f f' g h)
theorem hp_9 (f f' g h : Nat → Int32) : Pz ps_2 (st_9 f f' g h) := (hp_8 f f' g h)
def st_10 (f f' g h : Nat → Int32) : Mm := sI (st_9 f f' g h) 1 5 0
theorem hz_10 (f f' g h : Nat → Int32) : Lz 4 (st_10 f f' g h) := (hz_9 f f' g h)
theorem hp_10 (f f' g h : Nat → Int32) : Pz ps_2 (st_10 f f' g h) := (hp_9 f f' g h)
set_option maxRecDepth 20000 in
theorem ci_X6_init_1 (D : GD) (d : Nat) (f f' g h : Nat → Int32) (post : Option Value → Mm → Prop) (hq : post none (st_10 f f' g h)) : AM D (d + 1) 2 200 mX6_init [.ref 1] (st_2 f f' g h) post := by
  refine AM.of (by decide) (Nat.le_of_ble_eq_true rfl) ?_
  show AW D (d + 1) 2 200 mX6_init 2 200 0 [(0, .ref 1)] [] (st_2 f f' g h) post
  refine ab_aload_n 0 dX6_init_0 rfl ?_
  refine ab_objInit dX6_init_1 w_113 w_106 w_107 (Nat.le_of_ble_eq_true rfl) (Nat.succ_le_succ (Nat.zero_le _)) ?_
  refine ab_aload_n 0 dX6_init_4 rfl ?_
  refine ab_bipush (v := 100) dX6_init_5 (by decide) ?_
  refine ab_newI (N := 100) dX6_init_7 w_137 (by decide) (by decide) (by decide) (Nat.le_of_ble_eq_true rfl) (Nat.le_of_ble_eq_true rfl) (by rw [(hz_2 f f' g h).1]; decide) ?_
  rw [(hz_2 f f' g h).1]
  refine ab_eqM (M1 := (st_3 f f' g h)) rfl ?_
  refine ab_putFP (a := 1) (c := 6) (k := 0) (r := 2) dX6_init_9 fs_6_9_6 rfl rfl rfl rfl ((hz_3 f f' g h).sh (a := 1) (by decide) rfl).1 ((hz_3 f f' g h).sh (a := 1) (by decide) rfl).2 ?_
  refine ab_eqM (M1 := (st_4 f f' g h)) rfl ?_
  refine ab_aload_n 0 dX6_init_12 rfl ?_
  refine ab_bipush (v := 100) dX6_init_13 (by decide) ?_
  refine ab_newI (N := 100) dX6_init_15 w_137 (by decide) (by decide) (by decide) (Nat.le_of_ble_eq_true rfl) (Nat.le_of_ble_eq_true rfl) (by rw [(hz_4 f f' g h).1]; decide) ?_
  rw [(hz_4 f f' g h).1]
  refine ab_eqM (M1 := (st_5 f f' g h)) rfl ?_
  refine ab_putFP (a := 1) (c := 6) (k := 1) (r := 3) dX6_init_17 fs_6_15_6 rfl rfl rfl rfl ((hz_5 f f' g h).sh (a := 1) (by decide) rfl).1 ((hz_5 f f' g h).sh (a := 1) (by decide) rfl).2 ?_
  refine ab_eqM (M1 := (st_6 f f' g h)) rfl ?_
  refine ab_aload_n 0 dX6_init_20 rfl ?_
  refine ab_iconst (v := 0) dX6_init_21 (by decide) ?_
  refine ab_putI (a := 1) (c := 6) (k := 2) dX6_init_22 fs_6_18_6 rfl rfl ((hz_6 f f' g h).sh (a := 1) (by decide) rfl).1 ((hz_6 f f' g h).sh (a := 1) (by decide) rfl).2 ?_
  refine ab_eqM (M1 := (st_7 f f' g h)) rfl ?_
  refine ab_aload_n 0 dX6_init_25 rfl ?_
  refine ab_iconst (v := 0) dX6_init_26 (by decide) ?_
  refine ab_putI (a := 1) (c := 6) (k := 3) dX6_init_27 fs_6_22_6 rfl rfl ((hz_7 f f' g h).sh (a := 1) (by decide) rfl).1 ((hz_7 f f' g h).sh (a := 1) (by decide) rfl).2 ?_
  refine ab_eqM (M1 := (st_8 f f' g h)) rfl ?_
  refine ab_aload_n 0 dX6_init_30 rfl ?_
  refine ab_iconst (v := 0) dX6_init_31 (by decide) ?_
  refine ab_putI (a := 1) (c := 6) (k := 4) dX6_init_32 fs_6_25_6 rfl rfl ((hz_8 f f' g h).sh (a := 1) (by decide) rfl).1 ((hz_8 f f' g h).sh (a := 1) (by decide) rfl).2 ?_
  refine ab_eqM (M1 := (st_9 f f' g h)) rfl ?_
  refine ab_aload_n 0 dX6_init_35 rfl ?_
  refine ab_iconst (v := 0) dX6_init_36 (by decide) ?_
  refine ab_putZ (a := 1) (c := 6) (k := 5) dX6_init_37 fs_6_28_6 rfl rfl ((hz_9 f f' g h).sh (a := 1) (by decide) rfl).1 ((hz_9 f f' g h).sh (a := 1) (by decide) rfl).2 (by decide) ?_
  refine ab_eqM (M1 := (st_10 f f' g h)) rfl ?_
  exact ab_vret dX6_init_40 rfl hq
