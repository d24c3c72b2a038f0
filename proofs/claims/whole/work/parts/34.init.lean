/-! the constructors -/
def Lz (n : Nat) (M : Mm) : Prop := mN M = n ∧ ∀ a, a < n → mS M a = lay a
def Pz (ps : List (Nat × Nat × Nat)) (M : Mm) : Prop := ∀ q ∈ ps, gP M q.1 q.2.1 = some q.2.2
theorem Lz.sh {n : Nat} {M : Mm} (h : Lz n M) {a : Nat} {q : Nat × Nat} (ha : a < n) (hq : lay a = q) : Sh M a q := ⟨by rw [h.1]; exact ha, (h.2 a ha).trans hq⟩
theorem Lz.ma {n : Nat} {M : Mm} (h : Lz n M) {q : Nat × Nat} (hq : lay n = q) : Lz (n + 1) (mA M q) := by
  obtain ⟨h1, h2⟩ := h
  refine ⟨by show M.1 + 1 = _; rw [show M.1 = n from h1], fun a ha => ?_⟩
  show va_up M.2.1 M.1 q a = _
  by_cases e : a = M.1
  · subst e
    rw [va_up_self, ← hq, ← h1]
    rfl
  · rw [va_up_ne _ _ e]
    exact h2 a (by have : M.1 = n := h1; omega)
theorem Pz.ma {ps : List (Nat × Nat × Nat)} {n : Nat} {M : Mm} (h : Pz ps M) (hz : Lz n M) {q : Nat × Nat} (hp : ps.all (fun q => q.1 < n) = true) : Pz ps (mA M q) := by
  intro x hx
  have hlt : x.1 < n := by have := List.all_eq_true.mp hp x hx; simpa using this
  have hne : x.1 ≠ M.1 := by have : M.1 = n := hz.1; omega
  show va_up M.2.2.2.2 M.1 (fun _ => none) x.1 x.2.1 = _
  rw [va_up_ne _ _ hne]
  exact h x hx
theorem Pz.sp {ps : List (Nat × Nat × Nat)} {M : Mm} (h : Pz ps M) {a k r : Nat} (hp : ps.all (fun q => !(q.1 == a && q.2.1 == k)) = true) : Pz ((a, k, r) :: ps) (sP M a k (some r)) := by
  intro x hx
  rw [gP_sP]
  rcases List.mem_cons.mp hx with rfl | hx
  · simp
  · have := List.all_eq_true.mp hp x hx
    rw [if_neg (by intro e; simp [e.1, e.2] at this)]
    exact h x hx
theorem Lz.sp {n : Nat} {M : Mm} (h : Lz n M) {a k : Nat} {o : Option Nat} : Lz n (sP M a k o) := h
theorem Lz.si {n : Nat} {M : Mm} (h : Lz n M) {a k : Nat} {x : Int32} : Lz n (sI M a k x) := h
theorem Lz.sl {n : Nat} {M : Mm} (h : Lz n M) {a k : Nat} {x : Int64} : Lz n (sL M a k x) := h
theorem Lz.ri {n : Nat} {M : Mm} (h : Lz n M) {a : Nat} {f : Nat → Int32} : Lz n (rI M a f) := h
theorem Pz.si {n : List (Nat × Nat × Nat)} {M : Mm} (h : Pz n M) {a k : Nat} {x : Int32} : Pz n (sI M a k x) := h
theorem Pz.sl {n : List (Nat × Nat × Nat)} {M : Mm} (h : Pz n M) {a k : Nat} {x : Int64} : Pz n (sL M a k x) := h
theorem Pz.ri {n : List (Nat × Nat × Nat)} {M : Mm} (h : Pz n M) {a : Nat} {f : Nat → Int32} : Pz n (rI M a f) := h
theorem Lz.rw {n : Nat} {M : Mm} (h : Lz n M) {t ti N K : Nat} (hq : lay n = (t, N)) : ∀ j, (∀ i, i < j → lay (n + 1 + i) = (ti, K)) → Lz (n + 1 + j) (mRw M t ti N K j)
  | 0, _ => h.ma hq
  | j + 1, hr => (Lz.rw h hq j (fun i hi => hr i (by omega))).ma (hr j (by omega))
def rws (n : Nat) : Nat → List (Nat × Nat × Nat)
  | 0 => []
  | j + 1 => (n, j, n + 1 + j) :: rws n j
theorem rws_lt (n : Nat) : ∀ j q, q ∈ rws n j → q.1 = n ∧ q.2.1 < j
  | 0, q, h => by cases h
  | j + 1, q, h => by
    rcases List.mem_cons.mp h with rfl | h
    · exact ⟨rfl, Nat.lt_succ_self _⟩
    · exact ⟨(rws_lt n j q h).1, Nat.lt_succ_of_lt (rws_lt n j q h).2⟩
theorem Pz.rw {ps : List (Nat × Nat × Nat)} {n : Nat} {M : Mm} (h : Pz ps M) (hz : Lz n M) {t ti N K : Nat} (hp : ps.all (fun q => q.1 < n) = true) : ∀ j, Pz (rws n j ++ ps) (mRw M t ti N K j)
  | 0 => h.ma hz hp
  | j + 1 => by
    have ih := Pz.rw (t := t) (ti := ti) (N := N) (K := K) h hz hp j
    have hn : mN M = n := hz.1
    intro x hx
    show gP (sP (mA (mRw M t ti N K j) (ti, K)) (mN M) j (some (mN M + 1 + j))) x.1 x.2.1 = _
    rw [gP_sP]
    rcases List.mem_cons.mp hx with rfl | hx
    · simp [hn]
    · have hlt : x.1 < n + 1 + j ∧ ¬ (x.1 = n ∧ x.2.1 = j) := by
        rcases List.mem_append.mp hx with h1 | h1
        · have := rws_lt n j x h1
          omega
        · have := List.all_eq_true.mp hp x h1
          simp at this
          omega
      rw [if_neg (by rw [hn]; exact hlt.2)]
      have hne : x.1 ≠ (mRw M t ti N K j).1 := by
        have e : (mRw M t ti N K j).1 = mN M + 1 + j := mRw_n M t ti N K j
        omega
      show va_up (mRw M t ti N K j).2.2.2.2 (mRw M t ti N K j).1 (fun _ => none) x.1 x.2.1 = _
      rw [va_up_ne _ _ hne]
      exact ih x hx
section
variable {D : GD} {d mc ms : Nat} {u : MD} {kc ks pc : Nat} {lv : List (Nat × Value)} {st : List Value} {M : Mm} {post : Option Value → Mm → Prop}
theorem ab_eqM {M1 : Mm} (e : M1 = M) (k : AW D d mc ms u kc ks pc lv st M1 post) : AW D d mc ms u kc ks pc lv st M post := e ▸ k
end
/-- nothing is made yet -/
def st_0 : Mm := (0, fun _ => (0, 0), fun _ _ => 0, fun _ _ => 0, fun _ _ => none)
def ps_0 : List (Nat × Nat × Nat) := []
theorem hz_0 : Lz 0 st_0 := ⟨rfl, fun a ha => absurd ha (Nat.not_lt_zero a)⟩
theorem hp_0 : Pz ps_0 st_0 := fun q hq => by cases hq

theorem dX7_init_0 : decode cX7_init 0 = .ok (.aload_n 0, 1) := by decide +kernel
theorem dX7_init_1 : decode cX7_init 1 = .ok (.invokespecial 3, 3) := by decide +kernel
theorem dX7_init_4 : decode cX7_init 4 = .ok (.aload_n 0, 1) := by decide +kernel
theorem dX7_init_5 : decode cX7_init 5 = .ok (.bipush 12, 2) := by decide +kernel
theorem dX7_init_7 : decode cX7_init 7 = .ok (.anewarray 9, 3) := by decide +kernel
theorem dX7_init_10 : decode cX7_init 10 = .ok (.putfield 11, 3) := by decide +kernel
theorem dX7_init_13 : decode cX7_init 13 = .ok (.aload_n 0, 1) := by decide +kernel
theorem dX7_init_14 : decode cX7_init 14 = .ok (.iconst 2, 1) := by decide +kernel
theorem dX7_init_15 : decode cX7_init 15 = .ok (.sipush 275, 3) := by decide +kernel
theorem dX7_init_18 : decode cX7_init 18 = .ok (.multianewarray 17 2, 4) := by decide +kernel
theorem dX7_init_22 : decode cX7_init 22 = .ok (.putfield 19, 3) := by decide +kernel
theorem dX7_init_25 : decode cX7_init 25 = .ok (.aload_n 0, 1) := by decide +kernel
theorem dX7_init_26 : decode cX7_init 26 = .ok (.bipush 11, 2) := by decide +kernel
theorem dX7_init_28 : decode cX7_init 28 = .ok (.bipush 36, 2) := by decide +kernel
theorem dX7_init_30 : decode cX7_init 30 = .ok (.multianewarray 17 2, 4) := by decide +kernel
theorem dX7_init_34 : decode cX7_init 34 = .ok (.putfield 22, 3) := by decide +kernel
theorem dX7_init_37 : decode cX7_init 37 = .ok (.aload_n 0, 1) := by decide +kernel
theorem dX7_init_38 : decode cX7_init 38 = .ok (.iconst 0, 1) := by decide +kernel
theorem dX7_init_39 : decode cX7_init 39 = .ok (.putfield 25, 3) := by decide +kernel
theorem dX7_init_42 : decode cX7_init 42 = .ok (.aload_n 0, 1) := by decide +kernel
theorem dX7_init_43 : decode cX7_init 43 = .ok (.iconst 0, 1) := by decide +kernel
theorem dX7_init_44 : decode cX7_init 44 = .ok (.putfield 29, 3) := by decide +kernel
theorem dX7_init_47 : decode cX7_init 47 = .ok (.iconst 0, 1) := by decide +kernel
theorem dX7_init_48 : decode cX7_init 48 = .ok (.istore_n 1, 1) := by decide +kernel
theorem dX7_init_49 : decode cX7_init 49 = .ok (.iload_n 1, 1) := by decide +kernel
theorem dX7_init_50 : decode cX7_init 50 = .ok (.bipush 6, 2) := by decide +kernel
theorem dX7_init_52 : decode cX7_init 52 = .ok (.if_icmp .ge 57, 3) := by decide +kernel
theorem dX7_init_55 : decode cX7_init 55 = .ok (.iconst 0, 1) := by decide +kernel
theorem dX7_init_56 : decode cX7_init 56 = .ok (.istore_n 2, 1) := by decide +kernel
theorem dX7_init_57 : decode cX7_init 57 = .ok (.iload_n 2, 1) := by decide +kernel
theorem dX7_init_58 : decode cX7_init 58 = .ok (.bipush 6, 2) := by decide +kernel
theorem dX7_init_60 : decode cX7_init 60 = .ok (.if_icmp .ge 43, 3) := by decide +kernel
theorem dX7_init_63 : decode cX7_init 63 = .ok (.aload_n 0, 1) := by decide +kernel
theorem dX7_init_64 : decode cX7_init 64 = .ok (.getfield 22, 3) := by decide +kernel
theorem dX7_init_67 : decode cX7_init 67 = .ok (.bipush 10, 2) := by decide +kernel
theorem dX7_init_69 : decode cX7_init 69 = .ok (.aaload, 1) := by decide +kernel
theorem dX7_init_70 : decode cX7_init 70 = .ok (.iload_n 1, 1) := by decide +kernel
theorem dX7_init_71 : decode cX7_init 71 = .ok (.iload_n 2, 1) := by decide +kernel
theorem dX7_init_72 : decode cX7_init 72 = .ok (.invokestatic 32, 3) := by decide +kernel
theorem dX7_init_75 : decode cX7_init 75 = .ok (.iload_n 1, 1) := by decide +kernel
theorem dX7_init_76 : decode cX7_init 76 = .ok (.iload_n 2, 1) := by decide +kernel
theorem dX7_init_77 : decode cX7_init 77 = .ok (.if_icmp .le 8, 3) := by decide +kernel
theorem dX7_init_80 : decode cX7_init 80 = .ok (.ldc 36, 2) := by decide +kernel
theorem dX7_init_82 : decode cX7_init 82 = .ok (.goto 14, 3) := by decide +kernel
theorem dX7_init_85 : decode cX7_init 85 = .ok (.iload_n 1, 1) := by decide +kernel
theorem dX7_init_86 : decode cX7_init 86 = .ok (.iload_n 2, 1) := by decide +kernel
theorem dX7_init_87 : decode cX7_init 87 = .ok (.if_icmp .ne 8, 3) := by decide +kernel
theorem dX7_init_90 : decode cX7_init 90 = .ok (.ldc 37, 2) := by decide +kernel
theorem dX7_init_92 : decode cX7_init 92 = .ok (.goto 4, 3) := by decide +kernel
theorem dX7_init_95 : decode cX7_init 95 = .ok (.iconst 0, 1) := by decide +kernel
theorem dX7_init_96 : decode cX7_init 96 = .ok (.iastore, 1) := by decide +kernel
theorem dX7_init_97 : decode cX7_init 97 = .ok (.iinc 2 1, 3) := by decide +kernel
theorem dX7_init_100 : decode cX7_init 100 = .ok (.goto (-43), 3) := by decide +kernel
theorem dX7_init_103 : decode cX7_init 103 = .ok (.iinc 1 1, 3) := by decide +kernel
theorem dX7_init_106 : decode cX7_init 106 = .ok (.goto (-57), 3) := by decide +kernel
theorem dX7_init_109 : decode cX7_init 109 = .ok (.return_, 1) := by decide +kernel
def LX7_init_49 (D : GD) (d : Nat) (v1 : Int32) (M : Mm) (post : Option Value → Mm → Prop) : Prop := ∀ mc ms kc ks, AW D (d + 1) mc ms mX7_init kc ks 49 [(0, .ref 29), (1, .int v1)] [] M post
def LX7_init_57 (D : GD) (d : Nat) (v1 : Int32) (v2 : Int32) (M : Mm) (post : Option Value → Mm → Prop) : Prop := ∀ mc ms kc ks, AW D (d + 1) mc ms mX7_init kc ks 57 [(0, .ref 29), (1, .int v1), (2, .int v2)] [] M post
set_option maxRecDepth 20000 in
theorem rX7_init_49 (D : GD) (d : Nat) (v1 : Int32) (M : Mm) (post : Option Value → Mm → Prop) (hL : Lay 29 46 M)
    (h : (((6 : Int32) ≤ v1 → post none M) ∧ (¬ (6 : Int32) ≤ v1 → LX7_init_57 D d v1 (0 : Int32) M post))) :
    LX7_init_49 D d v1 M post := by
  intro mc ms kc ks
  show AW D (d + 1) mc ms mX7_init kc ks 49 [(0, .ref 29), (1, .int v1)] [] M post
  refine ab_iload_n 1 dX7_init_49 rfl ?_
  refine ab_bipush (v := 6) dX7_init_50 (by decide) ?_
  refine ab_icmp_ge (tgt := 109) dX7_init_52 (by decide) (fun c1 => ?_) (fun c1 => ?_)
  · have h := h.1 c1
    exact ab_vret dX7_init_109 rfl h
  · have h := h.2 c1
    refine ab_iconst (v := 0) dX7_init_55 (by decide) ?_
    refine ab_istore_n (lv1 := [(2, .int (0 : Int32)), (0, .ref 29), (1, .int v1)]) dX7_init_56 (by decide) rfl ?_
    exact ab_sub [1, 2, 0] rfl (h mc ms _ _)
set_option maxRecDepth 20000 in
theorem rX7_init_57 (D : GD) (d : Nat) (v1 : Int32) (v2 : Int32) (M : Mm) (post : Option Value → Mm → Prop) (hL : Lay 29 46 M)
    (h : (((6 : Int32) ≤ v2 → ∀ x2 : Int32, x2 = v1 + (1 : Int32) → LX7_init_49 D d x2 M post) ∧ (¬ (6 : Int32) ≤ v2 → AMi D d mX7_scoreIndex [.int v1, .int v2] M (fun x4 M3 => ((v1 ≤ v2 → ((¬ v1 = v2 → vp_in x4 36 ∧ ∀ M12 : Mm, M12 = sI M3 45 x4.toNatClampNeg (0 : Int32) → ∀ x16 : Int32, x16 = v2 + (1 : Int32) → LX7_init_57 D d v1 x16 M12 post) ∧ (v1 = v2 → vp_in x4 36 ∧ ∀ M18 : Mm, M18 = sI M3 45 x4.toNatClampNeg (500000 : Int32) → ∀ x22 : Int32, x22 = v2 + (1 : Int32) → LX7_init_57 D d v1 x22 M18 post))) ∧ (¬ v1 ≤ v2 → vp_in x4 36 ∧ ∀ M24 : Mm, M24 = sI M3 45 x4.toNatClampNeg (1000000 : Int32) → ∀ x28 : Int32, x28 = v2 + (1 : Int32) → LX7_init_57 D d v1 x28 M24 post)))))) :
    LX7_init_57 D d v1 v2 M post := by
  intro mc ms kc ks
  show AW D (d + 1) mc ms mX7_init kc ks 57 [(0, .ref 29), (1, .int v1), (2, .int v2)] [] M post
  refine ab_iload_n 2 dX7_init_57 rfl ?_
  refine ab_bipush (v := 6) dX7_init_58 (by decide) ?_
  refine ab_icmp_ge (tgt := 103) dX7_init_60 (by decide) (fun c1 => ?_) (fun c1 => ?_)
  · have h := h.1 c1
    obtain ⟨x2, hx2⟩ : ∃ y : Int32, y = v1 + (1 : Int32) := ⟨_, rfl⟩
    have h := h x2 hx2
    refine ab_iinc (v := x2) 1 (lv1 := [(1, .int x2), (0, .ref 29), (2, .int v2)]) dX7_init_103 rfl (by rw [hx2]; rfl) (by decide) rfl ?_
    refine ab_goto (tgt := 49) dX7_init_106 (by decide) ?_
    exact ab_sub [1, 0] rfl (h mc ms _ _)
  · have h := h.2 c1
    refine ab_aload_n 0 dX7_init_63 rfl ?_
    refine ab_getP (r := 34) dX7_init_64 fs_7_22_7 rfl (hL.sh 29 rfl (by decide) (by decide)).1 (hL.sh 29 rfl (by decide) (by decide)).2 (hL.pt 38 rfl (by decide) (by decide)) ?_
    refine ab_bipush (v := 10) dX7_init_67 (by decide) ?_
    refine ab_aald4j (j := 10) (r := 45) dX7_init_69 (hL.sh 34 rfl (by decide) (by decide)) (vin (by decide)) (by decide) (hL.pt 51 rfl (by decide) (by decide)) ?_
    refine ab_iload_n 1 dX7_init_70 rfl ?_
    refine ab_iload_n 2 dX7_init_71 rfl ?_
    refine ab_callS (d' := d) (mc' := 0) (ms' := 0) (vs := [.int v1, .int v2]) (st := [.ref 45]) dX7_init_72 ⟨cw_X7_scoreIndex, w_236⟩ w_237 rfl rfl (Nat.le_of_ble_eq_true rfl) (Nat.le_refl _) (Nat.zero_le _) (Nat.zero_le _) (AM.mono h (fun r M3 ⟨x4, hr5, hc6, h⟩ => ?_))
    subst hr5
    refine ab_rs ?_
    have hm7 : Sm M M3 := (Sm.refl M).trans hc6
    have hl8 := hL.of hm7
    refine ab_iload_n 1 dX7_init_75 rfl ?_
    refine ab_iload_n 2 dX7_init_76 rfl ?_
    refine ab_icmp_le (tgt := 85) dX7_init_77 (by decide) (fun c9 => ?_) (fun c9 => ?_)
    · have h := h.1 c9
      refine ab_iload_n 1 dX7_init_85 rfl ?_
      refine ab_iload_n 2 dX7_init_86 rfl ?_
      refine ab_icmp_ne (tgt := 95) dX7_init_87 (by decide) (fun c10 => ?_) (fun c10 => ?_)
      · have h := h.1 c10
        refine ab_iconst (v := 0) dX7_init_95 (by decide) ?_
        have hb11 := h.1
        have h := h.2
        refine ab_iastj (j := x4.toNatClampNeg) dX7_init_96 (hl8.sh 45 rfl (by decide) (by decide)) hb11 rfl ?_
        refine ab_nameM (fun M12 hM12 => ?_)
        have h := h M12 hM12
        have hs15 : Sm M3 M12 := hM12 ▸ (Sm.refl _).i
        have hm13 : Sm M M12 := hm7.trans hs15
        have hl14 := hL.of hm13
        obtain ⟨x16, hx16⟩ : ∃ y : Int32, y = v2 + (1 : Int32) := ⟨_, rfl⟩
        have h := h x16 hx16
        refine ab_iinc (v := x16) 2 (lv1 := [(2, .int x16), (0, .ref 29), (1, .int v1)]) dX7_init_97 rfl (by rw [hx16]; rfl) (by decide) rfl ?_
        refine ab_goto (tgt := 57) dX7_init_100 (by decide) ?_
        exact ab_sub [1, 2, 0] rfl (h mc ms _ _)
      · have h := h.2 c10
        refine ab_ldc dX7_init_90 w_240 ?_
        refine ab_goto (tgt := 96) dX7_init_92 (by decide) ?_
        have hb17 := h.1
        have h := h.2
        refine ab_iastj (j := x4.toNatClampNeg) dX7_init_96 (hl8.sh 45 rfl (by decide) (by decide)) hb17 rfl ?_
        refine ab_nameM (fun M18 hM18 => ?_)
        have h := h M18 hM18
        have hs21 : Sm M3 M18 := hM18 ▸ (Sm.refl _).i
        have hm19 : Sm M M18 := hm7.trans hs21
        have hl20 := hL.of hm19
        obtain ⟨x22, hx22⟩ : ∃ y : Int32, y = v2 + (1 : Int32) := ⟨_, rfl⟩
        have h := h x22 hx22
        refine ab_iinc (v := x22) 2 (lv1 := [(2, .int x22), (0, .ref 29), (1, .int v1)]) dX7_init_97 rfl (by rw [hx22]; rfl) (by decide) rfl ?_
        refine ab_goto (tgt := 57) dX7_init_100 (by decide) ?_
        exact ab_sub [1, 2, 0] rfl (h mc ms _ _)
    · have h := h.2 c9
      refine ab_ldc dX7_init_80 w_239 ?_
      refine ab_goto (tgt := 96) dX7_init_82 (by decide) ?_
      have hb23 := h.1
      have h := h.2
      refine ab_iastj (j := x4.toNatClampNeg) dX7_init_96 (hl8.sh 45 rfl (by decide) (by decide)) hb23 rfl ?_
      refine ab_nameM (fun M24 hM24 => ?_)
      have h := h M24 hM24
      have hs27 : Sm M3 M24 := hM24 ▸ (Sm.refl _).i
      have hm25 : Sm M M24 := hm7.trans hs27
      have hl26 := hL.of hm25
      obtain ⟨x28, hx28⟩ : ∃ y : Int32, y = v2 + (1 : Int32) := ⟨_, rfl⟩
      have h := h x28 hx28
      refine ab_iinc (v := x28) 2 (lv1 := [(2, .int x28), (0, .ref 29), (1, .int v1)]) dX7_init_97 rfl (by rw [hx28]; rfl) (by decide) rfl ?_
      refine ab_goto (tgt := 57) dX7_init_100 (by decide) ?_
      exact ab_sub [1, 2, 0] rfl (h mc ms _ _)

theorem c_score {D : GD} {d a b : Nat} {M : Mm} {P : Int32 → Mm → Prop} (hL : Lay 29 46 M) (h : P (J ((6 * a + b : Nat) : Int)) M) : AMi D d mX7_scoreIndex [.int (J a), .int (J b)] M P := by
  refine rX7_scoreIndex D d (J a) (J b) M _ hL (iret (.refl M) ?_)
  have e : J (a : Int) * (6 : Int32) + J b = J ((6 * a + b : Nat) : Int) := by
    simp only [J_lit, J_mul, J_add]
    congr 1
    omega
  rw [e]
  exact h
def wv (a b : Nat) : Int := if b < a then 1000000 else if a = b then 500000 else 0
/-- all TURNs are behind: who has more has won -/
def Wh (h : Nat → Int32) : Prop := ∀ a b, a < 6 → b < 6 → h (6 * a + b) = J (wv a b)
theorem l_wins {D : GD} {d : Nat} {M : Mm} {post : Option Value → Mm → Prop} (hL : Lay 29 46 M) (hq : ∀ h, Wh h → post none (rI M 45 h)) : ∀ (n a b : Nat) (h0 : Nat → Int32), n = (6 - a) * 7 + (6 - b) → a < 6 → b ≤ 6 → (∀ a' b', a' < 6 → b' < 6 → (a' < a ∨ a' = a ∧ b' < b) → h0 (6 * a' + b') = J (wv a' b')) → LX7_init_57 D d (J a) (J b) (rI M 45 h0) post := by
  intro n
  induction n using Nat.strongRecOn with
  | ind n ih =>
  intro a b h0 hn ha hb hh
  have hL1 : Lay 29 46 (rI M 45 h0) := hL.of (Sm.refl M).ri
  have en : ∀ n : Nat, (J n : Int32) + (1 : Int32) = J ((n + 1 : Nat) : Int) := fun n => by simp (disch := omega) only [J_lit, J_add, J_sub, J_mul, J_neg, J_lt, J_le, J_eq, J_nat, J_in, J_div]; congr 1
  have fin : ∀ (v : Int32), b < 6 → v = J (wv a b) → ∀ M12 : Mm, M12 = sI (rI M 45 h0) 45 (J ((6 * a + b : Nat) : Int)).toNatClampNeg v → ∀ x16 : Int32, x16 = J b + (1 : Int32) → LX7_init_57 D d (J a) x16 M12 post := by
    intro v hb6 hv M12 e12 x16 e16
    have ei : (J ((6 * a + b : Nat) : Int)).toNatClampNeg = 6 * a + b := by
      rw [J_nat (by omega) (by omega)]
      omega
    rw [e12, e16, en, ei, sI_rI]
    refine ih _ ?_ a (b + 1) _ rfl ha (by omega) (fun a' b' h1 h2 h3 => ?_)
    · omega
    · by_cases e : a' = a ∧ b' = b
      · obtain ⟨rfl, rfl⟩ := e
        rw [va_up_self]
        exact hv
      · rw [va_up_ne _ _ (by omega)]
        exact hh a' b' h1 h2 (by omega)
  refine rX7_init_57 D d (J a) (J b) _ post hL1 ⟨fun c x2 e2 => ?_, fun c => ?_⟩
  · simp (disch := omega) only [J_lit, J_add, J_sub, J_mul, J_neg, J_lt, J_le, J_eq, J_nat, J_in, J_div] at c
    rw [e2, en]
    refine rX7_init_49 D d _ _ post hL1 ⟨fun c4 => ?_, fun c4 => ?_⟩
    · simp (disch := omega) only [J_lit, J_add, J_sub, J_mul, J_neg, J_lt, J_le, J_eq, J_nat, J_in, J_div] at c4
      exact hq h0 (fun a' b' h1 h2 => hh a' b' h1 h2 (by omega))
    · simp (disch := omega) only [J_lit, J_add, J_sub, J_mul, J_neg, J_lt, J_le, J_eq, J_nat, J_in, J_div] at c4
      exact ih _ (by omega) (a + 1) 0 h0 rfl (by omega) (by omega) (fun a' b' h1 h2 h3 => hh a' b' h1 h2 (by omega))
  · simp (disch := omega) only [J_lit, J_add, J_sub, J_mul, J_neg, J_lt, J_le, J_eq, J_nat, J_in, J_div] at c
    refine c_score hL1 ⟨fun c1 => ⟨fun c2 => ?_, fun c2 => ?_⟩, fun c1 => ?_⟩
    · simp (disch := omega) only [J_lit, J_add, J_sub, J_mul, J_neg, J_lt, J_le, J_eq, J_nat, J_in, J_div] at c1 c2
      refine ⟨by simp (disch := omega) only [J_lit, J_add, J_sub, J_mul, J_neg, J_lt, J_le, J_eq, J_nat, J_in, J_div]; omega, fin 0 (by omega) ?_⟩
      unfold wv
      rw [if_neg (by omega), if_neg (by omega)]
      rfl
    · simp (disch := omega) only [J_lit, J_add, J_sub, J_mul, J_neg, J_lt, J_le, J_eq, J_nat, J_in, J_div] at c1 c2
      refine ⟨by simp (disch := omega) only [J_lit, J_add, J_sub, J_mul, J_neg, J_lt, J_le, J_eq, J_nat, J_in, J_div]; omega, fin 500000 (by omega) ?_⟩
      unfold wv
      rw [if_neg (by omega), if_pos (by omega)]
      rfl
    · simp (disch := omega) only [J_lit, J_add, J_sub, J_mul, J_neg, J_lt, J_le, J_eq, J_nat, J_in, J_div] at c1
      refine ⟨by simp (disch := omega) only [J_lit, J_add, J_sub, J_mul, J_neg, J_lt, J_le, J_eq, J_nat, J_in, J_div]; omega, fin 1000000 (by omega) ?_⟩
      unfold wv
      rw [if_pos (by omega)]
      rfl
theorem c_wins {D : GD} {d : Nat} {M : Mm} {post : Option Value → Mm → Prop} (hL : Lay 29 46 M) (hq : ∀ h, Wh h → post none (rI M 45 h)) : LX7_init_49 D d (0 : Int32) M post := by
  refine rX7_init_49 D d _ M post hL ⟨fun c => absurd c (by decide), fun c => ?_⟩
  have := l_wins (d := d) (D := D) hL hq _ 0 0 (gI M 45) rfl (by omega) (by omega) (fun a' b' _ _ h => by omega)
  rw [rI_id] at this
  exact this

def st_1 : Mm := mA st_0 (0, 11)
theorem hz_1 : Lz 1 st_1 := hz_0.ma rfl
theorem hp_1 : Pz ps_0 st_1 := hp_0.ma hz_0 (by decide +kernel)
theorem dX11_init_0 : decode cX11_init 0 = .ok (.aload_n 0, 1) := by decide +kernel
theorem dX11_init_1 : decode cX11_init 1 = .ok (.invokespecial 3, 3) := by decide +kernel
theorem dX11_init_4 : decode cX11_init 4 = .ok (.aload_n 0, 1) := by decide +kernel
theorem dX11_init_5 : decode cX11_init 5 = .ok (.new 9, 3) := by decide +kernel
theorem dX11_init_8 : decode cX11_init 8 = .ok (.dup, 1) := by decide +kernel
theorem dX11_init_9 : decode cX11_init 9 = .ok (.invokespecial 11, 3) := by decide +kernel
theorem dX11_init_12 : decode cX11_init 12 = .ok (.putfield 12, 3) := by decide +kernel
theorem dX11_init_15 : decode cX11_init 15 = .ok (.aload_n 0, 1) := by decide +kernel
theorem dX11_init_16 : decode cX11_init 16 = .ok (.bipush 7, 2) := by decide +kernel
theorem dX11_init_18 : decode cX11_init 18 = .ok (.bipush 100, 2) := by decide +kernel
theorem dX11_init_20 : decode cX11_init 20 = .ok (.multianewarray 18 2, 4) := by decide +kernel
theorem dX11_init_24 : decode cX11_init 24 = .ok (.putfield 20, 3) := by decide +kernel
theorem dX11_init_27 : decode cX11_init 27 = .ok (.aload_n 0, 1) := by decide +kernel
theorem dX11_init_28 : decode cX11_init 28 = .ok (.iconst 0, 1) := by decide +kernel
theorem dX11_init_29 : decode cX11_init 29 = .ok (.putfield 23, 3) := by decide +kernel
theorem dX11_init_32 : decode cX11_init 32 = .ok (.aload_n 0, 1) := by decide +kernel
theorem dX11_init_33 : decode cX11_init 33 = .ok (.bipush 10, 2) := by decide +kernel
theorem dX11_init_35 : decode cX11_init 35 = .ok (.anewarray 27, 3) := by decide +kernel
theorem dX11_init_38 : decode cX11_init 38 = .ok (.putfield 29, 3) := by decide +kernel
theorem dX11_init_41 : decode cX11_init 41 = .ok (.aload_n 0, 1) := by decide +kernel
theorem dX11_init_42 : decode cX11_init 42 = .ok (.iconst 0, 1) := by decide +kernel
theorem dX11_init_43 : decode cX11_init 43 = .ok (.putfield 33, 3) := by decide +kernel
theorem dX11_init_46 : decode cX11_init 46 = .ok (.aload_n 0, 1) := by decide +kernel
theorem dX11_init_47 : decode cX11_init 47 = .ok (.new 36, 3) := by decide +kernel
theorem dX11_init_50 : decode cX11_init 50 = .ok (.dup, 1) := by decide +kernel
theorem dX11_init_51 : decode cX11_init 51 = .ok (.invokespecial 38, 3) := by decide +kernel
theorem dX11_init_54 : decode cX11_init 54 = .ok (.putfield 39, 3) := by decide +kernel
theorem dX11_init_57 : decode cX11_init 57 = .ok (.aload_n 0, 1) := by decide +kernel
theorem dX11_init_58 : decode cX11_init 58 = .ok (.new 43, 3) := by decide +kernel
theorem dX11_init_61 : decode cX11_init 61 = .ok (.dup, 1) := by decide +kernel
theorem dX11_init_62 : decode cX11_init 62 = .ok (.invokespecial 45, 3) := by decide +kernel
theorem dX11_init_65 : decode cX11_init 65 = .ok (.putfield 46, 3) := by decide +kernel
theorem dX11_init_68 : decode cX11_init 68 = .ok (.aload_n 0, 1) := by decide +kernel
theorem dX11_init_69 : decode cX11_init 69 = .ok (.new 50, 3) := by decide +kernel
theorem dX11_init_72 : decode cX11_init 72 = .ok (.dup, 1) := by decide +kernel
theorem dX11_init_73 : decode cX11_init 73 = .ok (.invokespecial 52, 3) := by decide +kernel
theorem dX11_init_76 : decode cX11_init 76 = .ok (.putfield 53, 3) := by decide +kernel
theorem dX11_init_79 : decode cX11_init 79 = .ok (.aload_n 0, 1) := by decide +kernel
theorem dX11_init_80 : decode cX11_init 80 = .ok (.bipush 21, 2) := by decide +kernel
theorem dX11_init_82 : decode cX11_init 82 = .ok (.newarray .int, 2) := by decide +kernel
theorem dX11_init_84 : decode cX11_init 84 = .ok (.putfield 57, 3) := by decide +kernel
theorem dX11_init_87 : decode cX11_init 87 = .ok (.aload_n 0, 1) := by decide +kernel
theorem dX11_init_88 : decode cX11_init 88 = .ok (.iconst 0, 1) := by decide +kernel
theorem dX11_init_89 : decode cX11_init 89 = .ok (.putfield 61, 3) := by decide +kernel
theorem dX11_init_92 : decode cX11_init 92 = .ok (.aload_n 0, 1) := by decide +kernel
theorem dX11_init_93 : decode cX11_init 93 = .ok (.bipush 9, 2) := by decide +kernel
theorem dX11_init_95 : decode cX11_init 95 = .ok (.newarray .int, 2) := by decide +kernel
theorem dX11_init_97 : decode cX11_init 97 = .ok (.putfield 65, 3) := by decide +kernel
theorem dX11_init_100 : decode cX11_init 100 = .ok (.aload_n 0, 1) := by decide +kernel
theorem dX11_init_101 : decode cX11_init 101 = .ok (.new 43, 3) := by decide +kernel
theorem dX11_init_104 : decode cX11_init 104 = .ok (.dup, 1) := by decide +kernel
theorem dX11_init_105 : decode cX11_init 105 = .ok (.invokespecial 45, 3) := by decide +kernel
theorem dX11_init_108 : decode cX11_init 108 = .ok (.putfield 68, 3) := by decide +kernel
theorem dX11_init_111 : decode cX11_init 111 = .ok (.aload_n 0, 1) := by decide +kernel
theorem dX11_init_112 : decode cX11_init 112 = .ok (.bipush 12, 2) := by decide +kernel
theorem dX11_init_114 : decode cX11_init 114 = .ok (.anewarray 27, 3) := by decide +kernel
theorem dX11_init_117 : decode cX11_init 117 = .ok (.putfield 71, 3) := by decide +kernel
theorem dX11_init_120 : decode cX11_init 120 = .ok (.aload_n 0, 1) := by decide +kernel
theorem dX11_init_121 : decode cX11_init 121 = .ok (.bipush 6, 2) := by decide +kernel
theorem dX11_init_123 : decode cX11_init 123 = .ok (.newarray .int, 2) := by decide +kernel
theorem dX11_init_125 : decode cX11_init 125 = .ok (.putfield 74, 3) := by decide +kernel
theorem dX11_init_128 : decode cX11_init 128 = .ok (.aload_n 0, 1) := by decide +kernel
theorem dX11_init_129 : decode cX11_init 129 = .ok (.bipush 6, 2) := by decide +kernel
theorem dX11_init_131 : decode cX11_init 131 = .ok (.newarray .int, 2) := by decide +kernel
theorem dX11_init_133 : decode cX11_init 133 = .ok (.putfield 77, 3) := by decide +kernel
theorem dX11_init_136 : decode cX11_init 136 = .ok (.aload_n 0, 1) := by decide +kernel
theorem dX11_init_137 : decode cX11_init 137 = .ok (.bipush 6, 2) := by decide +kernel
theorem dX11_init_139 : decode cX11_init 139 = .ok (.bipush 60, 2) := by decide +kernel
theorem dX11_init_141 : decode cX11_init 141 = .ok (.multianewarray 80 2, 4) := by decide +kernel
theorem dX11_init_145 : decode cX11_init 145 = .ok (.putfield 82, 3) := by decide +kernel
theorem dX11_init_148 : decode cX11_init 148 = .ok (.aload_n 0, 1) := by decide +kernel
theorem dX11_init_149 : decode cX11_init 149 = .ok (.getfield 74, 3) := by decide +kernel
theorem dX11_init_152 : decode cX11_init 152 = .ok (.iconst (-1), 1) := by decide +kernel
theorem dX11_init_153 : decode cX11_init 153 = .ok (.invokestatic 85, 3) := by decide +kernel
theorem dX11_init_156 : decode cX11_init 156 = .ok (.return_, 1) := by decide +kernel
def st_2 : Mm := mA st_1 (0, 6)
theorem hz_2 : Lz 2 st_2 := hz_1.ma rfl
theorem hp_2 : Pz ps_0 st_2 := hp_1.ma hz_1 (by decide +kernel)
theorem dX6_init_0 : decode cX6_init 0 = .ok (.aload_n 0, 1) := by decide +kernel
theorem dX6_init_1 : decode cX6_init 1 = .ok (.invokespecial 3, 3) := by decide +kernel
theorem dX6_init_4 : decode cX6_init 4 = .ok (.aload_n 0, 1) := by decide +kernel
theorem dX6_init_5 : decode cX6_init 5 = .ok (.bipush 100, 2) := by decide +kernel
theorem dX6_init_7 : decode cX6_init 7 = .ok (.newarray .int, 2) := by decide +kernel
theorem dX6_init_9 : decode cX6_init 9 = .ok (.putfield 9, 3) := by decide +kernel
theorem dX6_init_12 : decode cX6_init 12 = .ok (.aload_n 0, 1) := by decide +kernel
theorem dX6_init_13 : decode cX6_init 13 = .ok (.bipush 100, 2) := by decide +kernel
theorem dX6_init_15 : decode cX6_init 15 = .ok (.newarray .int, 2) := by decide +kernel
theorem dX6_init_17 : decode cX6_init 17 = .ok (.putfield 15, 3) := by decide +kernel
theorem dX6_init_20 : decode cX6_init 20 = .ok (.aload_n 0, 1) := by decide +kernel
theorem dX6_init_21 : decode cX6_init 21 = .ok (.iconst 0, 1) := by decide +kernel
theorem dX6_init_22 : decode cX6_init 22 = .ok (.putfield 18, 3) := by decide +kernel
theorem dX6_init_25 : decode cX6_init 25 = .ok (.aload_n 0, 1) := by decide +kernel
theorem dX6_init_26 : decode cX6_init 26 = .ok (.iconst 0, 1) := by decide +kernel
theorem dX6_init_27 : decode cX6_init 27 = .ok (.putfield 22, 3) := by decide +kernel
theorem dX6_init_30 : decode cX6_init 30 = .ok (.aload_n 0, 1) := by decide +kernel
theorem dX6_init_31 : decode cX6_init 31 = .ok (.iconst 0, 1) := by decide +kernel
theorem dX6_init_32 : decode cX6_init 32 = .ok (.putfield 25, 3) := by decide +kernel
theorem dX6_init_35 : decode cX6_init 35 = .ok (.aload_n 0, 1) := by decide +kernel
theorem dX6_init_36 : decode cX6_init 36 = .ok (.iconst 0, 1) := by decide +kernel
theorem dX6_init_37 : decode cX6_init 37 = .ok (.putfield 28, 3) := by decide +kernel
theorem dX6_init_40 : decode cX6_init 40 = .ok (.return_, 1) := by decide +kernel
def st_3 : Mm := mA st_2 (1, 100)
theorem hz_3 : Lz 3 st_3 := hz_2.ma rfl
theorem hp_3 : Pz ps_0 st_3 := hp_2.ma hz_2 (by decide +kernel)
def st_4 : Mm := sP st_3 1 0 (some 2)
def ps_1 : List (Nat × Nat × Nat) := (1, 0, 2) :: ps_0
theorem hz_4 : Lz 3 st_4 := hz_3.sp
theorem hp_4 : Pz ps_1 st_4 := hp_3.sp (by decide +kernel)
def st_5 : Mm := mA st_4 (1, 100)
theorem hz_5 : Lz 4 st_5 := hz_4.ma rfl
theorem hp_5 : Pz ps_1 st_5 := hp_4.ma hz_4 (by decide +kernel)
def st_6 : Mm := sP st_5 1 1 (some 3)
def ps_2 : List (Nat × Nat × Nat) := (1, 1, 3) :: ps_1
theorem hz_6 : Lz 4 st_6 := hz_5.sp
theorem hp_6 : Pz ps_2 st_6 := hp_5.sp (by decide +kernel)
def st_7 : Mm := sI st_6 1 2 0
theorem hz_7 : Lz 4 st_7 := hz_6.si
theorem hp_7 : Pz ps_2 st_7 := hp_6.si
def st_8 : Mm := sI st_7 1 3 0
theorem hz_8 : Lz 4 st_8 := hz_7.si
theorem hp_8 : Pz ps_2 st_8 := hp_7.si
def st_9 : Mm := sI st_8 1 4 0
theorem hz_9 : Lz 4 st_9 := hz_8.si
theorem hp_9 : Pz ps_2 st_9 := hp_8.si
def st_10 : Mm := sI st_9 1 5 0
theorem hz_10 : Lz 4 st_10 := hz_9.si
theorem hp_10 : Pz ps_2 st_10 := hp_9.si
set_option maxRecDepth 20000 in
theorem ci_X6_init_1 (D : GD) (d : Nat) (post : Option Value → Mm → Prop) (hq : post none st_10) : AM D (d + 1) 2 200 mX6_init [.ref 1] st_2 post := by
  refine AM.of (by decide) (Nat.le_of_ble_eq_true rfl) ?_
  show AW D (d + 1) 2 200 mX6_init 2 200 0 [(0, .ref 1)] [] st_2 post
  refine ab_aload_n 0 dX6_init_0 rfl ?_
  refine ab_objInit dX6_init_1 w_113 w_106 w_107 (Nat.le_of_ble_eq_true rfl) (Nat.succ_le_succ (Nat.zero_le _)) ?_
  refine ab_aload_n 0 dX6_init_4 rfl ?_
  refine ab_bipush (v := 100) dX6_init_5 (by decide) ?_
  refine ab_newI (N := 100) dX6_init_7 w_137 (by decide) (by decide) (by decide) (Nat.le_of_ble_eq_true rfl) (Nat.le_of_ble_eq_true rfl) (by rw [hz_2.1]; decide) ?_
  rw [hz_2.1]
  refine ab_eqM (M1 := st_3) rfl ?_
  refine ab_putFP (a := 1) (c := 6) (k := 0) (r := 2) dX6_init_9 fs_6_9_6 rfl rfl rfl rfl (hz_3.sh (a := 1) (by decide) rfl).1 (hz_3.sh (a := 1) (by decide) rfl).2 ?_
  refine ab_eqM (M1 := st_4) rfl ?_
  refine ab_aload_n 0 dX6_init_12 rfl ?_
  refine ab_bipush (v := 100) dX6_init_13 (by decide) ?_
  refine ab_newI (N := 100) dX6_init_15 w_137 (by decide) (by decide) (by decide) (Nat.le_of_ble_eq_true rfl) (Nat.le_of_ble_eq_true rfl) (by rw [hz_4.1]; decide) ?_
  rw [hz_4.1]
  refine ab_eqM (M1 := st_5) rfl ?_
  refine ab_putFP (a := 1) (c := 6) (k := 1) (r := 3) dX6_init_17 fs_6_15_6 rfl rfl rfl rfl (hz_5.sh (a := 1) (by decide) rfl).1 (hz_5.sh (a := 1) (by decide) rfl).2 ?_
  refine ab_eqM (M1 := st_6) rfl ?_
  refine ab_aload_n 0 dX6_init_20 rfl ?_
  refine ab_iconst (v := 0) dX6_init_21 (by decide) ?_
  refine ab_putI (a := 1) (c := 6) (k := 2) dX6_init_22 fs_6_18_6 rfl rfl (hz_6.sh (a := 1) (by decide) rfl).1 (hz_6.sh (a := 1) (by decide) rfl).2 ?_
  refine ab_eqM (M1 := st_7) rfl ?_
  refine ab_aload_n 0 dX6_init_25 rfl ?_
  refine ab_iconst (v := 0) dX6_init_26 (by decide) ?_
  refine ab_putI (a := 1) (c := 6) (k := 3) dX6_init_27 fs_6_22_6 rfl rfl (hz_7.sh (a := 1) (by decide) rfl).1 (hz_7.sh (a := 1) (by decide) rfl).2 ?_
  refine ab_eqM (M1 := st_8) rfl ?_
  refine ab_aload_n 0 dX6_init_30 rfl ?_
  refine ab_iconst (v := 0) dX6_init_31 (by decide) ?_
  refine ab_putI (a := 1) (c := 6) (k := 4) dX6_init_32 fs_6_25_6 rfl rfl (hz_8.sh (a := 1) (by decide) rfl).1 (hz_8.sh (a := 1) (by decide) rfl).2 ?_
  refine ab_eqM (M1 := st_9) rfl ?_
  refine ab_aload_n 0 dX6_init_35 rfl ?_
  refine ab_iconst (v := 0) dX6_init_36 (by decide) ?_
  refine ab_putZ (a := 1) (c := 6) (k := 5) dX6_init_37 fs_6_28_6 rfl rfl (hz_9.sh (a := 1) (by decide) rfl).1 (hz_9.sh (a := 1) (by decide) rfl).2 (by decide) ?_
  refine ab_eqM (M1 := st_10) rfl ?_
  exact ab_vret dX6_init_40 rfl hq
def st_11 : Mm := sP st_10 0 0 (some 1)
def ps_3 : List (Nat × Nat × Nat) := (0, 0, 1) :: ps_2
theorem hz_11 : Lz 4 st_11 := hz_10.sp
theorem hp_11 : Pz ps_3 st_11 := hp_10.sp (by decide +kernel)
def st_12 : Mm := mRw st_11 4 1 7 100 7
def ps_4 : List (Nat × Nat × Nat) := rws 4 7 ++ ps_3
theorem hz_12 : Lz 12 st_12 := hz_11.rw rfl 7 (by decide +kernel)
theorem hp_12 : Pz ps_4 st_12 := hp_11.rw hz_11 (by decide +kernel) 7
def st_13 : Mm := sP st_12 0 1 (some 4)
def ps_5 : List (Nat × Nat × Nat) := (0, 1, 4) :: ps_4
theorem hz_13 : Lz 12 st_13 := hz_12.sp
theorem hp_13 : Pz ps_5 st_13 := hp_12.sp (by decide +kernel)
def st_14 : Mm := sI st_13 0 2 0
theorem hz_14 : Lz 12 st_14 := hz_13.si
theorem hp_14 : Pz ps_5 st_14 := hp_13.si
def st_15 : Mm := mA st_14 (6, 10)
theorem hz_15 : Lz 13 st_15 := hz_14.ma rfl
theorem hp_15 : Pz ps_5 st_15 := hp_14.ma hz_14 (by decide +kernel)
def st_16 : Mm := sP st_15 0 3 (some 12)
def ps_6 : List (Nat × Nat × Nat) := (0, 3, 12) :: ps_5
theorem hz_16 : Lz 13 st_16 := hz_15.sp
theorem hp_16 : Pz ps_6 st_16 := hp_15.sp (by decide +kernel)
def st_17 : Mm := sI st_16 0 4 0
theorem hz_17 : Lz 13 st_17 := hz_16.si
theorem hp_17 : Pz ps_6 st_17 := hp_16.si
def st_18 : Mm := mA st_17 (0, 0)
theorem hz_18 : Lz 14 st_18 := hz_17.ma rfl
theorem hp_18 : Pz ps_6 st_18 := hp_17.ma hz_17 (by decide +kernel)
theorem dX0_init_0 : decode cX0_init 0 = .ok (.aload_n 0, 1) := by decide +kernel
theorem dX0_init_1 : decode cX0_init 1 = .ok (.invokespecial 3, 3) := by decide +kernel
theorem dX0_init_4 : decode cX0_init 4 = .ok (.aload_n 0, 1) := by decide +kernel
theorem dX0_init_5 : decode cX0_init 5 = .ok (.bipush 9, 2) := by decide +kernel
theorem dX0_init_7 : decode cX0_init 7 = .ok (.newarray .int, 2) := by decide +kernel
theorem dX0_init_9 : decode cX0_init 9 = .ok (.putfield 9, 3) := by decide +kernel
theorem dX0_init_12 : decode cX0_init 12 = .ok (.aload_n 0, 1) := by decide +kernel
theorem dX0_init_13 : decode cX0_init 13 = .ok (.iconst 2, 1) := by decide +kernel
theorem dX0_init_14 : decode cX0_init 14 = .ok (.iconst 3, 1) := by decide +kernel
theorem dX0_init_15 : decode cX0_init 15 = .ok (.multianewarray 15 2, 4) := by decide +kernel
theorem dX0_init_19 : decode cX0_init 19 = .ok (.putfield 17, 3) := by decide +kernel
theorem dX0_init_22 : decode cX0_init 22 = .ok (.aload_n 0, 1) := by decide +kernel
theorem dX0_init_23 : decode cX0_init 23 = .ok (.iconst 2, 1) := by decide +kernel
theorem dX0_init_24 : decode cX0_init 24 = .ok (.newarray .int, 2) := by decide +kernel
theorem dX0_init_26 : decode cX0_init 26 = .ok (.putfield 20, 3) := by decide +kernel
theorem dX0_init_29 : decode cX0_init 29 = .ok (.aload_n 0, 1) := by decide +kernel
theorem dX0_init_30 : decode cX0_init 30 = .ok (.iconst 2, 1) := by decide +kernel
theorem dX0_init_31 : decode cX0_init 31 = .ok (.iconst 4, 1) := by decide +kernel
theorem dX0_init_32 : decode cX0_init 32 = .ok (.multianewarray 15 2, 4) := by decide +kernel
theorem dX0_init_36 : decode cX0_init 36 = .ok (.putfield 23, 3) := by decide +kernel
theorem dX0_init_39 : decode cX0_init 39 = .ok (.aload_n 0, 1) := by decide +kernel
theorem dX0_init_40 : decode cX0_init 40 = .ok (.iconst 2, 1) := by decide +kernel
theorem dX0_init_41 : decode cX0_init 41 = .ok (.iconst 4, 1) := by decide +kernel
theorem dX0_init_42 : decode cX0_init 42 = .ok (.multianewarray 15 2, 4) := by decide +kernel
theorem dX0_init_46 : decode cX0_init 46 = .ok (.putfield 26, 3) := by decide +kernel
theorem dX0_init_49 : decode cX0_init 49 = .ok (.aload_n 0, 1) := by decide +kernel
theorem dX0_init_50 : decode cX0_init 50 = .ok (.iconst 0, 1) := by decide +kernel
theorem dX0_init_51 : decode cX0_init 51 = .ok (.putfield 29, 3) := by decide +kernel
theorem dX0_init_54 : decode cX0_init 54 = .ok (.aload_n 0, 1) := by decide +kernel
theorem dX0_init_55 : decode cX0_init 55 = .ok (.lconst 0, 1) := by decide +kernel
theorem dX0_init_56 : decode cX0_init 56 = .ok (.putfield 33, 3) := by decide +kernel
theorem dX0_init_59 : decode cX0_init 59 = .ok (.aload_n 0, 1) := by decide +kernel
theorem dX0_init_60 : decode cX0_init 60 = .ok (.lconst 1, 1) := by decide +kernel
theorem dX0_init_61 : decode cX0_init 61 = .ok (.putfield 37, 3) := by decide +kernel
theorem dX0_init_64 : decode cX0_init 64 = .ok (.aload_n 0, 1) := by decide +kernel
theorem dX0_init_65 : decode cX0_init 65 = .ok (.getfield 9, 3) := by decide +kernel
theorem dX0_init_68 : decode cX0_init 68 = .ok (.bipush 50, 2) := by decide +kernel
theorem dX0_init_70 : decode cX0_init 70 = .ok (.invokestatic 40, 3) := by decide +kernel
theorem dX0_init_73 : decode cX0_init 73 = .ok (.aload_n 0, 1) := by decide +kernel
theorem dX0_init_74 : decode cX0_init 74 = .ok (.invokevirtual 46, 3) := by decide +kernel
theorem dX0_init_77 : decode cX0_init 77 = .ok (.return_, 1) := by decide +kernel
def st_19 : Mm := mA st_18 (1, 9)
theorem hz_19 : Lz 15 st_19 := hz_18.ma rfl
theorem hp_19 : Pz ps_6 st_19 := hp_18.ma hz_18 (by decide +kernel)
def st_20 : Mm := sP st_19 13 0 (some 14)
def ps_7 : List (Nat × Nat × Nat) := (13, 0, 14) :: ps_6
theorem hz_20 : Lz 15 st_20 := hz_19.sp
theorem hp_20 : Pz ps_7 st_20 := hp_19.sp (by decide +kernel)
def st_21 : Mm := mRw st_20 4 1 2 3 2
def ps_8 : List (Nat × Nat × Nat) := rws 15 2 ++ ps_7
theorem hz_21 : Lz 18 st_21 := hz_20.rw rfl 2 (by decide +kernel)
theorem hp_21 : Pz ps_8 st_21 := hp_20.rw hz_20 (by decide +kernel) 2
def st_22 : Mm := sP st_21 13 1 (some 15)
def ps_9 : List (Nat × Nat × Nat) := (13, 1, 15) :: ps_8
theorem hz_22 : Lz 18 st_22 := hz_21.sp
theorem hp_22 : Pz ps_9 st_22 := hp_21.sp (by decide +kernel)
def st_23 : Mm := mA st_22 (1, 2)
theorem hz_23 : Lz 19 st_23 := hz_22.ma rfl
theorem hp_23 : Pz ps_9 st_23 := hp_22.ma hz_22 (by decide +kernel)
def st_24 : Mm := sP st_23 13 2 (some 18)
def ps_10 : List (Nat × Nat × Nat) := (13, 2, 18) :: ps_9
theorem hz_24 : Lz 19 st_24 := hz_23.sp
theorem hp_24 : Pz ps_10 st_24 := hp_23.sp (by decide +kernel)
def st_25 : Mm := mRw st_24 4 1 2 4 2
def ps_11 : List (Nat × Nat × Nat) := rws 19 2 ++ ps_10
theorem hz_25 : Lz 22 st_25 := hz_24.rw rfl 2 (by decide +kernel)
theorem hp_25 : Pz ps_11 st_25 := hp_24.rw hz_24 (by decide +kernel) 2
def st_26 : Mm := sP st_25 13 3 (some 19)
def ps_12 : List (Nat × Nat × Nat) := (13, 3, 19) :: ps_11
theorem hz_26 : Lz 22 st_26 := hz_25.sp
theorem hp_26 : Pz ps_12 st_26 := hp_25.sp (by decide +kernel)
def st_27 : Mm := mRw st_26 4 1 2 4 2
def ps_13 : List (Nat × Nat × Nat) := rws 22 2 ++ ps_12
theorem hz_27 : Lz 25 st_27 := hz_26.rw rfl 2 (by decide +kernel)
theorem hp_27 : Pz ps_13 st_27 := hp_26.rw hz_26 (by decide +kernel) 2
def st_28 : Mm := sP st_27 13 4 (some 22)
def ps_14 : List (Nat × Nat × Nat) := (13, 4, 22) :: ps_13
theorem hz_28 : Lz 25 st_28 := hz_27.sp
theorem hp_28 : Pz ps_14 st_28 := hp_27.sp (by decide +kernel)
def st_29 : Mm := sI st_28 13 5 0
theorem hz_29 : Lz 25 st_29 := hz_28.si
theorem hp_29 : Pz ps_14 st_29 := hp_28.si
def st_30 : Mm := sL st_29 13 6 0
theorem hz_30 : Lz 25 st_30 := hz_29.sl
theorem hp_30 : Pz ps_14 st_30 := hp_29.sl
def st_31 : Mm := sL st_30 13 7 1
theorem hz_31 : Lz 25 st_31 := hz_30.sl
theorem hp_31 : Pz ps_14 st_31 := hp_30.sl
def st_32 : Mm := rI st_31 14 (fun k => if k < 9 then 50 else gI st_31 14 k)
theorem hz_32 : Lz 25 st_32 := hz_31.ri
theorem hp_32 : Pz ps_14 st_32 := hp_31.ri
theorem hy_32 : Lay 13 25 st_32 := ⟨Nat.le_of_eq hz_32.1.symm, fun a _ ha => hz_32.2 a ha, fun q hq h1 h2 => hp_32 q ((by decide +kernel : ∀ q ∈ layP, 13 ≤ q.1 → q.1 < 25 → q ∈ ps_14) q hq h1 h2)⟩
def st_33 (f f' g : Nat → Int32) : Mm := rI (rI (rI st_32 16 f) 17 f') 18 g
theorem hz_33 (f f' g : Nat → Int32) : Lz 25 (st_33 f f' g) := hz_32.ri.ri.ri
theorem hp_33 (f f' g : Nat → Int32) : Pz ps_14 (st_33 f f' g) := hp_32.ri.ri.ri
set_option maxRecDepth 20000 in
theorem ci_X0_init_13 (D : GD) (d : Nat) (post : Option Value → Mm → Prop) (hq : ∀ f f' g, Rst (fun _ => 50) 0 f (g 0) → Rst (fun _ => 50) 1 f' (g 1) → post none (st_33 f f' g)) : AM D (d + 4) 11 39 mX0_init [.ref 13] st_18 post := by
  refine AM.of (by decide) (Nat.le_of_ble_eq_true rfl) ?_
  show AW D (d + 4) 11 39 mX0_init 11 39 0 [(0, .ref 13)] [] st_18 post
  refine ab_aload_n 0 dX0_init_0 rfl ?_
  refine ab_objInit dX0_init_1 w_147 w_106 w_107 (Nat.le_of_ble_eq_true rfl) (Nat.succ_le_succ (Nat.zero_le _)) ?_
  refine ab_aload_n 0 dX0_init_4 rfl ?_
  refine ab_bipush (v := 9) dX0_init_5 (by decide) ?_
  refine ab_newI (N := 9) dX0_init_7 w_137 (by decide) (by decide) (by decide) (Nat.le_of_ble_eq_true rfl) (Nat.le_of_ble_eq_true rfl) (by rw [hz_18.1]; decide) ?_
  rw [hz_18.1]
  refine ab_eqM (M1 := st_19) rfl ?_
  refine ab_putFP (a := 13) (c := 0) (k := 0) (r := 14) dX0_init_9 fs_0_9_0 rfl rfl rfl rfl (hz_19.sh (a := 13) (by decide) rfl).1 (hz_19.sh (a := 13) (by decide) rfl).2 ?_
  refine ab_eqM (M1 := st_20) rfl ?_
  refine ab_aload_n 0 dX0_init_12 rfl ?_
  refine ab_iconst (v := 2) dX0_init_13 (by decide) ?_
  refine ab_iconst (v := 3) dX0_init_14 (by decide) ?_
  refine ab_newR4 (N := 2) (K := 3) dX0_init_15 w_148 w_139 w_137 (by decide) (by decide) (by decide) (by decide) (by decide) (by decide) (Nat.le_of_ble_eq_true rfl) (Nat.le_of_ble_eq_true rfl) (by rw [hz_20.1]; decide) ?_
  rw [hz_20.1]
  refine ab_eqM (M1 := st_21) rfl ?_
  refine ab_putFP (a := 13) (c := 0) (k := 1) (r := 15) dX0_init_19 fs_0_17_0 rfl rfl rfl rfl (hz_21.sh (a := 13) (by decide) rfl).1 (hz_21.sh (a := 13) (by decide) rfl).2 ?_
  refine ab_eqM (M1 := st_22) rfl ?_
  refine ab_aload_n 0 dX0_init_22 rfl ?_
  refine ab_iconst (v := 2) dX0_init_23 (by decide) ?_
  refine ab_newI (N := 2) dX0_init_24 w_137 (by decide) (by decide) (by decide) (Nat.le_of_ble_eq_true rfl) (Nat.le_of_ble_eq_true rfl) (by rw [hz_22.1]; decide) ?_
  rw [hz_22.1]
  refine ab_eqM (M1 := st_23) rfl ?_
  refine ab_putFP (a := 13) (c := 0) (k := 2) (r := 18) dX0_init_26 fs_0_20_0 rfl rfl rfl rfl (hz_23.sh (a := 13) (by decide) rfl).1 (hz_23.sh (a := 13) (by decide) rfl).2 ?_
  refine ab_eqM (M1 := st_24) rfl ?_
  refine ab_aload_n 0 dX0_init_29 rfl ?_
  refine ab_iconst (v := 2) dX0_init_30 (by decide) ?_
  refine ab_iconst (v := 4) dX0_init_31 (by decide) ?_
  refine ab_newR4 (N := 2) (K := 4) dX0_init_32 w_148 w_139 w_137 (by decide) (by decide) (by decide) (by decide) (by decide) (by decide) (Nat.le_of_ble_eq_true rfl) (Nat.le_of_ble_eq_true rfl) (by rw [hz_24.1]; decide) ?_
  rw [hz_24.1]
  refine ab_eqM (M1 := st_25) rfl ?_
  refine ab_putFP (a := 13) (c := 0) (k := 3) (r := 19) dX0_init_36 fs_0_23_0 rfl rfl rfl rfl (hz_25.sh (a := 13) (by decide) rfl).1 (hz_25.sh (a := 13) (by decide) rfl).2 ?_
  refine ab_eqM (M1 := st_26) rfl ?_
  refine ab_aload_n 0 dX0_init_39 rfl ?_
  refine ab_iconst (v := 2) dX0_init_40 (by decide) ?_
  refine ab_iconst (v := 4) dX0_init_41 (by decide) ?_
  refine ab_newR4 (N := 2) (K := 4) dX0_init_42 w_148 w_139 w_137 (by decide) (by decide) (by decide) (by decide) (by decide) (by decide) (Nat.le_of_ble_eq_true rfl) (Nat.le_of_ble_eq_true rfl) (by rw [hz_26.1]; decide) ?_
  rw [hz_26.1]
  refine ab_eqM (M1 := st_27) rfl ?_
  refine ab_putFP (a := 13) (c := 0) (k := 4) (r := 22) dX0_init_46 fs_0_26_0 rfl rfl rfl rfl (hz_27.sh (a := 13) (by decide) rfl).1 (hz_27.sh (a := 13) (by decide) rfl).2 ?_
  refine ab_eqM (M1 := st_28) rfl ?_
  refine ab_aload_n 0 dX0_init_49 rfl ?_
  refine ab_iconst (v := 0) dX0_init_50 (by decide) ?_
  refine ab_putI (a := 13) (c := 0) (k := 5) dX0_init_51 fs_0_29_0 rfl rfl (hz_28.sh (a := 13) (by decide) rfl).1 (hz_28.sh (a := 13) (by decide) rfl).2 ?_
  refine ab_eqM (M1 := st_29) rfl ?_
  refine ab_aload_n 0 dX0_init_54 rfl ?_
  refine ab_lconst (v := 0) dX0_init_55 (by decide) ?_
  refine ab_putL (a := 13) (c := 0) (k := 6) dX0_init_56 fs_0_33_0 rfl rfl (hz_29.sh (a := 13) (by decide) rfl).1 (hz_29.sh (a := 13) (by decide) rfl).2 ?_
  refine ab_eqM (M1 := st_30) rfl ?_
  refine ab_aload_n 0 dX0_init_59 rfl ?_
  refine ab_lconst (v := 1) dX0_init_60 (by decide) ?_
  refine ab_putL (a := 13) (c := 0) (k := 7) dX0_init_61 fs_0_37_0 rfl rfl (hz_30.sh (a := 13) (by decide) rfl).1 (hz_30.sh (a := 13) (by decide) rfl).2 ?_
  refine ab_eqM (M1 := st_31) rfl ?_
  refine ab_aload_n 0 dX0_init_64 rfl ?_
  refine ab_getP (a := 13) (c := 0) (k := 0) (r := 14) dX0_init_65 fs_0_9_0 rfl (hz_31.sh (a := 13) (by decide) rfl).1 (hz_31.sh (a := 13) (by decide) rfl).2 (hp_31 (13, 0, 14) (by decide +kernel)) ?_
  refine ab_bipush (v := 50) dX0_init_68 (by decide) ?_
  refine ab_callS (d' := d + 3) (mc' := 0) (ms' := 0) (vs := [.ref 14, .int (50 : Int32)]) (st := []) dX0_init_70 ⟨cw_J7_fill_53178, w_149⟩ w_150 rfl rfl (Nat.le_of_ble_eq_true rfl) (Nat.le_refl _) (Nat.zero_le _) (Nat.zero_le _) (AM.mono (c_fill (n := 9) (by decide) (hz_31.sh (a := 14) (by decide) rfl) (P := fun M1 => M1 = st_32) rfl) (fun r M1 hr => ?_))
  obtain ⟨rfl, -, rfl⟩ := hr
  refine ab_rv ?_
  refine ab_aload_n 0 dX0_init_73 rfl ?_
  refine ab_callV (a := 13) (c0 := 0) (d' := d + 3) (mc' := 0) (ms' := 0) (vs := []) (st := []) dX0_init_74 ⟨cw_X0_settleMixes, w_152⟩ w_153 w_154 (by decide) (hz_32.sh (a := 13) (by decide) rfl).1 (hz_32.sh (a := 13) (by decide) rfl).2 rfl rfl (Nat.le_of_ble_eq_true rfl) (Nat.le_refl _) (Nat.zero_le _) (Nat.zero_le _) (AM.mono (c_settleMixes (d := d) (T := fun _ => 50) (P := fun M1 => ∃ f f' g, Rst (fun _ => 50) 0 f (g 0) ∧ Rst (fun _ => 50) 1 f' (g 1) ∧ M1 = rI (rI (rI st_32 16 f) 17 f') 18 g) hy_32 (fun k hk => if_pos hk) (fun k hk => by show (0 : Int) ≤ 50 ∧ (50 : Int) ≤ 100; decide) (fun f f' g h1 h2 => ⟨f, f', g, h1, h2, rfl⟩)) (fun r M1 hr => ?_))
  obtain ⟨rfl, -, f1, f1', g1, hr1, hr2, rfl⟩ := hr
  refine ab_rv ?_
  exact ab_vret dX0_init_77 rfl (hq f1 f1' g1 hr1 hr2)
def st_34 (f f' g : Nat → Int32) : Mm := sP (st_33 f f' g) 0 5 (some 13)
def ps_15 : List (Nat × Nat × Nat) := (0, 5, 13) :: ps_14
theorem hz_34 (f f' g : Nat → Int32) : Lz 25 (st_34 f f' g) := (hz_33 f f' g).sp
theorem hp_34 (f f' g : Nat → Int32) : Pz ps_15 (st_34 f f' g) := (hp_33 f f' g).sp (by decide +kernel)
def st_35 (f f' g : Nat → Int32) : Mm := mA (st_34 f f' g) (0, 1)
theorem hz_35 (f f' g : Nat → Int32) : Lz 26 (st_35 f f' g) := (hz_34 f f' g).ma rfl
theorem hp_35 (f f' g : Nat → Int32) : Pz ps_15 (st_35 f f' g) := (hp_34 f f' g).ma (hz_34 f f' g) (by decide +kernel)
theorem dX1_init_0 : decode cX1_init 0 = .ok (.aload_n 0, 1) := by decide +kernel
theorem dX1_init_1 : decode cX1_init 1 = .ok (.invokespecial 3, 3) := by decide +kernel
theorem dX1_init_4 : decode cX1_init 4 = .ok (.aload_n 0, 1) := by decide +kernel
theorem dX1_init_5 : decode cX1_init 5 = .ok (.bipush 30, 2) := by decide +kernel
theorem dX1_init_7 : decode cX1_init 7 = .ok (.newarray .int, 2) := by decide +kernel
theorem dX1_init_9 : decode cX1_init 9 = .ok (.putfield 9, 3) := by decide +kernel
theorem dX1_init_12 : decode cX1_init 12 = .ok (.aload_n 0, 1) := by decide +kernel
theorem dX1_init_13 : decode cX1_init 13 = .ok (.bipush 30, 2) := by decide +kernel
theorem dX1_init_15 : decode cX1_init 15 = .ok (.newarray .int, 2) := by decide +kernel
theorem dX1_init_17 : decode cX1_init 17 = .ok (.putfield 15, 3) := by decide +kernel
theorem dX1_init_20 : decode cX1_init 20 = .ok (.aload_n 0, 1) := by decide +kernel
theorem dX1_init_21 : decode cX1_init 21 = .ok (.iconst 0, 1) := by decide +kernel
theorem dX1_init_22 : decode cX1_init 22 = .ok (.putfield 18, 3) := by decide +kernel
theorem dX1_init_25 : decode cX1_init 25 = .ok (.aload_n 0, 1) := by decide +kernel
theorem dX1_init_26 : decode cX1_init 26 = .ok (.iconst 3, 1) := by decide +kernel
theorem dX1_init_27 : decode cX1_init 27 = .ok (.newarray .int, 2) := by decide +kernel
theorem dX1_init_29 : decode cX1_init 29 = .ok (.putfield 22, 3) := by decide +kernel
theorem dX1_init_32 : decode cX1_init 32 = .ok (.aload_n 0, 1) := by decide +kernel
theorem dX1_init_33 : decode cX1_init 33 = .ok (.iconst 0, 1) := by decide +kernel
theorem dX1_init_34 : decode cX1_init 34 = .ok (.putfield 25, 3) := by decide +kernel
theorem dX1_init_37 : decode cX1_init 37 = .ok (.aload_n 0, 1) := by decide +kernel
theorem dX1_init_38 : decode cX1_init 38 = .ok (.iconst 0, 1) := by decide +kernel
theorem dX1_init_39 : decode cX1_init 39 = .ok (.putfield 28, 3) := by decide +kernel
theorem dX1_init_42 : decode cX1_init 42 = .ok (.return_, 1) := by decide +kernel
def st_36 (f f' g : Nat → Int32) : Mm := mA (st_35 f f' g) (1, 30)
theorem hz_36 (f f' g : Nat → Int32) : Lz 27 (st_36 f f' g) := (hz_35 f f' g).ma rfl
theorem hp_36 (f f' g : Nat → Int32) : Pz ps_15 (st_36 f f' g) := (hp_35 f f' g).ma (hz_35 f f' g) (by decide +kernel)
def st_37 (f f' g : Nat → Int32) : Mm := sP (st_36 f f' g) 25 0 (some 26)
def ps_16 : List (Nat × Nat × Nat) := (25, 0, 26) :: ps_15
theorem hz_37 (f f' g : Nat → Int32) : Lz 27 (st_37 f f' g) := (hz_36 f f' g).sp
theorem hp_37 (f f' g : Nat → Int32) : Pz ps_16 (st_37 f f' g) := (hp_36 f f' g).sp (by decide +kernel)
def st_38 (f f' g : Nat → Int32) : Mm := mA (st_37 f f' g) (1, 30)
theorem hz_38 (f f' g : Nat → Int32) : Lz 28 (st_38 f f' g) := (hz_37 f f' g).ma rfl
theorem hp_38 (f f' g : Nat → Int32) : Pz ps_16 (st_38 f f' g) := (hp_37 f f' g).ma (hz_37 f f' g) (by decide +kernel)
def st_39 (f f' g : Nat → Int32) : Mm := sP (st_38 f f' g) 25 1 (some 27)
def ps_17 : List (Nat × Nat × Nat) := (25, 1, 27) :: ps_16
theorem hz_39 (f f' g : Nat → Int32) : Lz 28 (st_39 f f' g) := (hz_38 f f' g).sp
theorem hp_39 (f f' g : Nat → Int32) : Pz ps_17 (st_39 f f' g) := (hp_38 f f' g).sp (by decide +kernel)
def st_40 (f f' g : Nat → Int32) : Mm := sI (st_39 f f' g) 25 2 0
theorem hz_40 (f f' g : Nat → Int32) : Lz 28 (st_40 f f' g) := (hz_39 f f' g).si
theorem hp_40 (f f' g : Nat → Int32) : Pz ps_17 (st_40 f f' g) := (hp_39 f f' g).si
def st_41 (f f' g : Nat → Int32) : Mm := mA (st_40 f f' g) (1, 3)
theorem hz_41 (f f' g : Nat → Int32) : Lz 29 (st_41 f f' g) := (hz_40 f f' g).ma rfl
theorem hp_41 (f f' g : Nat → Int32) : Pz ps_17 (st_41 f f' g) := (hp_40 f f' g).ma (hz_40 f f' g) (by decide +kernel)
def st_42 (f f' g : Nat → Int32) : Mm := sP (st_41 f f' g) 25 3 (some 28)
def ps_18 : List (Nat × Nat × Nat) := (25, 3, 28) :: ps_17
theorem hz_42 (f f' g : Nat → Int32) : Lz 29 (st_42 f f' g) := (hz_41 f f' g).sp
theorem hp_42 (f f' g : Nat → Int32) : Pz ps_18 (st_42 f f' g) := (hp_41 f f' g).sp (by decide +kernel)
def st_43 (f f' g : Nat → Int32) : Mm := sI (st_42 f f' g) 25 4 0
theorem hz_43 (f f' g : Nat → Int32) : Lz 29 (st_43 f f' g) := (hz_42 f f' g).si
theorem hp_43 (f f' g : Nat → Int32) : Pz ps_18 (st_43 f f' g) := (hp_42 f f' g).si
def st_44 (f f' g : Nat → Int32) : Mm := sI (st_43 f f' g) 25 5 0
theorem hz_44 (f f' g : Nat → Int32) : Lz 29 (st_44 f f' g) := (hz_43 f f' g).si
theorem hp_44 (f f' g : Nat → Int32) : Pz ps_18 (st_44 f f' g) := (hp_43 f f' g).si
set_option maxRecDepth 20000 in
theorem ci_X1_init_25 (D : GD) (d : Nat) (f f' g : Nat → Int32) (post : Option Value → Mm → Prop) (hq : post none (st_44 f f' g)) : AM D (d + 1) 3 63 mX1_init [.ref 25] (st_35 f f' g) post := by
  refine AM.of (by decide) (Nat.le_of_ble_eq_true rfl) ?_
  show AW D (d + 1) 3 63 mX1_init 3 63 0 [(0, .ref 25)] [] (st_35 f f' g) post
  refine ab_aload_n 0 dX1_init_0 rfl ?_
  refine ab_objInit dX1_init_1 w_207 w_106 w_107 (Nat.le_of_ble_eq_true rfl) (Nat.succ_le_succ (Nat.zero_le _)) ?_
  refine ab_aload_n 0 dX1_init_4 rfl ?_
  refine ab_bipush (v := 30) dX1_init_5 (by decide) ?_
  refine ab_newI (N := 30) dX1_init_7 w_137 (by decide) (by decide) (by decide) (Nat.le_of_ble_eq_true rfl) (Nat.le_of_ble_eq_true rfl) (by rw [(hz_35 f f' g).1]; decide) ?_
  rw [(hz_35 f f' g).1]
  refine ab_eqM (M1 := (st_36 f f' g)) rfl ?_
  refine ab_putFP (a := 25) (c := 1) (k := 0) (r := 26) dX1_init_9 fs_1_9_1 rfl rfl rfl rfl ((hz_36 f f' g).sh (a := 25) (by decide) rfl).1 ((hz_36 f f' g).sh (a := 25) (by decide) rfl).2 ?_
  refine ab_eqM (M1 := (st_37 f f' g)) rfl ?_
  refine ab_aload_n 0 dX1_init_12 rfl ?_
  refine ab_bipush (v := 30) dX1_init_13 (by decide) ?_
  refine ab_newI (N := 30) dX1_init_15 w_137 (by decide) (by decide) (by decide) (Nat.le_of_ble_eq_true rfl) (Nat.le_of_ble_eq_true rfl) (by rw [(hz_37 f f' g).1]; decide) ?_
  rw [(hz_37 f f' g).1]
  refine ab_eqM (M1 := (st_38 f f' g)) rfl ?_
  refine ab_putFP (a := 25) (c := 1) (k := 1) (r := 27) dX1_init_17 fs_1_15_1 rfl rfl rfl rfl ((hz_38 f f' g).sh (a := 25) (by decide) rfl).1 ((hz_38 f f' g).sh (a := 25) (by decide) rfl).2 ?_
  refine ab_eqM (M1 := (st_39 f f' g)) rfl ?_
  refine ab_aload_n 0 dX1_init_20 rfl ?_
  refine ab_iconst (v := 0) dX1_init_21 (by decide) ?_
  refine ab_putI (a := 25) (c := 1) (k := 2) dX1_init_22 fs_1_18_1 rfl rfl ((hz_39 f f' g).sh (a := 25) (by decide) rfl).1 ((hz_39 f f' g).sh (a := 25) (by decide) rfl).2 ?_
  refine ab_eqM (M1 := (st_40 f f' g)) rfl ?_
  refine ab_aload_n 0 dX1_init_25 rfl ?_
  refine ab_iconst (v := 3) dX1_init_26 (by decide) ?_
  refine ab_newI (N := 3) dX1_init_27 w_137 (by decide) (by decide) (by decide) (Nat.le_of_ble_eq_true rfl) (Nat.le_of_ble_eq_true rfl) (by rw [(hz_40 f f' g).1]; decide) ?_
  rw [(hz_40 f f' g).1]
  refine ab_eqM (M1 := (st_41 f f' g)) rfl ?_
  refine ab_putFP (a := 25) (c := 1) (k := 3) (r := 28) dX1_init_29 fs_1_22_1 rfl rfl rfl rfl ((hz_41 f f' g).sh (a := 25) (by decide) rfl).1 ((hz_41 f f' g).sh (a := 25) (by decide) rfl).2 ?_
  refine ab_eqM (M1 := (st_42 f f' g)) rfl ?_
  refine ab_aload_n 0 dX1_init_32 rfl ?_
  refine ab_iconst (v := 0) dX1_init_33 (by decide) ?_
  refine ab_putI (a := 25) (c := 1) (k := 4) dX1_init_34 fs_1_25_1 rfl rfl ((hz_42 f f' g).sh (a := 25) (by decide) rfl).1 ((hz_42 f f' g).sh (a := 25) (by decide) rfl).2 ?_
  refine ab_eqM (M1 := (st_43 f f' g)) rfl ?_
  refine ab_aload_n 0 dX1_init_37 rfl ?_
  refine ab_iconst (v := 0) dX1_init_38 (by decide) ?_
  refine ab_putI (a := 25) (c := 1) (k := 5) dX1_init_39 fs_1_28_1 rfl rfl ((hz_43 f f' g).sh (a := 25) (by decide) rfl).1 ((hz_43 f f' g).sh (a := 25) (by decide) rfl).2 ?_
  refine ab_eqM (M1 := (st_44 f f' g)) rfl ?_
  exact ab_vret dX1_init_42 rfl hq
def st_45 (f f' g : Nat → Int32) : Mm := sP (st_44 f f' g) 0 6 (some 25)
def ps_19 : List (Nat × Nat × Nat) := (0, 6, 25) :: ps_18
theorem hz_45 (f f' g : Nat → Int32) : Lz 29 (st_45 f f' g) := (hz_44 f f' g).sp
theorem hp_45 (f f' g : Nat → Int32) : Pz ps_19 (st_45 f f' g) := (hp_44 f f' g).sp (by decide +kernel)
def st_46 (f f' g : Nat → Int32) : Mm := mA (st_45 f f' g) (0, 7)
theorem hz_46 (f f' g : Nat → Int32) : Lz 30 (st_46 f f' g) := (hz_45 f f' g).ma rfl
theorem hp_46 (f f' g : Nat → Int32) : Pz ps_19 (st_46 f f' g) := (hp_45 f f' g).ma (hz_45 f f' g) (by decide +kernel)
def st_47 (f f' g : Nat → Int32) : Mm := mA (st_46 f f' g) (6, 12)
theorem hz_47 (f f' g : Nat → Int32) : Lz 31 (st_47 f f' g) := (hz_46 f f' g).ma rfl
theorem hp_47 (f f' g : Nat → Int32) : Pz ps_19 (st_47 f f' g) := (hp_46 f f' g).ma (hz_46 f f' g) (by decide +kernel)
def st_48 (f f' g : Nat → Int32) : Mm := sP (st_47 f f' g) 29 0 (some 30)
def ps_20 : List (Nat × Nat × Nat) := (29, 0, 30) :: ps_19
theorem hz_48 (f f' g : Nat → Int32) : Lz 31 (st_48 f f' g) := (hz_47 f f' g).sp
theorem hp_48 (f f' g : Nat → Int32) : Pz ps_20 (st_48 f f' g) := (hp_47 f f' g).sp (by decide +kernel)
def st_49 (f f' g : Nat → Int32) : Mm := mRw (st_48 f f' g) 4 1 2 275 2
def ps_21 : List (Nat × Nat × Nat) := rws 31 2 ++ ps_20
theorem hz_49 (f f' g : Nat → Int32) : Lz 34 (st_49 f f' g) := (hz_48 f f' g).rw rfl 2 (by decide +kernel)
theorem hp_49 (f f' g : Nat → Int32) : Pz ps_21 (st_49 f f' g) := (hp_48 f f' g).rw (hz_48 f f' g) (by decide +kernel) 2
def st_50 (f f' g : Nat → Int32) : Mm := sP (st_49 f f' g) 29 1 (some 31)
def ps_22 : List (Nat × Nat × Nat) := (29, 1, 31) :: ps_21
theorem hz_50 (f f' g : Nat → Int32) : Lz 34 (st_50 f f' g) := (hz_49 f f' g).sp
theorem hp_50 (f f' g : Nat → Int32) : Pz ps_22 (st_50 f f' g) := (hp_49 f f' g).sp (by decide +kernel)
def st_51 (f f' g : Nat → Int32) : Mm := mRw (st_50 f f' g) 4 1 11 36 11
def ps_23 : List (Nat × Nat × Nat) := rws 34 11 ++ ps_22
theorem hz_51 (f f' g : Nat → Int32) : Lz 46 (st_51 f f' g) := (hz_50 f f' g).rw rfl 11 (by decide +kernel)
theorem hp_51 (f f' g : Nat → Int32) : Pz ps_23 (st_51 f f' g) := (hp_50 f f' g).rw (hz_50 f f' g) (by decide +kernel) 11
def st_52 (f f' g : Nat → Int32) : Mm := sP (st_51 f f' g) 29 2 (some 34)
def ps_24 : List (Nat × Nat × Nat) := (29, 2, 34) :: ps_23
theorem hz_52 (f f' g : Nat → Int32) : Lz 46 (st_52 f f' g) := (hz_51 f f' g).sp
theorem hp_52 (f f' g : Nat → Int32) : Pz ps_24 (st_52 f f' g) := (hp_51 f f' g).sp (by decide +kernel)
def st_53 (f f' g : Nat → Int32) : Mm := sI (st_52 f f' g) 29 3 0
theorem hz_53 (f f' g : Nat → Int32) : Lz 46 (st_53 f f' g) := (hz_52 f f' g).si
theorem hp_53 (f f' g : Nat → Int32) : Pz ps_24 (st_53 f f' g) := (hp_52 f f' g).si
def st_54 (f f' g : Nat → Int32) : Mm := sI (st_53 f f' g) 29 4 0
theorem hz_54 (f f' g : Nat → Int32) : Lz 46 (st_54 f f' g) := (hz_53 f f' g).si
theorem hp_54 (f f' g : Nat → Int32) : Pz ps_24 (st_54 f f' g) := (hp_53 f f' g).si
theorem hw_54 (f f' g : Nat → Int32) : Lay 29 46 (st_54 f f' g) := ⟨Nat.le_of_eq (hz_54 f f' g).1.symm, fun a _ ha => (hz_54 f f' g).2 a ha, fun q hq h1 h2 => (hp_54 f f' g) q ((by decide +kernel : ∀ q ∈ layP, 29 ≤ q.1 → q.1 < 46 → q ∈ ps_24) q hq h1 h2)⟩
def st_55 (f f' g h : Nat → Int32) : Mm := rI (st_54 f f' g) 45 h
theorem hz_55 (f f' g h : Nat → Int32) : Lz 46 (st_55 f f' g h) := (hz_54 f f' g).ri
theorem hp_55 (f f' g h : Nat → Int32) : Pz ps_24 (st_55 f f' g h) := (hp_54 f f' g).ri
set_option maxRecDepth 20000 in
theorem ci_X7_init_29 (D : GD) (d : Nat) (f f' g : Nat → Int32) (post : Option Value → Mm → Prop) (hq : ∀ h, Wh h → post none (st_55 f f' g h)) : AM D (d + 1) 16 971 mX7_init [.ref 29] (st_46 f f' g) post := by
  refine AM.of (by decide) (Nat.le_of_ble_eq_true rfl) ?_
  show AW D (d + 1) 16 971 mX7_init 16 971 0 [(0, .ref 29)] [] (st_46 f f' g) post
  refine ab_aload_n 0 dX7_init_0 rfl ?_
  refine ab_objInit dX7_init_1 w_233 w_106 w_107 (Nat.le_of_ble_eq_true rfl) (Nat.succ_le_succ (Nat.zero_le _)) ?_
  refine ab_aload_n 0 dX7_init_4 rfl ?_
  refine ab_bipush (v := 12) dX7_init_5 (by decide) ?_
  refine ab_newQ (N := 12) dX7_init_7 w_234 w_141 (by decide) (by decide) (by decide) (Nat.le_of_ble_eq_true rfl) (Nat.le_of_ble_eq_true rfl) (by rw [(hz_46 f f' g).1]; decide) ?_
  rw [(hz_46 f f' g).1]
  refine ab_eqM (M1 := (st_47 f f' g)) rfl ?_
  refine ab_putFP (a := 29) (c := 7) (k := 0) (r := 30) dX7_init_10 fs_7_11_7 rfl rfl rfl rfl ((hz_47 f f' g).sh (a := 29) (by decide) rfl).1 ((hz_47 f f' g).sh (a := 29) (by decide) rfl).2 ?_
  refine ab_eqM (M1 := (st_48 f f' g)) rfl ?_
  refine ab_aload_n 0 dX7_init_13 rfl ?_
  refine ab_iconst (v := 2) dX7_init_14 (by decide) ?_
  refine ab_sipush (v := 275) dX7_init_15 (by decide) ?_
  refine ab_newR4 (N := 2) (K := 275) dX7_init_18 w_235 w_139 w_137 (by decide) (by decide) (by decide) (by decide) (by decide) (by decide) (Nat.le_of_ble_eq_true rfl) (Nat.le_of_ble_eq_true rfl) (by rw [(hz_48 f f' g).1]; decide) ?_
  rw [(hz_48 f f' g).1]
  refine ab_eqM (M1 := (st_49 f f' g)) rfl ?_
  refine ab_putFP (a := 29) (c := 7) (k := 1) (r := 31) dX7_init_22 fs_7_19_7 rfl rfl rfl rfl ((hz_49 f f' g).sh (a := 29) (by decide) rfl).1 ((hz_49 f f' g).sh (a := 29) (by decide) rfl).2 ?_
  refine ab_eqM (M1 := (st_50 f f' g)) rfl ?_
  refine ab_aload_n 0 dX7_init_25 rfl ?_
  refine ab_bipush (v := 11) dX7_init_26 (by decide) ?_
  refine ab_bipush (v := 36) dX7_init_28 (by decide) ?_
  refine ab_newR4 (N := 11) (K := 36) dX7_init_30 w_235 w_139 w_137 (by decide) (by decide) (by decide) (by decide) (by decide) (by decide) (Nat.le_of_ble_eq_true rfl) (Nat.le_of_ble_eq_true rfl) (by rw [(hz_50 f f' g).1]; decide) ?_
  rw [(hz_50 f f' g).1]
  refine ab_eqM (M1 := (st_51 f f' g)) rfl ?_
  refine ab_putFP (a := 29) (c := 7) (k := 2) (r := 34) dX7_init_34 fs_7_22_7 rfl rfl rfl rfl ((hz_51 f f' g).sh (a := 29) (by decide) rfl).1 ((hz_51 f f' g).sh (a := 29) (by decide) rfl).2 ?_
  refine ab_eqM (M1 := (st_52 f f' g)) rfl ?_
  refine ab_aload_n 0 dX7_init_37 rfl ?_
  refine ab_iconst (v := 0) dX7_init_38 (by decide) ?_
  refine ab_putI (a := 29) (c := 7) (k := 3) dX7_init_39 fs_7_25_7 rfl rfl ((hz_52 f f' g).sh (a := 29) (by decide) rfl).1 ((hz_52 f f' g).sh (a := 29) (by decide) rfl).2 ?_
  refine ab_eqM (M1 := (st_53 f f' g)) rfl ?_
  refine ab_aload_n 0 dX7_init_42 rfl ?_
  refine ab_iconst (v := 0) dX7_init_43 (by decide) ?_
  refine ab_putI (a := 29) (c := 7) (k := 4) dX7_init_44 fs_7_29_7 rfl rfl ((hz_53 f f' g).sh (a := 29) (by decide) rfl).1 ((hz_53 f f' g).sh (a := 29) (by decide) rfl).2 ?_
  refine ab_eqM (M1 := (st_54 f f' g)) rfl ?_
  refine ab_iconst (v := 0) dX7_init_47 (by decide) ?_
  refine ab_istore_n (lv1 := [(1, .int (0 : Int32)), (0, .ref 29)]) dX7_init_48 (by decide) rfl ?_
  exact ab_sub [1, 0] rfl (c_wins (hw_54 f f' g) hq _ _ _ _)
def st_56 (f f' g h : Nat → Int32) : Mm := sP (st_55 f f' g h) 0 7 (some 29)
def ps_25 : List (Nat × Nat × Nat) := (0, 7, 29) :: ps_24
theorem hz_56 (f f' g h : Nat → Int32) : Lz 46 (st_56 f f' g h) := (hz_55 f f' g h).sp
theorem hp_56 (f f' g h : Nat → Int32) : Pz ps_25 (st_56 f f' g h) := (hp_55 f f' g h).sp (by decide +kernel)
def st_57 (f f' g h : Nat → Int32) : Mm := mA (st_56 f f' g h) (1, 21)
theorem hz_57 (f f' g h : Nat → Int32) : Lz 47 (st_57 f f' g h) := (hz_56 f f' g h).ma rfl
theorem hp_57 (f f' g h : Nat → Int32) : Pz ps_25 (st_57 f f' g h) := (hp_56 f f' g h).ma (hz_56 f f' g h) (by decide +kernel)
def st_58 (f f' g h : Nat → Int32) : Mm := sP (st_57 f f' g h) 0 8 (some 46)
def ps_26 : List (Nat × Nat × Nat) := (0, 8, 46) :: ps_25
theorem hz_58 (f f' g h : Nat → Int32) : Lz 47 (st_58 f f' g h) := (hz_57 f f' g h).sp
theorem hp_58 (f f' g h : Nat → Int32) : Pz ps_26 (st_58 f f' g h) := (hp_57 f f' g h).sp (by decide +kernel)
def st_59 (f f' g h : Nat → Int32) : Mm := sI (st_58 f f' g h) 0 9 0
theorem hz_59 (f f' g h : Nat → Int32) : Lz 47 (st_59 f f' g h) := (hz_58 f f' g h).si
theorem hp_59 (f f' g h : Nat → Int32) : Pz ps_26 (st_59 f f' g h) := (hp_58 f f' g h).si
def st_60 (f f' g h : Nat → Int32) : Mm := mA (st_59 f f' g h) (1, 9)
theorem hz_60 (f f' g h : Nat → Int32) : Lz 48 (st_60 f f' g h) := (hz_59 f f' g h).ma rfl
theorem hp_60 (f f' g h : Nat → Int32) : Pz ps_26 (st_60 f f' g h) := (hp_59 f f' g h).ma (hz_59 f f' g h) (by decide +kernel)
def st_61 (f f' g h : Nat → Int32) : Mm := sP (st_60 f f' g h) 0 10 (some 47)
def ps_27 : List (Nat × Nat × Nat) := (0, 10, 47) :: ps_26
theorem hz_61 (f f' g h : Nat → Int32) : Lz 48 (st_61 f f' g h) := (hz_60 f f' g h).sp
theorem hp_61 (f f' g h : Nat → Int32) : Pz ps_27 (st_61 f f' g h) := (hp_60 f f' g h).sp (by decide +kernel)
def st_62 (f f' g h : Nat → Int32) : Mm := mA (st_61 f f' g h) (0, 1)
theorem hz_62 (f f' g h : Nat → Int32) : Lz 49 (st_62 f f' g h) := (hz_61 f f' g h).ma rfl
theorem hp_62 (f f' g h : Nat → Int32) : Pz ps_27 (st_62 f f' g h) := (hp_61 f f' g h).ma (hz_61 f f' g h) (by decide +kernel)
def st_63 (f f' g h : Nat → Int32) : Mm := mA (st_62 f f' g h) (1, 30)
theorem hz_63 (f f' g h : Nat → Int32) : Lz 50 (st_63 f f' g h) := (hz_62 f f' g h).ma rfl
theorem hp_63 (f f' g h : Nat → Int32) : Pz ps_27 (st_63 f f' g h) := (hp_62 f f' g h).ma (hz_62 f f' g h) (by decide +kernel)
def st_64 (f f' g h : Nat → Int32) : Mm := sP (st_63 f f' g h) 48 0 (some 49)
def ps_28 : List (Nat × Nat × Nat) := (48, 0, 49) :: ps_27
theorem hz_64 (f f' g h : Nat → Int32) : Lz 50 (st_64 f f' g h) := (hz_63 f f' g h).sp
theorem hp_64 (f f' g h : Nat → Int32) : Pz ps_28 (st_64 f f' g h) := (hp_63 f f' g h).sp (by decide +kernel)
def st_65 (f f' g h : Nat → Int32) : Mm := mA (st_64 f f' g h) (1, 30)
theorem hz_65 (f f' g h : Nat → Int32) : Lz 51 (st_65 f f' g h) := (hz_64 f f' g h).ma rfl
theorem hp_65 (f f' g h : Nat → Int32) : Pz ps_28 (st_65 f f' g h) := (hp_64 f f' g h).ma (hz_64 f f' g h) (by decide +kernel)
def st_66 (f f' g h : Nat → Int32) : Mm := sP (st_65 f f' g h) 48 1 (some 50)
def ps_29 : List (Nat × Nat × Nat) := (48, 1, 50) :: ps_28
theorem hz_66 (f f' g h : Nat → Int32) : Lz 51 (st_66 f f' g h) := (hz_65 f f' g h).sp
theorem hp_66 (f f' g h : Nat → Int32) : Pz ps_29 (st_66 f f' g h) := (hp_65 f f' g h).sp (by decide +kernel)
def st_67 (f f' g h : Nat → Int32) : Mm := sI (st_66 f f' g h) 48 2 0
theorem hz_67 (f f' g h : Nat → Int32) : Lz 51 (st_67 f f' g h) := (hz_66 f f' g h).si
theorem hp_67 (f f' g h : Nat → Int32) : Pz ps_29 (st_67 f f' g h) := (hp_66 f f' g h).si
def st_68 (f f' g h : Nat → Int32) : Mm := mA (st_67 f f' g h) (1, 3)
theorem hz_68 (f f' g h : Nat → Int32) : Lz 52 (st_68 f f' g h) := (hz_67 f f' g h).ma rfl
theorem hp_68 (f f' g h : Nat → Int32) : Pz ps_29 (st_68 f f' g h) := (hp_67 f f' g h).ma (hz_67 f f' g h) (by decide +kernel)
def st_69 (f f' g h : Nat → Int32) : Mm := sP (st_68 f f' g h) 48 3 (some 51)
def ps_30 : List (Nat × Nat × Nat) := (48, 3, 51) :: ps_29
theorem hz_69 (f f' g h : Nat → Int32) : Lz 52 (st_69 f f' g h) := (hz_68 f f' g h).sp
theorem hp_69 (f f' g h : Nat → Int32) : Pz ps_30 (st_69 f f' g h) := (hp_68 f f' g h).sp (by decide +kernel)
def st_70 (f f' g h : Nat → Int32) : Mm := sI (st_69 f f' g h) 48 4 0
theorem hz_70 (f f' g h : Nat → Int32) : Lz 52 (st_70 f f' g h) := (hz_69 f f' g h).si
theorem hp_70 (f f' g h : Nat → Int32) : Pz ps_30 (st_70 f f' g h) := (hp_69 f f' g h).si
def st_71 (f f' g h : Nat → Int32) : Mm := sI (st_70 f f' g h) 48 5 0
theorem hz_71 (f f' g h : Nat → Int32) : Lz 52 (st_71 f f' g h) := (hz_70 f f' g h).si
theorem hp_71 (f f' g h : Nat → Int32) : Pz ps_30 (st_71 f f' g h) := (hp_70 f f' g h).si
set_option maxRecDepth 20000 in
theorem ci_X1_init_48 (D : GD) (d : Nat) (f f' g h : Nat → Int32) (post : Option Value → Mm → Prop) (hq : post none (st_71 f f' g h)) : AM D (d + 1) 3 63 mX1_init [.ref 48] (st_62 f f' g h) post := by
  refine AM.of (by decide) (Nat.le_of_ble_eq_true rfl) ?_
  show AW D (d + 1) 3 63 mX1_init 3 63 0 [(0, .ref 48)] [] (st_62 f f' g h) post
  refine ab_aload_n 0 dX1_init_0 rfl ?_
  refine ab_objInit dX1_init_1 w_207 w_106 w_107 (Nat.le_of_ble_eq_true rfl) (Nat.succ_le_succ (Nat.zero_le _)) ?_
  refine ab_aload_n 0 dX1_init_4 rfl ?_
  refine ab_bipush (v := 30) dX1_init_5 (by decide) ?_
  refine ab_newI (N := 30) dX1_init_7 w_137 (by decide) (by decide) (by decide) (Nat.le_of_ble_eq_true rfl) (Nat.le_of_ble_eq_true rfl) (by rw [(hz_62 f f' g h).1]; decide) ?_
  rw [(hz_62 f f' g h).1]
  refine ab_eqM (M1 := (st_63 f f' g h)) rfl ?_
  refine ab_putFP (a := 48) (c := 1) (k := 0) (r := 49) dX1_init_9 fs_1_9_1 rfl rfl rfl rfl ((hz_63 f f' g h).sh (a := 48) (by decide) rfl).1 ((hz_63 f f' g h).sh (a := 48) (by decide) rfl).2 ?_
  refine ab_eqM (M1 := (st_64 f f' g h)) rfl ?_
  refine ab_aload_n 0 dX1_init_12 rfl ?_
  refine ab_bipush (v := 30) dX1_init_13 (by decide) ?_
  refine ab_newI (N := 30) dX1_init_15 w_137 (by decide) (by decide) (by decide) (Nat.le_of_ble_eq_true rfl) (Nat.le_of_ble_eq_true rfl) (by rw [(hz_64 f f' g h).1]; decide) ?_
  rw [(hz_64 f f' g h).1]
  refine ab_eqM (M1 := (st_65 f f' g h)) rfl ?_
  refine ab_putFP (a := 48) (c := 1) (k := 1) (r := 50) dX1_init_17 fs_1_15_1 rfl rfl rfl rfl ((hz_65 f f' g h).sh (a := 48) (by decide) rfl).1 ((hz_65 f f' g h).sh (a := 48) (by decide) rfl).2 ?_
  refine ab_eqM (M1 := (st_66 f f' g h)) rfl ?_
  refine ab_aload_n 0 dX1_init_20 rfl ?_
  refine ab_iconst (v := 0) dX1_init_21 (by decide) ?_
  refine ab_putI (a := 48) (c := 1) (k := 2) dX1_init_22 fs_1_18_1 rfl rfl ((hz_66 f f' g h).sh (a := 48) (by decide) rfl).1 ((hz_66 f f' g h).sh (a := 48) (by decide) rfl).2 ?_
  refine ab_eqM (M1 := (st_67 f f' g h)) rfl ?_
  refine ab_aload_n 0 dX1_init_25 rfl ?_
  refine ab_iconst (v := 3) dX1_init_26 (by decide) ?_
  refine ab_newI (N := 3) dX1_init_27 w_137 (by decide) (by decide) (by decide) (Nat.le_of_ble_eq_true rfl) (Nat.le_of_ble_eq_true rfl) (by rw [(hz_67 f f' g h).1]; decide) ?_
  rw [(hz_67 f f' g h).1]
  refine ab_eqM (M1 := (st_68 f f' g h)) rfl ?_
  refine ab_putFP (a := 48) (c := 1) (k := 3) (r := 51) dX1_init_29 fs_1_22_1 rfl rfl rfl rfl ((hz_68 f f' g h).sh (a := 48) (by decide) rfl).1 ((hz_68 f f' g h).sh (a := 48) (by decide) rfl).2 ?_
  refine ab_eqM (M1 := (st_69 f f' g h)) rfl ?_
  refine ab_aload_n 0 dX1_init_32 rfl ?_
  refine ab_iconst (v := 0) dX1_init_33 (by decide) ?_
  refine ab_putI (a := 48) (c := 1) (k := 4) dX1_init_34 fs_1_25_1 rfl rfl ((hz_69 f f' g h).sh (a := 48) (by decide) rfl).1 ((hz_69 f f' g h).sh (a := 48) (by decide) rfl).2 ?_
  refine ab_eqM (M1 := (st_70 f f' g h)) rfl ?_
  refine ab_aload_n 0 dX1_init_37 rfl ?_
  refine ab_iconst (v := 0) dX1_init_38 (by decide) ?_
  refine ab_putI (a := 48) (c := 1) (k := 5) dX1_init_39 fs_1_28_1 rfl rfl ((hz_70 f f' g h).sh (a := 48) (by decide) rfl).1 ((hz_70 f f' g h).sh (a := 48) (by decide) rfl).2 ?_
  refine ab_eqM (M1 := (st_71 f f' g h)) rfl ?_
  exact ab_vret dX1_init_42 rfl hq
def st_72 (f f' g h : Nat → Int32) : Mm := sP (st_71 f f' g h) 0 11 (some 48)
def ps_31 : List (Nat × Nat × Nat) := (0, 11, 48) :: ps_30
theorem hz_72 (f f' g h : Nat → Int32) : Lz 52 (st_72 f f' g h) := (hz_71 f f' g h).sp
theorem hp_72 (f f' g h : Nat → Int32) : Pz ps_31 (st_72 f f' g h) := (hp_71 f f' g h).sp (by decide +kernel)
def st_73 (f f' g h : Nat → Int32) : Mm := mA (st_72 f f' g h) (6, 12)
theorem hz_73 (f f' g h : Nat → Int32) : Lz 53 (st_73 f f' g h) := (hz_72 f f' g h).ma rfl
theorem hp_73 (f f' g h : Nat → Int32) : Pz ps_31 (st_73 f f' g h) := (hp_72 f f' g h).ma (hz_72 f f' g h) (by decide +kernel)
def st_74 (f f' g h : Nat → Int32) : Mm := sP (st_73 f f' g h) 0 12 (some 52)
def ps_32 : List (Nat × Nat × Nat) := (0, 12, 52) :: ps_31
theorem hz_74 (f f' g h : Nat → Int32) : Lz 53 (st_74 f f' g h) := (hz_73 f f' g h).sp
theorem hp_74 (f f' g h : Nat → Int32) : Pz ps_32 (st_74 f f' g h) := (hp_73 f f' g h).sp (by decide +kernel)
def st_75 (f f' g h : Nat → Int32) : Mm := mA (st_74 f f' g h) (1, 6)
theorem hz_75 (f f' g h : Nat → Int32) : Lz 54 (st_75 f f' g h) := (hz_74 f f' g h).ma rfl
theorem hp_75 (f f' g h : Nat → Int32) : Pz ps_32 (st_75 f f' g h) := (hp_74 f f' g h).ma (hz_74 f f' g h) (by decide +kernel)
def st_76 (f f' g h : Nat → Int32) : Mm := sP (st_75 f f' g h) 0 13 (some 53)
def ps_33 : List (Nat × Nat × Nat) := (0, 13, 53) :: ps_32
theorem hz_76 (f f' g h : Nat → Int32) : Lz 54 (st_76 f f' g h) := (hz_75 f f' g h).sp
theorem hp_76 (f f' g h : Nat → Int32) : Pz ps_33 (st_76 f f' g h) := (hp_75 f f' g h).sp (by decide +kernel)
def st_77 (f f' g h : Nat → Int32) : Mm := mA (st_76 f f' g h) (1, 6)
theorem hz_77 (f f' g h : Nat → Int32) : Lz 55 (st_77 f f' g h) := (hz_76 f f' g h).ma rfl
theorem hp_77 (f f' g h : Nat → Int32) : Pz ps_33 (st_77 f f' g h) := (hp_76 f f' g h).ma (hz_76 f f' g h) (by decide +kernel)
def st_78 (f f' g h : Nat → Int32) : Mm := sP (st_77 f f' g h) 0 14 (some 54)
def ps_34 : List (Nat × Nat × Nat) := (0, 14, 54) :: ps_33
theorem hz_78 (f f' g h : Nat → Int32) : Lz 55 (st_78 f f' g h) := (hz_77 f f' g h).sp
theorem hp_78 (f f' g h : Nat → Int32) : Pz ps_34 (st_78 f f' g h) := (hp_77 f f' g h).sp (by decide +kernel)
def st_79 (f f' g h : Nat → Int32) : Mm := mRw (st_78 f f' g h) 5 2 6 60 6
def ps_35 : List (Nat × Nat × Nat) := rws 55 6 ++ ps_34
theorem hz_79 (f f' g h : Nat → Int32) : Lz 62 (st_79 f f' g h) := (hz_78 f f' g h).rw rfl 6 (by decide +kernel)
theorem hp_79 (f f' g h : Nat → Int32) : Pz ps_35 (st_79 f f' g h) := (hp_78 f f' g h).rw (hz_78 f f' g h) (by decide +kernel) 6
def st_80 (f f' g h : Nat → Int32) : Mm := sP (st_79 f f' g h) 0 15 (some 55)
def ps_36 : List (Nat × Nat × Nat) := (0, 15, 55) :: ps_35
theorem hz_80 (f f' g h : Nat → Int32) : Lz 62 (st_80 f f' g h) := (hz_79 f f' g h).sp
theorem hp_80 (f f' g h : Nat → Int32) : Pz ps_36 (st_80 f f' g h) := (hp_79 f f' g h).sp (by decide +kernel)
def st_81 (f f' g h : Nat → Int32) : Mm := rI (st_80 f f' g h) 53 (fun k => if k < 6 then (-1) else gI (st_80 f f' g h) 53 k)
theorem hz_81 (f f' g h : Nat → Int32) : Lz 62 (st_81 f f' g h) := (hz_80 f f' g h).ri
theorem hp_81 (f f' g h : Nat → Int32) : Pz ps_36 (st_81 f f' g h) := (hp_80 f f' g h).ri
set_option maxRecDepth 20000 in
theorem ci_X11_init_0 (D : GD) (d : Nat) (post : Option Value → Mm → Prop) (hq : ∀ f f' g h, Rst (fun _ => 50) 0 f (g 0) → Rst (fun _ => 50) 1 f' (g 1) → Wh h → post none (st_81 f f' g h)) : AM D (d + 5) 61 2504 mX11_init [.ref 0] st_1 post := by
  refine AM.of (by decide) (Nat.le_of_ble_eq_true rfl) ?_
  show AW D (d + 5) 61 2504 mX11_init 61 2504 0 [(0, .ref 0)] [] st_1 post
  refine ab_aload_n 0 dX11_init_0 rfl ?_
  refine ab_objInit dX11_init_1 w_105 w_106 w_107 (Nat.le_of_ble_eq_true rfl) (Nat.succ_le_succ (Nat.zero_le _)) ?_
  refine ab_aload_n 0 dX11_init_4 rfl ?_
  refine ab_new (c := 6) dX11_init_5 (by decide) w_108 w_109 w_81 (Nat.le_of_ble_eq_true rfl) (Nat.le_of_ble_eq_true rfl) (by rw [hz_1.1]; decide) ?_
  rw [hz_1.1]
  refine ab_eqM (M1 := st_2) rfl ?_
  refine ab_dup dX11_init_8 rfl ?_
  refine ab_callIN (a := 1) (d' := d + 4) (mc' := 2) (ms' := 200) (vs := []) (st := [.ref 1, .ref 0]) dX11_init_9 cw_X6_init w_110 rfl rfl w_111 rfl rfl (Nat.le_of_ble_eq_true rfl) (Nat.le_refl _) (Nat.le_of_ble_eq_true rfl) (Nat.le_of_ble_eq_true rfl) (ci_X6_init_1 D (d + 3)  _ ?_)
  refine ab_rv ?_
  refine ab_putFP (a := 0) (c := 11) (k := 0) (r := 1) dX11_init_12 fs_11_12_11 rfl rfl rfl rfl (hz_10.sh (a := 0) (by decide) rfl).1 (hz_10.sh (a := 0) (by decide) rfl).2 ?_
  refine ab_eqM (M1 := st_11) rfl ?_
  refine ab_aload_n 0 dX11_init_15 rfl ?_
  refine ab_bipush (v := 7) dX11_init_16 (by decide) ?_
  refine ab_bipush (v := 100) dX11_init_18 (by decide) ?_
  refine ab_newR4 (N := 7) (K := 100) dX11_init_20 w_138 w_139 w_137 (by decide) (by decide) (by decide) (by decide) (by decide) (by decide) (Nat.le_of_ble_eq_true rfl) (Nat.le_of_ble_eq_true rfl) (by rw [hz_11.1]; decide) ?_
  rw [hz_11.1]
  refine ab_eqM (M1 := st_12) rfl ?_
  refine ab_putFP (a := 0) (c := 11) (k := 1) (r := 4) dX11_init_24 fs_11_20_11 rfl rfl rfl rfl (hz_12.sh (a := 0) (by decide) rfl).1 (hz_12.sh (a := 0) (by decide) rfl).2 ?_
  refine ab_eqM (M1 := st_13) rfl ?_
  refine ab_aload_n 0 dX11_init_27 rfl ?_
  refine ab_iconst (v := 0) dX11_init_28 (by decide) ?_
  refine ab_putI (a := 0) (c := 11) (k := 2) dX11_init_29 fs_11_23_11 rfl rfl (hz_13.sh (a := 0) (by decide) rfl).1 (hz_13.sh (a := 0) (by decide) rfl).2 ?_
  refine ab_eqM (M1 := st_14) rfl ?_
  refine ab_aload_n 0 dX11_init_32 rfl ?_
  refine ab_bipush (v := 10) dX11_init_33 (by decide) ?_
  refine ab_newQ (N := 10) dX11_init_35 w_140 w_141 (by decide) (by decide) (by decide) (Nat.le_of_ble_eq_true rfl) (Nat.le_of_ble_eq_true rfl) (by rw [hz_14.1]; decide) ?_
  rw [hz_14.1]
  refine ab_eqM (M1 := st_15) rfl ?_
  refine ab_putFP (a := 0) (c := 11) (k := 3) (r := 12) dX11_init_38 fs_11_29_11 rfl rfl rfl rfl (hz_15.sh (a := 0) (by decide) rfl).1 (hz_15.sh (a := 0) (by decide) rfl).2 ?_
  refine ab_eqM (M1 := st_16) rfl ?_
  refine ab_aload_n 0 dX11_init_41 rfl ?_
  refine ab_iconst (v := 0) dX11_init_42 (by decide) ?_
  refine ab_putI (a := 0) (c := 11) (k := 4) dX11_init_43 fs_11_33_11 rfl rfl (hz_16.sh (a := 0) (by decide) rfl).1 (hz_16.sh (a := 0) (by decide) rfl).2 ?_
  refine ab_eqM (M1 := st_17) rfl ?_
  refine ab_aload_n 0 dX11_init_46 rfl ?_
  refine ab_new (c := 0) dX11_init_47 (by decide) w_142 w_143 w_82 (Nat.le_of_ble_eq_true rfl) (Nat.le_of_ble_eq_true rfl) (by rw [hz_17.1]; decide) ?_
  rw [hz_17.1]
  refine ab_eqM (M1 := st_18) rfl ?_
  refine ab_dup dX11_init_50 rfl ?_
  refine ab_callI (a := 13) (d' := d + 4) (mc' := 11) (ms' := 39) (vs := []) (st := [.ref 13, .ref 0]) dX11_init_51 ⟨cw_X0_init, w_144⟩ rfl rfl w_145 rfl rfl (Nat.le_of_ble_eq_true rfl) (Nat.le_refl _) (Nat.le_of_ble_eq_true rfl) (Nat.le_of_ble_eq_true rfl) (ci_X0_init_13 D (d + 0)  _ ?_)
  intro f f' g hr hr'
  refine ab_rv ?_
  refine ab_putFP (a := 0) (c := 11) (k := 5) (r := 13) dX11_init_54 fs_11_39_11 rfl rfl rfl rfl ((hz_33 f f' g).sh (a := 0) (by decide) rfl).1 ((hz_33 f f' g).sh (a := 0) (by decide) rfl).2 ?_
  refine ab_eqM (M1 := (st_34 f f' g)) rfl ?_
  refine ab_aload_n 0 dX11_init_57 rfl ?_
  refine ab_new (c := 1) dX11_init_58 (by decide) w_202 w_203 w_84 (Nat.le_of_ble_eq_true rfl) (Nat.le_of_ble_eq_true rfl) (by rw [(hz_34 f f' g).1]; decide) ?_
  rw [(hz_34 f f' g).1]
  refine ab_eqM (M1 := (st_35 f f' g)) rfl ?_
  refine ab_dup dX11_init_61 rfl ?_
  refine ab_callIN (a := 25) (d' := d + 4) (mc' := 3) (ms' := 63) (vs := []) (st := [.ref 25, .ref 0]) dX11_init_62 cw_X1_init w_204 rfl rfl w_205 rfl rfl (Nat.le_of_ble_eq_true rfl) (Nat.le_refl _) (Nat.le_of_ble_eq_true rfl) (Nat.le_of_ble_eq_true rfl) (ci_X1_init_25 D (d + 3) f f' g _ ?_)
  refine ab_rv ?_
  refine ab_putFP (a := 0) (c := 11) (k := 6) (r := 25) dX11_init_65 fs_11_46_11 rfl rfl rfl rfl ((hz_44 f f' g).sh (a := 0) (by decide) rfl).1 ((hz_44 f f' g).sh (a := 0) (by decide) rfl).2 ?_
  refine ab_eqM (M1 := (st_45 f f' g)) rfl ?_
  refine ab_aload_n 0 dX11_init_68 rfl ?_
  refine ab_new (c := 7) dX11_init_69 (by decide) w_228 w_229 w_85 (Nat.le_of_ble_eq_true rfl) (Nat.le_of_ble_eq_true rfl) (by rw [(hz_45 f f' g).1]; decide) ?_
  rw [(hz_45 f f' g).1]
  refine ab_eqM (M1 := (st_46 f f' g)) rfl ?_
  refine ab_dup dX11_init_72 rfl ?_
  refine ab_callI (a := 29) (d' := d + 4) (mc' := 16) (ms' := 971) (vs := []) (st := [.ref 29, .ref 0]) dX11_init_73 ⟨cw_X7_init, w_230⟩ rfl rfl w_231 rfl rfl (Nat.le_of_ble_eq_true rfl) (Nat.le_refl _) (Nat.le_of_ble_eq_true rfl) (Nat.le_of_ble_eq_true rfl) (ci_X7_init_29 D (d + 3) f f' g _ ?_)
  intro h hw
  refine ab_rv ?_
  refine ab_putFP (a := 0) (c := 11) (k := 7) (r := 29) dX11_init_76 fs_11_53_11 rfl rfl rfl rfl ((hz_55 f f' g h).sh (a := 0) (by decide) rfl).1 ((hz_55 f f' g h).sh (a := 0) (by decide) rfl).2 ?_
  refine ab_eqM (M1 := (st_56 f f' g h)) rfl ?_
  refine ab_aload_n 0 dX11_init_79 rfl ?_
  refine ab_bipush (v := 21) dX11_init_80 (by decide) ?_
  refine ab_newI (N := 21) dX11_init_82 w_137 (by decide) (by decide) (by decide) (Nat.le_of_ble_eq_true rfl) (Nat.le_of_ble_eq_true rfl) (by rw [(hz_56 f f' g h).1]; decide) ?_
  rw [(hz_56 f f' g h).1]
  refine ab_eqM (M1 := (st_57 f f' g h)) rfl ?_
  refine ab_putFP (a := 0) (c := 11) (k := 8) (r := 46) dX11_init_84 fs_11_57_11 rfl rfl rfl rfl ((hz_57 f f' g h).sh (a := 0) (by decide) rfl).1 ((hz_57 f f' g h).sh (a := 0) (by decide) rfl).2 ?_
  refine ab_eqM (M1 := (st_58 f f' g h)) rfl ?_
  refine ab_aload_n 0 dX11_init_87 rfl ?_
  refine ab_iconst (v := 0) dX11_init_88 (by decide) ?_
  refine ab_putZ (a := 0) (c := 11) (k := 9) dX11_init_89 fs_11_61_11 rfl rfl ((hz_58 f f' g h).sh (a := 0) (by decide) rfl).1 ((hz_58 f f' g h).sh (a := 0) (by decide) rfl).2 (by decide) ?_
  refine ab_eqM (M1 := (st_59 f f' g h)) rfl ?_
  refine ab_aload_n 0 dX11_init_92 rfl ?_
  refine ab_bipush (v := 9) dX11_init_93 (by decide) ?_
  refine ab_newI (N := 9) dX11_init_95 w_137 (by decide) (by decide) (by decide) (Nat.le_of_ble_eq_true rfl) (Nat.le_of_ble_eq_true rfl) (by rw [(hz_59 f f' g h).1]; decide) ?_
  rw [(hz_59 f f' g h).1]
  refine ab_eqM (M1 := (st_60 f f' g h)) rfl ?_
  refine ab_putFP (a := 0) (c := 11) (k := 10) (r := 47) dX11_init_97 fs_11_65_11 rfl rfl rfl rfl ((hz_60 f f' g h).sh (a := 0) (by decide) rfl).1 ((hz_60 f f' g h).sh (a := 0) (by decide) rfl).2 ?_
  refine ab_eqM (M1 := (st_61 f f' g h)) rfl ?_
  refine ab_aload_n 0 dX11_init_100 rfl ?_
  refine ab_new (c := 1) dX11_init_101 (by decide) w_202 w_203 w_84 (Nat.le_of_ble_eq_true rfl) (Nat.le_of_ble_eq_true rfl) (by rw [(hz_61 f f' g h).1]; decide) ?_
  rw [(hz_61 f f' g h).1]
  refine ab_eqM (M1 := (st_62 f f' g h)) rfl ?_
  refine ab_dup dX11_init_104 rfl ?_
  refine ab_callIN (a := 48) (d' := d + 4) (mc' := 3) (ms' := 63) (vs := []) (st := [.ref 48, .ref 0]) dX11_init_105 cw_X1_init w_204 rfl rfl w_205 rfl rfl (Nat.le_of_ble_eq_true rfl) (Nat.le_refl _) (Nat.le_of_ble_eq_true rfl) (Nat.le_of_ble_eq_true rfl) (ci_X1_init_48 D (d + 3) f f' g h _ ?_)
  refine ab_rv ?_
  refine ab_putFP (a := 0) (c := 11) (k := 11) (r := 48) dX11_init_108 fs_11_68_11 rfl rfl rfl rfl ((hz_71 f f' g h).sh (a := 0) (by decide) rfl).1 ((hz_71 f f' g h).sh (a := 0) (by decide) rfl).2 ?_
  refine ab_eqM (M1 := (st_72 f f' g h)) rfl ?_
  refine ab_aload_n 0 dX11_init_111 rfl ?_
  refine ab_bipush (v := 12) dX11_init_112 (by decide) ?_
  refine ab_newQ (N := 12) dX11_init_114 w_140 w_141 (by decide) (by decide) (by decide) (Nat.le_of_ble_eq_true rfl) (Nat.le_of_ble_eq_true rfl) (by rw [(hz_72 f f' g h).1]; decide) ?_
  rw [(hz_72 f f' g h).1]
  refine ab_eqM (M1 := (st_73 f f' g h)) rfl ?_
  refine ab_putFP (a := 0) (c := 11) (k := 12) (r := 52) dX11_init_117 fs_11_71_11 rfl rfl rfl rfl ((hz_73 f f' g h).sh (a := 0) (by decide) rfl).1 ((hz_73 f f' g h).sh (a := 0) (by decide) rfl).2 ?_
  refine ab_eqM (M1 := (st_74 f f' g h)) rfl ?_
  refine ab_aload_n 0 dX11_init_120 rfl ?_
  refine ab_bipush (v := 6) dX11_init_121 (by decide) ?_
  refine ab_newI (N := 6) dX11_init_123 w_137 (by decide) (by decide) (by decide) (Nat.le_of_ble_eq_true rfl) (Nat.le_of_ble_eq_true rfl) (by rw [(hz_74 f f' g h).1]; decide) ?_
  rw [(hz_74 f f' g h).1]
  refine ab_eqM (M1 := (st_75 f f' g h)) rfl ?_
  refine ab_putFP (a := 0) (c := 11) (k := 13) (r := 53) dX11_init_125 fs_11_74_11 rfl rfl rfl rfl ((hz_75 f f' g h).sh (a := 0) (by decide) rfl).1 ((hz_75 f f' g h).sh (a := 0) (by decide) rfl).2 ?_
  refine ab_eqM (M1 := (st_76 f f' g h)) rfl ?_
  refine ab_aload_n 0 dX11_init_128 rfl ?_
  refine ab_bipush (v := 6) dX11_init_129 (by decide) ?_
  refine ab_newI (N := 6) dX11_init_131 w_137 (by decide) (by decide) (by decide) (Nat.le_of_ble_eq_true rfl) (Nat.le_of_ble_eq_true rfl) (by rw [(hz_76 f f' g h).1]; decide) ?_
  rw [(hz_76 f f' g h).1]
  refine ab_eqM (M1 := (st_77 f f' g h)) rfl ?_
  refine ab_putFP (a := 0) (c := 11) (k := 14) (r := 54) dX11_init_133 fs_11_77_11 rfl rfl rfl rfl ((hz_77 f f' g h).sh (a := 0) (by decide) rfl).1 ((hz_77 f f' g h).sh (a := 0) (by decide) rfl).2 ?_
  refine ab_eqM (M1 := (st_78 f f' g h)) rfl ?_
  refine ab_aload_n 0 dX11_init_136 rfl ?_
  refine ab_bipush (v := 6) dX11_init_137 (by decide) ?_
  refine ab_bipush (v := 60) dX11_init_139 (by decide) ?_
  refine ab_newR5 (N := 6) (K := 60) dX11_init_141 w_261 w_262 w_313 (by decide) (by decide) (by decide) (by decide) (by decide) (by decide) (Nat.le_of_ble_eq_true rfl) (Nat.le_of_ble_eq_true rfl) (by rw [(hz_78 f f' g h).1]; decide) ?_
  rw [(hz_78 f f' g h).1]
  refine ab_eqM (M1 := (st_79 f f' g h)) rfl ?_
  refine ab_putFP (a := 0) (c := 11) (k := 15) (r := 55) dX11_init_145 fs_11_82_11 rfl rfl rfl rfl ((hz_79 f f' g h).sh (a := 0) (by decide) rfl).1 ((hz_79 f f' g h).sh (a := 0) (by decide) rfl).2 ?_
  refine ab_eqM (M1 := (st_80 f f' g h)) rfl ?_
  refine ab_aload_n 0 dX11_init_148 rfl ?_
  refine ab_getP (a := 0) (c := 11) (k := 13) (r := 53) dX11_init_149 fs_11_74_11 rfl ((hz_80 f f' g h).sh (a := 0) (by decide) rfl).1 ((hz_80 f f' g h).sh (a := 0) (by decide) rfl).2 ((hp_80 f f' g h) (0, 13, 53) (by decide +kernel)) ?_
  refine ab_iconst (v := (-1)) dX11_init_152 (by decide) ?_
  refine ab_callS (d' := d + 4) (mc' := 0) (ms' := 0) (vs := [.ref 53, .int (-1 : Int32)]) (st := []) dX11_init_153 ⟨cw_J7_fill_53178, w_263⟩ w_150 rfl rfl (Nat.le_of_ble_eq_true rfl) (Nat.le_refl _) (Nat.zero_le _) (Nat.zero_le _) (AM.mono (c_fill (n := 6) (by decide) ((hz_80 f f' g h).sh (a := 53) (by decide) rfl) (P := fun M1 => M1 = (st_81 f f' g h)) rfl) (fun r M1 hr => ?_))
  obtain ⟨rfl, -, rfl⟩ := hr
  refine ab_rv ?_
  exact ab_vret dX11_init_156 rfl (hq f f' g h hr hr' hw)
def st_82 (f f' g h : Nat → Int32) : Mm := mA (st_81 f f' g h) (0, 12)
theorem hz_82 (f f' g h : Nat → Int32) : Lz 63 (st_82 f f' g h) := (hz_81 f f' g h).ma rfl
theorem hp_82 (f f' g h : Nat → Int32) : Pz ps_36 (st_82 f f' g h) := (hp_81 f f' g h).ma (hz_81 f f' g h) (by decide +kernel)
theorem dX12_init_0 : decode cX12_init 0 = .ok (.aload_n 0, 1) := by decide +kernel
theorem dX12_init_1 : decode cX12_init 1 = .ok (.invokespecial 1, 3) := by decide +kernel
theorem dX12_init_4 : decode cX12_init 4 = .ok (.aload_n 0, 1) := by decide +kernel
theorem dX12_init_5 : decode cX12_init 5 = .ok (.bipush 9, 2) := by decide +kernel
theorem dX12_init_7 : decode cX12_init 7 = .ok (.newarray .int, 2) := by decide +kernel
theorem dX12_init_9 : decode cX12_init 9 = .ok (.dup, 1) := by decide +kernel
theorem dX12_init_10 : decode cX12_init 10 = .ok (.iconst 0, 1) := by decide +kernel
theorem dX12_init_11 : decode cX12_init 11 = .ok (.bipush 50, 2) := by decide +kernel
theorem dX12_init_13 : decode cX12_init 13 = .ok (.iastore, 1) := by decide +kernel
theorem dX12_init_14 : decode cX12_init 14 = .ok (.dup, 1) := by decide +kernel
theorem dX12_init_15 : decode cX12_init 15 = .ok (.iconst 1, 1) := by decide +kernel
theorem dX12_init_16 : decode cX12_init 16 = .ok (.bipush 50, 2) := by decide +kernel
theorem dX12_init_18 : decode cX12_init 18 = .ok (.iastore, 1) := by decide +kernel
theorem dX12_init_19 : decode cX12_init 19 = .ok (.dup, 1) := by decide +kernel
theorem dX12_init_20 : decode cX12_init 20 = .ok (.iconst 2, 1) := by decide +kernel
theorem dX12_init_21 : decode cX12_init 21 = .ok (.bipush 50, 2) := by decide +kernel
theorem dX12_init_23 : decode cX12_init 23 = .ok (.iastore, 1) := by decide +kernel
theorem dX12_init_24 : decode cX12_init 24 = .ok (.dup, 1) := by decide +kernel
theorem dX12_init_25 : decode cX12_init 25 = .ok (.iconst 3, 1) := by decide +kernel
theorem dX12_init_26 : decode cX12_init 26 = .ok (.bipush 50, 2) := by decide +kernel
theorem dX12_init_28 : decode cX12_init 28 = .ok (.iastore, 1) := by decide +kernel
theorem dX12_init_29 : decode cX12_init 29 = .ok (.dup, 1) := by decide +kernel
theorem dX12_init_30 : decode cX12_init 30 = .ok (.iconst 4, 1) := by decide +kernel
theorem dX12_init_31 : decode cX12_init 31 = .ok (.bipush 50, 2) := by decide +kernel
theorem dX12_init_33 : decode cX12_init 33 = .ok (.iastore, 1) := by decide +kernel
theorem dX12_init_34 : decode cX12_init 34 = .ok (.dup, 1) := by decide +kernel
theorem dX12_init_35 : decode cX12_init 35 = .ok (.iconst 5, 1) := by decide +kernel
theorem dX12_init_36 : decode cX12_init 36 = .ok (.bipush 50, 2) := by decide +kernel
theorem dX12_init_38 : decode cX12_init 38 = .ok (.iastore, 1) := by decide +kernel
theorem dX12_init_39 : decode cX12_init 39 = .ok (.dup, 1) := by decide +kernel
theorem dX12_init_40 : decode cX12_init 40 = .ok (.bipush 6, 2) := by decide +kernel
theorem dX12_init_42 : decode cX12_init 42 = .ok (.bipush 50, 2) := by decide +kernel
theorem dX12_init_44 : decode cX12_init 44 = .ok (.iastore, 1) := by decide +kernel
theorem dX12_init_45 : decode cX12_init 45 = .ok (.dup, 1) := by decide +kernel
theorem dX12_init_46 : decode cX12_init 46 = .ok (.bipush 7, 2) := by decide +kernel
theorem dX12_init_48 : decode cX12_init 48 = .ok (.bipush 50, 2) := by decide +kernel
theorem dX12_init_50 : decode cX12_init 50 = .ok (.iastore, 1) := by decide +kernel
theorem dX12_init_51 : decode cX12_init 51 = .ok (.dup, 1) := by decide +kernel
theorem dX12_init_52 : decode cX12_init 52 = .ok (.bipush 8, 2) := by decide +kernel
theorem dX12_init_54 : decode cX12_init 54 = .ok (.bipush 50, 2) := by decide +kernel
theorem dX12_init_56 : decode cX12_init 56 = .ok (.iastore, 1) := by decide +kernel
theorem dX12_init_57 : decode cX12_init 57 = .ok (.putfield 7, 3) := by decide +kernel
theorem dX12_init_60 : decode cX12_init 60 = .ok (.aload_n 0, 1) := by decide +kernel
theorem dX12_init_61 : decode cX12_init 61 = .ok (.iconst 0, 1) := by decide +kernel
theorem dX12_init_62 : decode cX12_init 62 = .ok (.putfield 13, 3) := by decide +kernel
theorem dX12_init_65 : decode cX12_init 65 = .ok (.aload_n 0, 1) := by decide +kernel
theorem dX12_init_66 : decode cX12_init 66 = .ok (.iconst 0, 1) := by decide +kernel
theorem dX12_init_67 : decode cX12_init 67 = .ok (.putfield 17, 3) := by decide +kernel
theorem dX12_init_70 : decode cX12_init 70 = .ok (.aload_n 0, 1) := by decide +kernel
theorem dX12_init_71 : decode cX12_init 71 = .ok (.iconst 0, 1) := by decide +kernel
theorem dX12_init_72 : decode cX12_init 72 = .ok (.putfield 20, 3) := by decide +kernel
theorem dX12_init_75 : decode cX12_init 75 = .ok (.aload_n 0, 1) := by decide +kernel
theorem dX12_init_76 : decode cX12_init 76 = .ok (.iconst 0, 1) := by decide +kernel
theorem dX12_init_77 : decode cX12_init 77 = .ok (.putfield 23, 3) := by decide +kernel
theorem dX12_init_80 : decode cX12_init 80 = .ok (.aload_n 0, 1) := by decide +kernel
theorem dX12_init_81 : decode cX12_init 81 = .ok (.bipush 100, 2) := by decide +kernel
theorem dX12_init_83 : decode cX12_init 83 = .ok (.newarray .int, 2) := by decide +kernel
theorem dX12_init_85 : decode cX12_init 85 = .ok (.putfield 26, 3) := by decide +kernel
theorem dX12_init_88 : decode cX12_init 88 = .ok (.aload_n 0, 1) := by decide +kernel
theorem dX12_init_89 : decode cX12_init 89 = .ok (.bipush 7, 2) := by decide +kernel
theorem dX12_init_91 : decode cX12_init 91 = .ok (.newarray .int, 2) := by decide +kernel
theorem dX12_init_93 : decode cX12_init 93 = .ok (.putfield 29, 3) := by decide +kernel
theorem dX12_init_96 : decode cX12_init 96 = .ok (.aload_n 0, 1) := by decide +kernel
theorem dX12_init_97 : decode cX12_init 97 = .ok (.bipush 56, 2) := by decide +kernel
theorem dX12_init_99 : decode cX12_init 99 = .ok (.newarray .int, 2) := by decide +kernel
theorem dX12_init_101 : decode cX12_init 101 = .ok (.putfield 32, 3) := by decide +kernel
theorem dX12_init_104 : decode cX12_init 104 = .ok (.aload_n 0, 1) := by decide +kernel
theorem dX12_init_105 : decode cX12_init 105 = .ok (.bipush 56, 2) := by decide +kernel
theorem dX12_init_107 : decode cX12_init 107 = .ok (.newarray .int, 2) := by decide +kernel
theorem dX12_init_109 : decode cX12_init 109 = .ok (.putfield 35, 3) := by decide +kernel
theorem dX12_init_112 : decode cX12_init 112 = .ok (.aload_n 0, 1) := by decide +kernel
theorem dX12_init_113 : decode cX12_init 113 = .ok (.bipush 56, 2) := by decide +kernel
theorem dX12_init_115 : decode cX12_init 115 = .ok (.newarray .int, 2) := by decide +kernel
theorem dX12_init_117 : decode cX12_init 117 = .ok (.putfield 38, 3) := by decide +kernel
theorem dX12_init_120 : decode cX12_init 120 = .ok (.aload_n 0, 1) := by decide +kernel
theorem dX12_init_121 : decode cX12_init 121 = .ok (.bipush 56, 2) := by decide +kernel
theorem dX12_init_123 : decode cX12_init 123 = .ok (.newarray .int, 2) := by decide +kernel
theorem dX12_init_125 : decode cX12_init 125 = .ok (.putfield 41, 3) := by decide +kernel
theorem dX12_init_128 : decode cX12_init 128 = .ok (.aload_n 0, 1) := by decide +kernel
theorem dX12_init_129 : decode cX12_init 129 = .ok (.sipush 700, 3) := by decide +kernel
theorem dX12_init_132 : decode cX12_init 132 = .ok (.newarray .int, 2) := by decide +kernel
theorem dX12_init_134 : decode cX12_init 134 = .ok (.putfield 44, 3) := by decide +kernel
theorem dX12_init_137 : decode cX12_init 137 = .ok (.aload_n 0, 1) := by decide +kernel
theorem dX12_init_138 : decode cX12_init 138 = .ok (.bipush 101, 2) := by decide +kernel
theorem dX12_init_140 : decode cX12_init 140 = .ok (.newarray .int, 2) := by decide +kernel
theorem dX12_init_142 : decode cX12_init 142 = .ok (.putfield 47, 3) := by decide +kernel
theorem dX12_init_145 : decode cX12_init 145 = .ok (.aload_n 0, 1) := by decide +kernel
theorem dX12_init_146 : decode cX12_init 146 = .ok (.iconst 0, 1) := by decide +kernel
theorem dX12_init_147 : decode cX12_init 147 = .ok (.putfield 50, 3) := by decide +kernel
theorem dX12_init_150 : decode cX12_init 150 = .ok (.aload_n 0, 1) := by decide +kernel
theorem dX12_init_151 : decode cX12_init 151 = .ok (.iconst 0, 1) := by decide +kernel
theorem dX12_init_152 : decode cX12_init 152 = .ok (.putfield 53, 3) := by decide +kernel
theorem dX12_init_155 : decode cX12_init 155 = .ok (.aload_n 0, 1) := by decide +kernel
theorem dX12_init_156 : decode cX12_init 156 = .ok (.iconst 0, 1) := by decide +kernel
theorem dX12_init_157 : decode cX12_init 157 = .ok (.putfield 56, 3) := by decide +kernel
theorem dX12_init_160 : decode cX12_init 160 = .ok (.aload_n 0, 1) := by decide +kernel
theorem dX12_init_161 : decode cX12_init 161 = .ok (.iconst 4, 1) := by decide +kernel
theorem dX12_init_162 : decode cX12_init 162 = .ok (.newarray .int, 2) := by decide +kernel
theorem dX12_init_164 : decode cX12_init 164 = .ok (.putfield 59, 3) := by decide +kernel
theorem dX12_init_167 : decode cX12_init 167 = .ok (.aload_n 0, 1) := by decide +kernel
theorem dX12_init_168 : decode cX12_init 168 = .ok (.bipush 100, 2) := by decide +kernel
theorem dX12_init_170 : decode cX12_init 170 = .ok (.newarray .boolean, 2) := by decide +kernel
theorem dX12_init_172 : decode cX12_init 172 = .ok (.putfield 62, 3) := by decide +kernel
theorem dX12_init_175 : decode cX12_init 175 = .ok (.aload_n 0, 1) := by decide +kernel
theorem dX12_init_176 : decode cX12_init 176 = .ok (.iconst 0, 1) := by decide +kernel
theorem dX12_init_177 : decode cX12_init 177 = .ok (.putfield 66, 3) := by decide +kernel
theorem dX12_init_180 : decode cX12_init 180 = .ok (.aload_n 0, 1) := by decide +kernel
theorem dX12_init_181 : decode cX12_init 181 = .ok (.bipush 11, 2) := by decide +kernel
theorem dX12_init_183 : decode cX12_init 183 = .ok (.newarray .int, 2) := by decide +kernel
theorem dX12_init_185 : decode cX12_init 185 = .ok (.putfield 69, 3) := by decide +kernel
theorem dX12_init_188 : decode cX12_init 188 = .ok (.aload_n 0, 1) := by decide +kernel
theorem dX12_init_189 : decode cX12_init 189 = .ok (.bipush 11, 2) := by decide +kernel
theorem dX12_init_191 : decode cX12_init 191 = .ok (.newarray .int, 2) := by decide +kernel
theorem dX12_init_193 : decode cX12_init 193 = .ok (.putfield 72, 3) := by decide +kernel
theorem dX12_init_196 : decode cX12_init 196 = .ok (.aload_n 0, 1) := by decide +kernel
theorem dX12_init_197 : decode cX12_init 197 = .ok (.bipush 11, 2) := by decide +kernel
theorem dX12_init_199 : decode cX12_init 199 = .ok (.newarray .int, 2) := by decide +kernel
theorem dX12_init_201 : decode cX12_init 201 = .ok (.putfield 75, 3) := by decide +kernel
theorem dX12_init_204 : decode cX12_init 204 = .ok (.aload_n 0, 1) := by decide +kernel
theorem dX12_init_205 : decode cX12_init 205 = .ok (.bipush 6, 2) := by decide +kernel
theorem dX12_init_207 : decode cX12_init 207 = .ok (.newarray .int, 2) := by decide +kernel
theorem dX12_init_209 : decode cX12_init 209 = .ok (.putfield 78, 3) := by decide +kernel
theorem dX12_init_212 : decode cX12_init 212 = .ok (.aload_n 0, 1) := by decide +kernel
theorem dX12_init_213 : decode cX12_init 213 = .ok (.iconst 0, 1) := by decide +kernel
theorem dX12_init_214 : decode cX12_init 214 = .ok (.putfield 81, 3) := by decide +kernel
theorem dX12_init_217 : decode cX12_init 217 = .ok (.aload_n 0, 1) := by decide +kernel
theorem dX12_init_218 : decode cX12_init 218 = .ok (.iconst 0, 1) := by decide +kernel
theorem dX12_init_219 : decode cX12_init 219 = .ok (.putfield 84, 3) := by decide +kernel
theorem dX12_init_222 : decode cX12_init 222 = .ok (.aload_n 0, 1) := by decide +kernel
theorem dX12_init_223 : decode cX12_init 223 = .ok (.bipush 6, 2) := by decide +kernel
theorem dX12_init_225 : decode cX12_init 225 = .ok (.newarray .int, 2) := by decide +kernel
theorem dX12_init_227 : decode cX12_init 227 = .ok (.putfield 87, 3) := by decide +kernel
theorem dX12_init_230 : decode cX12_init 230 = .ok (.aload_n 0, 1) := by decide +kernel
theorem dX12_init_231 : decode cX12_init 231 = .ok (.iconst 3, 1) := by decide +kernel
theorem dX12_init_232 : decode cX12_init 232 = .ok (.putfield 90, 3) := by decide +kernel
theorem dX12_init_235 : decode cX12_init 235 = .ok (.aload_n 0, 1) := by decide +kernel
theorem dX12_init_236 : decode cX12_init 236 = .ok (.iconst 3, 1) := by decide +kernel
theorem dX12_init_237 : decode cX12_init 237 = .ok (.putfield 93, 3) := by decide +kernel
theorem dX12_init_240 : decode cX12_init 240 = .ok (.aload_n 0, 1) := by decide +kernel
theorem dX12_init_241 : decode cX12_init 241 = .ok (.iconst 0, 1) := by decide +kernel
theorem dX12_init_242 : decode cX12_init 242 = .ok (.putfield 96, 3) := by decide +kernel
theorem dX12_init_245 : decode cX12_init 245 = .ok (.aload_n 0, 1) := by decide +kernel
theorem dX12_init_246 : decode cX12_init 246 = .ok (.bipush 10, 2) := by decide +kernel
theorem dX12_init_248 : decode cX12_init 248 = .ok (.putfield 99, 3) := by decide +kernel
theorem dX12_init_251 : decode cX12_init 251 = .ok (.aload_n 0, 1) := by decide +kernel
theorem dX12_init_252 : decode cX12_init 252 = .ok (.lconst 0, 1) := by decide +kernel
theorem dX12_init_253 : decode cX12_init 253 = .ok (.putfield 102, 3) := by decide +kernel
theorem dX12_init_256 : decode cX12_init 256 = .ok (.aload_n 0, 1) := by decide +kernel
theorem dX12_init_257 : decode cX12_init 257 = .ok (.lconst 1, 1) := by decide +kernel
theorem dX12_init_258 : decode cX12_init 258 = .ok (.putfield 106, 3) := by decide +kernel
theorem dX12_init_261 : decode cX12_init 261 = .ok (.aload_n 0, 1) := by decide +kernel
theorem dX12_init_262 : decode cX12_init 262 = .ok (.iconst 0, 1) := by decide +kernel
theorem dX12_init_263 : decode cX12_init 263 = .ok (.putfield 109, 3) := by decide +kernel
theorem dX12_init_266 : decode cX12_init 266 = .ok (.aload_n 0, 1) := by decide +kernel
theorem dX12_init_267 : decode cX12_init 267 = .ok (.bipush 30, 2) := by decide +kernel
theorem dX12_init_269 : decode cX12_init 269 = .ok (.newarray .int, 2) := by decide +kernel
theorem dX12_init_271 : decode cX12_init 271 = .ok (.putfield 112, 3) := by decide +kernel
theorem dX12_init_274 : decode cX12_init 274 = .ok (.aload_n 0, 1) := by decide +kernel
theorem dX12_init_275 : decode cX12_init 275 = .ok (.bipush 30, 2) := by decide +kernel
theorem dX12_init_277 : decode cX12_init 277 = .ok (.newarray .int, 2) := by decide +kernel
theorem dX12_init_279 : decode cX12_init 279 = .ok (.putfield 115, 3) := by decide +kernel
theorem dX12_init_282 : decode cX12_init 282 = .ok (.aload_n 0, 1) := by decide +kernel
theorem dX12_init_283 : decode cX12_init 283 = .ok (.bipush 30, 2) := by decide +kernel
theorem dX12_init_285 : decode cX12_init 285 = .ok (.newarray .int, 2) := by decide +kernel
theorem dX12_init_287 : decode cX12_init 287 = .ok (.putfield 118, 3) := by decide +kernel
theorem dX12_init_290 : decode cX12_init 290 = .ok (.aload_n 0, 1) := by decide +kernel
theorem dX12_init_291 : decode cX12_init 291 = .ok (.bipush 12, 2) := by decide +kernel
theorem dX12_init_293 : decode cX12_init 293 = .ok (.newarray .int, 2) := by decide +kernel
theorem dX12_init_295 : decode cX12_init 295 = .ok (.dup, 1) := by decide +kernel
theorem dX12_init_296 : decode cX12_init 296 = .ok (.iconst 0, 1) := by decide +kernel
theorem dX12_init_297 : decode cX12_init 297 = .ok (.iconst (-1), 1) := by decide +kernel
theorem dX12_init_298 : decode cX12_init 298 = .ok (.iastore, 1) := by decide +kernel
theorem dX12_init_299 : decode cX12_init 299 = .ok (.dup, 1) := by decide +kernel
theorem dX12_init_300 : decode cX12_init 300 = .ok (.iconst 1, 1) := by decide +kernel
theorem dX12_init_301 : decode cX12_init 301 = .ok (.iconst (-1), 1) := by decide +kernel
theorem dX12_init_302 : decode cX12_init 302 = .ok (.iastore, 1) := by decide +kernel
theorem dX12_init_303 : decode cX12_init 303 = .ok (.dup, 1) := by decide +kernel
theorem dX12_init_304 : decode cX12_init 304 = .ok (.iconst 2, 1) := by decide +kernel
theorem dX12_init_305 : decode cX12_init 305 = .ok (.iconst (-1), 1) := by decide +kernel
theorem dX12_init_306 : decode cX12_init 306 = .ok (.iastore, 1) := by decide +kernel
theorem dX12_init_307 : decode cX12_init 307 = .ok (.dup, 1) := by decide +kernel
theorem dX12_init_308 : decode cX12_init 308 = .ok (.iconst 3, 1) := by decide +kernel
theorem dX12_init_309 : decode cX12_init 309 = .ok (.iconst (-1), 1) := by decide +kernel
theorem dX12_init_310 : decode cX12_init 310 = .ok (.iastore, 1) := by decide +kernel
theorem dX12_init_311 : decode cX12_init 311 = .ok (.dup, 1) := by decide +kernel
theorem dX12_init_312 : decode cX12_init 312 = .ok (.iconst 4, 1) := by decide +kernel
theorem dX12_init_313 : decode cX12_init 313 = .ok (.iconst (-1), 1) := by decide +kernel
theorem dX12_init_314 : decode cX12_init 314 = .ok (.iastore, 1) := by decide +kernel
theorem dX12_init_315 : decode cX12_init 315 = .ok (.dup, 1) := by decide +kernel
theorem dX12_init_316 : decode cX12_init 316 = .ok (.iconst 5, 1) := by decide +kernel
theorem dX12_init_317 : decode cX12_init 317 = .ok (.iconst (-1), 1) := by decide +kernel
theorem dX12_init_318 : decode cX12_init 318 = .ok (.iastore, 1) := by decide +kernel
theorem dX12_init_319 : decode cX12_init 319 = .ok (.dup, 1) := by decide +kernel
theorem dX12_init_320 : decode cX12_init 320 = .ok (.bipush 6, 2) := by decide +kernel
theorem dX12_init_322 : decode cX12_init 322 = .ok (.iconst (-1), 1) := by decide +kernel
theorem dX12_init_323 : decode cX12_init 323 = .ok (.iastore, 1) := by decide +kernel
theorem dX12_init_324 : decode cX12_init 324 = .ok (.dup, 1) := by decide +kernel
theorem dX12_init_325 : decode cX12_init 325 = .ok (.bipush 7, 2) := by decide +kernel
theorem dX12_init_327 : decode cX12_init 327 = .ok (.iconst (-1), 1) := by decide +kernel
theorem dX12_init_328 : decode cX12_init 328 = .ok (.iastore, 1) := by decide +kernel
theorem dX12_init_329 : decode cX12_init 329 = .ok (.dup, 1) := by decide +kernel
theorem dX12_init_330 : decode cX12_init 330 = .ok (.bipush 8, 2) := by decide +kernel
theorem dX12_init_332 : decode cX12_init 332 = .ok (.iconst (-1), 1) := by decide +kernel
theorem dX12_init_333 : decode cX12_init 333 = .ok (.iastore, 1) := by decide +kernel
theorem dX12_init_334 : decode cX12_init 334 = .ok (.dup, 1) := by decide +kernel
theorem dX12_init_335 : decode cX12_init 335 = .ok (.bipush 9, 2) := by decide +kernel
theorem dX12_init_337 : decode cX12_init 337 = .ok (.iconst (-1), 1) := by decide +kernel
theorem dX12_init_338 : decode cX12_init 338 = .ok (.iastore, 1) := by decide +kernel
theorem dX12_init_339 : decode cX12_init 339 = .ok (.dup, 1) := by decide +kernel
theorem dX12_init_340 : decode cX12_init 340 = .ok (.bipush 10, 2) := by decide +kernel
theorem dX12_init_342 : decode cX12_init 342 = .ok (.iconst (-1), 1) := by decide +kernel
theorem dX12_init_343 : decode cX12_init 343 = .ok (.iastore, 1) := by decide +kernel
theorem dX12_init_344 : decode cX12_init 344 = .ok (.dup, 1) := by decide +kernel
theorem dX12_init_345 : decode cX12_init 345 = .ok (.bipush 11, 2) := by decide +kernel
theorem dX12_init_347 : decode cX12_init 347 = .ok (.iconst (-1), 1) := by decide +kernel
theorem dX12_init_348 : decode cX12_init 348 = .ok (.iastore, 1) := by decide +kernel
theorem dX12_init_349 : decode cX12_init 349 = .ok (.putfield 121, 3) := by decide +kernel
theorem dX12_init_352 : decode cX12_init 352 = .ok (.aload_n 0, 1) := by decide +kernel
theorem dX12_init_353 : decode cX12_init 353 = .ok (.sipush 275, 3) := by decide +kernel
theorem dX12_init_356 : decode cX12_init 356 = .ok (.newarray .int, 2) := by decide +kernel
theorem dX12_init_358 : decode cX12_init 358 = .ok (.putfield 124, 3) := by decide +kernel
theorem dX12_init_361 : decode cX12_init 361 = .ok (.aload_n 0, 1) := by decide +kernel
theorem dX12_init_362 : decode cX12_init 362 = .ok (.bipush 55, 2) := by decide +kernel
theorem dX12_init_364 : decode cX12_init 364 = .ok (.newarray .int, 2) := by decide +kernel
theorem dX12_init_366 : decode cX12_init 366 = .ok (.putfield 127, 3) := by decide +kernel
theorem dX12_init_369 : decode cX12_init 369 = .ok (.aload_n 0, 1) := by decide +kernel
theorem dX12_init_370 : decode cX12_init 370 = .ok (.iconst 5, 1) := by decide +kernel
theorem dX12_init_371 : decode cX12_init 371 = .ok (.newarray .int, 2) := by decide +kernel
theorem dX12_init_373 : decode cX12_init 373 = .ok (.putfield 130, 3) := by decide +kernel
theorem dX12_init_376 : decode cX12_init 376 = .ok (.aload_n 0, 1) := by decide +kernel
theorem dX12_init_377 : decode cX12_init 377 = .ok (.iconst 5, 1) := by decide +kernel
theorem dX12_init_378 : decode cX12_init 378 = .ok (.newarray .int, 2) := by decide +kernel
theorem dX12_init_380 : decode cX12_init 380 = .ok (.putfield 133, 3) := by decide +kernel
theorem dX12_init_383 : decode cX12_init 383 = .ok (.aload_n 0, 1) := by decide +kernel
theorem dX12_init_384 : decode cX12_init 384 = .ok (.sipush 396, 3) := by decide +kernel
theorem dX12_init_387 : decode cX12_init 387 = .ok (.newarray .int, 2) := by decide +kernel
theorem dX12_init_389 : decode cX12_init 389 = .ok (.putfield 136, 3) := by decide +kernel
theorem dX12_init_392 : decode cX12_init 392 = .ok (.aload_n 0, 1) := by decide +kernel
theorem dX12_init_393 : decode cX12_init 393 = .ok (.iconst 0, 1) := by decide +kernel
theorem dX12_init_394 : decode cX12_init 394 = .ok (.putfield 139, 3) := by decide +kernel
theorem dX12_init_397 : decode cX12_init 397 = .ok (.aload_n 0, 1) := by decide +kernel
theorem dX12_init_398 : decode cX12_init 398 = .ok (.iconst 0, 1) := by decide +kernel
theorem dX12_init_399 : decode cX12_init 399 = .ok (.putfield 143, 3) := by decide +kernel
theorem dX12_init_402 : decode cX12_init 402 = .ok (.aload_n 0, 1) := by decide +kernel
theorem dX12_init_403 : decode cX12_init 403 = .ok (.bipush 9, 2) := by decide +kernel
theorem dX12_init_405 : decode cX12_init 405 = .ok (.newarray .int, 2) := by decide +kernel
theorem dX12_init_407 : decode cX12_init 407 = .ok (.putfield 146, 3) := by decide +kernel
theorem dX12_init_410 : decode cX12_init 410 = .ok (.aload_n 0, 1) := by decide +kernel
theorem dX12_init_411 : decode cX12_init 411 = .ok (.bipush 30, 2) := by decide +kernel
theorem dX12_init_413 : decode cX12_init 413 = .ok (.newarray .int, 2) := by decide +kernel
theorem dX12_init_415 : decode cX12_init 415 = .ok (.putfield 149, 3) := by decide +kernel
theorem dX12_init_418 : decode cX12_init 418 = .ok (.aload_n 0, 1) := by decide +kernel
theorem dX12_init_419 : decode cX12_init 419 = .ok (.bipush 30, 2) := by decide +kernel
theorem dX12_init_421 : decode cX12_init 421 = .ok (.newarray .int, 2) := by decide +kernel
theorem dX12_init_423 : decode cX12_init 423 = .ok (.putfield 152, 3) := by decide +kernel
theorem dX12_init_426 : decode cX12_init 426 = .ok (.aload_n 0, 1) := by decide +kernel
theorem dX12_init_427 : decode cX12_init 427 = .ok (.bipush 30, 2) := by decide +kernel
theorem dX12_init_429 : decode cX12_init 429 = .ok (.newarray .int, 2) := by decide +kernel
theorem dX12_init_431 : decode cX12_init 431 = .ok (.putfield 155, 3) := by decide +kernel
theorem dX12_init_434 : decode cX12_init 434 = .ok (.aload_n 0, 1) := by decide +kernel
theorem dX12_init_435 : decode cX12_init 435 = .ok (.bipush 12, 2) := by decide +kernel
theorem dX12_init_437 : decode cX12_init 437 = .ok (.newarray .int, 2) := by decide +kernel
theorem dX12_init_439 : decode cX12_init 439 = .ok (.putfield 158, 3) := by decide +kernel
theorem dX12_init_442 : decode cX12_init 442 = .ok (.aload_n 0, 1) := by decide +kernel
theorem dX12_init_443 : decode cX12_init 443 = .ok (.iconst 0, 1) := by decide +kernel
theorem dX12_init_444 : decode cX12_init 444 = .ok (.putfield 161, 3) := by decide +kernel
theorem dX12_init_447 : decode cX12_init 447 = .ok (.aload_n 0, 1) := by decide +kernel
theorem dX12_init_448 : decode cX12_init 448 = .ok (.bipush 20, 2) := by decide +kernel
theorem dX12_init_450 : decode cX12_init 450 = .ok (.newarray .int, 2) := by decide +kernel
theorem dX12_init_452 : decode cX12_init 452 = .ok (.putfield 164, 3) := by decide +kernel
theorem dX12_init_455 : decode cX12_init 455 = .ok (.aload_n 0, 1) := by decide +kernel
theorem dX12_init_456 : decode cX12_init 456 = .ok (.bipush 6, 2) := by decide +kernel
theorem dX12_init_458 : decode cX12_init 458 = .ok (.newarray .int, 2) := by decide +kernel
theorem dX12_init_460 : decode cX12_init 460 = .ok (.dup, 1) := by decide +kernel
theorem dX12_init_461 : decode cX12_init 461 = .ok (.iconst 0, 1) := by decide +kernel
theorem dX12_init_462 : decode cX12_init 462 = .ok (.iconst (-1), 1) := by decide +kernel
theorem dX12_init_463 : decode cX12_init 463 = .ok (.iastore, 1) := by decide +kernel
theorem dX12_init_464 : decode cX12_init 464 = .ok (.dup, 1) := by decide +kernel
theorem dX12_init_465 : decode cX12_init 465 = .ok (.iconst 1, 1) := by decide +kernel
theorem dX12_init_466 : decode cX12_init 466 = .ok (.iconst (-1), 1) := by decide +kernel
theorem dX12_init_467 : decode cX12_init 467 = .ok (.iastore, 1) := by decide +kernel
theorem dX12_init_468 : decode cX12_init 468 = .ok (.dup, 1) := by decide +kernel
theorem dX12_init_469 : decode cX12_init 469 = .ok (.iconst 2, 1) := by decide +kernel
theorem dX12_init_470 : decode cX12_init 470 = .ok (.iconst (-1), 1) := by decide +kernel
theorem dX12_init_471 : decode cX12_init 471 = .ok (.iastore, 1) := by decide +kernel
theorem dX12_init_472 : decode cX12_init 472 = .ok (.dup, 1) := by decide +kernel
theorem dX12_init_473 : decode cX12_init 473 = .ok (.iconst 3, 1) := by decide +kernel
theorem dX12_init_474 : decode cX12_init 474 = .ok (.iconst (-1), 1) := by decide +kernel
theorem dX12_init_475 : decode cX12_init 475 = .ok (.iastore, 1) := by decide +kernel
theorem dX12_init_476 : decode cX12_init 476 = .ok (.dup, 1) := by decide +kernel
theorem dX12_init_477 : decode cX12_init 477 = .ok (.iconst 4, 1) := by decide +kernel
theorem dX12_init_478 : decode cX12_init 478 = .ok (.iconst (-1), 1) := by decide +kernel
theorem dX12_init_479 : decode cX12_init 479 = .ok (.iastore, 1) := by decide +kernel
theorem dX12_init_480 : decode cX12_init 480 = .ok (.dup, 1) := by decide +kernel
theorem dX12_init_481 : decode cX12_init 481 = .ok (.iconst 5, 1) := by decide +kernel
theorem dX12_init_482 : decode cX12_init 482 = .ok (.iconst (-1), 1) := by decide +kernel
theorem dX12_init_483 : decode cX12_init 483 = .ok (.iastore, 1) := by decide +kernel
theorem dX12_init_484 : decode cX12_init 484 = .ok (.putfield 167, 3) := by decide +kernel
theorem dX12_init_487 : decode cX12_init 487 = .ok (.aload_n 0, 1) := by decide +kernel
theorem dX12_init_488 : decode cX12_init 488 = .ok (.bipush 6, 2) := by decide +kernel
theorem dX12_init_490 : decode cX12_init 490 = .ok (.newarray .int, 2) := by decide +kernel
theorem dX12_init_492 : decode cX12_init 492 = .ok (.putfield 170, 3) := by decide +kernel
theorem dX12_init_495 : decode cX12_init 495 = .ok (.aload_n 0, 1) := by decide +kernel
theorem dX12_init_496 : decode cX12_init 496 = .ok (.sipush 360, 3) := by decide +kernel
theorem dX12_init_499 : decode cX12_init 499 = .ok (.newarray .long, 2) := by decide +kernel
theorem dX12_init_501 : decode cX12_init 501 = .ok (.putfield 173, 3) := by decide +kernel
theorem dX12_init_504 : decode cX12_init 504 = .ok (.aload_n 0, 1) := by decide +kernel
theorem dX12_init_505 : decode cX12_init 505 = .ok (.bipush 60, 2) := by decide +kernel
theorem dX12_init_507 : decode cX12_init 507 = .ok (.newarray .long, 2) := by decide +kernel
theorem dX12_init_509 : decode cX12_init 509 = .ok (.putfield 177, 3) := by decide +kernel
theorem dX12_init_512 : decode cX12_init 512 = .ok (.return_, 1) := by decide +kernel
def st_83 (f f' g h : Nat → Int32) : Mm := mA (st_82 f f' g h) (1, 9)
theorem hz_83 (f f' g h : Nat → Int32) : Lz 64 (st_83 f f' g h) := (hz_82 f f' g h).ma rfl
theorem hp_83 (f f' g h : Nat → Int32) : Pz ps_36 (st_83 f f' g h) := (hp_82 f f' g h).ma (hz_82 f f' g h) (by decide +kernel)
def st_84 (f f' g h : Nat → Int32) : Mm := sI (st_83 f f' g h) 63 0 50
theorem hz_84 (f f' g h : Nat → Int32) : Lz 64 (st_84 f f' g h) := (hz_83 f f' g h).si
theorem hp_84 (f f' g h : Nat → Int32) : Pz ps_36 (st_84 f f' g h) := (hp_83 f f' g h).si
def st_85 (f f' g h : Nat → Int32) : Mm := sI (st_84 f f' g h) 63 1 50
theorem hz_85 (f f' g h : Nat → Int32) : Lz 64 (st_85 f f' g h) := (hz_84 f f' g h).si
theorem hp_85 (f f' g h : Nat → Int32) : Pz ps_36 (st_85 f f' g h) := (hp_84 f f' g h).si
def st_86 (f f' g h : Nat → Int32) : Mm := sI (st_85 f f' g h) 63 2 50
theorem hz_86 (f f' g h : Nat → Int32) : Lz 64 (st_86 f f' g h) := (hz_85 f f' g h).si
theorem hp_86 (f f' g h : Nat → Int32) : Pz ps_36 (st_86 f f' g h) := (hp_85 f f' g h).si
def st_87 (f f' g h : Nat → Int32) : Mm := sI (st_86 f f' g h) 63 3 50
theorem hz_87 (f f' g h : Nat → Int32) : Lz 64 (st_87 f f' g h) := (hz_86 f f' g h).si
theorem hp_87 (f f' g h : Nat → Int32) : Pz ps_36 (st_87 f f' g h) := (hp_86 f f' g h).si
def st_88 (f f' g h : Nat → Int32) : Mm := sI (st_87 f f' g h) 63 4 50
theorem hz_88 (f f' g h : Nat → Int32) : Lz 64 (st_88 f f' g h) := (hz_87 f f' g h).si
theorem hp_88 (f f' g h : Nat → Int32) : Pz ps_36 (st_88 f f' g h) := (hp_87 f f' g h).si
def st_89 (f f' g h : Nat → Int32) : Mm := sI (st_88 f f' g h) 63 5 50
theorem hz_89 (f f' g h : Nat → Int32) : Lz 64 (st_89 f f' g h) := (hz_88 f f' g h).si
theorem hp_89 (f f' g h : Nat → Int32) : Pz ps_36 (st_89 f f' g h) := (hp_88 f f' g h).si
def st_90 (f f' g h : Nat → Int32) : Mm := sI (st_89 f f' g h) 63 6 50
theorem hz_90 (f f' g h : Nat → Int32) : Lz 64 (st_90 f f' g h) := (hz_89 f f' g h).si
theorem hp_90 (f f' g h : Nat → Int32) : Pz ps_36 (st_90 f f' g h) := (hp_89 f f' g h).si
def st_91 (f f' g h : Nat → Int32) : Mm := sI (st_90 f f' g h) 63 7 50
theorem hz_91 (f f' g h : Nat → Int32) : Lz 64 (st_91 f f' g h) := (hz_90 f f' g h).si
theorem hp_91 (f f' g h : Nat → Int32) : Pz ps_36 (st_91 f f' g h) := (hp_90 f f' g h).si
def st_92 (f f' g h : Nat → Int32) : Mm := sI (st_91 f f' g h) 63 8 50
theorem hz_92 (f f' g h : Nat → Int32) : Lz 64 (st_92 f f' g h) := (hz_91 f f' g h).si
theorem hp_92 (f f' g h : Nat → Int32) : Pz ps_36 (st_92 f f' g h) := (hp_91 f f' g h).si
def st_93 (f f' g h : Nat → Int32) : Mm := sP (st_92 f f' g h) 62 0 (some 63)
def ps_37 : List (Nat × Nat × Nat) := (62, 0, 63) :: ps_36
theorem hz_93 (f f' g h : Nat → Int32) : Lz 64 (st_93 f f' g h) := (hz_92 f f' g h).sp
theorem hp_93 (f f' g h : Nat → Int32) : Pz ps_37 (st_93 f f' g h) := (hp_92 f f' g h).sp (by decide +kernel)
def st_94 (f f' g h : Nat → Int32) : Mm := sI (st_93 f f' g h) 62 1 0
theorem hz_94 (f f' g h : Nat → Int32) : Lz 64 (st_94 f f' g h) := (hz_93 f f' g h).si
theorem hp_94 (f f' g h : Nat → Int32) : Pz ps_37 (st_94 f f' g h) := (hp_93 f f' g h).si
def st_95 (f f' g h : Nat → Int32) : Mm := sI (st_94 f f' g h) 62 2 0
theorem hz_95 (f f' g h : Nat → Int32) : Lz 64 (st_95 f f' g h) := (hz_94 f f' g h).si
theorem hp_95 (f f' g h : Nat → Int32) : Pz ps_37 (st_95 f f' g h) := (hp_94 f f' g h).si
def st_96 (f f' g h : Nat → Int32) : Mm := sI (st_95 f f' g h) 62 3 0
theorem hz_96 (f f' g h : Nat → Int32) : Lz 64 (st_96 f f' g h) := (hz_95 f f' g h).si
theorem hp_96 (f f' g h : Nat → Int32) : Pz ps_37 (st_96 f f' g h) := (hp_95 f f' g h).si
def st_97 (f f' g h : Nat → Int32) : Mm := sI (st_96 f f' g h) 62 4 0
theorem hz_97 (f f' g h : Nat → Int32) : Lz 64 (st_97 f f' g h) := (hz_96 f f' g h).si
theorem hp_97 (f f' g h : Nat → Int32) : Pz ps_37 (st_97 f f' g h) := (hp_96 f f' g h).si
def st_98 (f f' g h : Nat → Int32) : Mm := mA (st_97 f f' g h) (1, 100)
theorem hz_98 (f f' g h : Nat → Int32) : Lz 65 (st_98 f f' g h) := (hz_97 f f' g h).ma rfl
theorem hp_98 (f f' g h : Nat → Int32) : Pz ps_37 (st_98 f f' g h) := (hp_97 f f' g h).ma (hz_97 f f' g h) (by decide +kernel)
def st_99 (f f' g h : Nat → Int32) : Mm := sP (st_98 f f' g h) 62 5 (some 64)
def ps_38 : List (Nat × Nat × Nat) := (62, 5, 64) :: ps_37
theorem hz_99 (f f' g h : Nat → Int32) : Lz 65 (st_99 f f' g h) := (hz_98 f f' g h).sp
theorem hp_99 (f f' g h : Nat → Int32) : Pz ps_38 (st_99 f f' g h) := (hp_98 f f' g h).sp (by decide +kernel)
def st_100 (f f' g h : Nat → Int32) : Mm := mA (st_99 f f' g h) (1, 7)
theorem hz_100 (f f' g h : Nat → Int32) : Lz 66 (st_100 f f' g h) := (hz_99 f f' g h).ma rfl
theorem hp_100 (f f' g h : Nat → Int32) : Pz ps_38 (st_100 f f' g h) := (hp_99 f f' g h).ma (hz_99 f f' g h) (by decide +kernel)
def st_101 (f f' g h : Nat → Int32) : Mm := sP (st_100 f f' g h) 62 6 (some 65)
def ps_39 : List (Nat × Nat × Nat) := (62, 6, 65) :: ps_38
theorem hz_101 (f f' g h : Nat → Int32) : Lz 66 (st_101 f f' g h) := (hz_100 f f' g h).sp
theorem hp_101 (f f' g h : Nat → Int32) : Pz ps_39 (st_101 f f' g h) := (hp_100 f f' g h).sp (by decide +kernel)
def st_102 (f f' g h : Nat → Int32) : Mm := mA (st_101 f f' g h) (1, 56)
theorem hz_102 (f f' g h : Nat → Int32) : Lz 67 (st_102 f f' g h) := (hz_101 f f' g h).ma rfl
theorem hp_102 (f f' g h : Nat → Int32) : Pz ps_39 (st_102 f f' g h) := (hp_101 f f' g h).ma (hz_101 f f' g h) (by decide +kernel)
def st_103 (f f' g h : Nat → Int32) : Mm := sP (st_102 f f' g h) 62 7 (some 66)
def ps_40 : List (Nat × Nat × Nat) := (62, 7, 66) :: ps_39
theorem hz_103 (f f' g h : Nat → Int32) : Lz 67 (st_103 f f' g h) := (hz_102 f f' g h).sp
theorem hp_103 (f f' g h : Nat → Int32) : Pz ps_40 (st_103 f f' g h) := (hp_102 f f' g h).sp (by decide +kernel)
def st_104 (f f' g h : Nat → Int32) : Mm := mA (st_103 f f' g h) (1, 56)
theorem hz_104 (f f' g h : Nat → Int32) : Lz 68 (st_104 f f' g h) := (hz_103 f f' g h).ma rfl
theorem hp_104 (f f' g h : Nat → Int32) : Pz ps_40 (st_104 f f' g h) := (hp_103 f f' g h).ma (hz_103 f f' g h) (by decide +kernel)
def st_105 (f f' g h : Nat → Int32) : Mm := sP (st_104 f f' g h) 62 8 (some 67)
def ps_41 : List (Nat × Nat × Nat) := (62, 8, 67) :: ps_40
theorem hz_105 (f f' g h : Nat → Int32) : Lz 68 (st_105 f f' g h) := (hz_104 f f' g h).sp
theorem hp_105 (f f' g h : Nat → Int32) : Pz ps_41 (st_105 f f' g h) := (hp_104 f f' g h).sp (by decide +kernel)
def st_106 (f f' g h : Nat → Int32) : Mm := mA (st_105 f f' g h) (1, 56)
theorem hz_106 (f f' g h : Nat → Int32) : Lz 69 (st_106 f f' g h) := (hz_105 f f' g h).ma rfl
theorem hp_106 (f f' g h : Nat → Int32) : Pz ps_41 (st_106 f f' g h) := (hp_105 f f' g h).ma (hz_105 f f' g h) (by decide +kernel)
def st_107 (f f' g h : Nat → Int32) : Mm := sP (st_106 f f' g h) 62 9 (some 68)
def ps_42 : List (Nat × Nat × Nat) := (62, 9, 68) :: ps_41
theorem hz_107 (f f' g h : Nat → Int32) : Lz 69 (st_107 f f' g h) := (hz_106 f f' g h).sp
theorem hp_107 (f f' g h : Nat → Int32) : Pz ps_42 (st_107 f f' g h) := (hp_106 f f' g h).sp (by decide +kernel)
def st_108 (f f' g h : Nat → Int32) : Mm := mA (st_107 f f' g h) (1, 56)
theorem hz_108 (f f' g h : Nat → Int32) : Lz 70 (st_108 f f' g h) := (hz_107 f f' g h).ma rfl
theorem hp_108 (f f' g h : Nat → Int32) : Pz ps_42 (st_108 f f' g h) := (hp_107 f f' g h).ma (hz_107 f f' g h) (by decide +kernel)
def st_109 (f f' g h : Nat → Int32) : Mm := sP (st_108 f f' g h) 62 10 (some 69)
def ps_43 : List (Nat × Nat × Nat) := (62, 10, 69) :: ps_42
theorem hz_109 (f f' g h : Nat → Int32) : Lz 70 (st_109 f f' g h) := (hz_108 f f' g h).sp
theorem hp_109 (f f' g h : Nat → Int32) : Pz ps_43 (st_109 f f' g h) := (hp_108 f f' g h).sp (by decide +kernel)
def st_110 (f f' g h : Nat → Int32) : Mm := mA (st_109 f f' g h) (1, 700)
theorem hz_110 (f f' g h : Nat → Int32) : Lz 71 (st_110 f f' g h) := (hz_109 f f' g h).ma rfl
theorem hp_110 (f f' g h : Nat → Int32) : Pz ps_43 (st_110 f f' g h) := (hp_109 f f' g h).ma (hz_109 f f' g h) (by decide +kernel)
def st_111 (f f' g h : Nat → Int32) : Mm := sP (st_110 f f' g h) 62 11 (some 70)
def ps_44 : List (Nat × Nat × Nat) := (62, 11, 70) :: ps_43
theorem hz_111 (f f' g h : Nat → Int32) : Lz 71 (st_111 f f' g h) := (hz_110 f f' g h).sp
theorem hp_111 (f f' g h : Nat → Int32) : Pz ps_44 (st_111 f f' g h) := (hp_110 f f' g h).sp (by decide +kernel)
def st_112 (f f' g h : Nat → Int32) : Mm := mA (st_111 f f' g h) (1, 101)
theorem hz_112 (f f' g h : Nat → Int32) : Lz 72 (st_112 f f' g h) := (hz_111 f f' g h).ma rfl
theorem hp_112 (f f' g h : Nat → Int32) : Pz ps_44 (st_112 f f' g h) := (hp_111 f f' g h).ma (hz_111 f f' g h) (by decide +kernel)
def st_113 (f f' g h : Nat → Int32) : Mm := sP (st_112 f f' g h) 62 12 (some 71)
def ps_45 : List (Nat × Nat × Nat) := (62, 12, 71) :: ps_44
theorem hz_113 (f f' g h : Nat → Int32) : Lz 72 (st_113 f f' g h) := (hz_112 f f' g h).sp
theorem hp_113 (f f' g h : Nat → Int32) : Pz ps_45 (st_113 f f' g h) := (hp_112 f f' g h).sp (by decide +kernel)
def st_114 (f f' g h : Nat → Int32) : Mm := sI (st_113 f f' g h) 62 13 0
theorem hz_114 (f f' g h : Nat → Int32) : Lz 72 (st_114 f f' g h) := (hz_113 f f' g h).si
theorem hp_114 (f f' g h : Nat → Int32) : Pz ps_45 (st_114 f f' g h) := (hp_113 f f' g h).si
def st_115 (f f' g h : Nat → Int32) : Mm := sI (st_114 f f' g h) 62 14 0
theorem hz_115 (f f' g h : Nat → Int32) : Lz 72 (st_115 f f' g h) := (hz_114 f f' g h).si
theorem hp_115 (f f' g h : Nat → Int32) : Pz ps_45 (st_115 f f' g h) := (hp_114 f f' g h).si
def st_116 (f f' g h : Nat → Int32) : Mm := sI (st_115 f f' g h) 62 15 0
theorem hz_116 (f f' g h : Nat → Int32) : Lz 72 (st_116 f f' g h) := (hz_115 f f' g h).si
theorem hp_116 (f f' g h : Nat → Int32) : Pz ps_45 (st_116 f f' g h) := (hp_115 f f' g h).si
def st_117 (f f' g h : Nat → Int32) : Mm := mA (st_116 f f' g h) (1, 4)
theorem hz_117 (f f' g h : Nat → Int32) : Lz 73 (st_117 f f' g h) := (hz_116 f f' g h).ma rfl
theorem hp_117 (f f' g h : Nat → Int32) : Pz ps_45 (st_117 f f' g h) := (hp_116 f f' g h).ma (hz_116 f f' g h) (by decide +kernel)
def st_118 (f f' g h : Nat → Int32) : Mm := sP (st_117 f f' g h) 62 16 (some 72)
def ps_46 : List (Nat × Nat × Nat) := (62, 16, 72) :: ps_45
theorem hz_118 (f f' g h : Nat → Int32) : Lz 73 (st_118 f f' g h) := (hz_117 f f' g h).sp
theorem hp_118 (f f' g h : Nat → Int32) : Pz ps_46 (st_118 f f' g h) := (hp_117 f f' g h).sp (by decide +kernel)
def st_119 (f f' g h : Nat → Int32) : Mm := mA (st_118 f f' g h) (3, 100)
theorem hz_119 (f f' g h : Nat → Int32) : Lz 74 (st_119 f f' g h) := (hz_118 f f' g h).ma rfl
theorem hp_119 (f f' g h : Nat → Int32) : Pz ps_46 (st_119 f f' g h) := (hp_118 f f' g h).ma (hz_118 f f' g h) (by decide +kernel)
def st_120 (f f' g h : Nat → Int32) : Mm := sP (st_119 f f' g h) 62 17 (some 73)
def ps_47 : List (Nat × Nat × Nat) := (62, 17, 73) :: ps_46
theorem hz_120 (f f' g h : Nat → Int32) : Lz 74 (st_120 f f' g h) := (hz_119 f f' g h).sp
theorem hp_120 (f f' g h : Nat → Int32) : Pz ps_47 (st_120 f f' g h) := (hp_119 f f' g h).sp (by decide +kernel)
def st_121 (f f' g h : Nat → Int32) : Mm := sI (st_120 f f' g h) 62 18 0
theorem hz_121 (f f' g h : Nat → Int32) : Lz 74 (st_121 f f' g h) := (hz_120 f f' g h).si
theorem hp_121 (f f' g h : Nat → Int32) : Pz ps_47 (st_121 f f' g h) := (hp_120 f f' g h).si
def st_122 (f f' g h : Nat → Int32) : Mm := mA (st_121 f f' g h) (1, 11)
theorem hz_122 (f f' g h : Nat → Int32) : Lz 75 (st_122 f f' g h) := (hz_121 f f' g h).ma rfl
theorem hp_122 (f f' g h : Nat → Int32) : Pz ps_47 (st_122 f f' g h) := (hp_121 f f' g h).ma (hz_121 f f' g h) (by decide +kernel)
def st_123 (f f' g h : Nat → Int32) : Mm := sP (st_122 f f' g h) 62 19 (some 74)
def ps_48 : List (Nat × Nat × Nat) := (62, 19, 74) :: ps_47
theorem hz_123 (f f' g h : Nat → Int32) : Lz 75 (st_123 f f' g h) := (hz_122 f f' g h).sp
theorem hp_123 (f f' g h : Nat → Int32) : Pz ps_48 (st_123 f f' g h) := (hp_122 f f' g h).sp (by decide +kernel)
def st_124 (f f' g h : Nat → Int32) : Mm := mA (st_123 f f' g h) (1, 11)
theorem hz_124 (f f' g h : Nat → Int32) : Lz 76 (st_124 f f' g h) := (hz_123 f f' g h).ma rfl
theorem hp_124 (f f' g h : Nat → Int32) : Pz ps_48 (st_124 f f' g h) := (hp_123 f f' g h).ma (hz_123 f f' g h) (by decide +kernel)
def st_125 (f f' g h : Nat → Int32) : Mm := sP (st_124 f f' g h) 62 20 (some 75)
def ps_49 : List (Nat × Nat × Nat) := (62, 20, 75) :: ps_48
theorem hz_125 (f f' g h : Nat → Int32) : Lz 76 (st_125 f f' g h) := (hz_124 f f' g h).sp
theorem hp_125 (f f' g h : Nat → Int32) : Pz ps_49 (st_125 f f' g h) := (hp_124 f f' g h).sp (by decide +kernel)
def st_126 (f f' g h : Nat → Int32) : Mm := mA (st_125 f f' g h) (1, 11)
theorem hz_126 (f f' g h : Nat → Int32) : Lz 77 (st_126 f f' g h) := (hz_125 f f' g h).ma rfl
theorem hp_126 (f f' g h : Nat → Int32) : Pz ps_49 (st_126 f f' g h) := (hp_125 f f' g h).ma (hz_125 f f' g h) (by decide +kernel)
def st_127 (f f' g h : Nat → Int32) : Mm := sP (st_126 f f' g h) 62 21 (some 76)
def ps_50 : List (Nat × Nat × Nat) := (62, 21, 76) :: ps_49
theorem hz_127 (f f' g h : Nat → Int32) : Lz 77 (st_127 f f' g h) := (hz_126 f f' g h).sp
theorem hp_127 (f f' g h : Nat → Int32) : Pz ps_50 (st_127 f f' g h) := (hp_126 f f' g h).sp (by decide +kernel)
def st_128 (f f' g h : Nat → Int32) : Mm := mA (st_127 f f' g h) (1, 6)
theorem hz_128 (f f' g h : Nat → Int32) : Lz 78 (st_128 f f' g h) := (hz_127 f f' g h).ma rfl
theorem hp_128 (f f' g h : Nat → Int32) : Pz ps_50 (st_128 f f' g h) := (hp_127 f f' g h).ma (hz_127 f f' g h) (by decide +kernel)
def st_129 (f f' g h : Nat → Int32) : Mm := sP (st_128 f f' g h) 62 22 (some 77)
def ps_51 : List (Nat × Nat × Nat) := (62, 22, 77) :: ps_50
theorem hz_129 (f f' g h : Nat → Int32) : Lz 78 (st_129 f f' g h) := (hz_128 f f' g h).sp
theorem hp_129 (f f' g h : Nat → Int32) : Pz ps_51 (st_129 f f' g h) := (hp_128 f f' g h).sp (by decide +kernel)
def st_130 (f f' g h : Nat → Int32) : Mm := sI (st_129 f f' g h) 62 23 0
theorem hz_130 (f f' g h : Nat → Int32) : Lz 78 (st_130 f f' g h) := (hz_129 f f' g h).si
theorem hp_130 (f f' g h : Nat → Int32) : Pz ps_51 (st_130 f f' g h) := (hp_129 f f' g h).si
def st_131 (f f' g h : Nat → Int32) : Mm := sI (st_130 f f' g h) 62 24 0
theorem hz_131 (f f' g h : Nat → Int32) : Lz 78 (st_131 f f' g h) := (hz_130 f f' g h).si
theorem hp_131 (f f' g h : Nat → Int32) : Pz ps_51 (st_131 f f' g h) := (hp_130 f f' g h).si
def st_132 (f f' g h : Nat → Int32) : Mm := mA (st_131 f f' g h) (1, 6)
theorem hz_132 (f f' g h : Nat → Int32) : Lz 79 (st_132 f f' g h) := (hz_131 f f' g h).ma rfl
theorem hp_132 (f f' g h : Nat → Int32) : Pz ps_51 (st_132 f f' g h) := (hp_131 f f' g h).ma (hz_131 f f' g h) (by decide +kernel)
def st_133 (f f' g h : Nat → Int32) : Mm := sP (st_132 f f' g h) 62 25 (some 78)
def ps_52 : List (Nat × Nat × Nat) := (62, 25, 78) :: ps_51
theorem hz_133 (f f' g h : Nat → Int32) : Lz 79 (st_133 f f' g h) := (hz_132 f f' g h).sp
theorem hp_133 (f f' g h : Nat → Int32) : Pz ps_52 (st_133 f f' g h) := (hp_132 f f' g h).sp (by decide +kernel)
def st_134 (f f' g h : Nat → Int32) : Mm := sI (st_133 f f' g h) 62 26 3
theorem hz_134 (f f' g h : Nat → Int32) : Lz 79 (st_134 f f' g h) := (hz_133 f f' g h).si
theorem hp_134 (f f' g h : Nat → Int32) : Pz ps_52 (st_134 f f' g h) := (hp_133 f f' g h).si
def st_135 (f f' g h : Nat → Int32) : Mm := sI (st_134 f f' g h) 62 27 3
theorem hz_135 (f f' g h : Nat → Int32) : Lz 79 (st_135 f f' g h) := (hz_134 f f' g h).si
theorem hp_135 (f f' g h : Nat → Int32) : Pz ps_52 (st_135 f f' g h) := (hp_134 f f' g h).si
def st_136 (f f' g h : Nat → Int32) : Mm := sI (st_135 f f' g h) 62 28 0
theorem hz_136 (f f' g h : Nat → Int32) : Lz 79 (st_136 f f' g h) := (hz_135 f f' g h).si
theorem hp_136 (f f' g h : Nat → Int32) : Pz ps_52 (st_136 f f' g h) := (hp_135 f f' g h).si
def st_137 (f f' g h : Nat → Int32) : Mm := sI (st_136 f f' g h) 62 29 10
theorem hz_137 (f f' g h : Nat → Int32) : Lz 79 (st_137 f f' g h) := (hz_136 f f' g h).si
theorem hp_137 (f f' g h : Nat → Int32) : Pz ps_52 (st_137 f f' g h) := (hp_136 f f' g h).si
def st_138 (f f' g h : Nat → Int32) : Mm := sL (st_137 f f' g h) 62 30 0
theorem hz_138 (f f' g h : Nat → Int32) : Lz 79 (st_138 f f' g h) := (hz_137 f f' g h).sl
theorem hp_138 (f f' g h : Nat → Int32) : Pz ps_52 (st_138 f f' g h) := (hp_137 f f' g h).sl
def st_139 (f f' g h : Nat → Int32) : Mm := sL (st_138 f f' g h) 62 31 1
theorem hz_139 (f f' g h : Nat → Int32) : Lz 79 (st_139 f f' g h) := (hz_138 f f' g h).sl
theorem hp_139 (f f' g h : Nat → Int32) : Pz ps_52 (st_139 f f' g h) := (hp_138 f f' g h).sl
def st_140 (f f' g h : Nat → Int32) : Mm := sI (st_139 f f' g h) 62 32 0
theorem hz_140 (f f' g h : Nat → Int32) : Lz 79 (st_140 f f' g h) := (hz_139 f f' g h).si
theorem hp_140 (f f' g h : Nat → Int32) : Pz ps_52 (st_140 f f' g h) := (hp_139 f f' g h).si
def st_141 (f f' g h : Nat → Int32) : Mm := mA (st_140 f f' g h) (1, 30)
theorem hz_141 (f f' g h : Nat → Int32) : Lz 80 (st_141 f f' g h) := (hz_140 f f' g h).ma rfl
theorem hp_141 (f f' g h : Nat → Int32) : Pz ps_52 (st_141 f f' g h) := (hp_140 f f' g h).ma (hz_140 f f' g h) (by decide +kernel)
def st_142 (f f' g h : Nat → Int32) : Mm := sP (st_141 f f' g h) 62 33 (some 79)
def ps_53 : List (Nat × Nat × Nat) := (62, 33, 79) :: ps_52
theorem hz_142 (f f' g h : Nat → Int32) : Lz 80 (st_142 f f' g h) := (hz_141 f f' g h).sp
theorem hp_142 (f f' g h : Nat → Int32) : Pz ps_53 (st_142 f f' g h) := (hp_141 f f' g h).sp (by decide +kernel)
def st_143 (f f' g h : Nat → Int32) : Mm := mA (st_142 f f' g h) (1, 30)
theorem hz_143 (f f' g h : Nat → Int32) : Lz 81 (st_143 f f' g h) := (hz_142 f f' g h).ma rfl
theorem hp_143 (f f' g h : Nat → Int32) : Pz ps_53 (st_143 f f' g h) := (hp_142 f f' g h).ma (hz_142 f f' g h) (by decide +kernel)
def st_144 (f f' g h : Nat → Int32) : Mm := sP (st_143 f f' g h) 62 34 (some 80)
def ps_54 : List (Nat × Nat × Nat) := (62, 34, 80) :: ps_53
theorem hz_144 (f f' g h : Nat → Int32) : Lz 81 (st_144 f f' g h) := (hz_143 f f' g h).sp
theorem hp_144 (f f' g h : Nat → Int32) : Pz ps_54 (st_144 f f' g h) := (hp_143 f f' g h).sp (by decide +kernel)
def st_145 (f f' g h : Nat → Int32) : Mm := mA (st_144 f f' g h) (1, 30)
theorem hz_145 (f f' g h : Nat → Int32) : Lz 82 (st_145 f f' g h) := (hz_144 f f' g h).ma rfl
theorem hp_145 (f f' g h : Nat → Int32) : Pz ps_54 (st_145 f f' g h) := (hp_144 f f' g h).ma (hz_144 f f' g h) (by decide +kernel)
def st_146 (f f' g h : Nat → Int32) : Mm := sP (st_145 f f' g h) 62 35 (some 81)
def ps_55 : List (Nat × Nat × Nat) := (62, 35, 81) :: ps_54
theorem hz_146 (f f' g h : Nat → Int32) : Lz 82 (st_146 f f' g h) := (hz_145 f f' g h).sp
theorem hp_146 (f f' g h : Nat → Int32) : Pz ps_55 (st_146 f f' g h) := (hp_145 f f' g h).sp (by decide +kernel)
def st_147 (f f' g h : Nat → Int32) : Mm := mA (st_146 f f' g h) (1, 12)
theorem hz_147 (f f' g h : Nat → Int32) : Lz 83 (st_147 f f' g h) := (hz_146 f f' g h).ma rfl
theorem hp_147 (f f' g h : Nat → Int32) : Pz ps_55 (st_147 f f' g h) := (hp_146 f f' g h).ma (hz_146 f f' g h) (by decide +kernel)
def st_148 (f f' g h : Nat → Int32) : Mm := sI (st_147 f f' g h) 82 0 (-1)
theorem hz_148 (f f' g h : Nat → Int32) : Lz 83 (st_148 f f' g h) := (hz_147 f f' g h).si
theorem hp_148 (f f' g h : Nat → Int32) : Pz ps_55 (st_148 f f' g h) := (hp_147 f f' g h).si
def st_149 (f f' g h : Nat → Int32) : Mm := sI (st_148 f f' g h) 82 1 (-1)
theorem hz_149 (f f' g h : Nat → Int32) : Lz 83 (st_149 f f' g h) := (hz_148 f f' g h).si
theorem hp_149 (f f' g h : Nat → Int32) : Pz ps_55 (st_149 f f' g h) := (hp_148 f f' g h).si
def st_150 (f f' g h : Nat → Int32) : Mm := sI (st_149 f f' g h) 82 2 (-1)
theorem hz_150 (f f' g h : Nat → Int32) : Lz 83 (st_150 f f' g h) := (hz_149 f f' g h).si
theorem hp_150 (f f' g h : Nat → Int32) : Pz ps_55 (st_150 f f' g h) := (hp_149 f f' g h).si
def st_151 (f f' g h : Nat → Int32) : Mm := sI (st_150 f f' g h) 82 3 (-1)
theorem hz_151 (f f' g h : Nat → Int32) : Lz 83 (st_151 f f' g h) := (hz_150 f f' g h).si
theorem hp_151 (f f' g h : Nat → Int32) : Pz ps_55 (st_151 f f' g h) := (hp_150 f f' g h).si
def st_152 (f f' g h : Nat → Int32) : Mm := sI (st_151 f f' g h) 82 4 (-1)
theorem hz_152 (f f' g h : Nat → Int32) : Lz 83 (st_152 f f' g h) := (hz_151 f f' g h).si
theorem hp_152 (f f' g h : Nat → Int32) : Pz ps_55 (st_152 f f' g h) := (hp_151 f f' g h).si
def st_153 (f f' g h : Nat → Int32) : Mm := sI (st_152 f f' g h) 82 5 (-1)
theorem hz_153 (f f' g h : Nat → Int32) : Lz 83 (st_153 f f' g h) := (hz_152 f f' g h).si
theorem hp_153 (f f' g h : Nat → Int32) : Pz ps_55 (st_153 f f' g h) := (hp_152 f f' g h).si
def st_154 (f f' g h : Nat → Int32) : Mm := sI (st_153 f f' g h) 82 6 (-1)
theorem hz_154 (f f' g h : Nat → Int32) : Lz 83 (st_154 f f' g h) := (hz_153 f f' g h).si
theorem hp_154 (f f' g h : Nat → Int32) : Pz ps_55 (st_154 f f' g h) := (hp_153 f f' g h).si
def st_155 (f f' g h : Nat → Int32) : Mm := sI (st_154 f f' g h) 82 7 (-1)
theorem hz_155 (f f' g h : Nat → Int32) : Lz 83 (st_155 f f' g h) := (hz_154 f f' g h).si
theorem hp_155 (f f' g h : Nat → Int32) : Pz ps_55 (st_155 f f' g h) := (hp_154 f f' g h).si
def st_156 (f f' g h : Nat → Int32) : Mm := sI (st_155 f f' g h) 82 8 (-1)
theorem hz_156 (f f' g h : Nat → Int32) : Lz 83 (st_156 f f' g h) := (hz_155 f f' g h).si
theorem hp_156 (f f' g h : Nat → Int32) : Pz ps_55 (st_156 f f' g h) := (hp_155 f f' g h).si
def st_157 (f f' g h : Nat → Int32) : Mm := sI (st_156 f f' g h) 82 9 (-1)
theorem hz_157 (f f' g h : Nat → Int32) : Lz 83 (st_157 f f' g h) := (hz_156 f f' g h).si
theorem hp_157 (f f' g h : Nat → Int32) : Pz ps_55 (st_157 f f' g h) := (hp_156 f f' g h).si
def st_158 (f f' g h : Nat → Int32) : Mm := sI (st_157 f f' g h) 82 10 (-1)
theorem hz_158 (f f' g h : Nat → Int32) : Lz 83 (st_158 f f' g h) := (hz_157 f f' g h).si
theorem hp_158 (f f' g h : Nat → Int32) : Pz ps_55 (st_158 f f' g h) := (hp_157 f f' g h).si
def st_159 (f f' g h : Nat → Int32) : Mm := sI (st_158 f f' g h) 82 11 (-1)
theorem hz_159 (f f' g h : Nat → Int32) : Lz 83 (st_159 f f' g h) := (hz_158 f f' g h).si
theorem hp_159 (f f' g h : Nat → Int32) : Pz ps_55 (st_159 f f' g h) := (hp_158 f f' g h).si
def st_160 (f f' g h : Nat → Int32) : Mm := sP (st_159 f f' g h) 62 36 (some 82)
def ps_56 : List (Nat × Nat × Nat) := (62, 36, 82) :: ps_55
theorem hz_160 (f f' g h : Nat → Int32) : Lz 83 (st_160 f f' g h) := (hz_159 f f' g h).sp
theorem hp_160 (f f' g h : Nat → Int32) : Pz ps_56 (st_160 f f' g h) := (hp_159 f f' g h).sp (by decide +kernel)
def st_161 (f f' g h : Nat → Int32) : Mm := mA (st_160 f f' g h) (1, 275)
theorem hz_161 (f f' g h : Nat → Int32) : Lz 84 (st_161 f f' g h) := (hz_160 f f' g h).ma rfl
theorem hp_161 (f f' g h : Nat → Int32) : Pz ps_56 (st_161 f f' g h) := (hp_160 f f' g h).ma (hz_160 f f' g h) (by decide +kernel)
def st_162 (f f' g h : Nat → Int32) : Mm := sP (st_161 f f' g h) 62 37 (some 83)
def ps_57 : List (Nat × Nat × Nat) := (62, 37, 83) :: ps_56
theorem hz_162 (f f' g h : Nat → Int32) : Lz 84 (st_162 f f' g h) := (hz_161 f f' g h).sp
theorem hp_162 (f f' g h : Nat → Int32) : Pz ps_57 (st_162 f f' g h) := (hp_161 f f' g h).sp (by decide +kernel)
def st_163 (f f' g h : Nat → Int32) : Mm := mA (st_162 f f' g h) (1, 55)
theorem hz_163 (f f' g h : Nat → Int32) : Lz 85 (st_163 f f' g h) := (hz_162 f f' g h).ma rfl
theorem hp_163 (f f' g h : Nat → Int32) : Pz ps_57 (st_163 f f' g h) := (hp_162 f f' g h).ma (hz_162 f f' g h) (by decide +kernel)
def st_164 (f f' g h : Nat → Int32) : Mm := sP (st_163 f f' g h) 62 38 (some 84)
def ps_58 : List (Nat × Nat × Nat) := (62, 38, 84) :: ps_57
theorem hz_164 (f f' g h : Nat → Int32) : Lz 85 (st_164 f f' g h) := (hz_163 f f' g h).sp
theorem hp_164 (f f' g h : Nat → Int32) : Pz ps_58 (st_164 f f' g h) := (hp_163 f f' g h).sp (by decide +kernel)
def st_165 (f f' g h : Nat → Int32) : Mm := mA (st_164 f f' g h) (1, 5)
theorem hz_165 (f f' g h : Nat → Int32) : Lz 86 (st_165 f f' g h) := (hz_164 f f' g h).ma rfl
theorem hp_165 (f f' g h : Nat → Int32) : Pz ps_58 (st_165 f f' g h) := (hp_164 f f' g h).ma (hz_164 f f' g h) (by decide +kernel)
def st_166 (f f' g h : Nat → Int32) : Mm := sP (st_165 f f' g h) 62 39 (some 85)
def ps_59 : List (Nat × Nat × Nat) := (62, 39, 85) :: ps_58
theorem hz_166 (f f' g h : Nat → Int32) : Lz 86 (st_166 f f' g h) := (hz_165 f f' g h).sp
theorem hp_166 (f f' g h : Nat → Int32) : Pz ps_59 (st_166 f f' g h) := (hp_165 f f' g h).sp (by decide +kernel)
def st_167 (f f' g h : Nat → Int32) : Mm := mA (st_166 f f' g h) (1, 5)
theorem hz_167 (f f' g h : Nat → Int32) : Lz 87 (st_167 f f' g h) := (hz_166 f f' g h).ma rfl
theorem hp_167 (f f' g h : Nat → Int32) : Pz ps_59 (st_167 f f' g h) := (hp_166 f f' g h).ma (hz_166 f f' g h) (by decide +kernel)
def st_168 (f f' g h : Nat → Int32) : Mm := sP (st_167 f f' g h) 62 40 (some 86)
def ps_60 : List (Nat × Nat × Nat) := (62, 40, 86) :: ps_59
theorem hz_168 (f f' g h : Nat → Int32) : Lz 87 (st_168 f f' g h) := (hz_167 f f' g h).sp
theorem hp_168 (f f' g h : Nat → Int32) : Pz ps_60 (st_168 f f' g h) := (hp_167 f f' g h).sp (by decide +kernel)
def st_169 (f f' g h : Nat → Int32) : Mm := mA (st_168 f f' g h) (1, 396)
theorem hz_169 (f f' g h : Nat → Int32) : Lz 88 (st_169 f f' g h) := (hz_168 f f' g h).ma rfl
theorem hp_169 (f f' g h : Nat → Int32) : Pz ps_60 (st_169 f f' g h) := (hp_168 f f' g h).ma (hz_168 f f' g h) (by decide +kernel)
def st_170 (f f' g h : Nat → Int32) : Mm := sP (st_169 f f' g h) 62 41 (some 87)
def ps_61 : List (Nat × Nat × Nat) := (62, 41, 87) :: ps_60
theorem hz_170 (f f' g h : Nat → Int32) : Lz 88 (st_170 f f' g h) := (hz_169 f f' g h).sp
theorem hp_170 (f f' g h : Nat → Int32) : Pz ps_61 (st_170 f f' g h) := (hp_169 f f' g h).sp (by decide +kernel)
def st_171 (f f' g h : Nat → Int32) : Mm := sI (st_170 f f' g h) 62 42 0
theorem hz_171 (f f' g h : Nat → Int32) : Lz 88 (st_171 f f' g h) := (hz_170 f f' g h).si
theorem hp_171 (f f' g h : Nat → Int32) : Pz ps_61 (st_171 f f' g h) := (hp_170 f f' g h).si
def st_172 (f f' g h : Nat → Int32) : Mm := sI (st_171 f f' g h) 62 43 0
theorem hz_172 (f f' g h : Nat → Int32) : Lz 88 (st_172 f f' g h) := (hz_171 f f' g h).si
theorem hp_172 (f f' g h : Nat → Int32) : Pz ps_61 (st_172 f f' g h) := (hp_171 f f' g h).si
def st_173 (f f' g h : Nat → Int32) : Mm := mA (st_172 f f' g h) (1, 9)
theorem hz_173 (f f' g h : Nat → Int32) : Lz 89 (st_173 f f' g h) := (hz_172 f f' g h).ma rfl
theorem hp_173 (f f' g h : Nat → Int32) : Pz ps_61 (st_173 f f' g h) := (hp_172 f f' g h).ma (hz_172 f f' g h) (by decide +kernel)
def st_174 (f f' g h : Nat → Int32) : Mm := sP (st_173 f f' g h) 62 44 (some 88)
def ps_62 : List (Nat × Nat × Nat) := (62, 44, 88) :: ps_61
theorem hz_174 (f f' g h : Nat → Int32) : Lz 89 (st_174 f f' g h) := (hz_173 f f' g h).sp
theorem hp_174 (f f' g h : Nat → Int32) : Pz ps_62 (st_174 f f' g h) := (hp_173 f f' g h).sp (by decide +kernel)
def st_175 (f f' g h : Nat → Int32) : Mm := mA (st_174 f f' g h) (1, 30)
theorem hz_175 (f f' g h : Nat → Int32) : Lz 90 (st_175 f f' g h) := (hz_174 f f' g h).ma rfl
theorem hp_175 (f f' g h : Nat → Int32) : Pz ps_62 (st_175 f f' g h) := (hp_174 f f' g h).ma (hz_174 f f' g h) (by decide +kernel)
def st_176 (f f' g h : Nat → Int32) : Mm := sP (st_175 f f' g h) 62 45 (some 89)
def ps_63 : List (Nat × Nat × Nat) := (62, 45, 89) :: ps_62
theorem hz_176 (f f' g h : Nat → Int32) : Lz 90 (st_176 f f' g h) := (hz_175 f f' g h).sp
theorem hp_176 (f f' g h : Nat → Int32) : Pz ps_63 (st_176 f f' g h) := (hp_175 f f' g h).sp (by decide +kernel)
def st_177 (f f' g h : Nat → Int32) : Mm := mA (st_176 f f' g h) (1, 30)
theorem hz_177 (f f' g h : Nat → Int32) : Lz 91 (st_177 f f' g h) := (hz_176 f f' g h).ma rfl
theorem hp_177 (f f' g h : Nat → Int32) : Pz ps_63 (st_177 f f' g h) := (hp_176 f f' g h).ma (hz_176 f f' g h) (by decide +kernel)
def st_178 (f f' g h : Nat → Int32) : Mm := sP (st_177 f f' g h) 62 46 (some 90)
def ps_64 : List (Nat × Nat × Nat) := (62, 46, 90) :: ps_63
theorem hz_178 (f f' g h : Nat → Int32) : Lz 91 (st_178 f f' g h) := (hz_177 f f' g h).sp
theorem hp_178 (f f' g h : Nat → Int32) : Pz ps_64 (st_178 f f' g h) := (hp_177 f f' g h).sp (by decide +kernel)
def st_179 (f f' g h : Nat → Int32) : Mm := mA (st_178 f f' g h) (1, 30)
theorem hz_179 (f f' g h : Nat → Int32) : Lz 92 (st_179 f f' g h) := (hz_178 f f' g h).ma rfl
theorem hp_179 (f f' g h : Nat → Int32) : Pz ps_64 (st_179 f f' g h) := (hp_178 f f' g h).ma (hz_178 f f' g h) (by decide +kernel)
def st_180 (f f' g h : Nat → Int32) : Mm := sP (st_179 f f' g h) 62 47 (some 91)
def ps_65 : List (Nat × Nat × Nat) := (62, 47, 91) :: ps_64
theorem hz_180 (f f' g h : Nat → Int32) : Lz 92 (st_180 f f' g h) := (hz_179 f f' g h).sp
theorem hp_180 (f f' g h : Nat → Int32) : Pz ps_65 (st_180 f f' g h) := (hp_179 f f' g h).sp (by decide +kernel)
def st_181 (f f' g h : Nat → Int32) : Mm := mA (st_180 f f' g h) (1, 12)
theorem hz_181 (f f' g h : Nat → Int32) : Lz 93 (st_181 f f' g h) := (hz_180 f f' g h).ma rfl
theorem hp_181 (f f' g h : Nat → Int32) : Pz ps_65 (st_181 f f' g h) := (hp_180 f f' g h).ma (hz_180 f f' g h) (by decide +kernel)
def st_182 (f f' g h : Nat → Int32) : Mm := sP (st_181 f f' g h) 62 48 (some 92)
def ps_66 : List (Nat × Nat × Nat) := (62, 48, 92) :: ps_65
theorem hz_182 (f f' g h : Nat → Int32) : Lz 93 (st_182 f f' g h) := (hz_181 f f' g h).sp
theorem hp_182 (f f' g h : Nat → Int32) : Pz ps_66 (st_182 f f' g h) := (hp_181 f f' g h).sp (by decide +kernel)
def st_183 (f f' g h : Nat → Int32) : Mm := sI (st_182 f f' g h) 62 49 0
theorem hz_183 (f f' g h : Nat → Int32) : Lz 93 (st_183 f f' g h) := (hz_182 f f' g h).si
theorem hp_183 (f f' g h : Nat → Int32) : Pz ps_66 (st_183 f f' g h) := (hp_182 f f' g h).si
def st_184 (f f' g h : Nat → Int32) : Mm := mA (st_183 f f' g h) (1, 20)
theorem hz_184 (f f' g h : Nat → Int32) : Lz 94 (st_184 f f' g h) := (hz_183 f f' g h).ma rfl
theorem hp_184 (f f' g h : Nat → Int32) : Pz ps_66 (st_184 f f' g h) := (hp_183 f f' g h).ma (hz_183 f f' g h) (by decide +kernel)
def st_185 (f f' g h : Nat → Int32) : Mm := sP (st_184 f f' g h) 62 50 (some 93)
def ps_67 : List (Nat × Nat × Nat) := (62, 50, 93) :: ps_66
theorem hz_185 (f f' g h : Nat → Int32) : Lz 94 (st_185 f f' g h) := (hz_184 f f' g h).sp
theorem hp_185 (f f' g h : Nat → Int32) : Pz ps_67 (st_185 f f' g h) := (hp_184 f f' g h).sp (by decide +kernel)
def st_186 (f f' g h : Nat → Int32) : Mm := mA (st_185 f f' g h) (1, 6)
theorem hz_186 (f f' g h : Nat → Int32) : Lz 95 (st_186 f f' g h) := (hz_185 f f' g h).ma rfl
theorem hp_186 (f f' g h : Nat → Int32) : Pz ps_67 (st_186 f f' g h) := (hp_185 f f' g h).ma (hz_185 f f' g h) (by decide +kernel)
def st_187 (f f' g h : Nat → Int32) : Mm := sI (st_186 f f' g h) 94 0 (-1)
theorem hz_187 (f f' g h : Nat → Int32) : Lz 95 (st_187 f f' g h) := (hz_186 f f' g h).si
theorem hp_187 (f f' g h : Nat → Int32) : Pz ps_67 (st_187 f f' g h) := (hp_186 f f' g h).si
def st_188 (f f' g h : Nat → Int32) : Mm := sI (st_187 f f' g h) 94 1 (-1)
theorem hz_188 (f f' g h : Nat → Int32) : Lz 95 (st_188 f f' g h) := (hz_187 f f' g h).si
theorem hp_188 (f f' g h : Nat → Int32) : Pz ps_67 (st_188 f f' g h) := (hp_187 f f' g h).si
def st_189 (f f' g h : Nat → Int32) : Mm := sI (st_188 f f' g h) 94 2 (-1)
theorem hz_189 (f f' g h : Nat → Int32) : Lz 95 (st_189 f f' g h) := (hz_188 f f' g h).si
theorem hp_189 (f f' g h : Nat → Int32) : Pz ps_67 (st_189 f f' g h) := (hp_188 f f' g h).si
def st_190 (f f' g h : Nat → Int32) : Mm := sI (st_189 f f' g h) 94 3 (-1)
theorem hz_190 (f f' g h : Nat → Int32) : Lz 95 (st_190 f f' g h) := (hz_189 f f' g h).si
theorem hp_190 (f f' g h : Nat → Int32) : Pz ps_67 (st_190 f f' g h) := (hp_189 f f' g h).si
def st_191 (f f' g h : Nat → Int32) : Mm := sI (st_190 f f' g h) 94 4 (-1)
theorem hz_191 (f f' g h : Nat → Int32) : Lz 95 (st_191 f f' g h) := (hz_190 f f' g h).si
theorem hp_191 (f f' g h : Nat → Int32) : Pz ps_67 (st_191 f f' g h) := (hp_190 f f' g h).si
def st_192 (f f' g h : Nat → Int32) : Mm := sI (st_191 f f' g h) 94 5 (-1)
theorem hz_192 (f f' g h : Nat → Int32) : Lz 95 (st_192 f f' g h) := (hz_191 f f' g h).si
theorem hp_192 (f f' g h : Nat → Int32) : Pz ps_67 (st_192 f f' g h) := (hp_191 f f' g h).si
def st_193 (f f' g h : Nat → Int32) : Mm := sP (st_192 f f' g h) 62 51 (some 94)
def ps_68 : List (Nat × Nat × Nat) := (62, 51, 94) :: ps_67
theorem hz_193 (f f' g h : Nat → Int32) : Lz 95 (st_193 f f' g h) := (hz_192 f f' g h).sp
theorem hp_193 (f f' g h : Nat → Int32) : Pz ps_68 (st_193 f f' g h) := (hp_192 f f' g h).sp (by decide +kernel)
def st_194 (f f' g h : Nat → Int32) : Mm := mA (st_193 f f' g h) (1, 6)
theorem hz_194 (f f' g h : Nat → Int32) : Lz 96 (st_194 f f' g h) := (hz_193 f f' g h).ma rfl
theorem hp_194 (f f' g h : Nat → Int32) : Pz ps_68 (st_194 f f' g h) := (hp_193 f f' g h).ma (hz_193 f f' g h) (by decide +kernel)
def st_195 (f f' g h : Nat → Int32) : Mm := sP (st_194 f f' g h) 62 52 (some 95)
def ps_69 : List (Nat × Nat × Nat) := (62, 52, 95) :: ps_68
theorem hz_195 (f f' g h : Nat → Int32) : Lz 96 (st_195 f f' g h) := (hz_194 f f' g h).sp
theorem hp_195 (f f' g h : Nat → Int32) : Pz ps_69 (st_195 f f' g h) := (hp_194 f f' g h).sp (by decide +kernel)
def st_196 (f f' g h : Nat → Int32) : Mm := mA (st_195 f f' g h) (2, 360)
theorem hz_196 (f f' g h : Nat → Int32) : Lz 97 (st_196 f f' g h) := (hz_195 f f' g h).ma rfl
theorem hp_196 (f f' g h : Nat → Int32) : Pz ps_69 (st_196 f f' g h) := (hp_195 f f' g h).ma (hz_195 f f' g h) (by decide +kernel)
def st_197 (f f' g h : Nat → Int32) : Mm := sP (st_196 f f' g h) 62 53 (some 96)
def ps_70 : List (Nat × Nat × Nat) := (62, 53, 96) :: ps_69
theorem hz_197 (f f' g h : Nat → Int32) : Lz 97 (st_197 f f' g h) := (hz_196 f f' g h).sp
theorem hp_197 (f f' g h : Nat → Int32) : Pz ps_70 (st_197 f f' g h) := (hp_196 f f' g h).sp (by decide +kernel)
def st_198 (f f' g h : Nat → Int32) : Mm := mA (st_197 f f' g h) (2, 60)
theorem hz_198 (f f' g h : Nat → Int32) : Lz 98 (st_198 f f' g h) := (hz_197 f f' g h).ma rfl
theorem hp_198 (f f' g h : Nat → Int32) : Pz ps_70 (st_198 f f' g h) := (hp_197 f f' g h).ma (hz_197 f f' g h) (by decide +kernel)
def st_199 (f f' g h : Nat → Int32) : Mm := sP (st_198 f f' g h) 62 54 (some 97)
def ps_71 : List (Nat × Nat × Nat) := (62, 54, 97) :: ps_70
theorem hz_199 (f f' g h : Nat → Int32) : Lz 98 (st_199 f f' g h) := (hz_198 f f' g h).sp
theorem hp_199 (f f' g h : Nat → Int32) : Pz ps_71 (st_199 f f' g h) := (hp_198 f f' g h).sp (by decide +kernel)
set_option maxRecDepth 20000 in
theorem ci_X12_init_62 (D : GD) (d : Nat) (f f' g h : Nat → Int32) (post : Option Value → Mm → Prop) (hq : post none (st_199 f f' g h)) : AM D (d + 1) 35 2691 mX12_init [.ref 62] (st_82 f f' g h) post := by
  refine AM.of (by decide) (Nat.le_of_ble_eq_true rfl) ?_
  show AW D (d + 1) 35 2691 mX12_init 35 2691 0 [(0, .ref 62)] [] (st_82 f f' g h) post
  refine ab_aload_n 0 dX12_init_0 rfl ?_
  refine ab_objInit dX12_init_1 w_994 w_106 w_107 (Nat.le_of_ble_eq_true rfl) (Nat.succ_le_succ (Nat.zero_le _)) ?_
  refine ab_aload_n 0 dX12_init_4 rfl ?_
  refine ab_bipush (v := 9) dX12_init_5 (by decide) ?_
  refine ab_newI (N := 9) dX12_init_7 w_137 (by decide) (by decide) (by decide) (Nat.le_of_ble_eq_true rfl) (Nat.le_of_ble_eq_true rfl) (by rw [(hz_82 f f' g h).1]; decide) ?_
  rw [(hz_82 f f' g h).1]
  refine ab_eqM (M1 := (st_83 f f' g h)) rfl ?_
  refine ab_dup dX12_init_9 rfl ?_
  refine ab_iconst (v := 0) dX12_init_10 (by decide) ?_
  refine ab_bipush (v := 50) dX12_init_11 (by decide) ?_
  refine ab_iastj (j := 0) dX12_init_13 ((hz_83 f f' g h).sh (a := 63) (by decide) rfl) (vin (by decide)) (by decide) ?_
  refine ab_eqM (M1 := (st_84 f f' g h)) rfl ?_
  refine ab_dup dX12_init_14 rfl ?_
  refine ab_iconst (v := 1) dX12_init_15 (by decide) ?_
  refine ab_bipush (v := 50) dX12_init_16 (by decide) ?_
  refine ab_iastj (j := 1) dX12_init_18 ((hz_84 f f' g h).sh (a := 63) (by decide) rfl) (vin (by decide)) (by decide) ?_
  refine ab_eqM (M1 := (st_85 f f' g h)) rfl ?_
  refine ab_dup dX12_init_19 rfl ?_
  refine ab_iconst (v := 2) dX12_init_20 (by decide) ?_
  refine ab_bipush (v := 50) dX12_init_21 (by decide) ?_
  refine ab_iastj (j := 2) dX12_init_23 ((hz_85 f f' g h).sh (a := 63) (by decide) rfl) (vin (by decide)) (by decide) ?_
  refine ab_eqM (M1 := (st_86 f f' g h)) rfl ?_
  refine ab_dup dX12_init_24 rfl ?_
  refine ab_iconst (v := 3) dX12_init_25 (by decide) ?_
  refine ab_bipush (v := 50) dX12_init_26 (by decide) ?_
  refine ab_iastj (j := 3) dX12_init_28 ((hz_86 f f' g h).sh (a := 63) (by decide) rfl) (vin (by decide)) (by decide) ?_
  refine ab_eqM (M1 := (st_87 f f' g h)) rfl ?_
  refine ab_dup dX12_init_29 rfl ?_
  refine ab_iconst (v := 4) dX12_init_30 (by decide) ?_
  refine ab_bipush (v := 50) dX12_init_31 (by decide) ?_
  refine ab_iastj (j := 4) dX12_init_33 ((hz_87 f f' g h).sh (a := 63) (by decide) rfl) (vin (by decide)) (by decide) ?_
  refine ab_eqM (M1 := (st_88 f f' g h)) rfl ?_
  refine ab_dup dX12_init_34 rfl ?_
  refine ab_iconst (v := 5) dX12_init_35 (by decide) ?_
  refine ab_bipush (v := 50) dX12_init_36 (by decide) ?_
  refine ab_iastj (j := 5) dX12_init_38 ((hz_88 f f' g h).sh (a := 63) (by decide) rfl) (vin (by decide)) (by decide) ?_
  refine ab_eqM (M1 := (st_89 f f' g h)) rfl ?_
  refine ab_dup dX12_init_39 rfl ?_
  refine ab_bipush (v := 6) dX12_init_40 (by decide) ?_
  refine ab_bipush (v := 50) dX12_init_42 (by decide) ?_
  refine ab_iastj (j := 6) dX12_init_44 ((hz_89 f f' g h).sh (a := 63) (by decide) rfl) (vin (by decide)) (by decide) ?_
  refine ab_eqM (M1 := (st_90 f f' g h)) rfl ?_
  refine ab_dup dX12_init_45 rfl ?_
  refine ab_bipush (v := 7) dX12_init_46 (by decide) ?_
  refine ab_bipush (v := 50) dX12_init_48 (by decide) ?_
  refine ab_iastj (j := 7) dX12_init_50 ((hz_90 f f' g h).sh (a := 63) (by decide) rfl) (vin (by decide)) (by decide) ?_
  refine ab_eqM (M1 := (st_91 f f' g h)) rfl ?_
  refine ab_dup dX12_init_51 rfl ?_
  refine ab_bipush (v := 8) dX12_init_52 (by decide) ?_
  refine ab_bipush (v := 50) dX12_init_54 (by decide) ?_
  refine ab_iastj (j := 8) dX12_init_56 ((hz_91 f f' g h).sh (a := 63) (by decide) rfl) (vin (by decide)) (by decide) ?_
  refine ab_eqM (M1 := (st_92 f f' g h)) rfl ?_
  refine ab_putFP (a := 62) (c := 12) (k := 0) (r := 63) dX12_init_57 fs_12_7_12 rfl rfl rfl rfl ((hz_92 f f' g h).sh (a := 62) (by decide) rfl).1 ((hz_92 f f' g h).sh (a := 62) (by decide) rfl).2 ?_
  refine ab_eqM (M1 := (st_93 f f' g h)) rfl ?_
  refine ab_aload_n 0 dX12_init_60 rfl ?_
  refine ab_iconst (v := 0) dX12_init_61 (by decide) ?_
  refine ab_putI (a := 62) (c := 12) (k := 1) dX12_init_62 fs_12_13_12 rfl rfl ((hz_93 f f' g h).sh (a := 62) (by decide) rfl).1 ((hz_93 f f' g h).sh (a := 62) (by decide) rfl).2 ?_
  refine ab_eqM (M1 := (st_94 f f' g h)) rfl ?_
  refine ab_aload_n 0 dX12_init_65 rfl ?_
  refine ab_iconst (v := 0) dX12_init_66 (by decide) ?_
  refine ab_putI (a := 62) (c := 12) (k := 2) dX12_init_67 fs_12_17_12 rfl rfl ((hz_94 f f' g h).sh (a := 62) (by decide) rfl).1 ((hz_94 f f' g h).sh (a := 62) (by decide) rfl).2 ?_
  refine ab_eqM (M1 := (st_95 f f' g h)) rfl ?_
  refine ab_aload_n 0 dX12_init_70 rfl ?_
  refine ab_iconst (v := 0) dX12_init_71 (by decide) ?_
  refine ab_putI (a := 62) (c := 12) (k := 3) dX12_init_72 fs_12_20_12 rfl rfl ((hz_95 f f' g h).sh (a := 62) (by decide) rfl).1 ((hz_95 f f' g h).sh (a := 62) (by decide) rfl).2 ?_
  refine ab_eqM (M1 := (st_96 f f' g h)) rfl ?_
  refine ab_aload_n 0 dX12_init_75 rfl ?_
  refine ab_iconst (v := 0) dX12_init_76 (by decide) ?_
  refine ab_putI (a := 62) (c := 12) (k := 4) dX12_init_77 fs_12_23_12 rfl rfl ((hz_96 f f' g h).sh (a := 62) (by decide) rfl).1 ((hz_96 f f' g h).sh (a := 62) (by decide) rfl).2 ?_
  refine ab_eqM (M1 := (st_97 f f' g h)) rfl ?_
  refine ab_aload_n 0 dX12_init_80 rfl ?_
  refine ab_bipush (v := 100) dX12_init_81 (by decide) ?_
  refine ab_newI (N := 100) dX12_init_83 w_137 (by decide) (by decide) (by decide) (Nat.le_of_ble_eq_true rfl) (Nat.le_of_ble_eq_true rfl) (by rw [(hz_97 f f' g h).1]; decide) ?_
  rw [(hz_97 f f' g h).1]
  refine ab_eqM (M1 := (st_98 f f' g h)) rfl ?_
  refine ab_putFP (a := 62) (c := 12) (k := 5) (r := 64) dX12_init_85 fs_12_26_12 rfl rfl rfl rfl ((hz_98 f f' g h).sh (a := 62) (by decide) rfl).1 ((hz_98 f f' g h).sh (a := 62) (by decide) rfl).2 ?_
  refine ab_eqM (M1 := (st_99 f f' g h)) rfl ?_
  refine ab_aload_n 0 dX12_init_88 rfl ?_
  refine ab_bipush (v := 7) dX12_init_89 (by decide) ?_
  refine ab_newI (N := 7) dX12_init_91 w_137 (by decide) (by decide) (by decide) (Nat.le_of_ble_eq_true rfl) (Nat.le_of_ble_eq_true rfl) (by rw [(hz_99 f f' g h).1]; decide) ?_
  rw [(hz_99 f f' g h).1]
  refine ab_eqM (M1 := (st_100 f f' g h)) rfl ?_
  refine ab_putFP (a := 62) (c := 12) (k := 6) (r := 65) dX12_init_93 fs_12_29_12 rfl rfl rfl rfl ((hz_100 f f' g h).sh (a := 62) (by decide) rfl).1 ((hz_100 f f' g h).sh (a := 62) (by decide) rfl).2 ?_
  refine ab_eqM (M1 := (st_101 f f' g h)) rfl ?_
  refine ab_aload_n 0 dX12_init_96 rfl ?_
  refine ab_bipush (v := 56) dX12_init_97 (by decide) ?_
  refine ab_newI (N := 56) dX12_init_99 w_137 (by decide) (by decide) (by decide) (Nat.le_of_ble_eq_true rfl) (Nat.le_of_ble_eq_true rfl) (by rw [(hz_101 f f' g h).1]; decide) ?_
  rw [(hz_101 f f' g h).1]
  refine ab_eqM (M1 := (st_102 f f' g h)) rfl ?_
  refine ab_putFP (a := 62) (c := 12) (k := 7) (r := 66) dX12_init_101 fs_12_32_12 rfl rfl rfl rfl ((hz_102 f f' g h).sh (a := 62) (by decide) rfl).1 ((hz_102 f f' g h).sh (a := 62) (by decide) rfl).2 ?_
  refine ab_eqM (M1 := (st_103 f f' g h)) rfl ?_
  refine ab_aload_n 0 dX12_init_104 rfl ?_
  refine ab_bipush (v := 56) dX12_init_105 (by decide) ?_
  refine ab_newI (N := 56) dX12_init_107 w_137 (by decide) (by decide) (by decide) (Nat.le_of_ble_eq_true rfl) (Nat.le_of_ble_eq_true rfl) (by rw [(hz_103 f f' g h).1]; decide) ?_
  rw [(hz_103 f f' g h).1]
  refine ab_eqM (M1 := (st_104 f f' g h)) rfl ?_
  refine ab_putFP (a := 62) (c := 12) (k := 8) (r := 67) dX12_init_109 fs_12_35_12 rfl rfl rfl rfl ((hz_104 f f' g h).sh (a := 62) (by decide) rfl).1 ((hz_104 f f' g h).sh (a := 62) (by decide) rfl).2 ?_
  refine ab_eqM (M1 := (st_105 f f' g h)) rfl ?_
  refine ab_aload_n 0 dX12_init_112 rfl ?_
  refine ab_bipush (v := 56) dX12_init_113 (by decide) ?_
  refine ab_newI (N := 56) dX12_init_115 w_137 (by decide) (by decide) (by decide) (Nat.le_of_ble_eq_true rfl) (Nat.le_of_ble_eq_true rfl) (by rw [(hz_105 f f' g h).1]; decide) ?_
  rw [(hz_105 f f' g h).1]
  refine ab_eqM (M1 := (st_106 f f' g h)) rfl ?_
  refine ab_putFP (a := 62) (c := 12) (k := 9) (r := 68) dX12_init_117 fs_12_38_12 rfl rfl rfl rfl ((hz_106 f f' g h).sh (a := 62) (by decide) rfl).1 ((hz_106 f f' g h).sh (a := 62) (by decide) rfl).2 ?_
  refine ab_eqM (M1 := (st_107 f f' g h)) rfl ?_
  refine ab_aload_n 0 dX12_init_120 rfl ?_
  refine ab_bipush (v := 56) dX12_init_121 (by decide) ?_
  refine ab_newI (N := 56) dX12_init_123 w_137 (by decide) (by decide) (by decide) (Nat.le_of_ble_eq_true rfl) (Nat.le_of_ble_eq_true rfl) (by rw [(hz_107 f f' g h).1]; decide) ?_
  rw [(hz_107 f f' g h).1]
  refine ab_eqM (M1 := (st_108 f f' g h)) rfl ?_
  refine ab_putFP (a := 62) (c := 12) (k := 10) (r := 69) dX12_init_125 fs_12_41_12 rfl rfl rfl rfl ((hz_108 f f' g h).sh (a := 62) (by decide) rfl).1 ((hz_108 f f' g h).sh (a := 62) (by decide) rfl).2 ?_
  refine ab_eqM (M1 := (st_109 f f' g h)) rfl ?_
  refine ab_aload_n 0 dX12_init_128 rfl ?_
  refine ab_sipush (v := 700) dX12_init_129 (by decide) ?_
  refine ab_newI (N := 700) dX12_init_132 w_137 (by decide) (by decide) (by decide) (Nat.le_of_ble_eq_true rfl) (Nat.le_of_ble_eq_true rfl) (by rw [(hz_109 f f' g h).1]; decide) ?_
  rw [(hz_109 f f' g h).1]
  refine ab_eqM (M1 := (st_110 f f' g h)) rfl ?_
  refine ab_putFP (a := 62) (c := 12) (k := 11) (r := 70) dX12_init_134 fs_12_44_12 rfl rfl rfl rfl ((hz_110 f f' g h).sh (a := 62) (by decide) rfl).1 ((hz_110 f f' g h).sh (a := 62) (by decide) rfl).2 ?_
  refine ab_eqM (M1 := (st_111 f f' g h)) rfl ?_
  refine ab_aload_n 0 dX12_init_137 rfl ?_
  refine ab_bipush (v := 101) dX12_init_138 (by decide) ?_
  refine ab_newI (N := 101) dX12_init_140 w_137 (by decide) (by decide) (by decide) (Nat.le_of_ble_eq_true rfl) (Nat.le_of_ble_eq_true rfl) (by rw [(hz_111 f f' g h).1]; decide) ?_
  rw [(hz_111 f f' g h).1]
  refine ab_eqM (M1 := (st_112 f f' g h)) rfl ?_
  refine ab_putFP (a := 62) (c := 12) (k := 12) (r := 71) dX12_init_142 fs_12_47_12 rfl rfl rfl rfl ((hz_112 f f' g h).sh (a := 62) (by decide) rfl).1 ((hz_112 f f' g h).sh (a := 62) (by decide) rfl).2 ?_
  refine ab_eqM (M1 := (st_113 f f' g h)) rfl ?_
  refine ab_aload_n 0 dX12_init_145 rfl ?_
  refine ab_iconst (v := 0) dX12_init_146 (by decide) ?_
  refine ab_putI (a := 62) (c := 12) (k := 13) dX12_init_147 fs_12_50_12 rfl rfl ((hz_113 f f' g h).sh (a := 62) (by decide) rfl).1 ((hz_113 f f' g h).sh (a := 62) (by decide) rfl).2 ?_
  refine ab_eqM (M1 := (st_114 f f' g h)) rfl ?_
  refine ab_aload_n 0 dX12_init_150 rfl ?_
  refine ab_iconst (v := 0) dX12_init_151 (by decide) ?_
  refine ab_putI (a := 62) (c := 12) (k := 14) dX12_init_152 fs_12_53_12 rfl rfl ((hz_114 f f' g h).sh (a := 62) (by decide) rfl).1 ((hz_114 f f' g h).sh (a := 62) (by decide) rfl).2 ?_
  refine ab_eqM (M1 := (st_115 f f' g h)) rfl ?_
  refine ab_aload_n 0 dX12_init_155 rfl ?_
  refine ab_iconst (v := 0) dX12_init_156 (by decide) ?_
  refine ab_putI (a := 62) (c := 12) (k := 15) dX12_init_157 fs_12_56_12 rfl rfl ((hz_115 f f' g h).sh (a := 62) (by decide) rfl).1 ((hz_115 f f' g h).sh (a := 62) (by decide) rfl).2 ?_
  refine ab_eqM (M1 := (st_116 f f' g h)) rfl ?_
  refine ab_aload_n 0 dX12_init_160 rfl ?_
  refine ab_iconst (v := 4) dX12_init_161 (by decide) ?_
  refine ab_newI (N := 4) dX12_init_162 w_137 (by decide) (by decide) (by decide) (Nat.le_of_ble_eq_true rfl) (Nat.le_of_ble_eq_true rfl) (by rw [(hz_116 f f' g h).1]; decide) ?_
  rw [(hz_116 f f' g h).1]
  refine ab_eqM (M1 := (st_117 f f' g h)) rfl ?_
  refine ab_putFP (a := 62) (c := 12) (k := 16) (r := 72) dX12_init_164 fs_12_59_12 rfl rfl rfl rfl ((hz_117 f f' g h).sh (a := 62) (by decide) rfl).1 ((hz_117 f f' g h).sh (a := 62) (by decide) rfl).2 ?_
  refine ab_eqM (M1 := (st_118 f f' g h)) rfl ?_
  refine ab_aload_n 0 dX12_init_167 rfl ?_
  refine ab_bipush (v := 100) dX12_init_168 (by decide) ?_
  refine ab_newZ (N := 100) dX12_init_170 w_1161 (by decide) (by decide) (by decide) (Nat.le_of_ble_eq_true rfl) (Nat.le_of_ble_eq_true rfl) (by rw [(hz_118 f f' g h).1]; decide) ?_
  rw [(hz_118 f f' g h).1]
  refine ab_eqM (M1 := (st_119 f f' g h)) rfl ?_
  refine ab_putFP (a := 62) (c := 12) (k := 17) (r := 73) dX12_init_172 fs_12_62_12 rfl rfl rfl rfl ((hz_119 f f' g h).sh (a := 62) (by decide) rfl).1 ((hz_119 f f' g h).sh (a := 62) (by decide) rfl).2 ?_
  refine ab_eqM (M1 := (st_120 f f' g h)) rfl ?_
  refine ab_aload_n 0 dX12_init_175 rfl ?_
  refine ab_iconst (v := 0) dX12_init_176 (by decide) ?_
  refine ab_putI (a := 62) (c := 12) (k := 18) dX12_init_177 fs_12_66_12 rfl rfl ((hz_120 f f' g h).sh (a := 62) (by decide) rfl).1 ((hz_120 f f' g h).sh (a := 62) (by decide) rfl).2 ?_
  refine ab_eqM (M1 := (st_121 f f' g h)) rfl ?_
  refine ab_aload_n 0 dX12_init_180 rfl ?_
  refine ab_bipush (v := 11) dX12_init_181 (by decide) ?_
  refine ab_newI (N := 11) dX12_init_183 w_137 (by decide) (by decide) (by decide) (Nat.le_of_ble_eq_true rfl) (Nat.le_of_ble_eq_true rfl) (by rw [(hz_121 f f' g h).1]; decide) ?_
  rw [(hz_121 f f' g h).1]
  refine ab_eqM (M1 := (st_122 f f' g h)) rfl ?_
  refine ab_putFP (a := 62) (c := 12) (k := 19) (r := 74) dX12_init_185 fs_12_69_12 rfl rfl rfl rfl ((hz_122 f f' g h).sh (a := 62) (by decide) rfl).1 ((hz_122 f f' g h).sh (a := 62) (by decide) rfl).2 ?_
  refine ab_eqM (M1 := (st_123 f f' g h)) rfl ?_
  refine ab_aload_n 0 dX12_init_188 rfl ?_
  refine ab_bipush (v := 11) dX12_init_189 (by decide) ?_
  refine ab_newI (N := 11) dX12_init_191 w_137 (by decide) (by decide) (by decide) (Nat.le_of_ble_eq_true rfl) (Nat.le_of_ble_eq_true rfl) (by rw [(hz_123 f f' g h).1]; decide) ?_
  rw [(hz_123 f f' g h).1]
  refine ab_eqM (M1 := (st_124 f f' g h)) rfl ?_
  refine ab_putFP (a := 62) (c := 12) (k := 20) (r := 75) dX12_init_193 fs_12_72_12 rfl rfl rfl rfl ((hz_124 f f' g h).sh (a := 62) (by decide) rfl).1 ((hz_124 f f' g h).sh (a := 62) (by decide) rfl).2 ?_
  refine ab_eqM (M1 := (st_125 f f' g h)) rfl ?_
  refine ab_aload_n 0 dX12_init_196 rfl ?_
  refine ab_bipush (v := 11) dX12_init_197 (by decide) ?_
  refine ab_newI (N := 11) dX12_init_199 w_137 (by decide) (by decide) (by decide) (Nat.le_of_ble_eq_true rfl) (Nat.le_of_ble_eq_true rfl) (by rw [(hz_125 f f' g h).1]; decide) ?_
  rw [(hz_125 f f' g h).1]
  refine ab_eqM (M1 := (st_126 f f' g h)) rfl ?_
  refine ab_putFP (a := 62) (c := 12) (k := 21) (r := 76) dX12_init_201 fs_12_75_12 rfl rfl rfl rfl ((hz_126 f f' g h).sh (a := 62) (by decide) rfl).1 ((hz_126 f f' g h).sh (a := 62) (by decide) rfl).2 ?_
  refine ab_eqM (M1 := (st_127 f f' g h)) rfl ?_
  refine ab_aload_n 0 dX12_init_204 rfl ?_
  refine ab_bipush (v := 6) dX12_init_205 (by decide) ?_
  refine ab_newI (N := 6) dX12_init_207 w_137 (by decide) (by decide) (by decide) (Nat.le_of_ble_eq_true rfl) (Nat.le_of_ble_eq_true rfl) (by rw [(hz_127 f f' g h).1]; decide) ?_
  rw [(hz_127 f f' g h).1]
  refine ab_eqM (M1 := (st_128 f f' g h)) rfl ?_
  refine ab_putFP (a := 62) (c := 12) (k := 22) (r := 77) dX12_init_209 fs_12_78_12 rfl rfl rfl rfl ((hz_128 f f' g h).sh (a := 62) (by decide) rfl).1 ((hz_128 f f' g h).sh (a := 62) (by decide) rfl).2 ?_
  refine ab_eqM (M1 := (st_129 f f' g h)) rfl ?_
  refine ab_aload_n 0 dX12_init_212 rfl ?_
  refine ab_iconst (v := 0) dX12_init_213 (by decide) ?_
  refine ab_putI (a := 62) (c := 12) (k := 23) dX12_init_214 fs_12_81_12 rfl rfl ((hz_129 f f' g h).sh (a := 62) (by decide) rfl).1 ((hz_129 f f' g h).sh (a := 62) (by decide) rfl).2 ?_
  refine ab_eqM (M1 := (st_130 f f' g h)) rfl ?_
  refine ab_aload_n 0 dX12_init_217 rfl ?_
  refine ab_iconst (v := 0) dX12_init_218 (by decide) ?_
  refine ab_putI (a := 62) (c := 12) (k := 24) dX12_init_219 fs_12_84_12 rfl rfl ((hz_130 f f' g h).sh (a := 62) (by decide) rfl).1 ((hz_130 f f' g h).sh (a := 62) (by decide) rfl).2 ?_
  refine ab_eqM (M1 := (st_131 f f' g h)) rfl ?_
  refine ab_aload_n 0 dX12_init_222 rfl ?_
  refine ab_bipush (v := 6) dX12_init_223 (by decide) ?_
  refine ab_newI (N := 6) dX12_init_225 w_137 (by decide) (by decide) (by decide) (Nat.le_of_ble_eq_true rfl) (Nat.le_of_ble_eq_true rfl) (by rw [(hz_131 f f' g h).1]; decide) ?_
  rw [(hz_131 f f' g h).1]
  refine ab_eqM (M1 := (st_132 f f' g h)) rfl ?_
  refine ab_putFP (a := 62) (c := 12) (k := 25) (r := 78) dX12_init_227 fs_12_87_12 rfl rfl rfl rfl ((hz_132 f f' g h).sh (a := 62) (by decide) rfl).1 ((hz_132 f f' g h).sh (a := 62) (by decide) rfl).2 ?_
  refine ab_eqM (M1 := (st_133 f f' g h)) rfl ?_
  refine ab_aload_n 0 dX12_init_230 rfl ?_
  refine ab_iconst (v := 3) dX12_init_231 (by decide) ?_
  refine ab_putI (a := 62) (c := 12) (k := 26) dX12_init_232 fs_12_90_12 rfl rfl ((hz_133 f f' g h).sh (a := 62) (by decide) rfl).1 ((hz_133 f f' g h).sh (a := 62) (by decide) rfl).2 ?_
  refine ab_eqM (M1 := (st_134 f f' g h)) rfl ?_
  refine ab_aload_n 0 dX12_init_235 rfl ?_
  refine ab_iconst (v := 3) dX12_init_236 (by decide) ?_
  refine ab_putI (a := 62) (c := 12) (k := 27) dX12_init_237 fs_12_93_12 rfl rfl ((hz_134 f f' g h).sh (a := 62) (by decide) rfl).1 ((hz_134 f f' g h).sh (a := 62) (by decide) rfl).2 ?_
  refine ab_eqM (M1 := (st_135 f f' g h)) rfl ?_
  refine ab_aload_n 0 dX12_init_240 rfl ?_
  refine ab_iconst (v := 0) dX12_init_241 (by decide) ?_
  refine ab_putI (a := 62) (c := 12) (k := 28) dX12_init_242 fs_12_96_12 rfl rfl ((hz_135 f f' g h).sh (a := 62) (by decide) rfl).1 ((hz_135 f f' g h).sh (a := 62) (by decide) rfl).2 ?_
  refine ab_eqM (M1 := (st_136 f f' g h)) rfl ?_
  refine ab_aload_n 0 dX12_init_245 rfl ?_
  refine ab_bipush (v := 10) dX12_init_246 (by decide) ?_
  refine ab_putI (a := 62) (c := 12) (k := 29) dX12_init_248 fs_12_99_12 rfl rfl ((hz_136 f f' g h).sh (a := 62) (by decide) rfl).1 ((hz_136 f f' g h).sh (a := 62) (by decide) rfl).2 ?_
  refine ab_eqM (M1 := (st_137 f f' g h)) rfl ?_
  refine ab_aload_n 0 dX12_init_251 rfl ?_
  refine ab_lconst (v := 0) dX12_init_252 (by decide) ?_
  refine ab_putL (a := 62) (c := 12) (k := 30) dX12_init_253 fs_12_102_12 rfl rfl ((hz_137 f f' g h).sh (a := 62) (by decide) rfl).1 ((hz_137 f f' g h).sh (a := 62) (by decide) rfl).2 ?_
  refine ab_eqM (M1 := (st_138 f f' g h)) rfl ?_
  refine ab_aload_n 0 dX12_init_256 rfl ?_
  refine ab_lconst (v := 1) dX12_init_257 (by decide) ?_
  refine ab_putL (a := 62) (c := 12) (k := 31) dX12_init_258 fs_12_106_12 rfl rfl ((hz_138 f f' g h).sh (a := 62) (by decide) rfl).1 ((hz_138 f f' g h).sh (a := 62) (by decide) rfl).2 ?_
  refine ab_eqM (M1 := (st_139 f f' g h)) rfl ?_
  refine ab_aload_n 0 dX12_init_261 rfl ?_
  refine ab_iconst (v := 0) dX12_init_262 (by decide) ?_
  refine ab_putI (a := 62) (c := 12) (k := 32) dX12_init_263 fs_12_109_12 rfl rfl ((hz_139 f f' g h).sh (a := 62) (by decide) rfl).1 ((hz_139 f f' g h).sh (a := 62) (by decide) rfl).2 ?_
  refine ab_eqM (M1 := (st_140 f f' g h)) rfl ?_
  refine ab_aload_n 0 dX12_init_266 rfl ?_
  refine ab_bipush (v := 30) dX12_init_267 (by decide) ?_
  refine ab_newI (N := 30) dX12_init_269 w_137 (by decide) (by decide) (by decide) (Nat.le_of_ble_eq_true rfl) (Nat.le_of_ble_eq_true rfl) (by rw [(hz_140 f f' g h).1]; decide) ?_
  rw [(hz_140 f f' g h).1]
  refine ab_eqM (M1 := (st_141 f f' g h)) rfl ?_
  refine ab_putFP (a := 62) (c := 12) (k := 33) (r := 79) dX12_init_271 fs_12_112_12 rfl rfl rfl rfl ((hz_141 f f' g h).sh (a := 62) (by decide) rfl).1 ((hz_141 f f' g h).sh (a := 62) (by decide) rfl).2 ?_
  refine ab_eqM (M1 := (st_142 f f' g h)) rfl ?_
  refine ab_aload_n 0 dX12_init_274 rfl ?_
  refine ab_bipush (v := 30) dX12_init_275 (by decide) ?_
  refine ab_newI (N := 30) dX12_init_277 w_137 (by decide) (by decide) (by decide) (Nat.le_of_ble_eq_true rfl) (Nat.le_of_ble_eq_true rfl) (by rw [(hz_142 f f' g h).1]; decide) ?_
  rw [(hz_142 f f' g h).1]
  refine ab_eqM (M1 := (st_143 f f' g h)) rfl ?_
  refine ab_putFP (a := 62) (c := 12) (k := 34) (r := 80) dX12_init_279 fs_12_115_12 rfl rfl rfl rfl ((hz_143 f f' g h).sh (a := 62) (by decide) rfl).1 ((hz_143 f f' g h).sh (a := 62) (by decide) rfl).2 ?_
  refine ab_eqM (M1 := (st_144 f f' g h)) rfl ?_
  refine ab_aload_n 0 dX12_init_282 rfl ?_
  refine ab_bipush (v := 30) dX12_init_283 (by decide) ?_
  refine ab_newI (N := 30) dX12_init_285 w_137 (by decide) (by decide) (by decide) (Nat.le_of_ble_eq_true rfl) (Nat.le_of_ble_eq_true rfl) (by rw [(hz_144 f f' g h).1]; decide) ?_
  rw [(hz_144 f f' g h).1]
  refine ab_eqM (M1 := (st_145 f f' g h)) rfl ?_
  refine ab_putFP (a := 62) (c := 12) (k := 35) (r := 81) dX12_init_287 fs_12_118_12 rfl rfl rfl rfl ((hz_145 f f' g h).sh (a := 62) (by decide) rfl).1 ((hz_145 f f' g h).sh (a := 62) (by decide) rfl).2 ?_
  refine ab_eqM (M1 := (st_146 f f' g h)) rfl ?_
  refine ab_aload_n 0 dX12_init_290 rfl ?_
  refine ab_bipush (v := 12) dX12_init_291 (by decide) ?_
  refine ab_newI (N := 12) dX12_init_293 w_137 (by decide) (by decide) (by decide) (Nat.le_of_ble_eq_true rfl) (Nat.le_of_ble_eq_true rfl) (by rw [(hz_146 f f' g h).1]; decide) ?_
  rw [(hz_146 f f' g h).1]
  refine ab_eqM (M1 := (st_147 f f' g h)) rfl ?_
  refine ab_dup dX12_init_295 rfl ?_
  refine ab_iconst (v := 0) dX12_init_296 (by decide) ?_
  refine ab_iconst (v := (-1)) dX12_init_297 (by decide) ?_
  refine ab_iastj (j := 0) dX12_init_298 ((hz_147 f f' g h).sh (a := 82) (by decide) rfl) (vin (by decide)) (by decide) ?_
  refine ab_eqM (M1 := (st_148 f f' g h)) rfl ?_
  refine ab_dup dX12_init_299 rfl ?_
  refine ab_iconst (v := 1) dX12_init_300 (by decide) ?_
  refine ab_iconst (v := (-1)) dX12_init_301 (by decide) ?_
  refine ab_iastj (j := 1) dX12_init_302 ((hz_148 f f' g h).sh (a := 82) (by decide) rfl) (vin (by decide)) (by decide) ?_
  refine ab_eqM (M1 := (st_149 f f' g h)) rfl ?_
  refine ab_dup dX12_init_303 rfl ?_
  refine ab_iconst (v := 2) dX12_init_304 (by decide) ?_
  refine ab_iconst (v := (-1)) dX12_init_305 (by decide) ?_
  refine ab_iastj (j := 2) dX12_init_306 ((hz_149 f f' g h).sh (a := 82) (by decide) rfl) (vin (by decide)) (by decide) ?_
  refine ab_eqM (M1 := (st_150 f f' g h)) rfl ?_
  refine ab_dup dX12_init_307 rfl ?_
  refine ab_iconst (v := 3) dX12_init_308 (by decide) ?_
  refine ab_iconst (v := (-1)) dX12_init_309 (by decide) ?_
  refine ab_iastj (j := 3) dX12_init_310 ((hz_150 f f' g h).sh (a := 82) (by decide) rfl) (vin (by decide)) (by decide) ?_
  refine ab_eqM (M1 := (st_151 f f' g h)) rfl ?_
  refine ab_dup dX12_init_311 rfl ?_
  refine ab_iconst (v := 4) dX12_init_312 (by decide) ?_
  refine ab_iconst (v := (-1)) dX12_init_313 (by decide) ?_
  refine ab_iastj (j := 4) dX12_init_314 ((hz_151 f f' g h).sh (a := 82) (by decide) rfl) (vin (by decide)) (by decide) ?_
  refine ab_eqM (M1 := (st_152 f f' g h)) rfl ?_
  refine ab_dup dX12_init_315 rfl ?_
  refine ab_iconst (v := 5) dX12_init_316 (by decide) ?_
  refine ab_iconst (v := (-1)) dX12_init_317 (by decide) ?_
  refine ab_iastj (j := 5) dX12_init_318 ((hz_152 f f' g h).sh (a := 82) (by decide) rfl) (vin (by decide)) (by decide) ?_
  refine ab_eqM (M1 := (st_153 f f' g h)) rfl ?_
  refine ab_dup dX12_init_319 rfl ?_
  refine ab_bipush (v := 6) dX12_init_320 (by decide) ?_
  refine ab_iconst (v := (-1)) dX12_init_322 (by decide) ?_
  refine ab_iastj (j := 6) dX12_init_323 ((hz_153 f f' g h).sh (a := 82) (by decide) rfl) (vin (by decide)) (by decide) ?_
  refine ab_eqM (M1 := (st_154 f f' g h)) rfl ?_
  refine ab_dup dX12_init_324 rfl ?_
  refine ab_bipush (v := 7) dX12_init_325 (by decide) ?_
  refine ab_iconst (v := (-1)) dX12_init_327 (by decide) ?_
  refine ab_iastj (j := 7) dX12_init_328 ((hz_154 f f' g h).sh (a := 82) (by decide) rfl) (vin (by decide)) (by decide) ?_
  refine ab_eqM (M1 := (st_155 f f' g h)) rfl ?_
  refine ab_dup dX12_init_329 rfl ?_
  refine ab_bipush (v := 8) dX12_init_330 (by decide) ?_
  refine ab_iconst (v := (-1)) dX12_init_332 (by decide) ?_
  refine ab_iastj (j := 8) dX12_init_333 ((hz_155 f f' g h).sh (a := 82) (by decide) rfl) (vin (by decide)) (by decide) ?_
  refine ab_eqM (M1 := (st_156 f f' g h)) rfl ?_
  refine ab_dup dX12_init_334 rfl ?_
  refine ab_bipush (v := 9) dX12_init_335 (by decide) ?_
  refine ab_iconst (v := (-1)) dX12_init_337 (by decide) ?_
  refine ab_iastj (j := 9) dX12_init_338 ((hz_156 f f' g h).sh (a := 82) (by decide) rfl) (vin (by decide)) (by decide) ?_
  refine ab_eqM (M1 := (st_157 f f' g h)) rfl ?_
  refine ab_dup dX12_init_339 rfl ?_
  refine ab_bipush (v := 10) dX12_init_340 (by decide) ?_
  refine ab_iconst (v := (-1)) dX12_init_342 (by decide) ?_
  refine ab_iastj (j := 10) dX12_init_343 ((hz_157 f f' g h).sh (a := 82) (by decide) rfl) (vin (by decide)) (by decide) ?_
  refine ab_eqM (M1 := (st_158 f f' g h)) rfl ?_
  refine ab_dup dX12_init_344 rfl ?_
  refine ab_bipush (v := 11) dX12_init_345 (by decide) ?_
  refine ab_iconst (v := (-1)) dX12_init_347 (by decide) ?_
  refine ab_iastj (j := 11) dX12_init_348 ((hz_158 f f' g h).sh (a := 82) (by decide) rfl) (vin (by decide)) (by decide) ?_
  refine ab_eqM (M1 := (st_159 f f' g h)) rfl ?_
  refine ab_putFP (a := 62) (c := 12) (k := 36) (r := 82) dX12_init_349 fs_12_121_12 rfl rfl rfl rfl ((hz_159 f f' g h).sh (a := 62) (by decide) rfl).1 ((hz_159 f f' g h).sh (a := 62) (by decide) rfl).2 ?_
  refine ab_eqM (M1 := (st_160 f f' g h)) rfl ?_
  refine ab_aload_n 0 dX12_init_352 rfl ?_
  refine ab_sipush (v := 275) dX12_init_353 (by decide) ?_
  refine ab_newI (N := 275) dX12_init_356 w_137 (by decide) (by decide) (by decide) (Nat.le_of_ble_eq_true rfl) (Nat.le_of_ble_eq_true rfl) (by rw [(hz_160 f f' g h).1]; decide) ?_
  rw [(hz_160 f f' g h).1]
  refine ab_eqM (M1 := (st_161 f f' g h)) rfl ?_
  refine ab_putFP (a := 62) (c := 12) (k := 37) (r := 83) dX12_init_358 fs_12_124_12 rfl rfl rfl rfl ((hz_161 f f' g h).sh (a := 62) (by decide) rfl).1 ((hz_161 f f' g h).sh (a := 62) (by decide) rfl).2 ?_
  refine ab_eqM (M1 := (st_162 f f' g h)) rfl ?_
  refine ab_aload_n 0 dX12_init_361 rfl ?_
  refine ab_bipush (v := 55) dX12_init_362 (by decide) ?_
  refine ab_newI (N := 55) dX12_init_364 w_137 (by decide) (by decide) (by decide) (Nat.le_of_ble_eq_true rfl) (Nat.le_of_ble_eq_true rfl) (by rw [(hz_162 f f' g h).1]; decide) ?_
  rw [(hz_162 f f' g h).1]
  refine ab_eqM (M1 := (st_163 f f' g h)) rfl ?_
  refine ab_putFP (a := 62) (c := 12) (k := 38) (r := 84) dX12_init_366 fs_12_127_12 rfl rfl rfl rfl ((hz_163 f f' g h).sh (a := 62) (by decide) rfl).1 ((hz_163 f f' g h).sh (a := 62) (by decide) rfl).2 ?_
  refine ab_eqM (M1 := (st_164 f f' g h)) rfl ?_
  refine ab_aload_n 0 dX12_init_369 rfl ?_
  refine ab_iconst (v := 5) dX12_init_370 (by decide) ?_
  refine ab_newI (N := 5) dX12_init_371 w_137 (by decide) (by decide) (by decide) (Nat.le_of_ble_eq_true rfl) (Nat.le_of_ble_eq_true rfl) (by rw [(hz_164 f f' g h).1]; decide) ?_
  rw [(hz_164 f f' g h).1]
  refine ab_eqM (M1 := (st_165 f f' g h)) rfl ?_
  refine ab_putFP (a := 62) (c := 12) (k := 39) (r := 85) dX12_init_373 fs_12_130_12 rfl rfl rfl rfl ((hz_165 f f' g h).sh (a := 62) (by decide) rfl).1 ((hz_165 f f' g h).sh (a := 62) (by decide) rfl).2 ?_
  refine ab_eqM (M1 := (st_166 f f' g h)) rfl ?_
  refine ab_aload_n 0 dX12_init_376 rfl ?_
  refine ab_iconst (v := 5) dX12_init_377 (by decide) ?_
  refine ab_newI (N := 5) dX12_init_378 w_137 (by decide) (by decide) (by decide) (Nat.le_of_ble_eq_true rfl) (Nat.le_of_ble_eq_true rfl) (by rw [(hz_166 f f' g h).1]; decide) ?_
  rw [(hz_166 f f' g h).1]
  refine ab_eqM (M1 := (st_167 f f' g h)) rfl ?_
  refine ab_putFP (a := 62) (c := 12) (k := 40) (r := 86) dX12_init_380 fs_12_133_12 rfl rfl rfl rfl ((hz_167 f f' g h).sh (a := 62) (by decide) rfl).1 ((hz_167 f f' g h).sh (a := 62) (by decide) rfl).2 ?_
  refine ab_eqM (M1 := (st_168 f f' g h)) rfl ?_
  refine ab_aload_n 0 dX12_init_383 rfl ?_
  refine ab_sipush (v := 396) dX12_init_384 (by decide) ?_
  refine ab_newI (N := 396) dX12_init_387 w_137 (by decide) (by decide) (by decide) (Nat.le_of_ble_eq_true rfl) (Nat.le_of_ble_eq_true rfl) (by rw [(hz_168 f f' g h).1]; decide) ?_
  rw [(hz_168 f f' g h).1]
  refine ab_eqM (M1 := (st_169 f f' g h)) rfl ?_
  refine ab_putFP (a := 62) (c := 12) (k := 41) (r := 87) dX12_init_389 fs_12_136_12 rfl rfl rfl rfl ((hz_169 f f' g h).sh (a := 62) (by decide) rfl).1 ((hz_169 f f' g h).sh (a := 62) (by decide) rfl).2 ?_
  refine ab_eqM (M1 := (st_170 f f' g h)) rfl ?_
  refine ab_aload_n 0 dX12_init_392 rfl ?_
  refine ab_iconst (v := 0) dX12_init_393 (by decide) ?_
  refine ab_putZ (a := 62) (c := 12) (k := 42) dX12_init_394 fs_12_139_12 rfl rfl ((hz_170 f f' g h).sh (a := 62) (by decide) rfl).1 ((hz_170 f f' g h).sh (a := 62) (by decide) rfl).2 (by decide) ?_
  refine ab_eqM (M1 := (st_171 f f' g h)) rfl ?_
  refine ab_aload_n 0 dX12_init_397 rfl ?_
  refine ab_iconst (v := 0) dX12_init_398 (by decide) ?_
  refine ab_putI (a := 62) (c := 12) (k := 43) dX12_init_399 fs_12_143_12 rfl rfl ((hz_171 f f' g h).sh (a := 62) (by decide) rfl).1 ((hz_171 f f' g h).sh (a := 62) (by decide) rfl).2 ?_
  refine ab_eqM (M1 := (st_172 f f' g h)) rfl ?_
  refine ab_aload_n 0 dX12_init_402 rfl ?_
  refine ab_bipush (v := 9) dX12_init_403 (by decide) ?_
  refine ab_newI (N := 9) dX12_init_405 w_137 (by decide) (by decide) (by decide) (Nat.le_of_ble_eq_true rfl) (Nat.le_of_ble_eq_true rfl) (by rw [(hz_172 f f' g h).1]; decide) ?_
  rw [(hz_172 f f' g h).1]
  refine ab_eqM (M1 := (st_173 f f' g h)) rfl ?_
  refine ab_putFP (a := 62) (c := 12) (k := 44) (r := 88) dX12_init_407 fs_12_146_12 rfl rfl rfl rfl ((hz_173 f f' g h).sh (a := 62) (by decide) rfl).1 ((hz_173 f f' g h).sh (a := 62) (by decide) rfl).2 ?_
  refine ab_eqM (M1 := (st_174 f f' g h)) rfl ?_
  refine ab_aload_n 0 dX12_init_410 rfl ?_
  refine ab_bipush (v := 30) dX12_init_411 (by decide) ?_
  refine ab_newI (N := 30) dX12_init_413 w_137 (by decide) (by decide) (by decide) (Nat.le_of_ble_eq_true rfl) (Nat.le_of_ble_eq_true rfl) (by rw [(hz_174 f f' g h).1]; decide) ?_
  rw [(hz_174 f f' g h).1]
  refine ab_eqM (M1 := (st_175 f f' g h)) rfl ?_
  refine ab_putFP (a := 62) (c := 12) (k := 45) (r := 89) dX12_init_415 fs_12_149_12 rfl rfl rfl rfl ((hz_175 f f' g h).sh (a := 62) (by decide) rfl).1 ((hz_175 f f' g h).sh (a := 62) (by decide) rfl).2 ?_
  refine ab_eqM (M1 := (st_176 f f' g h)) rfl ?_
  refine ab_aload_n 0 dX12_init_418 rfl ?_
  refine ab_bipush (v := 30) dX12_init_419 (by decide) ?_
  refine ab_newI (N := 30) dX12_init_421 w_137 (by decide) (by decide) (by decide) (Nat.le_of_ble_eq_true rfl) (Nat.le_of_ble_eq_true rfl) (by rw [(hz_176 f f' g h).1]; decide) ?_
  rw [(hz_176 f f' g h).1]
  refine ab_eqM (M1 := (st_177 f f' g h)) rfl ?_
  refine ab_putFP (a := 62) (c := 12) (k := 46) (r := 90) dX12_init_423 fs_12_152_12 rfl rfl rfl rfl ((hz_177 f f' g h).sh (a := 62) (by decide) rfl).1 ((hz_177 f f' g h).sh (a := 62) (by decide) rfl).2 ?_
  refine ab_eqM (M1 := (st_178 f f' g h)) rfl ?_
  refine ab_aload_n 0 dX12_init_426 rfl ?_
  refine ab_bipush (v := 30) dX12_init_427 (by decide) ?_
  refine ab_newI (N := 30) dX12_init_429 w_137 (by decide) (by decide) (by decide) (Nat.le_of_ble_eq_true rfl) (Nat.le_of_ble_eq_true rfl) (by rw [(hz_178 f f' g h).1]; decide) ?_
  rw [(hz_178 f f' g h).1]
  refine ab_eqM (M1 := (st_179 f f' g h)) rfl ?_
  refine ab_putFP (a := 62) (c := 12) (k := 47) (r := 91) dX12_init_431 fs_12_155_12 rfl rfl rfl rfl ((hz_179 f f' g h).sh (a := 62) (by decide) rfl).1 ((hz_179 f f' g h).sh (a := 62) (by decide) rfl).2 ?_
  refine ab_eqM (M1 := (st_180 f f' g h)) rfl ?_
  refine ab_aload_n 0 dX12_init_434 rfl ?_
  refine ab_bipush (v := 12) dX12_init_435 (by decide) ?_
  refine ab_newI (N := 12) dX12_init_437 w_137 (by decide) (by decide) (by decide) (Nat.le_of_ble_eq_true rfl) (Nat.le_of_ble_eq_true rfl) (by rw [(hz_180 f f' g h).1]; decide) ?_
  rw [(hz_180 f f' g h).1]
  refine ab_eqM (M1 := (st_181 f f' g h)) rfl ?_
  refine ab_putFP (a := 62) (c := 12) (k := 48) (r := 92) dX12_init_439 fs_12_158_12 rfl rfl rfl rfl ((hz_181 f f' g h).sh (a := 62) (by decide) rfl).1 ((hz_181 f f' g h).sh (a := 62) (by decide) rfl).2 ?_
  refine ab_eqM (M1 := (st_182 f f' g h)) rfl ?_
  refine ab_aload_n 0 dX12_init_442 rfl ?_
  refine ab_iconst (v := 0) dX12_init_443 (by decide) ?_
  refine ab_putI (a := 62) (c := 12) (k := 49) dX12_init_444 fs_12_161_12 rfl rfl ((hz_182 f f' g h).sh (a := 62) (by decide) rfl).1 ((hz_182 f f' g h).sh (a := 62) (by decide) rfl).2 ?_
  refine ab_eqM (M1 := (st_183 f f' g h)) rfl ?_
  refine ab_aload_n 0 dX12_init_447 rfl ?_
  refine ab_bipush (v := 20) dX12_init_448 (by decide) ?_
  refine ab_newI (N := 20) dX12_init_450 w_137 (by decide) (by decide) (by decide) (Nat.le_of_ble_eq_true rfl) (Nat.le_of_ble_eq_true rfl) (by rw [(hz_183 f f' g h).1]; decide) ?_
  rw [(hz_183 f f' g h).1]
  refine ab_eqM (M1 := (st_184 f f' g h)) rfl ?_
  refine ab_putFP (a := 62) (c := 12) (k := 50) (r := 93) dX12_init_452 fs_12_164_12 rfl rfl rfl rfl ((hz_184 f f' g h).sh (a := 62) (by decide) rfl).1 ((hz_184 f f' g h).sh (a := 62) (by decide) rfl).2 ?_
  refine ab_eqM (M1 := (st_185 f f' g h)) rfl ?_
  refine ab_aload_n 0 dX12_init_455 rfl ?_
  refine ab_bipush (v := 6) dX12_init_456 (by decide) ?_
  refine ab_newI (N := 6) dX12_init_458 w_137 (by decide) (by decide) (by decide) (Nat.le_of_ble_eq_true rfl) (Nat.le_of_ble_eq_true rfl) (by rw [(hz_185 f f' g h).1]; decide) ?_
  rw [(hz_185 f f' g h).1]
  refine ab_eqM (M1 := (st_186 f f' g h)) rfl ?_
  refine ab_dup dX12_init_460 rfl ?_
  refine ab_iconst (v := 0) dX12_init_461 (by decide) ?_
  refine ab_iconst (v := (-1)) dX12_init_462 (by decide) ?_
  refine ab_iastj (j := 0) dX12_init_463 ((hz_186 f f' g h).sh (a := 94) (by decide) rfl) (vin (by decide)) (by decide) ?_
  refine ab_eqM (M1 := (st_187 f f' g h)) rfl ?_
  refine ab_dup dX12_init_464 rfl ?_
  refine ab_iconst (v := 1) dX12_init_465 (by decide) ?_
  refine ab_iconst (v := (-1)) dX12_init_466 (by decide) ?_
  refine ab_iastj (j := 1) dX12_init_467 ((hz_187 f f' g h).sh (a := 94) (by decide) rfl) (vin (by decide)) (by decide) ?_
  refine ab_eqM (M1 := (st_188 f f' g h)) rfl ?_
  refine ab_dup dX12_init_468 rfl ?_
  refine ab_iconst (v := 2) dX12_init_469 (by decide) ?_
  refine ab_iconst (v := (-1)) dX12_init_470 (by decide) ?_
  refine ab_iastj (j := 2) dX12_init_471 ((hz_188 f f' g h).sh (a := 94) (by decide) rfl) (vin (by decide)) (by decide) ?_
  refine ab_eqM (M1 := (st_189 f f' g h)) rfl ?_
  refine ab_dup dX12_init_472 rfl ?_
  refine ab_iconst (v := 3) dX12_init_473 (by decide) ?_
  refine ab_iconst (v := (-1)) dX12_init_474 (by decide) ?_
  refine ab_iastj (j := 3) dX12_init_475 ((hz_189 f f' g h).sh (a := 94) (by decide) rfl) (vin (by decide)) (by decide) ?_
  refine ab_eqM (M1 := (st_190 f f' g h)) rfl ?_
  refine ab_dup dX12_init_476 rfl ?_
  refine ab_iconst (v := 4) dX12_init_477 (by decide) ?_
  refine ab_iconst (v := (-1)) dX12_init_478 (by decide) ?_
  refine ab_iastj (j := 4) dX12_init_479 ((hz_190 f f' g h).sh (a := 94) (by decide) rfl) (vin (by decide)) (by decide) ?_
  refine ab_eqM (M1 := (st_191 f f' g h)) rfl ?_
  refine ab_dup dX12_init_480 rfl ?_
  refine ab_iconst (v := 5) dX12_init_481 (by decide) ?_
  refine ab_iconst (v := (-1)) dX12_init_482 (by decide) ?_
  refine ab_iastj (j := 5) dX12_init_483 ((hz_191 f f' g h).sh (a := 94) (by decide) rfl) (vin (by decide)) (by decide) ?_
  refine ab_eqM (M1 := (st_192 f f' g h)) rfl ?_
  refine ab_putFP (a := 62) (c := 12) (k := 51) (r := 94) dX12_init_484 fs_12_167_12 rfl rfl rfl rfl ((hz_192 f f' g h).sh (a := 62) (by decide) rfl).1 ((hz_192 f f' g h).sh (a := 62) (by decide) rfl).2 ?_
  refine ab_eqM (M1 := (st_193 f f' g h)) rfl ?_
  refine ab_aload_n 0 dX12_init_487 rfl ?_
  refine ab_bipush (v := 6) dX12_init_488 (by decide) ?_
  refine ab_newI (N := 6) dX12_init_490 w_137 (by decide) (by decide) (by decide) (Nat.le_of_ble_eq_true rfl) (Nat.le_of_ble_eq_true rfl) (by rw [(hz_193 f f' g h).1]; decide) ?_
  rw [(hz_193 f f' g h).1]
  refine ab_eqM (M1 := (st_194 f f' g h)) rfl ?_
  refine ab_putFP (a := 62) (c := 12) (k := 52) (r := 95) dX12_init_492 fs_12_170_12 rfl rfl rfl rfl ((hz_194 f f' g h).sh (a := 62) (by decide) rfl).1 ((hz_194 f f' g h).sh (a := 62) (by decide) rfl).2 ?_
  refine ab_eqM (M1 := (st_195 f f' g h)) rfl ?_
  refine ab_aload_n 0 dX12_init_495 rfl ?_
  refine ab_sipush (v := 360) dX12_init_496 (by decide) ?_
  refine ab_newL (N := 360) dX12_init_499 w_313 (by decide) (by decide) (by decide) (Nat.le_of_ble_eq_true rfl) (Nat.le_of_ble_eq_true rfl) (by rw [(hz_195 f f' g h).1]; decide) ?_
  rw [(hz_195 f f' g h).1]
  refine ab_eqM (M1 := (st_196 f f' g h)) rfl ?_
  refine ab_putFP (a := 62) (c := 12) (k := 53) (r := 96) dX12_init_501 fs_12_173_12 rfl rfl rfl rfl ((hz_196 f f' g h).sh (a := 62) (by decide) rfl).1 ((hz_196 f f' g h).sh (a := 62) (by decide) rfl).2 ?_
  refine ab_eqM (M1 := (st_197 f f' g h)) rfl ?_
  refine ab_aload_n 0 dX12_init_504 rfl ?_
  refine ab_bipush (v := 60) dX12_init_505 (by decide) ?_
  refine ab_newL (N := 60) dX12_init_507 w_313 (by decide) (by decide) (by decide) (Nat.le_of_ble_eq_true rfl) (Nat.le_of_ble_eq_true rfl) (by rw [(hz_197 f f' g h).1]; decide) ?_
  rw [(hz_197 f f' g h).1]
  refine ab_eqM (M1 := (st_198 f f' g h)) rfl ?_
  refine ab_putFP (a := 62) (c := 12) (k := 54) (r := 97) dX12_init_509 fs_12_177_12 rfl rfl rfl rfl ((hz_198 f f' g h).sh (a := 62) (by decide) rfl).1 ((hz_198 f f' g h).sh (a := 62) (by decide) rfl).2 ?_
  refine ab_eqM (M1 := (st_199 f f' g h)) rfl ?_
  exact ab_vret dX12_init_512 rfl hq
