/-! follow: the class -/
theorem J_and7 (n : Nat) : J (n : Int) &&& (7 : Int32) = J ((n % 8 : Nat) : Int) := by
  show J (n : Int) &&& J ((7 : Nat) : Int) = _
  rw [J_and, and7]
theorem J_and3 (n : Nat) : J (n : Int) &&& (3 : Int32) = J ((n % 4 : Nat) : Int) := by
  show J (n : Int) &&& J ((3 : Nat) : Int) = _
  rw [J_and, and3]
theorem J_and1 (n : Nat) : J (n : Int) &&& (1 : Int32) = J ((n % 2 : Nat) : Int) := by
  show J (n : Int) &&& J ((1 : Nat) : Int) = _
  rw [J_and, and1]
theorem J_s3 {n : Nat} (hn : n ≤ 2147483647) : J (n : Int) >>> ((3 : Int32) &&& 31) = J ((n / 8 : Nat) : Int) := J_shr hn _ 3 (by decide +kernel)
theorem J_s5 {n : Nat} (hn : n ≤ 2147483647) : J (n : Int) >>> ((5 : Int32) &&& 31) = J ((n / 32 : Nat) : Int) := J_shr hn _ 5 (by decide +kernel)
theorem J_s7 {n : Nat} (hn : n ≤ 2147483647) : J (n : Int) >>> ((7 : Int32) &&& 31) = J ((n / 128 : Nat) : Int) := J_shr hn _ 7 (by decide +kernel)
theorem J_s1 {n : Nat} (hn : n ≤ 2147483647) : J (n : Int) >>> ((1 : Int32) &&& 31) = J ((n / 2 : Nat) : Int) := J_shr hn _ 1 (by decide +kernel)
theorem J_l1 (n : Nat) : J (n : Int) <<< ((1 : Int32) &&& 31) = J ((2 * n : Nat) : Int) := by
  rw [J_shl _ 1 (by decide +kernel), Nat.pow_one, Nat.mul_comm]
theorem bts_mod (b : Bool) (r : List Bool) : bts (b :: r) % 2 = bI b ∧ bts (b :: r) / 2 = bts r := by
  have := bI_le b
  have e : bts (b :: r) = 2 * bts r + bI b := rfl
  rw [e]
  omega
section
variable {D : GD} {d : Nat} {M : Mm} {v0 v1 v2 : Nat} {F : Nat → Int} {post : Option Value → Mm → Prop}
theorem l_sign (hL : Lay 13 25 M) (s0 : Sh M v0 (1, 100)) (s1 : Sh M v1 (1, 4)) (s2 : Sh M v2 (1, 4)) (hF : ∀ w, w < 4 → gI M v1 w = J (F w)) (bF : ∀ w, w < 4 → 0 ≤ F w ∧ F w ≤ 99) {t : Int} {r : List Int} {s : List Bool} {h i : Nat} (ht : tkOk t) (hh : hgt (t :: r) s.length = some h) (hs : s.length ≤ 20) (hi : i < 100) (hc : gI M v0 i = J (tkC t)) (hk : LX0_follow_10 D d v0 v1 v2 (J (bts (ev1 F t s))) (J ((i + 1 : Nat) : Int)) M post) : LX0_follow_10 D d v0 v1 v2 (J (bts s)) (J i) M post := by
  obtain ⟨-, g1, g2, g3⟩ := ev1_len (F := F) hh
  have hb := bts_20 hs
  have ei : (J (i : Int)).toNatClampNeg = i := by simp (disch := omega) only [J_lit, J_add, J_sub, J_mul, J_neg, J_lt, J_le, J_eq, J_nat, J_in, J_div]; omega
  have hin : vp_in (J (i : Int)) 100 := by simp (disch := omega) only [J_lit, J_add, J_sub, J_mul, J_neg, J_lt, J_le, J_eq, J_nat, J_in, J_div]; omega
  have ej : ∀ x, x = J (i : Int) + (1 : Int32) → x = J ((i + 1 : Nat) : Int) := fun x e => by rw [e, J_suc]
  have no100 : ¬ (100 : Int32) ≤ J (i : Int) := by simp (disch := omega) only [J_lit, J_add, J_sub, J_mul, J_neg, J_lt, J_le, J_eq, J_nat, J_in, J_div]; omega
  refine rX0_follow_10 D d v0 v1 v2 _ _ M post (.nil M) s0 s1 s2 ⟨fun c => absurd c no100, fun _ => ⟨hin, ?_⟩⟩
  rw [ei, hc]
  unfold ev1 at hk
  rcases ht with rfl | rfl | rfl | ⟨h0, h1, h2⟩
  · -- not
    rw [if_pos rfl] at hk
    have e : tkC (-33) = ((2 : Nat) : Int) := by decide
    rw [e, J_and7]
    match s, g1 rfl, hk, hb with
    | b :: r', _, hk, hb =>
      refine ⟨fun c => absurd c (by decide), fun _ x4 e4 x5 e5 x6 e6 => ⟨fun c => absurd c (by decide), fun _ x21 e21 x22 e22 => ?_, fun c => absurd c (by decide), fun c => absurd c (by decide), fun _ c => absurd (by decide) c⟩⟩
      have e21' : x21 = J (bts ((!b) :: r') : Nat) := by
        rw [e21]
        show J ((bts (b :: r') : Nat) : Int) ^^^ J ((1 : Nat) : Int) = _
        rw [J_xor]
        unfold bts
        rw [xor_b]
      rw [ej x22 e22, e21']
      exact hk
    | [], h, _, _ => exact absurd rfl h
  · -- and
    rw [if_neg (by decide), if_pos rfl] at hk
    have e : tkC (-38) = ((3 : Nat) : Int) := by decide
    rw [e, J_and7, J_and1, J_s1 (by omega)]
    match s, g2 (by decide) (by decide), hk, hb with
    | b :: a :: r', _, hk, hb =>
      have hm := bts_mod b (a :: r')
      have hm2 := bts_mod a r'
      rw [hm.1, hm.2]
      have hb2 : bts (a :: r') < 1048576 := by omega
      have hr : bts r' * 2 = 2 * bts r' := Nat.mul_comm _ _
      refine ⟨fun c => absurd c (by decide), fun _ x4 e4 x5 e5 x6 e6 => ⟨fun c => absurd c (by decide), fun c => absurd c (by decide), fun _ => ⟨fun c x25 e25 x26 e26 => ?_, fun c x27 e27 x28 e28 => ?_⟩, fun c => absurd c (by decide), fun _ _ c => absurd (by decide) c⟩⟩
      · have hb0 : b = false := by
          cases b
          · rfl
          · exact absurd e6 c
        subst hb0
        have e25' : x25 = J ((bts ((a && false) :: r') : Nat) : Int) := by
          rw [e25]
          show J ((bts (a :: r') : Nat) : Int) &&& J ((4294967294 : Nat) : Int) = _
          rw [J_and, and_m2 hb2, hm2.2, Bool.and_false]
          congr 1
        rw [ej x26 e26, e25']
        exact hk
      · have hb0 : b = true := by
          cases b
          · rw [e6] at c
            exact absurd c (by decide)
          · rfl
        subst hb0
        rw [ej x28 e28, e27]
        have hk : LX0_follow_10 D d v0 v1 v2 (J ((bts ((a && true) :: r') : Nat) : Int)) (J ((i + 1 : Nat) : Int)) M post := hk
        rw [Bool.and_true] at hk
        exact hk
    | [b], h, _, _ => exact absurd h (by simp)
    | [], h, _, _ => exact absurd h (by simp)
  · -- or
    rw [if_neg (by decide), if_neg (by decide), if_pos (by decide)] at hk
    have e : tkC (-124) = ((4 : Nat) : Int) := by decide
    rw [e, J_and7, J_and1, J_s1 (by omega)]
    match s, g2 (by decide) (by decide), hk, hb with
    | b :: a :: r', _, hk, hb =>
      have hm := bts_mod b (a :: r')
      rw [hm.1, hm.2]
      refine ⟨fun c => absurd c (by decide), fun _ x4 e4 x5 e5 x6 e6 => ⟨fun c => absurd c (by decide), fun c => absurd c (by decide), fun c => absurd c (by decide), fun _ x30 e30 x31 e31 => ?_, fun _ _ _ c => absurd (by decide) c⟩⟩
      have e30' : x30 = J ((bts ((a || b) :: r') : Nat) : Int) := by
        rw [e30, e6, J_or]
        unfold bts
        rw [or_c]
      rw [ej x31 e31, e30']
      exact hk
    | [b], h, _, _ => exact absurd h (by simp)
    | [], h, _, _ => exact absurd h (by simp)
  · -- a test
    rw [if_neg (by omega), if_neg (by omega), if_neg (by omega)] at hk
    obtain ⟨n, en, n1, n2, n3, n4, n5⟩ := code_t h0 h1 h2
    rw [en, J_and7, J_s3 (by omega), J_s5 (by omega), J_s7 (by omega), J_and3, J_and3, J_l1, n2, n3, n4, n5]
    refine ⟨fun c => ?_, fun _ x4 e4 x5 e5 x6 e6 => ⟨fun _ => ?_, fun c => absurd c (by decide), fun c => absurd c (by decide), fun c => absurd c (by decide), fun c => absurd (by decide) c⟩⟩
    · exfalso
      simp (disch := omega) only [J_lit, J_add, J_sub, J_mul, J_neg, J_lt, J_le, J_eq, J_nat, J_in, J_div] at c
      omega
    · have hw : (t / 1000).toNat < 4 := by omega
      have e4n : x4.toNatClampNeg = (t / 1000).toNat := by rw [e4]; simp (disch := omega) only [J_lit, J_add, J_sub, J_mul, J_neg, J_lt, J_le, J_eq, J_nat, J_in, J_div]; omega
      rw [e4n, hF _ hw, e5]
      refine ⟨by rw [e4]; simp (disch := omega) only [J_lit, J_add, J_sub, J_mul, J_neg, J_lt, J_le, J_eq, J_nat, J_in, J_div]; omega, ?_⟩
      have bf := bF _ hw
      refine c_holds hL ⟨bf.1, by omega⟩ (by omega) (by omega) ?_
      have es : ((t / 100 % 10).toNat : Int) = t / 100 % 10 := by omega
      have em : ((t % 100).toNat : Int) = t % 100 := by omega
      rw [es, em]
      rw [b2_bI]
      show _ ∧ _
      have fin : ∀ b, tst F t = b → ∀ x16 : Int32, x16 = J ((2 * bts s : Nat) : Int) ||| J ((bI b : Nat) : Int) → ∀ x17 : Int32, x17 = J (i : Int) + (1 : Int32) → LX0_follow_10 D d v0 v1 v2 x16 x17 M post := by
        intro b hb x16 e16 x17 e17
        rw [J_or, or_b] at e16
        rw [hb] at hk
        rw [ej x17 e17, e16]
        exact hk
      have htt : decide (if t / 100 % 10 = 0 then F (t / 1000).toNat < t % 100 else if t / 100 % 10 = 1 then F (t / 1000).toNat = t % 100 else t % 100 < F (t / 1000).toNat) = tst F t := rfl
      rw [htt]
      cases hb : tst F t with
      | false => exact ⟨fun _ => fin false hb, fun c => absurd (by decide) c⟩
      | true => exact ⟨fun c => absurd c (by decide), fun _ => fin true hb⟩
theorem l_signs (hL : Lay 13 25 M) (s0 : Sh M v0 (1, 100)) (s1 : Sh M v1 (1, 4)) (s2 : Sh M v2 (1, 4)) (hF : ∀ w, w < 4 → gI M v1 w = J (F w)) (bF : ∀ w, w < 4 → 0 ≤ F w ∧ F w ≤ 99) : ∀ (ts : List Int) (s : List Bool) (h i : Nat), (∀ t ∈ ts, tkOk t) → hgt ts s.length = some h → s.length ≤ 20 → i + ts.length ≤ 100 → (∀ k t, ts[k]? = some t → gI M v0 (i + k) = J (tkC t)) → LX0_follow_10 D d v0 v1 v2 (J (bts (ev F ts s))) (J ((i + ts.length : Nat) : Int)) M post → LX0_follow_10 D d v0 v1 v2 (J (bts s)) (J i) M post := by
  intro ts
  induction ts with
  | nil => intro s h i _ _ _ _ _ hk; exact hk
  | cons t r ih =>
    intro s h i ht hh hs hi hc hk
    obtain ⟨g0, g1, g2, g3⟩ := ev1_len (F := F) hh
    rw [List.length_cons] at hi
    refine l_sign hL s0 s1 s2 hF bF (ht t (List.mem_cons_self ..)) hh hs (by omega) (hc 0 t rfl) ?_
    refine ih (ev1 F t s) h (i + 1) (fun q hq => ht q (List.mem_cons_of_mem _ hq)) g0 ?_ (by omega) (fun k q hq => ?_) ?_
    · have ht' := ht t (List.mem_cons_self ..)
      unfold tkOk at ht'
      unfold ev1
      split
      · split
        · simp at hs ⊢; omega
        · simp
      · split
        · split
          · simp at hs ⊢; omega
          · simp
        · split
          · split
            · simp at hs ⊢; omega
            · simp
          · have := g3 (by omega)
            rw [List.length_cons]
            omega
    · have := hc (k + 1) q hq
      rw [(by omega : i + (k + 1) = i + 1 + k)] at this
      exact this
    · rw [List.length_cons] at hk
      rw [(by omega : i + 1 + r.length = i + (r.length + 1))]
      exact hk
theorem l_gain (s0 : Sh M v0 (1, 100)) (s1 : Sh M v1 (1, 4)) (s2 : Sh M v2 (1, 4)) {b : Bool} {c1 c2 i g : Nat} (h1 : c1 ≤ 3) (h2 : c2 ≤ 99) (hi : i < 100) (hg : g ≤ 1000000) (hc : gI M v0 i = J ((5 + 8 * c1 + 128 * c2 : Nat) : Int)) (hv : gI M v2 c1 = J g) (hk : LX0_follow_10 D d v0 v1 v2 (0 : Int32) (J ((i + 1 : Nat) : Int)) (sI M v2 c1 (J ((g + bI b * c2 : Nat) : Int))) post) : LX0_follow_10 D d v0 v1 v2 (J (bts [b])) (J i) M post := by
  have ei : (J (i : Int)).toNatClampNeg = i := by simp (disch := omega) only [J_lit, J_add, J_sub, J_mul, J_neg, J_lt, J_le, J_eq, J_nat, J_in, J_div]; omega
  have hin : vp_in (J (i : Int)) 100 := by simp (disch := omega) only [J_lit, J_add, J_sub, J_mul, J_neg, J_lt, J_le, J_eq, J_nat, J_in, J_div]; omega
  have ej : ∀ x, x = J (i : Int) + (1 : Int32) → x = J ((i + 1 : Nat) : Int) := fun x e => by rw [e, J_suc]
  have no100 : ¬ (100 : Int32) ≤ J (i : Int) := by simp (disch := omega) only [J_lit, J_add, J_sub, J_mul, J_neg, J_lt, J_le, J_eq, J_nat, J_in, J_div]; omega
  have hm := bts_mod b []
  have hbb := bI_le b
  have hb : bts [b] ≤ 1 := by cases b <;> decide
  refine rX0_follow_10 D d v0 v1 v2 _ _ M post (.nil M) s0 s1 s2 ⟨fun c => absurd c no100, fun _ => ⟨hin, ?_⟩⟩
  rw [ei, hc, J_and7, J_s3 (by omega), J_s7 (by omega), J_and3, J_and1, J_s1 (by omega), hm.1, hm.2]
  have q1 : (5 + 8 * c1 + 128 * c2) % 8 = 5 := by omega
  have q2 : (5 + 8 * c1 + 128 * c2) / 8 % 4 = c1 := by omega
  have q3 : (5 + 8 * c1 + 128 * c2) / 128 = c2 := by omega
  rw [q1, q2, q3]
  refine ⟨fun c => ?_, fun _ x4 e4 x5 e5 x6 e6 => ⟨fun c => absurd c (by decide), fun c => absurd c (by decide), fun c => absurd c (by decide), fun c => absurd c (by decide), fun _ _ _ _ => ⟨by rw [e4]; simp (disch := omega) only [J_lit, J_add, J_sub, J_mul, J_neg, J_lt, J_le, J_eq, J_nat, J_in, J_div]; omega, fun M33 e33 x37 e37 x38 e38 => ?_⟩⟩⟩
  · exfalso
    simp (disch := omega) only [J_lit, J_add, J_sub, J_mul, J_neg, J_lt, J_le, J_eq, J_nat, J_in, J_div] at c
    omega
  · have e4n : x4.toNatClampNeg = c1 := by rw [e4]; simp (disch := omega) only [J_lit, J_add, J_sub, J_mul, J_neg, J_lt, J_le, J_eq, J_nat, J_in, J_div]; omega
    rw [e4n, hv, e5, e6] at e33
    have es : J (g : Int) + J ((bI b : Nat) : Int) * J (c2 : Int) = J ((g + bI b * c2 : Nat) : Int) := by
      simp (disch := omega) only [J_lit, J_add, J_sub, J_mul, J_neg, J_lt, J_le, J_eq, J_nat, J_in, J_div]
      congr 1
    rw [es] at e33
    rw [ej x38 e38, e37, e33]
    exact hk
theorem encR_cons (c : Cls) (R : List Cls) : encR (c :: R) = c.2.2.map tkC ++ ((5 + 8 * (c.1 : Int) + 128 * (c.2.1 : Int) : Int) :: encR R) := by
  unfold encR
  rw [List.map_cons, List.flatten_cons]
  unfold encC
  rw [List.append_assoc]
  rfl
end
section
variable {D : GD} {d : Nat} {v0 v1 v2 : Nat} {F : Nat → Int} {post : Option Value → Mm → Prop}
theorem l_cls (h02 : v0 ≠ v2) (h12 : v1 ≠ v2) (bF : ∀ w, w < 4 → 0 ≤ F w ∧ F w ≤ 99) : ∀ (R : List Cls) (i : Nat) (g : Nat → Nat) (M : Mm), Lay 13 25 M → Sh M v0 (1, 100) → Sh M v1 (1, 4) → Sh M v2 (1, 4) → (∀ w, w < 4 → gI M v1 w = J (F w)) → (∀ c ∈ R, ClOk c) → i + (encR R).length ≤ 100 → (∀ k z, (encR R)[k]? = some z → gI M v0 (i + k) = J z) → (i + (encR R).length = 100 ∨ gI M v0 (i + (encR R).length) = 0) → (∀ w, w < 4 → gI M v2 w = J (g w) ∧ g w + 99 * R.length ≤ 1000000) → (∀ M', Fm [v2] M M' → (∀ w, w < 4 → gI M' v2 w = J ((g w + gain F w R : Nat) : Int)) → post none M') → LX0_follow_10 D d v0 v1 v2 (0 : Int32) (J i) M post := by
  intro R
  induction R with
  | nil =>
    intro i g M hL s0 s1 s2 hF hR hi hc hend hg h
    have hh := h M (Fm.refl _ M) (fun w hw => (hg w hw).1)
    have hi' : i ≤ 100 := hi
    refine rX0_follow_10 D d v0 v1 v2 _ _ M post (.nil M) s0 s1 s2 ⟨fun _ => hh, fun c => ?_⟩
    have ei : (J (i : Int)).toNatClampNeg = i := by simp (disch := omega) only [J_lit, J_add, J_sub, J_mul, J_neg, J_lt, J_le, J_eq, J_nat, J_in, J_div]; omega
    simp (disch := omega) only [J_lit, J_add, J_sub, J_mul, J_neg, J_lt, J_le, J_eq, J_nat, J_in, J_div] at c
    rw [ei]
    refine ⟨by simp (disch := omega) only [J_lit, J_add, J_sub, J_mul, J_neg, J_lt, J_le, J_eq, J_nat, J_in, J_div]; omega, fun _ => hh, fun c0 => ?_⟩
    rcases hend with e | e
    · have e : i = 100 := e
      omega
    · exact absurd e c0
  | cons c R ih =>
    intro i g M hL s0 s1 s2 hF hR hi hc hend hg h
    have hok := hR c (List.mem_cons_self ..)
    rw [encR_cons] at hi hc hend
    rw [List.length_append, List.length_map, List.length_cons] at hi hend
    have e0 : (0 : Int32) = J ((bts [] : Nat) : Int) := rfl
    rw [e0]
    refine l_signs hL s0 s1 s2 hF bF c.2.2 [] 1 i hok.2.2.1 hok.2.2.2 (by simp) (by omega) (fun k t hk => ?_) ?_
    · refine hc k _ ?_
      have hlt : k < c.2.2.length := by
        have := List.getElem?_eq_some_iff.mp hk
        exact this.1
      rw [List.getElem?_append_left (by rw [List.length_map]; exact hlt), List.getElem?_map, hk]
      rfl
    · rw [clH_ev hok]
      have hg1 := hg c.1 (by have := hok.1; omega)
      have hl : (c :: R).length = R.length + 1 := List.length_cons
      have hgc : gI M v0 (i + c.2.2.length) = J ((5 + 8 * c.1 + 128 * c.2.1 : Nat) : Int) := by
        refine hc c.2.2.length _ ?_
        rw [List.getElem?_append_right (by rw [List.length_map]; exact Nat.le_refl _), List.length_map, Nat.sub_self]
        rfl
      refine l_gain (c1 := c.1) (c2 := c.2.1) (g := g c.1) s0 s1 s2 hok.1 hok.2.1 (by omega) (by omega) hgc hg1.1 ?_
      have hs : Sm M (sI M v2 c.1 (J ((g c.1 + bI (clH F c) * c.2.1 : Nat) : Int))) := (Sm.refl M).i
      have hb3 : bI (clH F c) * c.2.1 ≤ 99 := by
        have := hok.2.1
        cases clH F c
        · show 0 * c.2.1 ≤ 99
          omega
        · show 1 * c.2.1 ≤ 99
          omega
      have F0 : Fm [v2] M (sI M v2 c.1 (J ((g c.1 + bI (clH F c) * c.2.1 : Nat) : Int))) := (Fm.refl _ M).si (by simp)
      refine ih (i + c.2.2.length + 1) (fun w => if c.1 = w then g w + bI (clH F c) * c.2.1 else g w) _ (hL.of hs) (s0.of hs) (s1.of hs) (s2.of hs) (fun w hw => ?_) (fun q hq => hR q (List.mem_cons_of_mem _ hq)) (by omega) (fun k z hz => ?_) ?_ (fun w hw => ?_) (fun M' F1 hg' => h M' (F0.trans F1) (fun w hw => ?_))
      · rw [fr_s h12]
        exact hF w hw
      · rw [fr_s h02]
        have := hc (c.2.2.length + 1 + k) z ?_
        · rw [(by omega : i + c.2.2.length + 1 + k = i + (c.2.2.length + 1 + k))]
          exact this
        · rw [List.getElem?_append_right (by rw [List.length_map]; omega), List.length_map, (by omega : c.2.2.length + 1 + k - c.2.2.length = k + 1)]
          exact hz
      · rw [fr_s h02]
        rcases hend with e | e
        · left
          omega
        · right
          rw [(by omega : i + c.2.2.length + 1 + (encR R).length = i + (c.2.2.length + ((encR R).length + 1)))]
          exact e
      · have hw' := hg w hw
        rw [gI_sI]
        by_cases e : c.1 = w
        · subst e
          rw [if_pos ⟨rfl, rfl⟩, if_pos rfl]
          exact ⟨rfl, by omega⟩
        · rw [if_neg (fun z => e z.2.symm), if_neg e]
          exact ⟨hw'.1, by omega⟩
      · rw [hg' w hw]
        congr 2
        have eg : gain F w (c :: R) = (if c.1 = w then bI (clH F c) * c.2.1 else 0) + gain F w R := rfl
        rw [eg]
        by_cases e : c.1 = w
        · rw [if_pos e, if_pos e, Nat.add_assoc]
        · rw [if_neg e, if_neg e, Nat.zero_add]
/-- what the RULE j gives, w 0 .. 3, in the row a3 -/
theorem c_follow {M : Mm} {j : Nat} {R : List Cls} {P : Mm → Prop} (hL : Lay 13 25 M) (s0 : Sh M (5 + j) (1, 100)) (hj : j < 7) (s1 : Sh M v1 (1, 4)) (s2 : Sh M v2 (1, 4)) (h02 : 5 + j ≠ v2) (h12 : v1 ≠ v2) (hF : ∀ w, w < 4 → gI M v1 w = J (F w)) (bF : ∀ w, w < 4 → 0 ≤ F w ∧ F w ≤ 99) (h8 : R.length ≤ 8) (hR : ∀ c ∈ R, ClOk c) (he : (encR R).length ≤ 100) (hc : ∀ k, k < 100 → gI M (5 + j) k = J ((encR R).getD k 0)) (h : ∀ M', Fm [v2] M M' → (∀ w, w < 4 → gI M' v2 w = J ((gain F w R : Nat) : Int)) → P M') : AMv D (d + 1) mX0_follow [.ref (5 + j), .ref v1, .ref v2] M P := by
  refine rX0_follow D d (5 + j) v1 v2 M _ (.nil M) s0 s1 s2 (c_fill (n := 4) (by omega) s2 ?_)
  obtain ⟨M1, q1⟩ : ∃ M1, M1 = rI M v2 (fun k => if k < 4 then 0 else gI M v2 k) := ⟨_, rfl⟩
  rw [← q1]
  have F1 : Fm [v2] M M1 := by rw [q1]; exact (Fm.refl _ M).ri (by simp)
  have g1 : ∀ x, x ≠ v2 → gI M1 x = gI M x := fun x hx => by rw [q1, fr_r hx]
  refine l_cls (d := d) h02 h12 bF R 0 (fun _ => 0) M1 (hL.of F1.1) (s0.of F1.1) (s1.of F1.1) (s2.of F1.1) (fun w hw => ?_) hR (by omega) (fun k z hz => ?_) ?_ (fun w hw => ⟨?_, by omega⟩) (fun M' F2 hg => ⟨rfl, F1.1.trans F2.1, h M' (F1.trans F2) (fun w hw => ?_)⟩)
  · rw [g1 v1 h12]
    exact hF w hw
  · have hlt := (List.getElem?_eq_some_iff.mp hz).1
    rw [g1 _ h02, Nat.zero_add, hc k (by omega)]
    congr 1
    rw [List.getD_eq_getElem?_getD, hz]
    rfl
  · rw [Nat.zero_add]
    by_cases e : (encR R).length = 100
    · exact Or.inl e
    · right
      rw [g1 _ h02, hc _ (by omega), List.getD_eq_getElem?_getD, List.getElem?_eq_none (Nat.le_refl _)]
      rfl
  · rw [q1, gI_rI, if_pos rfl, if_pos hw]
    rfl
  · rw [hg w hw, Nat.zero_add]
end
