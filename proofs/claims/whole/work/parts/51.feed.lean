/-! feed -/
def cb (v : Int32) (i : Nat) : Int32 := ((v).toUInt32 >>> ((((8 : Int32) * J i)).toUInt32 &&& Int32.toUInt32 31)).toInt32 &&& (255 : Int32)
def mb (v : Int32) (i : Nat) : Int32 := ((v >>> (((8 : Int32) * J i) &&& 31))).toInt8.toInt32
theorem cb_sh (v : Int32) (s : UInt32) : ((v.toUInt32 >>> s).toInt32 &&& (255 : Int32)) = J ((v.toBitVec.toNat / 2 ^ (s.toNat % 32) % 256 : Nat) : Int) := by
  have hlt : v.toBitVec.toNat / 2 ^ (s.toNat % 32) % 256 < 256 := Nat.mod_lt _ (by omega)
  rw [← Int32.toInt_inj, J_int (by omega) (by omega)]
  have e1 : ((v.toUInt32 >>> s).toInt32 &&& (255 : Int32)).toBitVec = (v.toUInt32 >>> s).toBitVec &&& 255#32 := rfl
  have e2 : ((v.toUInt32 >>> s).toBitVec &&& 255#32).toNat = v.toBitVec.toNat / 2 ^ (s.toNat % 32) % 256 := by
    rw [BitVec.toNat_and]
    have e3 : (v.toUInt32 >>> s).toBitVec.toNat = v.toBitVec.toNat / 2 ^ (s.toNat % 32) := by
      have := UInt32.toNat_shiftRight v.toUInt32 s
      rw [Nat.shiftRight_eq_div_pow] at this
      exact this
    rw [e3]
    exact Nat.and_two_pow_sub_one_eq_mod _ 8
  show (((v.toUInt32 >>> s).toInt32 &&& (255 : Int32)).toBitVec).toInt = _
  rw [e1, BitVec.toInt_eq_toNat_of_lt (by rw [e2]; omega), e2]
theorem mb_sh (v w : Int32) (s : Nat) (h : (w.toBitVec.smod 32).toNat = s) : (v >>> w).toInt8.toInt32.toInt = (v.toInt / ((2 ^ s : Nat) : Int)).bmod 256 := by
  rw [Int8.toInt_toInt32, Int32.toInt_toInt8]
  have e : (v >>> w).toInt = v.toInt / ((2 ^ s : Nat) : Int) := by
    show (v.toBitVec.sshiftRight' (w.toBitVec.smod 32)).toInt = _
    rw [BitVec.toInt_sshiftRight', h, Int.shiftRight_eq_div_pow]
    rfl
  rw [e]
theorem bm256 (z : Int) : z.bmod 256 = if z % 256 < 128 then z % 256 else z % 256 - 256 := rfl
theorem by_eq (v : Int32) (i : Nat) (hi : i < 4) : ∃ b : Nat, b < 256 ∧ cb v i = J b ∧ mb v i = J (sby b) := by
  have hv : v.toInt = if 2 * v.toBitVec.toNat < 4294967296 then (v.toBitVec.toNat : Int) else (v.toBitVec.toNat : Int) - 4294967296 := by
    show v.toBitVec.toInt = _
    rw [BitVec.toInt_eq_toNat_cond]
    rfl
  have hn : v.toBitVec.toNat < 4294967296 := v.toBitVec.isLt
  unfold cb mb
  have key : ∀ (s : UInt32) (w : Int32) (t : Nat), s.toNat % 32 = t → (w.toBitVec.smod 32).toNat = t → (t = 0 ∨ t = 8 ∨ t = 16 ∨ t = 24) → ∃ b : Nat, b < 256 ∧ ((v.toUInt32 >>> s).toInt32 &&& (255 : Int32)) = J b ∧ (v >>> w).toInt8.toInt32 = J (sby b) := by
    intro s w t hs hw ht
    refine ⟨v.toBitVec.toNat / 2 ^ t % 256, Nat.mod_lt _ (by omega), ?_, ?_⟩
    · rw [cb_sh, hs]
    · rw [J_of ((v >>> w).toInt8.toInt32), mb_sh v w t hw]
      congr 1
      unfold sby
      rw [bm256]
      generalize v.toBitVec.toNat = n at *
      rw [hv]
      rcases ht with rfl | rfl | rfl | rfl
      · have e1 : (2 : Nat) ^ 0 = 1 := rfl
        rw [e1]
        split <;> split <;> split <;> omega
      · have e1 : (2 : Nat) ^ 8 = 256 := rfl
        rw [e1]
        split <;> split <;> split <;> omega
      · have e1 : (2 : Nat) ^ 16 = 65536 := rfl
        rw [e1]
        split <;> split <;> split <;> omega
      · have e1 : (2 : Nat) ^ 24 = 16777216 := rfl
        rw [e1]
        split <;> split <;> split <;> omega
  rcases (by omega : i = 0 ∨ i = 1 ∨ i = 2 ∨ i = 3) with rfl | rfl | rfl | rfl
  · exact key _ _ 0 (by decide +kernel) (by decide +kernel) (by omega)
  · exact key _ _ 8 (by decide +kernel) (by decide +kernel) (by omega)
  · exact key _ _ 16 (by decide +kernel) (by decide +kernel) (by omega)
  · exact key _ _ 24 (by decide +kernel) (by decide +kernel) (by omega)
section
variable {D : GD} {d : Nat}
theorem c_addByte {M : Mm} {n : Nat} {a : Int32} {P : Mm → Prop} (hL : Lay 1 4 M) (hn : n < 100) (e : gI M 1 2 = J n) (h : P (sI (sI M 2 n a) 1 2 (J ((n + 1 : Nat) : Int)))) : AMv D d mX6_addByte [.ref 1, .int a] M P := by
  have en : (J (n : Int)).toNatClampNeg = n := by simp (disch := omega) only [J_lit, J_add, J_sub, J_mul, J_neg, J_lt, J_le, J_eq, J_nat, J_in, J_div]; omega
  have e1 : (J n : Int32) + (1 : Int32) = J ((n + 1 : Nat) : Int) := by simp (disch := omega) only [J_lit, J_add, J_sub, J_mul, J_neg, J_lt, J_le, J_eq, J_nat, J_in, J_div]; congr 1
  refine rX6_addByte D d a M _ hL ⟨fun c => ?_, fun c => ⟨?_, fun M3 e3 M7 e7 => ?_⟩⟩
  · rw [e] at c
    exfalso
    simp (disch := omega) only [J_lit, J_add, J_sub, J_mul, J_neg, J_lt, J_le, J_eq, J_nat, J_in, J_div] at c
    omega
  · rw [e]
    simp (disch := omega) only [J_lit, J_add, J_sub, J_mul, J_neg, J_lt, J_le, J_eq, J_nat, J_in, J_div]
    omega
  · rw [e, en] at e3
    subst e3
    have q : gI (sI M 2 n a) 1 2 = J n := e
    rw [q, e1] at e7
    subst e7
    exact ⟨rfl, (Sm.refl M).i.i, h⟩
theorem l_feed {v : Int32} {post : Option Value → Mm → Prop} : ∀ (i n : Nat) (M : Mm), i ≤ 4 → n + i ≤ 100 → Lay 0 62 M → gI M 1 2 = J n → (∀ M', Fm [1, 2] M M' → gI M' 1 = va_up (gI M 1) 2 (J ((n + i : Nat) : Int)) → (∀ k, k < n → gI M' 2 k = gI M 2 k) → (∀ k, k < i → gI M' 2 (n + k) = cb v (i - 1 - k)) → post (some (.int (J ((n + i : Nat) : Int)))) M') → LX11_feed_33 D d v (J ((i : Int) - 1)) M post := by
  intro i
  induction i with
  | zero =>
    intro n M hi hn hL e h
    refine rX11_feed_33 D d v _ M post hL ⟨fun _ => ?_, fun c => ?_⟩
    · rw [e]
      refine h M (Fm.refl _ M) ?_ (fun _ _ => rfl) (fun k hk => absurd hk (Nat.not_lt_zero k))
      have := va_up_id (gI M 1) 2
      rw [e] at this
      exact this.symm
    · exfalso
      simp (disch := omega) only [J_lit, J_add, J_sub, J_mul, J_neg, J_lt, J_le, J_eq, J_nat, J_in, J_div] at c
      omega
  | succ i ih =>
    intro n M hi hn hL e h
    have e0 : J (((i + 1 : Nat) : Int) - 1) = J i := by congr 1; omega
    rw [e0]
    refine rX11_feed_33 D d v _ M post hL ⟨fun c => ?_, fun _ => ?_⟩
    · exfalso
      simp (disch := omega) only [J_lit, J_add, J_sub, J_mul, J_neg, J_lt, J_le, J_eq, J_nat, J_in, J_div] at c
      omega
    · refine c_addByte (hL.sub (by omega) (by omega)) (by omega) e (fun x8 e8 => ?_)
      have e8' : x8 = J ((i : Int) - 1) := by rw [e8]; simp (disch := omega) only [J_lit, J_add, J_sub, J_mul, J_neg, J_lt, J_le, J_eq, J_nat, J_in, J_div]; congr 1
      rw [e8']
      refine ih (n + 1) _ (by omega) (by omega) (hL.of (Sm.refl M).i.i) rfl (fun M' hF h1 h2 h3 => ?_)
      have en : n + 1 + i = n + (i + 1) := by omega
      rw [en] at h1 ⊢
      refine h M' (((Fm.refl _ M).si (by decide)).si (by decide) |>.trans hF) ?_ (fun k hk => ?_) (fun k hk => ?_)
      · rw [h1]
        show va_up (va_up (gI M 1) 2 _) 2 _ = _
        rw [va_up_up]
      · rw [h2 k (by omega)]
        show va_up (gI M 2) n _ k = _
        rw [va_up_ne _ _ (by omega)]
      · cases k with
        | zero =>
          rw [Nat.add_zero, h2 n (by omega)]
          show va_up (gI M 2) n _ n = _
          rw [va_up_self]
          rfl
        | succ k =>
          have := h3 k (by omega)
          rw [(by omega : n + 1 + k = n + (k + 1))] at this
          rw [this]
          congr 1
          omega
theorem l_mFeed {v : Int32} {post : Option Value → Mm → Prop} : ∀ (i n : Nat) (M : Mm), i ≤ 4 → n + i ≤ 100 → Lay 62 98 M → gI M 62 2 = J n → (∀ M', Fm [62, 64] M M' → gI M' 62 = va_up (gI M 62) 2 (J ((n + i : Nat) : Int)) → (∀ k, k < n → gI M' 64 k = gI M 64 k) → (∀ k, k < i → gI M' 64 (n + k) = mb v (i - 1 - k)) → post (some (.int (J ((n + i : Nat) : Int)))) M') → LX12_feed_31 D d v (J ((i : Int) - 1)) M post := by
  intro i
  induction i with
  | zero =>
    intro n M hi hn hL e h
    refine rX12_feed_31 D d v _ M post hL ⟨fun _ => ?_, fun c => ?_⟩
    · rw [e]
      refine h M (Fm.refl _ M) ?_ (fun _ _ => rfl) (fun k hk => absurd hk (Nat.not_lt_zero k))
      have := va_up_id (gI M 62) 2
      rw [e] at this
      exact this.symm
    · exfalso
      simp (disch := omega) only [J_lit, J_add, J_sub, J_mul, J_neg, J_lt, J_le, J_eq, J_nat, J_in, J_div] at c
      omega
  | succ i ih =>
    intro n M hi hn hL e h
    have e0 : J (((i + 1 : Nat) : Int) - 1) = J i := by congr 1; omega
    have enn : (J (n : Int)).toNatClampNeg = n := by simp (disch := omega) only [J_lit, J_add, J_sub, J_mul, J_neg, J_lt, J_le, J_eq, J_nat, J_in, J_div]; omega
    have e1 : (J n : Int32) + (1 : Int32) = J ((n + 1 : Nat) : Int) := by simp (disch := omega) only [J_lit, J_add, J_sub, J_mul, J_neg, J_lt, J_le, J_eq, J_nat, J_in, J_div]; congr 1
    rw [e0]
    refine rX12_feed_31 D d v _ M post hL ⟨fun c => ?_, fun _ => ⟨by rw [e]; simp (disch := omega) only [J_lit, J_add, J_sub, J_mul, J_neg, J_lt, J_le, J_eq, J_nat, J_in, J_div]; omega, fun M3 e3 M7 e7 x8 e8 => ?_⟩⟩
    · exfalso
      simp (disch := omega) only [J_lit, J_add, J_sub, J_mul, J_neg, J_lt, J_le, J_eq, J_nat, J_in, J_div] at c
      omega
    · rw [e, enn] at e3
      subst e3
      have q : gI (sI M 64 n (mb v i)) 62 2 = J n := e
      have e7 : M7 = sI (sI M 64 n (mb v i)) 62 2 (gI (sI M 64 n (mb v i)) 62 2 + (1 : Int32)) := e7
      rw [q, e1] at e7
      subst e7
      have e8' : x8 = J ((i : Int) - 1) := by rw [e8]; simp (disch := omega) only [J_lit, J_add, J_sub, J_mul, J_neg, J_lt, J_le, J_eq, J_nat, J_in, J_div]; congr 1
      rw [e8']
      refine ih (n + 1) _ (by omega) (by omega) (hL.of (Sm.refl M).i.i) rfl (fun M' hF h1 h2 h3 => ?_)
      have en : n + 1 + i = n + (i + 1) := by omega
      rw [en] at h1 ⊢
      refine h M' (((Fm.refl _ M).si (by decide)).si (by decide) |>.trans hF) ?_ (fun k hk => ?_) (fun k hk => ?_)
      · rw [h1]
        show va_up (va_up (gI M 62) 2 _) 2 _ = _
        rw [va_up_up]
      · rw [h2 k (by omega)]
        show va_up (gI M 64) n _ k = _
        rw [va_up_ne _ _ (by omega)]
      · cases k with
        | zero =>
          rw [Nat.add_zero, h2 n (by omega)]
          show va_up (gI M 64) n _ n = _
          rw [va_up_self]
          rfl
        | succ k =>
          have := h3 k (by omega)
          rw [(by omega : n + 1 + k = n + (k + 1))] at this
          rw [this]
          congr 1
          omega
theorem k_feed {M : Mm} {a b : Int32} (hR : Rall M) : Ki D (d + 8) mX11_feed mX12_feed [.int a, .int b] M := by
  obtain ⟨hL, htb, ⟨n, hn, e1, e2, hx⟩, hki, hlo, hta, hw, nr, np, hru, hpl, hte, him⟩ := id hR
  have hL1 : Lay 0 62 M := hL.sub (by omega) (by omega)
  have hL2 : Lay 62 98 M := hL.sub (by omega) (by omega)
  have bad : ¬ (0 ≤ b ∧ b ≤ 4) → AMi D (d + 8) mX12_feed [.ref 62, .int a, .int b] M (fun y M2 => (-2 : Int32) = y ∧ Rall M2) := by
    intro hno
    exact rX12_feed D (d + 7) a b M _ hL2 (c_in hL2 ⟨fun q1 => absurd (b2_ne0.mp q1) hno, fun _ => ⟨_, rfl, .refl M, rfl, hR⟩⟩)
  refine rX11_feed D (d + 7) a b M _ hL1 ⟨fun c1 => ⟨_, rfl, .refl M, bad fun x => ?_⟩, fun c1 => ⟨fun c2 => ?_, fun c2 => ⟨_, rfl, .refl M, bad fun x => c2 x.2⟩⟩⟩
  · simp only [ilt, ile, Int32.reduceToInt] at x c1
    omega
  · obtain ⟨i, hi, rfl⟩ := bd01 (n := 4) (by omega) c1 c2
    have hin : 0 ≤ J (i : Int) ∧ J (i : Int) ≤ 4 := by simp (disch := omega) only [J_lit, J_add, J_sub, J_mul, J_neg, J_lt, J_le, J_eq, J_nat, J_in, J_div]; omega
    rw [e1]
    refine ⟨fun c3 x4 e4 => ?_, fun c3 => ⟨_, rfl, .refl M, ?_⟩⟩
    · simp (disch := omega) only [J_lit, J_add, J_sub, J_mul, J_neg, J_lt, J_le, J_eq, J_nat, J_in, J_div] at c3
      have e4' : x4 = J ((i : Int) - 1) := by rw [e4]; simp (disch := omega) only [J_lit, J_add, J_sub, J_mul, J_neg, J_lt, J_le, J_eq, J_nat, J_in, J_div]
      rw [e4']
      refine l_feed i n M hi (by omega) hL1 e1 (fun M1 F1 z1 b1 n1 => ⟨_, rfl, F1.1, ?_⟩)
      have hL3 := hL2.of F1.1
      refine rX12_feed D (d + 7) _ _ M1 _ hL3 (c_in hL3 ?_)
      rw [b2_t hin, F1.2.2.2 62 (by decide), e2]
      refine ⟨fun _ => ⟨fun _ x9 e9 => ?_, fun c4 => ?_⟩, fun q => absurd q (by decide)⟩
      · have e9' : x9 = J ((i : Int) - 1) := by rw [e9]; simp (disch := omega) only [J_lit, J_add, J_sub, J_mul, J_neg, J_lt, J_le, J_eq, J_nat, J_in, J_div]
        rw [e9']
        refine l_mFeed i n M1 hi (by omega) hL3 (by rw [F1.2.2.2 62 (by decide), e2]) (fun M2 F2 z2 b2 n2 => ⟨_, rfl, F2.1, rfl, ?_⟩)
        have F : Fm [1, 2, 62, 64] M M2 := (F1.sub (by decide)).trans (F2.sub (by decide))
        have g := F.2.2.2
        have s := F.1
        have z62 : gI M2 62 = va_up (gI M 62) 2 (J ((n + i : Nat) : Int)) := by rw [z2, F1.2.2.2 62 (by decide)]
        have g1 : gI M2 1 2 = J ((n + i : Nat) : Int) := by rw [F2.2.2.2 1 (by decide), z1]; rfl
        have p12 : gP M2 12 = gP M 12 := by rw [F.2.1]
        refine ⟨hL.of s, htb.fr (g _ (by decide)) (g _ (by decide)) (g _ (by decide)) (g _ (by decide)) (g _ (by decide)), ⟨n + i, by omega, g1, by rw [z62]; rfl, fun k hk => ?_⟩, hki.fr (by rw [g 25 (by decide)]) (by rw [z62]; rfl) (g _ (by decide)) (g _ (by decide)) (g _ (by decide)) (g _ (by decide)), hlo.fr (g _ (by decide)) (by rw [z62]; rfl) (g _ (by decide)), hta.fr (g _ (by decide)) (g _ (by decide)) (g _ (by decide)) (g _ (by decide)) F.2.2.1, by rw [g 45 (by decide)]; exact hw, nr, np, hru.fr (by rw [g 0 (by decide)]) (by rw [z62]; rfl) (fun j hj => g _ ((by decide : ∀ j, j < 7 → [1, 2, 62, 64].contains (5 + j) = false) j hj)) (g _ (by decide)) (g _ (by decide)) (g _ (by decide)) (g _ (by decide)) (g _ (by decide)) (g _ (by decide)), hpl.fr s.x (fun k => by rw [p12]) (by rw [g 0 (by decide)]) (by rw [z62]; rfl) (g _ (by decide)) (g _ (by decide)) (g _ (by decide)) (fun a ha _ => F.hi (by decide) a ha), hte.fr p12 (by rw [F.2.1]) (g _ (by decide)), him.fr (by rw [g 0 (by decide)]) (by rw [z62]; rfl) (g _ (by decide)) (g _ (by decide)) (by rw [g 48 (by decide)]) (by rw [z62]; rfl) (g _ (by decide)) (g _ (by decide)) (g _ (by decide)) (g _ (by decide)) p12 (by rw [F.2.1]) (g _ (by decide))⟩
        rw [F2.2.2.2 2 (by decide)]
        by_cases hkn : k < n
        · rw [b1 k hkn, b2 k hkn, F1.2.2.2 64 (by decide)]
          exact hx k hkn
        · have q1 := n1 (k - n) (by omega)
          have q2 := n2 (k - n) (by omega)
          rw [(by omega : n + (k - n) = k)] at q1 q2
          rw [q1, q2]
          exact by_eq a _ (by omega)
      · exfalso
        simp (disch := omega) only [J_lit, J_add, J_sub, J_mul, J_neg, J_lt, J_le, J_eq, J_nat, J_in, J_div] at c4
        omega
    · simp (disch := omega) only [J_lit, J_add, J_sub, J_mul, J_neg, J_lt, J_le, J_eq, J_nat, J_in, J_div] at c3
      refine rX12_feed D (d + 7) _ _ M _ hL2 (c_in hL2 ?_)
      rw [b2_t hin, e2]
      refine ⟨fun _ => ⟨fun c4 => ?_, fun _ => ⟨_, rfl, .refl M, rfl, hR⟩⟩, fun q => absurd q (by decide)⟩
      exfalso
      simp (disch := omega) only [J_lit, J_add, J_sub, J_mul, J_neg, J_lt, J_le, J_eq, J_nat, J_in, J_div] at c4
      omega
end
