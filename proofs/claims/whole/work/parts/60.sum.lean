/-! a RULE's signs followed: the reference -/
def Pil (M : Mm) : List Bool → Prop
  | [] => True
  | b :: r => gI M 73 r.length = J ((bI b : Nat) : Int) ∧ Pil M r
theorem Pil.up {M : Mm} {k : Nat} {x : Int32} : ∀ {r : List Bool}, Pil M r → r.length ≤ k → Pil (sI M 73 k x) r
  | [], _, _ => trivial
  | b :: r, h, hk => by
    rw [List.length_cons] at hk
    refine ⟨?_, Pil.up h.2 (by omega)⟩
    rw [gI_sI, if_neg (by omega)]
    exact h.1
theorem Pil.put {M : Mm} {b : Bool} {r : List Bool} (h : Pil M r) {x : Int32} (hx : x = J ((bI b : Nat) : Int)) : Pil (sI M 73 r.length x) (b :: r) := by
  refine ⟨?_, h.up (Nat.le_refl _)⟩
  rw [gI_sI, if_pos ⟨rfl, rfl⟩, hx]
theorem two_of : ∀ {s : List Bool}, 2 ≤ s.length → ∃ b a r, s = b :: a :: r
  | b :: a :: r, _ => ⟨b, a, r, rfl⟩
  | [b], h => absurd h (by simp)
  | [], h => absurd h (by simp)
theorem bI_0 {b : Bool} : (J ((bI b : Nat) : Int) = 0) ↔ b = false := by cases b <;> decide
section
variable {D : GD} {d : Nat} {F : Nat → Int} {post : Option Value → Mm → Prop}
theorem lm_holds {c to : Nat} (hc : c < 56) (hto : to ≤ 700) (bF : ∀ w, w < 4 → 0 ≤ F w ∧ F w ≤ 99) : ∀ (ts : List Int) (s : List Bool) (k : Nat) (M : Mm), Lay 62 98 M → gI M 69 c = J to → (∀ w, w < 4 → gI M 72 w = J (F w)) → (∀ t ∈ ts, tkOk t) → hgt ts s.length = some 1 → s.length ≤ 20 → k + ts.length = to → (∀ i t, ts[i]? = some t → gI M 70 (k + i) = J t) → Pil M s → (∀ M' b, Fm [73] M M' → ev F ts s = [b] → post (some (.int (J ((bI b : Nat) : Int)))) M') → LX12_holds_9 D d (J c) (J s.length) (J k) M post := by
  intro ts
  induction ts with
  | nil =>
    intro s k M hL e69 hF ht hh hs hk hsg hp h
    have ec : (J (c : Int)).toNatClampNeg = c := by simp (disch := omega) only [J_lit, J_add, J_sub, J_mul, J_neg, J_lt, J_le, J_eq, J_nat, J_in, J_div]; omega
    unfold hgt at hh
    have hk' : k = to := hk
    refine rX12_holds_9 D d _ _ _ M post hL ?_
    rw [ec, e69]
    refine ⟨by simp (disch := omega) only [J_lit, J_add, J_sub, J_mul, J_neg, J_lt, J_le, J_eq, J_nat, J_in, J_div]; omega, fun _ => ?_, fun q => ?_⟩
    · match s, hh, hp, h with
      | [b], _, hp, h =>
        have e0 : gI M 73 0 = J ((bI b : Nat) : Int) := hp.1
        rw [e0]
        refine ⟨by cases b <;> decide, h M b (Fm.refl _ M) rfl⟩
      | [], hh, _, _ => cases hh
      | b :: b2 :: r, hh, _, _ =>
        simp at hh
    · exfalso
      simp (disch := omega) only [J_lit, J_add, J_sub, J_mul, J_neg, J_lt, J_le, J_eq, J_nat, J_in, J_div] at q
      omega
  | cons t r ih =>
    intro s k M hL e69 hF ht hh hs hk hsg hp h
    obtain ⟨g0, g1, g2, g3⟩ := ev1_len (F := F) hh
    rw [List.length_cons] at hk
    have ec : (J (c : Int)).toNatClampNeg = c := by simp (disch := omega) only [J_lit, J_add, J_sub, J_mul, J_neg, J_lt, J_le, J_eq, J_nat, J_in, J_div]; omega
    have ek : (J (k : Int)).toNatClampNeg = k := by simp (disch := omega) only [J_lit, J_add, J_sub, J_mul, J_neg, J_lt, J_le, J_eq, J_nat, J_in, J_div]; omega
    have hk0 := hsg 0 t rfl
    rw [Nat.add_zero] at hk0
    have tok := ht t (List.mem_cons_self ..)
    -- what comes behind a sign
    have nxt : ∀ (x : Int32) (i n : Nat) (s' : List Bool) (M' : Mm), s' = ev1 F t s → s'.length ≤ 20 → M' = sI M 73 i x → Pil M' s' → n = s'.length → ∀ y : Int32, y = J (k : Int) + (1 : Int32) → LX12_holds_9 D d (J c) (J (n : Int)) y M' post := by
      intro x i n s' M' es' hs' eM hp' en y ey
      have F1 : Fm [73] M M' := by rw [eM]; exact (Fm.refl _ M).si (by decide)
      rw [ey, J_suc, en]
      refine ih s' (k + 1) M' (hL.of F1.1) (by rw [F1.2.2.2 69 (by decide)]; exact e69) (fun w hw => by rw [F1.2.2.2 72 (by decide)]; exact hF w hw) (fun q hq => ht q (List.mem_cons_of_mem _ hq)) (by rw [es']; exact g0) hs' (by omega) (fun i q hq => ?_) hp' (fun M2 b F2 hb => h M2 b (F1.trans F2) (by unfold ev; rw [← es']; exact hb))
      rw [F1.2.2.2 70 (by decide), (by omega : k + 1 + i = k + (i + 1))]
      exact hsg (i + 1) q hq
    refine rX12_holds_9 D d _ _ _ M post hL ?_
    rw [ec, e69, ek, hk0]
    refine ⟨by simp (disch := omega) only [J_lit, J_add, J_sub, J_mul, J_neg, J_lt, J_le, J_eq, J_nat, J_in, J_div]; omega, fun q => ?_, fun _ => ⟨by simp (disch := omega) only [J_lit, J_add, J_sub, J_mul, J_neg, J_lt, J_le, J_eq, J_nat, J_in, J_div]; omega, fun x4 e4 => ?_⟩⟩
    · exfalso
      simp (disch := omega) only [J_lit, J_add, J_sub, J_mul, J_neg, J_lt, J_le, J_eq, J_nat, J_in, J_div] at q
      omega
    rw [e4]
    rcases tok with rfl | rfl | rfl | ⟨h0, h1, h2⟩
    · -- not
      refine ⟨fun q => absurd (by decide) q, fun _ => ?_⟩
      match s, g1 rfl, nxt, hp, hs with
      | b :: r', _, nxt, hp, hs =>
        have ei : (J ((b :: r').length : Int) - (1 : Int32)).toNatClampNeg = r'.length := by
          rw [List.length_cons] at hs ⊢
          simp (disch := omega) only [J_lit, J_add, J_sub, J_mul, J_neg, J_lt, J_le, J_eq, J_nat, J_in, J_div]
          omega
        rw [ei, hp.1]
        have hin : vp_in (J ((b :: r').length : Int) - (1 : Int32)) 100 := by
          rw [List.length_cons] at hs ⊢
          simp (disch := omega) only [J_lit, J_add, J_sub, J_mul, J_neg, J_lt, J_le, J_eq, J_nat, J_in, J_div]
          omega
        refine ⟨hin, fun q M99 e99 x103 e103 => ?_, fun q M99 e99 x103 e103 => ?_⟩
        · have hb : b = true := by
            cases b
            · exact absurd (by decide) q
            · rfl
          subst hb
          exact nxt 0 r'.length (r'.length + 1) (false :: r') M99 rfl hs e99 (by rw [e99]; exact hp.2.put rfl) rfl x103 e103
        · have hb := bI_0.mp q
          subst hb
          exact nxt 1 r'.length (r'.length + 1) (true :: r') M99 rfl hs e99 (by rw [e99]; exact hp.2.put rfl) rfl x103 e103
      | [], hx, _, _, _ => exact absurd rfl hx
    · -- and
      refine ⟨fun _ => ⟨fun q => absurd q (by decide), fun _ x57 e57 => ⟨fun q => absurd (by decide) q, fun _ => ?_⟩⟩, fun q => absurd q (by decide)⟩
      obtain ⟨b, a, r', rfl⟩ := two_of (g2 (by decide) (by decide))
      · skip
        have hs' : r'.length + 2 ≤ 20 := by simpa using hs
        have e57' : x57 = J ((r'.length + 1 : Nat) : Int) := by
          rw [e57, List.length_cons, List.length_cons]
          have : (-1 : Int32) = J (-1) := by decide
          rw [this]
          simp (disch := omega) only [J_lit, J_add, J_sub, J_mul, J_neg, J_lt, J_le, J_eq, J_nat, J_in, J_div]
          congr 1
          omega
        have ei : (J ((r'.length + 1 : Nat) : Int) - (1 : Int32)).toNatClampNeg = r'.length := by simp (disch := omega) only [J_lit, J_add, J_sub, J_mul, J_neg, J_lt, J_le, J_eq, J_nat, J_in, J_div]; omega
        have ei2 : (J ((r'.length + 1 : Nat) : Int)).toNatClampNeg = r'.length + 1 := by simp (disch := omega) only [J_lit, J_add, J_sub, J_mul, J_neg, J_lt, J_le, J_eq, J_nat, J_in, J_div]; omega
        rw [e57', ei, ei2, hp.2.1]
        have hp1 : gI M 73 (r'.length + 1) = J ((bI b : Nat) : Int) := hp.1
        rw [hp1]
        refine ⟨by simp (disch := omega) only [J_lit, J_add, J_sub, J_mul, J_neg, J_lt, J_le, J_eq, J_nat, J_in, J_div]; omega, fun q M80 e80 x84 e84 => ?_, fun q => ⟨by simp (disch := omega) only [J_lit, J_add, J_sub, J_mul, J_neg, J_lt, J_le, J_eq, J_nat, J_in, J_div]; omega, fun q2 M87 e87 x91 e91 => ?_, fun q2 M92 e92 x96 e96 => ?_⟩⟩
        · have ha := bI_0.mp q
          subst ha
          exact nxt 0 r'.length (r'.length + 1) ((false && b) :: r') M80 rfl (by simp; omega) e80 (by rw [e80, Bool.false_and]; exact hp.2.2.put rfl) rfl x84 e84
        · have hb := bI_0.mp q2
          subst hb
          exact nxt 0 r'.length (r'.length + 1) ((a && false) :: r') M87 rfl (by simp; omega) e87 (by rw [e87, Bool.and_false]; exact hp.2.2.put rfl) rfl x91 e91
        · have ha : a = true := by
            cases a
            · exact absurd (by decide) q
            · rfl
          have hb : b = true := by
            cases b
            · exact absurd (by decide) q2
            · rfl
          subst ha hb
          exact nxt 1 r'.length (r'.length + 1) ((true && true) :: r') M92 rfl (by simp; omega) e92 (by rw [e92]; exact hp.2.2.put rfl) rfl x96 e96
    · -- or
      refine ⟨fun _ => ⟨fun q => absurd q (by decide), fun _ x57 e57 => ⟨fun _ => ?_, fun q => absurd q (by decide)⟩⟩, fun q => absurd q (by decide)⟩
      obtain ⟨b, a, r', rfl⟩ := two_of (g2 (by decide) (by decide))
      · skip
        have hs' : r'.length + 2 ≤ 20 := by simpa using hs
        have e57' : x57 = J ((r'.length + 1 : Nat) : Int) := by
          rw [e57, List.length_cons, List.length_cons]
          have : (-1 : Int32) = J (-1) := by decide
          rw [this]
          simp (disch := omega) only [J_lit, J_add, J_sub, J_mul, J_neg, J_lt, J_le, J_eq, J_nat, J_in, J_div]
          congr 1
          omega
        have ei : (J ((r'.length + 1 : Nat) : Int) - (1 : Int32)).toNatClampNeg = r'.length := by simp (disch := omega) only [J_lit, J_add, J_sub, J_mul, J_neg, J_lt, J_le, J_eq, J_nat, J_in, J_div]; omega
        have ei2 : (J ((r'.length + 1 : Nat) : Int)).toNatClampNeg = r'.length + 1 := by simp (disch := omega) only [J_lit, J_add, J_sub, J_mul, J_neg, J_lt, J_le, J_eq, J_nat, J_in, J_div]; omega
        rw [e57', ei, ei2, hp.2.1]
        have hp1 : gI M 73 (r'.length + 1) = J ((bI b : Nat) : Int) := hp.1
        rw [hp1]
        refine ⟨by simp (disch := omega) only [J_lit, J_add, J_sub, J_mul, J_neg, J_lt, J_le, J_eq, J_nat, J_in, J_div]; omega, fun q M80 e80 x84 e84 => ?_, fun q => ⟨by simp (disch := omega) only [J_lit, J_add, J_sub, J_mul, J_neg, J_lt, J_le, J_eq, J_nat, J_in, J_div]; omega, fun q2 M87 e87 x91 e91 => ?_, fun q2 M92 e92 x96 e96 => ?_⟩⟩
        · have ha : a = true := by
            cases a
            · exact absurd (by decide) q
            · rfl
          subst ha
          exact nxt 1 r'.length (r'.length + 1) ((true || b) :: r') M80 rfl (by simp; omega) e80 (by rw [e80, Bool.true_or]; exact hp.2.2.put rfl) rfl x84 e84
        · have ha := bI_0.mp q
          have hb := bI_0.mp q2
          subst ha hb
          exact nxt 0 r'.length (r'.length + 1) ((false || false) :: r') M87 rfl (by simp; omega) e87 (by rw [e87]; exact hp.2.2.put rfl) rfl x91 e91
        · have hb : b = true := by
            cases b
            · exact absurd (by decide) q2
            · rfl
          subst hb
          exact nxt 1 r'.length (r'.length + 1) ((a || true) :: r') M92 rfl (by simp; omega) e92 (by rw [e92, Bool.or_true]; exact hp.2.2.put rfl) rfl x96 e96
    · -- a test
      have hlen := g3 h0
      obtain ⟨n, rfl⟩ : ∃ n : Nat, t = n := ⟨t.toNat, by omega⟩
      have d1 : J (n : Int) / (1000 : Int32) = J ((n / 1000 : Nat) : Int) := by simp (disch := omega) only [J_lit, J_add, J_sub, J_mul, J_neg, J_lt, J_le, J_eq, J_nat, J_in, J_div]; congr 1
      have d2 : J (n : Int) / (100 : Int32) = J ((n / 100 : Nat) : Int) := by simp (disch := omega) only [J_lit, J_add, J_sub, J_mul, J_neg, J_lt, J_le, J_eq, J_nat, J_in, J_div]; congr 1
      have d3 : J ((n / 100 : Nat) : Int) / (10 : Int32) = J ((n / 100 / 10 : Nat) : Int) := by simp (disch := omega) only [J_lit, J_add, J_sub, J_mul, J_neg, J_lt, J_le, J_eq, J_nat, J_in, J_div]; congr 1
      have d4 : J ((n / 100 : Nat) : Int) - J ((n / 100 / 10 : Nat) : Int) * (10 : Int32) = J ((n / 100 % 10 : Nat) : Int) := by simp (disch := omega) only [J_lit, J_add, J_sub, J_mul, J_neg, J_lt, J_le, J_eq, J_nat, J_in, J_div]; congr 1; omega
      have d5 : J (n : Int) - J ((n / 100 : Nat) : Int) * (100 : Int32) = J ((n % 100 : Nat) : Int) := by simp (disch := omega) only [J_lit, J_add, J_sub, J_mul, J_neg, J_lt, J_le, J_eq, J_nat, J_in, J_div]; congr 1; omega
      have hw : n / 1000 < 4 := by omega
      have e1000 : (J ((n / 1000 : Nat) : Int)).toNatClampNeg = n / 1000 := by simp (disch := omega) only [J_lit, J_add, J_sub, J_mul, J_neg, J_lt, J_le, J_eq, J_nat, J_in, J_div]; omega
      rw [d1, d2, d3, d4, d5, e1000, hF _ hw]
      have bf := bF _ hw
      have es : (J (s.length : Int)).toNatClampNeg = s.length := by simp (disch := omega) only [J_lit, J_add, J_sub, J_mul, J_neg, J_lt, J_le, J_eq, J_nat, J_in, J_div]; omega
      rw [es]
      have ev' : ev1 F (n : Int) s = tst F n :: s := by
        unfold ev1
        rw [if_neg (by omega), if_neg (by omega), if_neg (by omega)]
      have hnt : ((n : Int) / 1000).toNat = n / 1000 := by omega
      have hin : vp_in (J (s.length : Int)) 100 := by simp (disch := omega) only [J_lit, J_add, J_sub, J_mul, J_neg, J_lt, J_le, J_eq, J_nat, J_in, J_div]; omega
      have fin : ∀ (b : Bool) (x : Int32), x = J ((bI b : Nat) : Int) → tst F n = b → vp_in (J (s.length : Int)) 100 ∧ ∀ M14 : Mm, M14 = sI M 73 s.length x → ∀ x18 : Int32, x18 = J (s.length : Int) + (1 : Int32) → ∀ x19 : Int32, x19 = J (k : Int) + (1 : Int32) → LX12_holds_9 D d (J c) x18 x19 M14 post := by
        intro b x ex hb
        refine ⟨hin, fun M14 e14 x18 e18 x19 e19 => ?_⟩
        rw [e18, J_suc]
        exact nxt x s.length (s.length + 1) (b :: s) M14 (by rw [ev', hb]) (by rw [List.length_cons]; omega) e14 (by rw [e14]; exact hp.put ex) (by rw [List.length_cons]) x19 e19
      have tt : ∀ b, (decide (if (n : Int) / 100 % 10 = 0 then F (n / 1000) < (n : Int) % 100 else if (n : Int) / 100 % 10 = 1 then F (n / 1000) = (n : Int) % 100 else (n : Int) % 100 < F (n / 1000)) = b) → tst F n = b := by
        intro b hb
        unfold tst
        rw [hnt]
        exact hb
      refine ⟨fun _ => ⟨fun _ => ⟨by simp (disch := omega) only [J_lit, J_add, J_sub, J_mul, J_neg, J_lt, J_le, J_eq, J_nat, J_in, J_div]; omega, fun x8 e8 x9 e9 => ?_⟩, fun q => ?_⟩, fun q => ?_⟩
      · rw [e8, e9]
        refine ⟨fun q0 => ⟨fun q1 => ⟨fun q => fin false 0 rfl (tt _ (decide_eq_false ?_)), fun q => fin true 1 rfl (tt _ (decide_eq_true ?_))⟩, fun q1 => ⟨fun q => fin false 0 rfl (tt _ (decide_eq_false ?_)), fun q => fin true 1 rfl (tt _ (decide_eq_true ?_))⟩⟩, fun q0 => ⟨fun q => fin false 0 rfl (tt _ (decide_eq_false ?_)), fun q => fin true 1 rfl (tt _ (decide_eq_true ?_))⟩⟩
        · simp (disch := omega) only [J_lit, J_add, J_sub, J_mul, J_neg, J_lt, J_le, J_eq, J_nat, J_in, J_div] at q0 q1 q
          rw [if_neg (by omega), if_neg (by omega)]
          omega
        · simp (disch := omega) only [J_lit, J_add, J_sub, J_mul, J_neg, J_lt, J_le, J_eq, J_nat, J_in, J_div] at q0 q1 q
          rw [if_neg (by omega), if_neg (by omega)]
          omega
        · simp (disch := omega) only [J_lit, J_add, J_sub, J_mul, J_neg, J_lt, J_le, J_eq, J_nat, J_in, J_div] at q0 q1 q
          rw [if_neg (by omega), if_pos (by omega)]
          omega
        · simp (disch := omega) only [J_lit, J_add, J_sub, J_mul, J_neg, J_lt, J_le, J_eq, J_nat, J_in, J_div] at q0 q1 q
          rw [if_neg (by omega), if_pos (by omega)]
          omega
        · simp (disch := omega) only [J_lit, J_add, J_sub, J_mul, J_neg, J_lt, J_le, J_eq, J_nat, J_in, J_div] at q0 q
          rw [if_pos (by omega)]
          omega
        · simp (disch := omega) only [J_lit, J_add, J_sub, J_mul, J_neg, J_lt, J_le, J_eq, J_nat, J_in, J_div] at q0 q
          rw [if_pos (by omega)]
          omega
      · exfalso
        simp (disch := omega) only [J_lit, J_add, J_sub, J_mul, J_neg, J_lt, J_le, J_eq, J_nat, J_in, J_div] at q
        omega
      · exfalso
        have : (-33 : Int32) = J (-33) := by decide
        rw [this] at q
        simp (disch := omega) only [J_lit, J_add, J_sub, J_mul, J_neg, J_lt, J_le, J_eq, J_nat, J_in, J_div] at q
        omega
/-- the reference's half of a RULE -/
def RuM (M : Mm) (j : Nat) (R : List Cls) : Prop := R.length ≤ 8 ∧ (∀ c ∈ R, ClOk c) ∧ gI M 65 j = J R.length ∧ ∀ i c, R[i]? = some c → gI M 66 (8 * j + i) = J c.1 ∧ gI M 67 (8 * j + i) = J c.2.1 ∧ ∃ a : Nat, a + c.2.2.length ≤ 700 ∧ gI M 68 (8 * j + i) = J a ∧ gI M 69 (8 * j + i) = J ((a + c.2.2.length : Nat) : Int) ∧ ∀ k t, c.2.2[k]? = some t → gI M 70 (a + k) = J t
theorem RuM.fm {M M' : Mm} {j : Nat} {R : List Cls} (h : RuM M j R) (hg : ∀ x, 65 ≤ x → x ≤ 70 → gI M' x = gI M x) : RuM M' j R := by
  unfold RuM at h ⊢
  rw [hg 65 (by omega) (by omega), hg 66 (by omega) (by omega), hg 67 (by omega) (by omega), hg 68 (by omega) (by omega), hg 69 (by omega) (by omega), hg 70 (by omega) (by omega)]
  exact h
theorem c_mHolds {M : Mm} {j i : Nat} {R : List Cls} {c : Cls} {P : Int32 → Mm → Prop} (hL : Lay 62 98 M) (hj : j < 7) (hR : RuM M j R) (hi : R[i]? = some c) (bF : ∀ w, w < 4 → 0 ≤ F w ∧ F w ≤ 99) (hF : ∀ w, w < 4 → gI M 72 w = J (F w)) (h : ∀ M', Fm [73] M M' → P (J ((bI (clH F c) : Nat) : Int)) M') : AMi D d mX12_holds [.ref 62, .int (J ((8 * j + i : Nat) : Int))] M P := by
  obtain ⟨h8, hok, -, hc⟩ := hR
  have hlt := (List.getElem?_eq_some_iff.mp hi).1
  have hmem : c ∈ R := List.mem_of_getElem? hi
  obtain ⟨-, -, a, a1, a2, a3, a4⟩ := hc i c hi
  have ec : (J ((8 * j + i : Nat) : Int)).toNatClampNeg = 8 * j + i := by simp (disch := omega) only [J_lit, J_add, J_sub, J_mul, J_neg, J_lt, J_le, J_eq, J_nat, J_in, J_div]; omega
  refine rX12_holds D d _ M _ hL ⟨by simp (disch := omega) only [J_lit, J_add, J_sub, J_mul, J_neg, J_lt, J_le, J_eq, J_nat, J_in, J_div]; omega, fun x2 e2 => ?_⟩
  rw [ec, a2] at e2
  rw [e2]
  refine lm_holds (c := 8 * j + i) (by omega) a1 bF c.2.2 [] a M hL a3 hF (hok c hmem).2.2.1 (hok c hmem).2.2.2 (by simp) rfl a4 trivial (fun M' b F1 hb => ⟨_, rfl, F1.1, ?_⟩)
  rw [clH_ev (hok c hmem)] at hb
  cases hb
  exact h M' F1
theorem l_sumOf {p j w : Nat} {R : List Cls} (hp : p < 11) (hj : j < 7) (hw : w ≤ 3) (bF : ∀ w, w < 4 → 0 ≤ F w ∧ F w ≤ 99) : ∀ (m i acc : Nat) (M : Mm), i + m = R.length → acc + 99 * m ≤ 100000 → Lay 62 98 M → gI M 76 p = J j → RuM M j R → (∀ w, w < 4 → gI M 72 w = J (F w)) → (∀ M', Fm [73] M M' → post (some (.int (J ((acc + gain F w (R.drop i) : Nat) : Int)))) M') → LX12_sumOf_13 D d (J p) (J w) (J acc) (J ((8 * j + i : Nat) : Int)) M post := by
  intro m
  induction m with
  | zero =>
    intro i acc M hi hacc hL e76 hR hF h
    have ep : (J (p : Int)).toNatClampNeg = p := by simp (disch := omega) only [J_lit, J_add, J_sub, J_mul, J_neg, J_lt, J_le, J_eq, J_nat, J_in, J_div]; omega
    have ej : (J (j : Int)).toNatClampNeg = j := by simp (disch := omega) only [J_lit, J_add, J_sub, J_mul, J_neg, J_lt, J_le, J_eq, J_nat, J_in, J_div]; omega
    have h8 := hR.1
    refine rX12_sumOf_13 D d _ _ _ _ M post hL ?_
    rw [ep, e76, ej, hR.2.2.1]
    refine ⟨by simp (disch := omega) only [J_lit, J_add, J_sub, J_mul, J_neg, J_lt, J_le, J_eq, J_nat, J_in, J_div]; omega, by simp (disch := omega) only [J_lit, J_add, J_sub, J_mul, J_neg, J_lt, J_le, J_eq, J_nat, J_in, J_div]; omega, fun _ => ?_, fun q => ?_⟩
    · have := h M (Fm.refl _ M)
      rw [List.drop_of_length_le (by omega)] at this
      exact this
    · exfalso
      simp (disch := omega) only [J_lit, J_add, J_sub, J_mul, J_neg, J_lt, J_le, J_eq, J_nat, J_in, J_div] at q
      omega
  | succ m ih =>
    intro i acc M hi hacc hL e76 hR hF h
    have ep : (J (p : Int)).toNatClampNeg = p := by simp (disch := omega) only [J_lit, J_add, J_sub, J_mul, J_neg, J_lt, J_le, J_eq, J_nat, J_in, J_div]; omega
    have ej : (J (j : Int)).toNatClampNeg = j := by simp (disch := omega) only [J_lit, J_add, J_sub, J_mul, J_neg, J_lt, J_le, J_eq, J_nat, J_in, J_div]; omega
    have h8 := hR.1
    have hlt : i < R.length := by omega
    have hget : R[i]? = some R[i] := List.getElem?_eq_getElem hlt
    obtain ⟨c1, c2, -⟩ := hR.2.2.2 i _ hget
    have hok := hR.2.1 _ (List.getElem_mem hlt)
    have hdrop : R.drop i = R[i] :: R.drop (i + 1) := List.drop_eq_getElem_cons hlt
    rw [hdrop] at h
    have eg : gain F w (R[i] :: R.drop (i + 1)) = (if R[i].1 = w then bI (clH F R[i]) * R[i].2.1 else 0) + gain F w (R.drop (i + 1)) := rfl
    rw [eg] at h
    have o1 := hok.1
    have o2 := hok.2.1
    have ec : (J ((8 * j + i : Nat) : Int)).toNatClampNeg = 8 * j + i := by simp (disch := omega) only [J_lit, J_add, J_sub, J_mul, J_neg, J_lt, J_le, J_eq, J_nat, J_in, J_div]; omega
    have eS : ∀ y, y = J ((8 * j + i : Nat) : Int) + (1 : Int32) → y = J ((8 * j + (i + 1) : Nat) : Int) := fun y e => by rw [e, J_suc]; rfl
    have z1 : J (acc : Int) + (0 : Int32) = J acc := by simp (disch := omega) only [J_lit, J_add, J_sub, J_mul, J_neg, J_lt, J_le, J_eq, J_nat, J_in, J_div]; congr 1
    refine rX12_sumOf_13 D d _ _ _ _ M post hL ?_
    rw [ep, e76, ej, hR.2.2.1, ec, c1, z1]
    refine ⟨by simp (disch := omega) only [J_lit, J_add, J_sub, J_mul, J_neg, J_lt, J_le, J_eq, J_nat, J_in, J_div]; omega, by simp (disch := omega) only [J_lit, J_add, J_sub, J_mul, J_neg, J_lt, J_le, J_eq, J_nat, J_in, J_div]; omega, fun q => ?_, fun _ => ⟨by simp (disch := omega) only [J_lit, J_add, J_sub, J_mul, J_neg, J_lt, J_le, J_eq, J_nat, J_in, J_div]; omega, fun q x6 e6 x7 e7 => ?_, fun q => ?_⟩⟩
    · exfalso
      simp (disch := omega) only [J_lit, J_add, J_sub, J_mul, J_neg, J_lt, J_le, J_eq, J_nat, J_in, J_div] at q
      omega
    · simp (disch := omega) only [J_lit, J_add, J_sub, J_mul, J_neg, J_lt, J_le, J_eq, J_nat, J_in, J_div] at q
      rw [e6, eS x7 e7]
      refine ih (i + 1) acc M (by omega) (by omega) hL e76 hR hF (fun M' F1 => ?_)
      have := h M' F1
      rw [if_neg (by omega), Nat.zero_add] at this
      exact this
    · simp (disch := omega) only [J_lit, J_add, J_sub, J_mul, J_neg, J_lt, J_le, J_eq, J_nat, J_in, J_div] at q
      refine c_mHolds hL hj hR hget bF hF (fun M8 F8 => ?_)
      have next : ∀ (a' : Nat), a' = acc + bI (clH F R[i]) * R[i].2.1 → a' ≤ acc + 99 → ∀ y : Int32, y = J ((8 * j + i : Nat) : Int) + (1 : Int32) → LX12_sumOf_13 D d (J p) (J w) (J (a' : Int)) y M8 post := by
        intro a' ea ha y ey
        rw [eS y ey]
        refine ih (i + 1) a' M8 (by omega) (by omega) (hL.of F8.1) (by rw [F8.2.2.2 76 (by decide)]; exact e76) (hR.fm (fun x h1 h2 => F8.2.2.2 x (by (simp only [List.contains_cons, List.contains_nil, Bool.or_false, Bool.or_eq_false_iff, beq_eq_false_iff_ne, ne_eq]; omega)))) (fun w hw => by rw [F8.2.2.2 72 (by decide)]; exact hF w hw) (fun M' F1 => ?_)
        have := h M' (F8.trans F1)
        rw [if_pos (by omega), ← Nat.add_assoc, ← ea] at this
        exact this
      cases hb : clH F R[i] with
      | false =>
        rw [hb] at next
        refine ⟨fun _ x15 e15 x16 e16 => ?_, fun q => absurd (by decide) q⟩
        rw [e15]
        exact next acc (by show acc = acc + 0 * _; omega) (by omega) x16 e16
      | true =>
        rw [hb] at next
        refine ⟨fun q => absurd q (by decide), fun _ x17 e17 x18 e18 => ?_⟩
        rw [F8.2.2.2 67 (by decide), c2] at e17
        have e17' : x17 = J ((acc + R[i].2.1 : Nat) : Int) := by rw [e17]; simp (disch := omega) only [J_lit, J_add, J_sub, J_mul, J_neg, J_lt, J_le, J_eq, J_nat, J_in, J_div]; congr 1
        rw [e17']
        exact next (acc + R[i].2.1) (by show acc + _ = acc + 1 * _; omega) (by omega) x18 e18
theorem c_sumOf {M : Mm} {p j w : Nat} {R : List Cls} {P : Int32 → Mm → Prop} (hL : Lay 62 98 M) (hp : p < 11) (hj : j < 7) (hw : w ≤ 3) (e76 : gI M 76 p = J j) (hR : RuM M j R) (bF : ∀ w, w < 4 → 0 ≤ F w ∧ F w ≤ 99) (hF : ∀ w, w < 4 → gI M 72 w = J (F w)) (h : ∀ M', Fm [73] M M' → P (J ((gain F w R : Nat) : Int)) M') : AMi D (d + 1) mX12_sumOf [.ref 62, .int (J p), .int (J w)] M P := by
  have ep : (J (p : Int)).toNatClampNeg = p := by simp (disch := omega) only [J_lit, J_add, J_sub, J_mul, J_neg, J_lt, J_le, J_eq, J_nat, J_in, J_div]; omega
  refine rX12_sumOf D d _ _ M _ hL ⟨by simp (disch := omega) only [J_lit, J_add, J_sub, J_mul, J_neg, J_lt, J_le, J_eq, J_nat, J_in, J_div]; omega, fun x2 e2 => ?_⟩
  rw [ep, e76] at e2
  have e2' : x2 = J ((8 * j + 0 : Nat) : Int) := by rw [e2]; simp (disch := omega) only [J_lit, J_add, J_sub, J_mul, J_neg, J_lt, J_le, J_eq, J_nat, J_in, J_div]; congr 1
  rw [e2']
  have h8 := hR.1
  refine l_sumOf (d := d) hp hj hw bF R.length 0 0 M (by omega) (by omega) hL e76 hR hF (fun M' F1 => ⟨_, rfl, F1.1, ?_⟩)
  rw [List.drop_zero, Nat.zero_add]
  exact h M' F1
end
