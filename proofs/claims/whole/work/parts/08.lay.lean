def layL : List (Nat × Nat) := [(0, 11), (0, 6), (1, 100), (1, 100), (4, 7), (1, 100), (1, 100), (1, 100), (1, 100), (1, 100), (1, 100), (1, 100), (6, 10), (0, 0), (1, 9), (4, 2), (1, 3), (1, 3), (1, 2), (4, 2), (1, 4), (1, 4), (4, 2), (1, 4), (1, 4), (0, 1), (1, 30), (1, 30), (1, 3), (0, 7), (6, 12), (4, 2), (1, 275), (1, 275), (4, 11), (1, 36), (1, 36), (1, 36), (1, 36), (1, 36), (1, 36), (1, 36), (1, 36), (1, 36), (1, 36), (1, 36), (1, 21), (1, 9), (0, 1), (1, 30), (1, 30), (1, 3), (6, 12), (1, 6), (1, 6), (5, 6), (2, 60), (2, 60), (2, 60), (2, 60), (2, 60), (2, 60), (0, 12), (1, 9), (1, 100), (1, 7), (1, 56), (1, 56), (1, 56), (1, 56), (1, 700), (1, 101), (1, 4), (3, 100), (1, 11), (1, 11), (1, 11), (1, 6), (1, 6), (1, 30), (1, 30), (1, 30), (1, 12), (1, 275), (1, 55), (1, 5), (1, 5), (1, 396), (1, 9), (1, 30), (1, 30), (1, 30), (1, 12), (1, 20), (1, 6), (1, 6), (2, 360), (2, 60)]
def lay (a : Nat) : Nat × Nat := layL.getD a (9, 0)
def layP : List (Nat × Nat × Nat) := [(0, 0, 1), (0, 1, 4), (0, 3, 12), (0, 5, 13), (0, 6, 25), (0, 7, 29), (0, 8, 46), (0, 10, 47), (0, 11, 48), (0, 12, 52), (0, 13, 53), (0, 14, 54), (0, 15, 55), (1, 0, 2), (1, 1, 3), (4, 0, 5), (4, 1, 6), (4, 2, 7), (4, 3, 8), (4, 4, 9), (4, 5, 10), (4, 6, 11), (13, 0, 14), (13, 1, 15), (13, 2, 18), (13, 3, 19), (13, 4, 22), (15, 0, 16), (15, 1, 17), (19, 0, 20), (19, 1, 21), (22, 0, 23), (22, 1, 24), (25, 0, 26), (25, 1, 27), (25, 3, 28), (29, 0, 30), (29, 1, 31), (29, 2, 34), (31, 0, 32), (31, 1, 33), (34, 0, 35), (34, 1, 36), (34, 2, 37), (34, 3, 38), (34, 4, 39), (34, 5, 40), (34, 6, 41), (34, 7, 42), (34, 8, 43), (34, 9, 44), (34, 10, 45), (48, 0, 49), (48, 1, 50), (48, 3, 51), (55, 0, 56), (55, 1, 57), (55, 2, 58), (55, 3, 59), (55, 4, 60), (55, 5, 61), (62, 0, 63), (62, 5, 64), (62, 6, 65), (62, 7, 66), (62, 8, 67), (62, 9, 68), (62, 10, 69), (62, 11, 70), (62, 12, 71), (62, 16, 72), (62, 17, 73), (62, 19, 74), (62, 20, 75), (62, 21, 76), (62, 22, 77), (62, 25, 78), (62, 33, 79), (62, 34, 80), (62, 35, 81), (62, 36, 82), (62, 37, 83), (62, 38, 84), (62, 39, 85), (62, 40, 86), (62, 41, 87), (62, 44, 88), (62, 45, 89), (62, 46, 90), (62, 47, 91), (62, 48, 92), (62, 50, 93), (62, 51, 94), (62, 52, 95), (62, 53, 96), (62, 54, 97)]

def Sh (M : Mm) (a : Nat) (q : Nat × Nat) : Prop := a < mN M ∧ mS M a = q
/-- nothing is made, and no reference but those in rows of players changes -/
def Sm (M M1 : Mm) : Prop := mN M1 = mN M ∧ mS M1 = mS M ∧ ∀ a k, (mS M a).1 ≠ 6 → gP M1 a k = gP M a k
theorem Sm.refl (M : Mm) : Sm M M := ⟨rfl, rfl, fun _ _ _ => rfl⟩
theorem Sm.trans {M M1 M2 : Mm} (h : Sm M M1) (g : Sm M1 M2) : Sm M M2 := ⟨g.1.trans h.1, g.2.1.trans h.2.1, fun a k hk => (g.2.2 a k (by rw [h.2.1]; exact hk)).trans (h.2.2 a k hk)⟩
theorem Sm.i {M M1 : Mm} (h : Sm M M1) {a k : Nat} {x : Int32} : Sm M (sI M1 a k x) := h
theorem Sm.l {M M1 : Mm} (h : Sm M M1) {a k : Nat} {x : Int64} : Sm M (sL M1 a k x) := h
theorem Sm.ri {M M1 : Mm} (h : Sm M M1) {a : Nat} {f : Nat → Int32} : Sm M (rI M1 a f) := h
theorem Sm.rl {M M1 : Mm} (h : Sm M M1) {a : Nat} {f : Nat → Int64} : Sm M (rL M1 a f) := h
theorem Sm.p {M M1 : Mm} (h : Sm M M1) {a k : Nat} {o : Option Nat} (ha : (mS M a).1 = 6) : Sm M (sP M1 a k o) := ⟨h.1, h.2.1, fun b j hb => by
  have e : b ≠ a := fun e => hb (by rw [e]; exact ha)
  show va_up (gP M1) a _ b j = _
  rw [va_up_ne _ _ e]
  exact h.2.2 b j hb⟩
theorem Sh.of {M M1 : Mm} (hs : Sm M M1) {a : Nat} {q : Nat × Nat} (h : Sh M a q) : Sh M1 a q := ⟨by rw [hs.1]; exact h.1, by rw [hs.2.1]; exact h.2⟩
/-- the cells from lo on, below hi, lie as they were made -/
def Lay (lo hi : Nat) (M : Mm) : Prop := hi ≤ mN M ∧ (∀ a, lo ≤ a → a < hi → mS M a = lay a) ∧ ∀ q ∈ layP, lo ≤ q.1 → q.1 < hi → gP M q.1 q.2.1 = some q.2.2
theorem layP_6 : ∀ q ∈ layP, (lay q.1).1 ≠ 6 := by decide +kernel
theorem Lay.of {lo hi : Nat} {M M1 : Mm} (hs : Sm M M1) (h : Lay lo hi M) : Lay lo hi M1 := ⟨by rw [hs.1]; exact h.1, fun a h1 h2 => by rw [hs.2.1]; exact h.2.1 a h1 h2, fun q hq h1 h2 => by
  rw [hs.2.2 _ _ (by rw [h.2.1 _ h1 h2]; exact layP_6 q hq)]
  exact h.2.2 q hq h1 h2⟩
theorem Lay.sub {lo hi lo' hi' : Nat} {M : Mm} (h : Lay lo hi M) (h1 : lo ≤ lo') (h2 : hi' ≤ hi) : Lay lo' hi' M := ⟨Nat.le_trans h2 h.1, fun a g1 g2 => h.2.1 a (Nat.le_trans h1 g1) (Nat.lt_of_lt_of_le g2 h2), fun q hq g1 g2 => h.2.2 q hq (Nat.le_trans h1 g1) (Nat.lt_of_lt_of_le g2 h2)⟩
theorem Lay.sh {lo hi : Nat} {M : Mm} (h : Lay lo hi M) (a : Nat) {q : Nat × Nat} (hq : lay a = q) (h1 : lo ≤ a) (h2 : a < hi) : Sh M a q := ⟨Nat.lt_of_lt_of_le h2 h.1, (h.2.1 a h1 h2).trans hq⟩
theorem Lay.pt {lo hi : Nat} {M : Mm} (h : Lay lo hi M) {a k r : Nat} (i : Nat) (hq : layP[i]? = some (a, k, r)) (h1 : lo ≤ a) (h2 : a < hi) : gP M a k = some r := h.2.2 (a, k, r) (List.mem_of_getElem? hq) h1 h2
theorem vin {i : Int32} {n : Nat} (h : (decide (0 ≤ i.toInt) && decide (i.toInt < (n : Int))) = true) : vp_in i n := by
  simp only [Bool.and_eq_true, decide_eq_true_eq] at h
  exact vp_in_iff.mpr h
theorem vin_lt {i : Int32} {n : Nat} (h : vp_in i n) : i.toNatClampNeg < n := Nat.not_le.mp fun q => h (Or.inr q)

theorem row_4 {lo hi : Nat} {M : Mm} (h : Lay lo hi M) (h1 : lo ≤ 4) (h2 : 12 ≤ hi) {j : Nat} (hj : j < 7) : gP M 4 j = some (5 + j) ∧ Sh M (5 + j) (1, 100) := by
  match j, hj with
  | 0, _ => exact ⟨h.pt 15 rfl (by omega) (by omega), h.sh 5 rfl (by omega) (by omega)⟩
  | 1, _ => exact ⟨h.pt 16 rfl (by omega) (by omega), h.sh 6 rfl (by omega) (by omega)⟩
  | 2, _ => exact ⟨h.pt 17 rfl (by omega) (by omega), h.sh 7 rfl (by omega) (by omega)⟩
  | 3, _ => exact ⟨h.pt 18 rfl (by omega) (by omega), h.sh 8 rfl (by omega) (by omega)⟩
  | 4, _ => exact ⟨h.pt 19 rfl (by omega) (by omega), h.sh 9 rfl (by omega) (by omega)⟩
  | 5, _ => exact ⟨h.pt 20 rfl (by omega) (by omega), h.sh 10 rfl (by omega) (by omega)⟩
  | 6, _ => exact ⟨h.pt 21 rfl (by omega) (by omega), h.sh 11 rfl (by omega) (by omega)⟩
theorem row_15 {lo hi : Nat} {M : Mm} (h : Lay lo hi M) (h1 : lo ≤ 15) (h2 : 18 ≤ hi) {j : Nat} (hj : j < 2) : gP M 15 j = some (16 + j) ∧ Sh M (16 + j) (1, 3) := by
  match j, hj with
  | 0, _ => exact ⟨h.pt 27 rfl (by omega) (by omega), h.sh 16 rfl (by omega) (by omega)⟩
  | 1, _ => exact ⟨h.pt 28 rfl (by omega) (by omega), h.sh 17 rfl (by omega) (by omega)⟩
theorem row_19 {lo hi : Nat} {M : Mm} (h : Lay lo hi M) (h1 : lo ≤ 19) (h2 : 22 ≤ hi) {j : Nat} (hj : j < 2) : gP M 19 j = some (20 + j) ∧ Sh M (20 + j) (1, 4) := by
  match j, hj with
  | 0, _ => exact ⟨h.pt 29 rfl (by omega) (by omega), h.sh 20 rfl (by omega) (by omega)⟩
  | 1, _ => exact ⟨h.pt 30 rfl (by omega) (by omega), h.sh 21 rfl (by omega) (by omega)⟩
theorem row_22 {lo hi : Nat} {M : Mm} (h : Lay lo hi M) (h1 : lo ≤ 22) (h2 : 25 ≤ hi) {j : Nat} (hj : j < 2) : gP M 22 j = some (23 + j) ∧ Sh M (23 + j) (1, 4) := by
  match j, hj with
  | 0, _ => exact ⟨h.pt 31 rfl (by omega) (by omega), h.sh 23 rfl (by omega) (by omega)⟩
  | 1, _ => exact ⟨h.pt 32 rfl (by omega) (by omega), h.sh 24 rfl (by omega) (by omega)⟩
theorem row_31 {lo hi : Nat} {M : Mm} (h : Lay lo hi M) (h1 : lo ≤ 31) (h2 : 34 ≤ hi) {j : Nat} (hj : j < 2) : gP M 31 j = some (32 + j) ∧ Sh M (32 + j) (1, 275) := by
  match j, hj with
  | 0, _ => exact ⟨h.pt 39 rfl (by omega) (by omega), h.sh 32 rfl (by omega) (by omega)⟩
  | 1, _ => exact ⟨h.pt 40 rfl (by omega) (by omega), h.sh 33 rfl (by omega) (by omega)⟩
theorem row_34 {lo hi : Nat} {M : Mm} (h : Lay lo hi M) (h1 : lo ≤ 34) (h2 : 46 ≤ hi) {j : Nat} (hj : j < 11) : gP M 34 j = some (35 + j) ∧ Sh M (35 + j) (1, 36) := by
  match j, hj with
  | 0, _ => exact ⟨h.pt 41 rfl (by omega) (by omega), h.sh 35 rfl (by omega) (by omega)⟩
  | 1, _ => exact ⟨h.pt 42 rfl (by omega) (by omega), h.sh 36 rfl (by omega) (by omega)⟩
  | 2, _ => exact ⟨h.pt 43 rfl (by omega) (by omega), h.sh 37 rfl (by omega) (by omega)⟩
  | 3, _ => exact ⟨h.pt 44 rfl (by omega) (by omega), h.sh 38 rfl (by omega) (by omega)⟩
  | 4, _ => exact ⟨h.pt 45 rfl (by omega) (by omega), h.sh 39 rfl (by omega) (by omega)⟩
  | 5, _ => exact ⟨h.pt 46 rfl (by omega) (by omega), h.sh 40 rfl (by omega) (by omega)⟩
  | 6, _ => exact ⟨h.pt 47 rfl (by omega) (by omega), h.sh 41 rfl (by omega) (by omega)⟩
  | 7, _ => exact ⟨h.pt 48 rfl (by omega) (by omega), h.sh 42 rfl (by omega) (by omega)⟩
  | 8, _ => exact ⟨h.pt 49 rfl (by omega) (by omega), h.sh 43 rfl (by omega) (by omega)⟩
  | 9, _ => exact ⟨h.pt 50 rfl (by omega) (by omega), h.sh 44 rfl (by omega) (by omega)⟩
  | 10, _ => exact ⟨h.pt 51 rfl (by omega) (by omega), h.sh 45 rfl (by omega) (by omega)⟩
theorem row_55 {lo hi : Nat} {M : Mm} (h : Lay lo hi M) (h1 : lo ≤ 55) (h2 : 62 ≤ hi) {j : Nat} (hj : j < 6) : gP M 55 j = some (56 + j) ∧ Sh M (56 + j) (2, 60) := by
  match j, hj with
  | 0, _ => exact ⟨h.pt 55 rfl (by omega) (by omega), h.sh 56 rfl (by omega) (by omega)⟩
  | 1, _ => exact ⟨h.pt 56 rfl (by omega) (by omega), h.sh 57 rfl (by omega) (by omega)⟩
  | 2, _ => exact ⟨h.pt 57 rfl (by omega) (by omega), h.sh 58 rfl (by omega) (by omega)⟩
  | 3, _ => exact ⟨h.pt 58 rfl (by omega) (by omega), h.sh 59 rfl (by omega) (by omega)⟩
  | 4, _ => exact ⟨h.pt 59 rfl (by omega) (by omega), h.sh 60 rfl (by omega) (by omega)⟩
  | 5, _ => exact ⟨h.pt 60 rfl (by omega) (by omega), h.sh 61 rfl (by omega) (by omega)⟩

section
variable {D : GD} {d mc ms : Nat} {u : MD} {kc ks pc : Nat} {lv : List (Nat × Value)} {st : List Value} {M : Mm} {post : Option Value → Mm → Prop}
theorem ab_nameM (k : ∀ M1, M1 = M → AW D d mc ms u kc ks pc lv st M1 post) : AW D d mc ms u kc ks pc lv st M post := k M rfl
theorem ab_sub {lv1 : List (Nat × Value)} (is : List Nat) (he : lv_pick lv is = lv1) (k : AW D d mc ms u kc ks pc lv1 st M post) : AW D d mc ms u kc ks pc lv st M post := by
  intro p e s m args below meth c H locs ls cells slots B h1 h2 hR hS hl
  refine k p e s m args below meth c H locs ls cells slots B h1 h2 hR hS ?_
  refine lv_sub hl is ?_
  rw [← he]
  simp [lc, lv_pick, List.map_filterMap]
theorem ab_ialdj {a n j : Nat} {i : Int32} (hd : decode u.2.1 pc = .ok (.iaload, 1)) (hs : Sh M a (1, n)) (hin : vp_in i n) (hj : i.toNatClampNeg = j) (kk : AW D d mc ms u kc ks (pc + 1) lv (.int (gI M a j) :: st) M post) : AW D d mc ms u kc ks pc lv (.int i :: .ref a :: st) M post := by subst hj; exact ab_iald hd hs.1 hs.2 hin kk
theorem ab_zaldj {a n j : Nat} {i : Int32} (hd : decode u.2.1 pc = .ok (.baload, 1)) (hs : Sh M a (3, n)) (hin : vp_in i n) (hj : i.toNatClampNeg = j) (kk : AW D d mc ms u kc ks (pc + 1) lv (.int (gI M a j) :: st) M post) : AW D d mc ms u kc ks pc lv (.int i :: .ref a :: st) M post := by subst hj; exact ab_zald hd hs.1 hs.2 hin kk
theorem ab_laldj {a n j : Nat} {i : Int32} (hd : decode u.2.1 pc = .ok (.laload, 1)) (hs : Sh M a (2, n)) (hin : vp_in i n) (hj : i.toNatClampNeg = j) (kk : AW D d mc ms u kc ks (pc + 1) lv (.long (gL M a j) :: st) M post) : AW D d mc ms u kc ks pc lv (.int i :: .ref a :: st) M post := by subst hj; exact ab_lald hd hs.1 hs.2 hin kk
theorem ab_iastj {a n j : Nat} {i x : Int32} (hd : decode u.2.1 pc = .ok (.iastore, 1)) (hs : Sh M a (1, n)) (hin : vp_in i n) (hj : i.toNatClampNeg = j) (kk : AW D d mc ms u kc ks (pc + 1) lv st (sI M a j x) post) : AW D d mc ms u kc ks pc lv (.int x :: .int i :: .ref a :: st) M post := by subst hj; exact ab_iast hd hs.1 hs.2 hin kk
theorem ab_zastj {a n j : Nat} {i x : Int32} (hd : decode u.2.1 pc = .ok (.bastore, 1)) (hs : Sh M a (3, n)) (hin : vp_in i n) (hx : x = 0 ∨ x = 1) (hj : i.toNatClampNeg = j) (kk : AW D d mc ms u kc ks (pc + 1) lv st (sI M a j x) post) : AW D d mc ms u kc ks pc lv (.int x :: .int i :: .ref a :: st) M post := by subst hj; exact ab_zast hd hs.1 hs.2 hin hx kk
theorem ab_lastj {a n j : Nat} {i : Int32} {x : Int64} (hd : decode u.2.1 pc = .ok (.lastore, 1)) (hs : Sh M a (2, n)) (hin : vp_in i n) (hj : i.toNatClampNeg = j) (kk : AW D d mc ms u kc ks (pc + 1) lv st (sL M a j x) post) : AW D d mc ms u kc ks pc lv (.long x :: .int i :: .ref a :: st) M post := by subst hj; exact ab_last hd hs.1 hs.2 hin kk
end
/-- a method that answers an int, a long, nothing, a reference or null, and makes nothing -/
def AMi (D : GD) (d : Nat) (u : MD) (vs : List Value) (M : Mm) (P : Int32 → Mm → Prop) : Prop := AM D d 0 0 u vs M (fun r M1 => ∃ x, r = some (.int x) ∧ Sm M M1 ∧ P x M1)
def AMl (D : GD) (d : Nat) (u : MD) (vs : List Value) (M : Mm) (P : Int64 → Mm → Prop) : Prop := AM D d 0 0 u vs M (fun r M1 => ∃ x, r = some (.long x) ∧ Sm M M1 ∧ P x M1)
def AMv (D : GD) (d : Nat) (u : MD) (vs : List Value) (M : Mm) (P : Mm → Prop) : Prop := AM D d 0 0 u vs M (fun r M1 => r = none ∧ Sm M M1 ∧ P M1)
def AMq (D : GD) (d : Nat) (u : MD) (vs : List Value) (M : Mm) (P : Option Nat → Mm → Prop) : Prop := AM D d 0 0 u vs M (fun r M1 => ∃ o, r = some (va_rf o) ∧ Sm M M1 ∧ P o M1)
theorem AMi.mono {D : GD} {d : Nat} {u : MD} {vs : List Value} {M : Mm} {P Q : Int32 → Mm → Prop} (h : AMi D d u vs M P) (hPQ : ∀ x M1, Sm M M1 → P x M1 → Q x M1) : AMi D d u vs M Q := AM.mono h (fun r M1 ⟨x, h1, h2, h3⟩ => ⟨x, h1, h2, hPQ x M1 h2 h3⟩)
theorem AMl.mono {D : GD} {d : Nat} {u : MD} {vs : List Value} {M : Mm} {P Q : Int64 → Mm → Prop} (h : AMl D d u vs M P) (hPQ : ∀ x M1, Sm M M1 → P x M1 → Q x M1) : AMl D d u vs M Q := AM.mono h (fun r M1 ⟨x, h1, h2, h3⟩ => ⟨x, h1, h2, hPQ x M1 h2 h3⟩)
theorem AMv.mono {D : GD} {d : Nat} {u : MD} {vs : List Value} {M : Mm} {P Q : Mm → Prop} (h : AMv D d u vs M P) (hPQ : ∀ M1, Sm M M1 → P M1 → Q M1) : AMv D d u vs M Q := AM.mono h (fun r M1 ⟨h1, h2, h3⟩ => ⟨h1, h2, hPQ M1 h2 h3⟩)
theorem AMq.mono {D : GD} {d : Nat} {u : MD} {vs : List Value} {M : Mm} {P Q : Option Nat → Mm → Prop} (h : AMq D d u vs M P) (hPQ : ∀ x M1, Sm M M1 → P x M1 → Q x M1) : AMq D d u vs M Q := AM.mono h (fun r M1 ⟨x, h1, h2, h3⟩ => ⟨x, h1, h2, hPQ x M1 h2 h3⟩)

