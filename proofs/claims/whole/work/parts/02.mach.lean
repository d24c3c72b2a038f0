
/-! the abstract memory: how many cells, the shape of each (0, c: an object of sort c; 1 n: ints, 2 n: longs, 3 n: booleans, 4 n: rows of ints, 5 n: rows of longs, 6 n: players), ints, longs, references -/
abbrev Mm : Type := Nat × (Nat → Nat × Nat) × (Nat → Nat → Int32) × (Nat → Nat → Int64) × (Nat → Nat → Option Nat)
def mN (M : Mm) : Nat := M.1
def mS (M : Mm) : Nat → Nat × Nat := M.2.1
def gI (M : Mm) : Nat → Nat → Int32 := M.2.2.1
def gL (M : Mm) : Nat → Nat → Int64 := M.2.2.2.1
def gP (M : Mm) : Nat → Nat → Option Nat := M.2.2.2.2
def rI (M : Mm) (a : Nat) (f : Nat → Int32) : Mm := (M.1, M.2.1, va_up M.2.2.1 a f, M.2.2.2.1, M.2.2.2.2)
def rL (M : Mm) (a : Nat) (f : Nat → Int64) : Mm := (M.1, M.2.1, M.2.2.1, va_up M.2.2.2.1 a f, M.2.2.2.2)
def rP (M : Mm) (a : Nat) (f : Nat → Option Nat) : Mm := (M.1, M.2.1, M.2.2.1, M.2.2.2.1, va_up M.2.2.2.2 a f)
def sI (M : Mm) (a k : Nat) (v : Int32) : Mm := rI M a (va_up (gI M a) k v)
def sL (M : Mm) (a k : Nat) (v : Int64) : Mm := rL M a (va_up (gL M a) k v)
def sP (M : Mm) (a k : Nat) (v : Option Nat) : Mm := rP M a (va_up (gP M a) k v)
def mA (M : Mm) (q : Nat × Nat) : Mm := (M.1 + 1, va_up M.2.1 M.1 q, va_up M.2.2.1 M.1 (fun _ => 0), va_up M.2.2.2.1 M.1 (fun _ => 0), va_up M.2.2.2.2 M.1 (fun _ => none))
/-- the machine's side: launch, class numbers and slots, array classes, where our cells begin, what lay there before: texts and the table of tens, the texts' bytes -/
abbrev GD : Type := Launch × va_G × (Nat → ClassId) × Nat × (Nat → Nat) × (Nat → Nat)
def gB (D : GD) : Nat := D.2.2.2.1
def rh (D : GD) (a : Nat) : Nat := if a < 1000000 then gB D + a else D.2.2.2.2.1 (a - 1000000)
def cv (D : GD) : Value → Value
  | .ref a => .ref (rh D a)
  | v => v
def fK : FieldType → Nat
  | .long => 1
  | .object _ => 2
  | .array _ => 2
  | _ => 0
def fk (c k : Nat) : Nat := fK ((cTy.getD c (fun _ => .int)) k)
def nF (c : Nat) : Nat := (vwCl.getD c (RX0, TX0, 0)).2.2
def fv (D : GD) (M : Mm) (a c k : Nat) : Value := if fk c k = 1 then .long (gL M a k) else if fk c k = 2 then va_rf ((gP M a k).map (rh D)) else .int (gI M a k)
def ce (D : GD) (M : Mm) (a : Nat) : va_E := match (mS M a).1 with
  | 0 => .inr ((mS M a).2, (List.range (nF (mS M a).2)).map (fv D M a (mS M a).2))
  | 1 => .inl (D.2.2.1 0, (mS M a).2, .inl (gI M a))
  | 2 => .inl (D.2.2.1 1, (mS M a).2, .inr (.inl (gL M a)))
  | 3 => .inl (D.2.2.1 2, (mS M a).2, .inl (gI M a))
  | 4 => .inl (D.2.2.1 3, (mS M a).2, .inr (.inr (.inr (.inr (fun j => (gP M a j).map (rh D))))))
  | 5 => .inl (D.2.2.1 4, (mS M a).2, .inr (.inr (.inr (.inr (fun j => (gP M a j).map (rh D))))))
  | _ => .inl (D.2.2.1 5, (mS M a).2, .inr (.inr (.inr (.inr (fun j => (gP M a j).map (rh D))))))
def wd (D : GD) (M : Mm) : va_W := (List.range (mN M)).map (fun a => (gB D + a, ce D M a))
def ty_ (D : GD) : List (ClassId × FieldType) := [(D.2.2.1 0, .int), (D.2.2.1 1, .long), (D.2.2.1 2, .boolean), (D.2.2.1 3, .array .int), (D.2.2.1 4, .array .long), (D.2.2.1 5, .object "ElevenYards$Player")]
def Fr (D : GD) : Nat → Prop := fun q => gB D ≤ q
def Rp (D : GD) (M : Mm) (H : Heap) : Prop := va_P D.2.1 vwCl (wd D M) H ∧ H.size = gB D + mN M ∧ mN M ≤ 1000000
theorem wd_at {D : GD} {M : Mm} {a : Nat} (h : a < mN M) : (wd D M)[a]? = some (gB D + a, ce D M a) := by
  simp [wd, h]
theorem wd_len (D : GD) (M : Mm) : (wd D M).length = mN M := by simp [wd]
theorem wd_D (D : GD) (M : Mm) : va_D (Fr D) (wd D M) := by
  refine ⟨fun i j p q hi hj hpq => ?_, fun k q hk => ?_⟩
  · have li : i < mN M := by have := (List.getElem?_eq_some_iff.mp hi).1; rwa [wd_len] at this
    have lj : j < mN M := by have := (List.getElem?_eq_some_iff.mp hj).1; rwa [wd_len] at this
    rw [wd_at li] at hi
    rw [wd_at lj] at hj
    cases hi; cases hj
    have : gB D + i = gB D + j := hpq
    omega
  · have lk : k < mN M := by have := (List.getElem?_eq_some_iff.mp hk).1; rwa [wd_len] at this
    rw [wd_at lk] at hk
    cases hk
    exact Nat.le_add_right _ _
theorem wd_set {D : GD} {M M' : Mm} {a : Nat} (hn : mN M' = mN M) (ho : ∀ b, b ≠ a → ce D M' b = ce D M b) : (wd D M).set a (gB D + a, ce D M' a) = wd D M' := by
  apply List.ext_getElem?
  intro k
  rw [List.getElem?_set]
  by_cases hk : k < mN M
  · by_cases e : a = k
    · subst e
      rw [if_pos rfl, if_pos (by rw [wd_len]; exact hk), wd_at (M := M') (by rw [hn]; exact hk)]
    · rw [if_neg e, wd_at hk, wd_at (M := M') (by rw [hn]; exact hk), ho k (fun q => e q.symm)]
  · have h1 : (wd D M)[k]? = none := by rw [List.getElem?_eq_none_iff, wd_len]; omega
    have h2 : (wd D M')[k]? = none := by rw [List.getElem?_eq_none_iff, wd_len, hn]; omega
    rw [h1, h2]
    split
    · rw [wd_len, if_neg (by omega)]
    · rfl
theorem wd_push {D : GD} {M M' : Mm} (hn : mN M' = mN M + 1) (ho : ∀ b, b < mN M → ce D M' b = ce D M b) : wd D M ++ [(gB D + mN M, ce D M' (mN M))] = wd D M' := by
  unfold wd
  rw [hn, List.range_succ, List.map_append]
  congr 1
  apply List.map_congr_left
  intro b hb
  rw [ho b (List.mem_range.mp hb)]
theorem ce_of {D : GD} {M M' : Mm} {b : Nat} (h1 : mS M' b = mS M b) (h2 : gI M' b = gI M b) (h3 : gL M' b = gL M b) (h4 : gP M' b = gP M b) : ce D M' b = ce D M b := by
  have hf : ∀ c, fv D M' b c = fv D M b c := fun c => by funext k; simp only [fv, h2, h3, h4]
  unfold ce
  simp only [h1, h2, h3, h4, hf]
theorem ce_rI {D : GD} {M : Mm} {a b : Nat} {f : Nat → Int32} (h : b ≠ a) : ce D (rI M a f) b = ce D M b := ce_of rfl (by show va_up _ a f b = _; rw [va_up_ne _ _ h]; rfl) rfl rfl
theorem ce_rL {D : GD} {M : Mm} {a b : Nat} {f : Nat → Int64} (h : b ≠ a) : ce D (rL M a f) b = ce D M b := ce_of rfl rfl (by show va_up _ a f b = _; rw [va_up_ne _ _ h]; rfl) rfl
theorem ce_rP {D : GD} {M : Mm} {a b : Nat} {f : Nat → Option Nat} (h : b ≠ a) : ce D (rP M a f) b = ce D M b := ce_of rfl rfl rfl (by show va_up _ a f b = _; rw [va_up_ne _ _ h]; rfl)
theorem rh_own {D : GD} {M : Mm} {a : Nat} (h : a < mN M) (hm : mN M ≤ 1000000) : rh D a = gB D + a := by
  unfold rh; rw [if_pos (by omega)]
/-- a cell is written: what the machine's heap is then -/
theorem Rp.put {D : GD} {M M' : Mm} {H H1 : Heap} {a : Nat} (h : Rp D M H) (ha : a < mN M) (hn : mN M' = mN M) (ho : ∀ b, b ≠ a → ce D M' b = ce D M b) (z : H1.size = H.size) (oq : ∀ q : Nat, q ≠ gB D + a → H1[q]? = H[q]?) (he : va_at D.2.1 vwCl (gB D + a, ce D M' a) H1) : Rp D M' H1 := by
  refine ⟨?_, by rw [z, hn]; exact h.2.1, by rw [hn]; exact h.2.2⟩
  rw [← wd_set hn ho]
  exact h.1.set (wd_D D M) (wd_at ha) he oq


/-- every word of the tables stays true while the machine warms up -/
def wok : Cond → Bool
  | .arrayClass _ => true
  | .stringRef _ _ _ => true
  | .declares _ => true
  | .castable _ _ => true
  | .arrayOver _ => true
  | w => w.onTables && w.keepsH

