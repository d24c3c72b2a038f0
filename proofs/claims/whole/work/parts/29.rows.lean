
/-- the outer row, then so many inner ones, each put into its place -/
def mRw (M : Mm) (t ti N K : Nat) : Nat → Mm
  | 0 => mA M (t, N)
  | j + 1 => sP (mA (mRw M t ti N K j) (ti, K)) (mN M) j (some (mN M + 1 + j))
theorem mRw_n (M : Mm) (t ti N K : Nat) : ∀ j, mN (mRw M t ti N K j) = mN M + 1 + j
  | 0 => rfl
  | j + 1 => by
    show mN (mRw M t ti N K j) + 1 = _
    rw [mRw_n M t ti N K j]
    omega
theorem mRw_s (M : Mm) (t ti N K : Nat) : ∀ j, mS (mRw M t ti N K j) (mN M) = (t, N)
  | 0 => mS_mA _
  | j + 1 => by
    have hne : mN M ≠ (mRw M t ti N K j).1 := by
      have := mRw_n M t ti N K j
      have e : (mRw M t ti N K j).1 = mN M + 1 + j := this
      rw [e]; omega
    show va_up (mRw M t ti N K j).2.1 (mRw M t ti N K j).1 (ti, K) (mN M) = _
    rw [va_up_ne _ _ hne]
    exact mRw_s M t ti N K j
section
variable {E : CtlPost} {e : Env} {dq : Bool} {acts : List Action} {s : State}
theorem mn_new {c comp : ClassId} {k : Class} {ty : FieldType} {len : Nat} {v : Value} (hk : s.vm.classes[c]? = some k) (hkind : k.kind = .array comp ty) (hl : ¬ len > e.platform.arrayLengthLimit) (hh : ¬ len * componentBytes ty > e.platform.maxHeapBytes) (hf : fits ty v = true) (hv : v.isDefault = true) (h1 : s.heap.size < e.platform.maxCells) (h2 : s.slotsUsed + len ≤ e.platform.maxSlots) {Q : Addr → Pre}
    (hq : Q s.heap.size dq acts (s.pushCell { cls := c, slots := Array.replicate len v, vm := .none })) : wp (Jvm.newArray c len v) Q E e dq acts s := by
  have ha : allocActs (Array.replicate len v) s.heap.size acts = acts := by
    unfold allocActs
    rw [if_pos (by rw [Array.all_replicate]; split <;> simp [hv])]
  have hfit : ∀ (i : Nat) (x : Value), (Array.replicate len v)[i]? = some x → s.fitsSlot c .none i x = true := by
    intro i x hx
    rw [Array.getElem?_replicate] at hx
    split at hx
    · cases hx
      simp [State.fitsSlot, State.slotType?, hk, hkind, hf]
    · cases hx
  simp only [Jvm.newArray, Jvm.arrayFits, wp_bind', W.ask, W.ite, hl, if_false, wp_pure', W.theClass, hk, hkind, hh, W.alloc, W.stop, Option.some.injEq, exists_eq_left', Array.size_replicate, ha]
  rw [if_neg (by omega)]
  exact ⟨h1, h2, hfit, hq⟩
end
/-- one inner row after another, each put into the next place of the outer one -/
def rwS (U : State) (a : Nat) (x : Cell) : Nat → State
  | 0 => U
  | j + 1 => match ((rwS U a x j).pushCell x).heap[a]? with
    | some co => ((rwS U a x j).pushCell x).setCell a (co.setSlot j (.ref (rwS U a x j).heap.size))
    | none => (rwS U a x j).pushCell x
theorem rwS_top (U : State) (g : JFrame) (a : Nat) (x : Cell) : ∀ j, rwS (U.setTop g) a x j = (rwS U a x j).setTop g
  | 0 => rfl
  | j + 1 => by
    unfold rwS
    rw [rwS_top U g a x j]
    simp only [State.pushCell_setTop, State.heap_setTop]
    split <;> simp only [State.setCell_setTop]
theorem rwS_f {s : State} {c : ClassId} {N K : Nat} {x : Cell} (hx : x.slots.size = K) : ∀ j, (rwS (s.pushCell { cls := c, slots := Array.replicate N .null, vm := .none }) s.heap.size x j).vm = s.vm ∧ (rwS (s.pushCell { cls := c, slots := Array.replicate N .null, vm := .none }) s.heap.size x j).heap.size = s.heap.size + 1 + j ∧ (rwS (s.pushCell { cls := c, slots := Array.replicate N .null, vm := .none }) s.heap.size x j).slotsUsed = s.slotsUsed + N + j * K ∧ ∃ co : Cell, (rwS (s.pushCell { cls := c, slots := Array.replicate N .null, vm := .none }) s.heap.size x j).heap[s.heap.size]? = some co ∧ co.cls = c ∧ co.vm = .none ∧ co.slots.size = N
  | 0 => by
    refine ⟨rfl, by simp [rwS], by simp [rwS], { cls := c, slots := Array.replicate N .null, vm := .none }, by simp [rwS, State.pushCell], rfl, rfl, by simp⟩
  | j + 1 => by
    obtain ⟨h1, h2, h3, co, h4, h5, h6, h7⟩ := rwS_f (s := s) (c := c) (N := N) (K := K) hx j
    have h8 : ((rwS (s.pushCell { cls := c, slots := Array.replicate N .null, vm := .none }) s.heap.size x j).pushCell x).heap[s.heap.size]? = some co := by
      rw [State.heap_pushCell_of_lt (h := (show s.heap.size < _ by rw [h2]; omega))]
      exact h4
    have h9 := (Array.getElem?_eq_some_iff.mp h8).1
    rw [rwS, h8]
    refine ⟨h1, by simp [h2]; omega, by simp [h3, hx, Nat.succ_mul]; omega, co.setSlot j (.ref (rwS (s.pushCell { cls := c, slots := Array.replicate N .null, vm := .none }) s.heap.size x j).heap.size), ?_, h5, h6, by simpa [Cell.setSlot] using h7⟩
    show (Array.setIfInBounds _ _ _)[s.heap.size]? = _
    rw [Array.getElem?_setIfInBounds_self, if_pos h9]
section
variable {E : CtlPost} {e : Env} {dq : Bool} {acts : List Action} {s : State}
theorem mn_make {c comp cc : ClassId} {k kc : Class} {ty : FieldType} {n m : Int32} (hk : s.vm.classes[c]? = some k) (hkind : k.kind = .array comp (.array ty)) (hkc : s.vm.classes[comp]? = some kc) (hkindc : kc.kind = .array cc ty) (hn : ¬ n < 0) (hm : ¬ m < 0)
    (hl1 : ¬ n.toNatClampNeg > e.platform.arrayLengthLimit) (hh1 : ¬ n.toNatClampNeg * componentBytes (.array ty) > e.platform.maxHeapBytes) (hl2 : ¬ m.toNatClampNeg > e.platform.arrayLengthLimit) (hh2 : ¬ m.toNatClampNeg * componentBytes ty > e.platform.maxHeapBytes)
    (hdf : fits ty (defaultValue ty) = true) (hdd : (defaultValue ty).isDefault = true) (h1 : s.heap.size + (1 + n.toNatClampNeg) ≤ e.platform.maxCells) (h2 : s.slotsUsed + (n.toNatClampNeg + n.toNatClampNeg * m.toNatClampNeg) ≤ e.platform.maxSlots) {Q : Addr → Pre}
    (hq : ∀ dq acts, Q s.heap.size dq acts (rwS (s.pushCell { cls := c, slots := Array.replicate n.toNatClampNeg .null, vm := .none }) s.heap.size { cls := comp, slots := Array.replicate m.toNatClampNeg (defaultValue ty), vm := .none } n.toNatClampNeg)) : wp (multianewarray.make c [n, m]) Q E e dq acts s := by
  have hf : ([m].find? (· < 0)) = none := by simp [hm]
  generalize eN : n.toNatClampNeg = N at *
  generalize eK : m.toNatClampNeg = K at *
  have hF := rwS_f (s := s) (c := c) (N := N) (K := K) (x := { cls := comp, slots := Array.replicate K (defaultValue ty), vm := .none }) (by simp)
  generalize eG : rwS (s.pushCell { cls := c, slots := Array.replicate N .null, vm := .none }) s.heap.size { cls := comp, slots := Array.replicate K (defaultValue ty), vm := .none } = G at *
  have hG0 : G 0 = s.pushCell { cls := c, slots := Array.replicate N .null, vm := .none } := by rw [← eG]; rfl
  unfold multianewarray.make
  simp only [wp_bind', W.ite, hn, if_false, wp_pure', W.theClass, hk, hkind, Option.some.injEq, exists_eq_left', eN]
  refine mn_new hk hkind hl1 hh1 rfl rfl (by omega) (by omega) ?_
  simp only [hf]
  rw [ite_self, wp_bind', Std.Legacy.Range.forIn_eq_forIn_range']
  rw [show ([:N] : Std.Legacy.Range).size = N by simp [Std.Legacy.Range.size], ← hG0]
  refine wp_forIn_inv (fun rest s' => rest.length ≤ N ∧ rest = List.range' (N - rest.length) rest.length ∧ s' = G (N - rest.length)) _ _ ⟨by simp, by simp, by simp⟩ ?_ ?_
  · rintro x rest s' d' acts' Q' ⟨r1, r2, rfl⟩ hnext
    simp only [List.length_cons] at r1 r2 ⊢
    rw [List.range'_succ] at r2
    obtain ⟨r3, r4⟩ := List.cons.inj r2
    have r5 : N - (rest.length + 1) + 1 = N - rest.length := by omega
    rw [← r3]
    rw [r5] at r4
    have r6 : x + 1 = N - rest.length := by omega
    have r7 : x + 1 ≤ N := by omega
    obtain ⟨g1, g2, g3, co, g4, g5, g6, g7⟩ := hF x
    have hmul := Nat.mul_le_mul_right K r7
    rw [Nat.succ_mul] at hmul
    unfold multianewarray.make
    simp only [wp_bind', W.ite, hm, if_false, wp_pure', W.theClass, g1, hkc, hkindc, Option.some.injEq, exists_eq_left', eK]
    refine mn_new (by rw [g1]; exact hkc) hkindc hl2 hh2 hdf hdd (by omega) (by omega) ?_
    have g8 : ((G x).pushCell { cls := comp, slots := Array.replicate K (defaultValue ty), vm := .none }).heap[s.heap.size]? = some co := by
      rw [State.heap_pushCell_of_lt (h := (show s.heap.size < _ by rw [g2]; omega))]
      exact g4
    simp only [wp_bind', W.writeLoc, wp_pure']
    refine ⟨co, g8, by rw [g6]; simp, by rw [g7]; omega, ?_, hnext _ _ _ ⟨by omega, r4, ?_⟩⟩
    · rw [g5, g6]
      simp [State.fitsSlot, State.slotType?, g1, hk, hkind]
      rfl
    · rw [← r6, ← eG]
      show _ = rwS _ _ _ (x + 1)
      rw [rwS, eG, g8]
  · rintro s' d' acts' ⟨-, -, rfl⟩
    simp only [wp_pure']
    exact hq _ _
end
section
variable {D : GD} {d mc ms : Nat} {u : MD} {kc ks pc : Nat} {lv : List (Nat × Value)} {st : List Value} {M : Mm} {post : Option Value → Mm → Prop}

theorem Rp.push4 {H : Heap} {N : Nat} (h : Rp D M H) (hm : mN M < 1000000) : Rp D (mA M (4, N)) (H.push { cls := D.2.2.1 3, slots := Array.replicate N .null, vm := .none }) := by
  refine h.push hm (by simp) (fun x hx => by rw [Array.getElem?_push, if_neg (Nat.ne_of_lt hx)]) ?_
  rw [ce_4 (mS_mA (4, N))]
  show (H.push _)[gB D + mN M]? = some (vp_cell _ _)
  rw [← h.2.1, Array.getElem?_push_size, arrV_new, vp_cell_q]
  congr 2
  funext j
  have hg : gP (mA M (4, N)) (mN M) j = none := by simp [gP, mA, mN, va_up]
  rw [hg]
  rfl
theorem Rp.push1 {H : Heap} {N : Nat} (h : Rp D M H) (hm : mN M < 1000000) : Rp D (mA M (1, N)) (H.push { cls := D.2.2.1 0, slots := Array.replicate N (defaultValue .int), vm := .none }) := by
  refine h.push hm (by simp) (fun x hx => by rw [Array.getElem?_push, if_neg (Nat.ne_of_lt hx)]) ?_
  rw [ce_1 (mS_mA (1, N))]
  show (H.push _)[gB D + mN M]? = some (vp_cell _ _)
  rw [← h.2.1, Array.getElem?_push_size, arrV_new, vp_cell_i]
  congr 2
  funext j
  have hg : gI (mA M (1, N)) (mN M) j = 0 := by simp [gI, gL, mA, mN, va_up]
  rw [hg]
  rfl
theorem nm_4 : "[" ++ (FieldType.array .int).toString = "[[I" := by decide
set_option maxHeartbeats 1000000 in
theorem ab_newR4 {i N K : Nat} {n k : Int32} (hd : decode u.2.1 pc = .ok (.multianewarray i 2, 4)) (hcl : Cond.classLink u.1.cls i "[[I" ∈ lw_tbl) (hov : Cond.arrayOver (.array .int) ∈ lw_tbl) (har : Cond.arrayClass .int ∈ lw_tbl) (hn : ¬ n < 0) (hk : ¬ k < 0) (hN : n.toNatClampNeg = N) (hK : k.toNatClampNeg = K) (hNb : N ≤ 1000) (hKb : K ≤ 1000) (hkc : 1 + N ≤ kc) (hks : N + N * K ≤ ks) (hm : mN M + 1 + N ≤ 1000000)
    (kk : AW D d mc ms u (kc - (1 + N)) (ks - (N + N * K)) (pc + 4) lv (.ref (mN M) :: st) (mRw M 4 1 N K N) post) : AW D d mc ms u kc ks pc lv (.int k :: .int n :: st) M post := by
  subst hN
  subst hK
  generalize eN : n.toNatClampNeg = N at *
  generalize eK : k.toNatClampNeg = K at *
  intro p e s m args below meth c H locs ls cells slots B h1 h2 hR hS hl
  intro T hT X
  have hpl : e.platform.magicAccessors = ({} : Platform).magicAccessors := by rw [X.admits.platform]
  obtain ⟨comp, cA, kA, hcomp, hidx, hkA, hkindA, hnameA⟩ := arrayOverA_spec (B.tb.use hov rfl args)
  obtain ⟨comp', kC, cc, hcomp', hkC, hkindC⟩ := Cond.arrayClass_spec (B.tb.use har rfl args)
  have ecomp : comp' = comp := Option.some.inj (hcomp'.symm.trans hcomp)
  subst ecomp
  obtain ⟨c0, hfc0, hcl0⟩ := Cond.classLink_spec B.own (B.tb.use hcl rfl args) e.platform hpl
  rw [nm_4] at hnameA
  cases hnameA.symm.trans hfc0
  have ecA : cA = D.2.2.1 3 := by
    have := (B.K.2 3 _ rfl).2
    have h3 : s.vm.findClass ("[" ++ (FieldType.array .int).toString) = some (D.2.2.1 3) := this
    rw [nm_4] at h3
    exact Option.some.inj (hnameA.symm.trans h3)
  have ecC : comp' = D.2.2.1 0 := by
    have h3 : s.vm.findClass ("[" ++ (.int : FieldType).toString) = some (D.2.2.1 0) := (B.K.2 0 _ rfl).2
    exact Option.some.inj (hcomp.symm.trans h3)
  obtain ⟨hg₁, hwarm₁, hready₁⟩ := State.classEntry (e := e) X.warmed hcl0
  generalize T.vm.noted m.cls i (.cls cA) = vm₁ at hg₁ hwarm₁ hready₁
  have hal : s.vm.Alike vm₁ := hwarm₁.alike
  obtain ⟨kA₁, hkA₁, heA⟩ := hal.2.2 _ _ hkA
  obtain ⟨kC₁, hkC₁, heC⟩ := hal.2.2 _ _ hkC
  have hkindA₁ : kA₁.kind = .array comp' (.array .int) := by rw [heA]; exact hkindA
  have hkindC₁ : kC₁.kind = .array cc .int := by rw [heC]; exact hkindC
  have X₁ := X.noted hwarm₁
  have hl1 : ¬ N > e.platform.arrayLengthLimit := by rw [Launch.admits_arrayLengthLimit X.admits]; omega
  have hh1 : ¬ N * componentBytes (.array .int) > e.platform.maxHeapBytes := by rw [Launch.admits_maxHeapBytes X.admits]; show ¬ N * 4 > 536870912; omega
  have hl2 : ¬ K > e.platform.arrayLengthLimit := by rw [Launch.admits_arrayLengthLimit X.admits]; omega
  have hh2 : ¬ K * componentBytes .int > e.platform.maxHeapBytes := by rw [Launch.admits_maxHeapBytes X.admits]; show ¬ K * 4 > 536870912; omega
  obtain ⟨hr1, hr2⟩ := X.roomAbove (a := 1 + N) (b := N + N * K) (by show cells + (1 + N) ≤ mc; omega) (by show slots + (N + N * K) ≤ ms; omega)
  have hH : T.heap.size = gB D + mN M := by rw [hT]; exact hR.2.1
  -- what stands behind j rows
  generalize eG : rwS ((T.setVm vm₁).pushCell { cls := cA, slots := Array.replicate N .null, vm := .none }) T.heap.size { cls := comp', slots := Array.replicate K (defaultValue .int), vm := .none } = G
  have hGs : ∀ j, G (j + 1) = match ((G j).pushCell { cls := comp', slots := Array.replicate K (defaultValue .int), vm := .none }).heap[T.heap.size]? with
    | some co => ((G j).pushCell { cls := comp', slots := Array.replicate K (defaultValue .int), vm := .none }).setCell T.heap.size (co.setSlot j (.ref (G j).heap.size))
    | none => (G j).pushCell { cls := comp', slots := Array.replicate K (defaultValue .int), vm := .none } := by
    intro j
    rw [← eG]
    rfl
  have inv : ∀ j, j ≤ N → ∃ L : List Loc, Stand p D.1 e (rm_ d mc ms) s m args below meth c (G j) (locs ++ L) (cells + 1 + j) (slots + N + j * K) ∧ (∀ q ∈ L, Fr D q.base) ∧ Rp D (mRw M 4 1 N K j) (G j).heap ∧ ∀ q : Nat, q < gB D → (G j).heap[q]? = T.heap[q]? := by
    intro j
    induction j with
    | zero =>
      intro _
      refine ⟨[], ?_, fun q hq => (by cases hq), ?_, fun q hq => ?_⟩
      · rw [← eG]
        have := X₁.pushed { cls := cA, slots := Array.replicate N .null, vm := .none }
        simpa [rwS] using this
      · rw [← eG, ecA]
        show Rp D (mA M (4, N)) (T.heap.push _)
        rw [hT]
        exact hR.push4 (by omega)
      · rw [← eG]
        show (T.heap.push _)[q]? = _
        rw [Array.getElem?_push, if_neg (by omega)]
    | succ j ih =>
      intro hj
      obtain ⟨L, XU, hLq, hRU, hold⟩ := ih (by omega)
      have hnj := mRw_n M 4 1 N K j
      have hlt : mN M < mN (mRw M 4 1 N K j) := by omega
      have hco := hRU.1 (mN M) _ (wd_at hlt)
      rw [ce_4 (mRw_s M 4 1 N K j), ← ecA] at hco
      have hco : (G j).heap[gB D + mN M]? = some (arrV cA N (fun q => va_rf ((gP (mRw M 4 1 N K j) (mN M) q).map (rh D)))) := by
        have h := hco
        show _ = some _
        rw [← vp_cell_q]
        exact h
      have hsz : (G j).heap.size = gB D + (mN M + 1 + j) := by rw [hRU.2.1, hnj]
      have hRp : Rp D (mA (mRw M 4 1 N K j) (1, K)) ((G j).pushCell { cls := comp', slots := Array.replicate K (defaultValue .int), vm := .none }).heap := by
        rw [ecC]
        exact hRU.push1 (by omega)
      have hcell : ((G j).pushCell { cls := comp', slots := Array.replicate K (defaultValue .int), vm := .none }).heap[gB D + mN M]? = some (arrV cA N (fun q => va_rf ((gP (mRw M 4 1 N K j) (mN M) q).map (rh D)))) := by
        rw [State.heap_pushCell_of_lt (h := (show gB D + mN M < _ by rw [hsz]; omega))]
        exact hco
      have hG1 := hGs j
      rw [hH, hcell, hsz] at hG1
      have hG2 : G (j + 1) = ((G j).pushCell { cls := comp', slots := Array.replicate K (defaultValue .int), vm := .none }).setCell (gB D + mN M) ((arrV cA N (fun q => va_rf ((gP (mRw M 4 1 N K j) (mN M) q).map (rh D)))).setSlot j (.ref (gB D + (mN M + 1 + j)))) := hG1
      rw [hG2]
      refine ⟨L ++ [⟨gB D + mN M, j⟩], ?_, ?_, ?_, ?_⟩
      · have := (XU.pushed { cls := comp', slots := Array.replicate K (defaultValue .int), vm := .none }).stored hcell j (.ref (gB D + (mN M + 1 + j)))
        rw [show slots + N + (j + 1) * K = slots + N + j * K + K by rw [Nat.succ_mul]; omega, show cells + 1 + (j + 1) = cells + 1 + j + 1 by omega, ← List.append_assoc]
        simpa using this
      · intro q hq
        rcases List.mem_append.mp hq with h | h
        · exact hLq q h
        · rw [List.mem_singleton.mp h]; exact Nat.le_add_right _ _
      · show Rp D (sP (mA (mRw M 4 1 N K j) (1, K)) (mN M) j (some (mN M + 1 + j))) (((G j).pushCell _).heap.setIfInBounds (gB D + mN M) _)
        have hlt2 : gB D + mN M < ((G j).pushCell { cls := comp', slots := Array.replicate K (defaultValue .int), vm := .none }).heap.size := (Array.getElem?_eq_some_iff.mp hcell).1
        have hs2 : mS (mA (mRw M 4 1 N K j) (1, K)) (mN M) = (4, N) := mRw_s M 4 1 N K (j + 1)
        refine hRp.put (a := mN M) (by show mN M < mN (mRw M 4 1 N K j) + 1; omega) rfl (fun b hb => ce_rP hb) (by simp) (fun q hq => by rw [Array.getElem?_setIfInBounds_ne (Ne.symm hq)]) ?_
        rw [ce_4 (M := sP (mA (mRw M 4 1 N K j) (1, K)) (mN M) j (some (mN M + 1 + j))) hs2, ← ecA]
        show (Array.setIfInBounds _ _ _)[gB D + mN M]? = some (vp_cell _ _)
        rw [Array.getElem?_setIfInBounds_self, if_pos hlt2, arrV_store, vp_cell_q]
        have hrh : rh D (mN M + 1 + j) = gB D + (mN M + 1 + j) := by unfold rh; rw [if_pos (by omega)]
        have hgp : gP (mA (mRw M 4 1 N K j) (1, K)) (mN M) = gP (mRw M 4 1 N K j) (mN M) := by
          have hne : mN M ≠ (mRw M 4 1 N K j).1 := by have e : (mRw M 4 1 N K j).1 = mN M + 1 + j := hnj; rw [e]; omega
          show va_up (mRw M 4 1 N K j).2.2.2.2 (mRw M 4 1 N K j).1 _ (mN M) = _
          rw [va_up_ne _ _ hne]
          rfl
        congr 2
        funext q
        by_cases hq : q = j
        · subst hq
          simp [updV, gP_sP, hrh, va_rf]
        · simp [updV, gP_sP, hq, hgp]
      · intro q hq
        show (Array.setIfInBounds _ _ _)[q]? = _
        rw [Array.getElem?_setIfInBounds_ne (by omega), State.heap_pushCell_of_lt (h := (show q < _ by rw [hsz]; omega))]
        exact hold q hq
  obtain ⟨L, XU, hLq, hRU, hold⟩ := inv N (Nat.le_refl _)
  have e1 : cv D (.ref (mN M)) = .ref (gB D + mN M) := by show Value.ref (rh D (mN M)) = _; unfold rh; rw [if_pos (by omega)]
  have k2 := kk p e s m args below meth c (G N).heap (locs ++ L) ls (cells + 1 + N) (slots + N + N * K) B (by omega) (by omega) hRU
    ⟨Nat.le_trans hS.1 (by rw [hR.2.1, hRU.2.1, mRw_n]; omega), fun q q1 q2 => (by rw [hold q (Nat.lt_of_not_le q2), hT]; exact hS.2.1 q q1 q2), fun q hq => (by
      rcases List.mem_append.mp hq with h | h
      · exact hS.2.2 q h
      · exact hLq q h)⟩ hl
  rw [List.map_cons, e1] at k2
  obtain ⟨t, ht, hQ⟩ := k2 (G N) rfl XU
  refine ⟨t, ?_, hQ⟩
  have hexec : p.tables.exec = Jvm.exec := B.1
  have hd' : decode c.code pc = .ok (.multianewarray i 2, 4) := by rw [B.2.1]; exact hd
  jvm_step X.here [hexec, hd']
  simp only [multianewarray.sem, wp_bind']
  have hsz1 : vm₁.classes.size ≤ T.vm.classes.size := by rw [hal.2.1, X.warmed.alike.2.1]; exact Nat.le_refl _
  refine (W.resolveClassAt_links (t := T.setTop (F0 m pc ls (cv D (.int k) :: cv D (.int n) :: st.map (cv D)))) (mm := m) (State.method?_setTop _ X.here.top) hg₁ hsz1).mpr ?_
  rw [State.setVm_setTop]
  have hp := fun (Q : List Value → Pre) (E : CtlPost) => popN_top (E := E) (e := e) (d := false) (acts := []) (Q := Q) (s := T.setVm vm₁) (f := F0 m pc ls (.int k :: .int n :: st.map (cv D))) X.here.top (args := [.int n, .int k]) (rest := st.map (cv D)) rfl
  rw [wp_bind']
  refine (hp _ _).mpr ?_
  simp only [List.mapM_cons, List.mapM_nil, pure_bind, bind_pure_comp, map_pure, wp_bind', wp_pure']
  refine mn_make (c := cA) (comp := comp') (cc := cc) (k := kA₁) (kc := kC₁) (ty := .int) hkA₁ hkindA₁ hkC₁ hkindC₁ hn hk (by rw [eN]; exact hl1) (by rw [eN]; exact hh1) (by rw [eK]; exact hl2) (by rw [eK]; exact hh2) rfl rfl (by rw [eN]; exact hr1) (by rw [eN, eK]; exact hr2) fun dq acts => ?_
  rw [eN, eK, State.pushCell_setTop, rwS_top]
  have eG' : rwS ((T.setVm vm₁).pushCell { cls := cA, slots := Array.replicate N .null, vm := .none }) ((T.setVm vm₁).setTop { method := m, pc := pc, locals := ls, stack := List.map (cv D) st, locked := none }).heap.size { cls := comp', slots := Array.replicate K (defaultValue .int), vm := .none } = G := eG
  rw [eG']
  show wp _ _ _ e dq acts _
  have hhs : ((T.setVm vm₁).setTop { method := m, pc := pc, locals := ls, stack := List.map (cv D) st, locked := none }).heap.size = gB D + mN M := hH
  rw [hhs]
  simp [jvm, XU.here.top]
  exact ht

theorem Rp.push5 {H : Heap} {N : Nat} (h : Rp D M H) (hm : mN M < 1000000) : Rp D (mA M (5, N)) (H.push { cls := D.2.2.1 4, slots := Array.replicate N .null, vm := .none }) := by
  refine h.push hm (by simp) (fun x hx => by rw [Array.getElem?_push, if_neg (Nat.ne_of_lt hx)]) ?_
  rw [ce_5 (mS_mA (5, N))]
  show (H.push _)[gB D + mN M]? = some (vp_cell _ _)
  rw [← h.2.1, Array.getElem?_push_size, arrV_new, vp_cell_q]
  congr 2
  funext j
  have hg : gP (mA M (5, N)) (mN M) j = none := by simp [gP, mA, mN, va_up]
  rw [hg]
  rfl
theorem Rp.push2 {H : Heap} {N : Nat} (h : Rp D M H) (hm : mN M < 1000000) : Rp D (mA M (2, N)) (H.push { cls := D.2.2.1 1, slots := Array.replicate N (defaultValue .long), vm := .none }) := by
  refine h.push hm (by simp) (fun x hx => by rw [Array.getElem?_push, if_neg (Nat.ne_of_lt hx)]) ?_
  rw [ce_2 (mS_mA (2, N))]
  show (H.push _)[gB D + mN M]? = some (vp_cell _ _)
  rw [← h.2.1, Array.getElem?_push_size, arrV_new, vp_cell_l]
  congr 2
  funext j
  have hg : gL (mA M (2, N)) (mN M) j = 0 := by simp [gI, gL, mA, mN, va_up]
  rw [hg]
  rfl
theorem nm_5 : "[" ++ (FieldType.array .long).toString = "[[J" := by decide
set_option maxHeartbeats 1000000 in
theorem ab_newR5 {i N K : Nat} {n k : Int32} (hd : decode u.2.1 pc = .ok (.multianewarray i 2, 4)) (hcl : Cond.classLink u.1.cls i "[[J" ∈ lw_tbl) (hov : Cond.arrayOver (.array .long) ∈ lw_tbl) (har : Cond.arrayClass .long ∈ lw_tbl) (hn : ¬ n < 0) (hk : ¬ k < 0) (hN : n.toNatClampNeg = N) (hK : k.toNatClampNeg = K) (hNb : N ≤ 1000) (hKb : K ≤ 1000) (hkc : 1 + N ≤ kc) (hks : N + N * K ≤ ks) (hm : mN M + 1 + N ≤ 1000000)
    (kk : AW D d mc ms u (kc - (1 + N)) (ks - (N + N * K)) (pc + 4) lv (.ref (mN M) :: st) (mRw M 5 2 N K N) post) : AW D d mc ms u kc ks pc lv (.int k :: .int n :: st) M post := by
  subst hN
  subst hK
  generalize eN : n.toNatClampNeg = N at *
  generalize eK : k.toNatClampNeg = K at *
  intro p e s m args below meth c H locs ls cells slots B h1 h2 hR hS hl
  intro T hT X
  have hpl : e.platform.magicAccessors = ({} : Platform).magicAccessors := by rw [X.admits.platform]
  obtain ⟨comp, cA, kA, hcomp, hidx, hkA, hkindA, hnameA⟩ := arrayOverA_spec (B.tb.use hov rfl args)
  obtain ⟨comp', kC, cc, hcomp', hkC, hkindC⟩ := Cond.arrayClass_spec (B.tb.use har rfl args)
  have ecomp : comp' = comp := Option.some.inj (hcomp'.symm.trans hcomp)
  subst ecomp
  obtain ⟨c0, hfc0, hcl0⟩ := Cond.classLink_spec B.own (B.tb.use hcl rfl args) e.platform hpl
  rw [nm_5] at hnameA
  cases hnameA.symm.trans hfc0
  have ecA : cA = D.2.2.1 4 := by
    have := (B.K.2 4 _ rfl).2
    have h3 : s.vm.findClass ("[" ++ (FieldType.array .long).toString) = some (D.2.2.1 4) := this
    rw [nm_5] at h3
    exact Option.some.inj (hnameA.symm.trans h3)
  have ecC : comp' = D.2.2.1 1 := by
    have h3 : s.vm.findClass ("[" ++ (.long : FieldType).toString) = some (D.2.2.1 1) := (B.K.2 1 _ rfl).2
    exact Option.some.inj (hcomp.symm.trans h3)
  obtain ⟨hg₁, hwarm₁, hready₁⟩ := State.classEntry (e := e) X.warmed hcl0
  generalize T.vm.noted m.cls i (.cls cA) = vm₁ at hg₁ hwarm₁ hready₁
  have hal : s.vm.Alike vm₁ := hwarm₁.alike
  obtain ⟨kA₁, hkA₁, heA⟩ := hal.2.2 _ _ hkA
  obtain ⟨kC₁, hkC₁, heC⟩ := hal.2.2 _ _ hkC
  have hkindA₁ : kA₁.kind = .array comp' (.array .long) := by rw [heA]; exact hkindA
  have hkindC₁ : kC₁.kind = .array cc .long := by rw [heC]; exact hkindC
  have X₁ := X.noted hwarm₁
  have hl1 : ¬ N > e.platform.arrayLengthLimit := by rw [Launch.admits_arrayLengthLimit X.admits]; omega
  have hh1 : ¬ N * componentBytes (.array .long) > e.platform.maxHeapBytes := by rw [Launch.admits_maxHeapBytes X.admits]; show ¬ N * 4 > 536870912; omega
  have hl2 : ¬ K > e.platform.arrayLengthLimit := by rw [Launch.admits_arrayLengthLimit X.admits]; omega
  have hh2 : ¬ K * componentBytes .long > e.platform.maxHeapBytes := by rw [Launch.admits_maxHeapBytes X.admits]; show ¬ K * 8 > 536870912; omega
  obtain ⟨hr1, hr2⟩ := X.roomAbove (a := 1 + N) (b := N + N * K) (by show cells + (1 + N) ≤ mc; omega) (by show slots + (N + N * K) ≤ ms; omega)
  have hH : T.heap.size = gB D + mN M := by rw [hT]; exact hR.2.1
  -- what stands behind j rows
  generalize eG : rwS ((T.setVm vm₁).pushCell { cls := cA, slots := Array.replicate N .null, vm := .none }) T.heap.size { cls := comp', slots := Array.replicate K (defaultValue .long), vm := .none } = G
  have hGs : ∀ j, G (j + 1) = match ((G j).pushCell { cls := comp', slots := Array.replicate K (defaultValue .long), vm := .none }).heap[T.heap.size]? with
    | some co => ((G j).pushCell { cls := comp', slots := Array.replicate K (defaultValue .long), vm := .none }).setCell T.heap.size (co.setSlot j (.ref (G j).heap.size))
    | none => (G j).pushCell { cls := comp', slots := Array.replicate K (defaultValue .long), vm := .none } := by
    intro j
    rw [← eG]
    rfl
  have inv : ∀ j, j ≤ N → ∃ L : List Loc, Stand p D.1 e (rm_ d mc ms) s m args below meth c (G j) (locs ++ L) (cells + 1 + j) (slots + N + j * K) ∧ (∀ q ∈ L, Fr D q.base) ∧ Rp D (mRw M 5 2 N K j) (G j).heap ∧ ∀ q : Nat, q < gB D → (G j).heap[q]? = T.heap[q]? := by
    intro j
    induction j with
    | zero =>
      intro _
      refine ⟨[], ?_, fun q hq => (by cases hq), ?_, fun q hq => ?_⟩
      · rw [← eG]
        have := X₁.pushed { cls := cA, slots := Array.replicate N .null, vm := .none }
        simpa [rwS] using this
      · rw [← eG, ecA]
        show Rp D (mA M (5, N)) (T.heap.push _)
        rw [hT]
        exact hR.push5 (by omega)
      · rw [← eG]
        show (T.heap.push _)[q]? = _
        rw [Array.getElem?_push, if_neg (by omega)]
    | succ j ih =>
      intro hj
      obtain ⟨L, XU, hLq, hRU, hold⟩ := ih (by omega)
      have hnj := mRw_n M 5 2 N K j
      have hlt : mN M < mN (mRw M 5 2 N K j) := by omega
      have hco := hRU.1 (mN M) _ (wd_at hlt)
      rw [ce_5 (mRw_s M 5 2 N K j), ← ecA] at hco
      have hco : (G j).heap[gB D + mN M]? = some (arrV cA N (fun q => va_rf ((gP (mRw M 5 2 N K j) (mN M) q).map (rh D)))) := by
        have h := hco
        show _ = some _
        rw [← vp_cell_q]
        exact h
      have hsz : (G j).heap.size = gB D + (mN M + 1 + j) := by rw [hRU.2.1, hnj]
      have hRp : Rp D (mA (mRw M 5 2 N K j) (2, K)) ((G j).pushCell { cls := comp', slots := Array.replicate K (defaultValue .long), vm := .none }).heap := by
        rw [ecC]
        exact hRU.push2 (by omega)
      have hcell : ((G j).pushCell { cls := comp', slots := Array.replicate K (defaultValue .long), vm := .none }).heap[gB D + mN M]? = some (arrV cA N (fun q => va_rf ((gP (mRw M 5 2 N K j) (mN M) q).map (rh D)))) := by
        rw [State.heap_pushCell_of_lt (h := (show gB D + mN M < _ by rw [hsz]; omega))]
        exact hco
      have hG1 := hGs j
      rw [hH, hcell, hsz] at hG1
      have hG2 : G (j + 1) = ((G j).pushCell { cls := comp', slots := Array.replicate K (defaultValue .long), vm := .none }).setCell (gB D + mN M) ((arrV cA N (fun q => va_rf ((gP (mRw M 5 2 N K j) (mN M) q).map (rh D)))).setSlot j (.ref (gB D + (mN M + 1 + j)))) := hG1
      rw [hG2]
      refine ⟨L ++ [⟨gB D + mN M, j⟩], ?_, ?_, ?_, ?_⟩
      · have := (XU.pushed { cls := comp', slots := Array.replicate K (defaultValue .long), vm := .none }).stored hcell j (.ref (gB D + (mN M + 1 + j)))
        rw [show slots + N + (j + 1) * K = slots + N + j * K + K by rw [Nat.succ_mul]; omega, show cells + 1 + (j + 1) = cells + 1 + j + 1 by omega, ← List.append_assoc]
        simpa using this
      · intro q hq
        rcases List.mem_append.mp hq with h | h
        · exact hLq q h
        · rw [List.mem_singleton.mp h]; exact Nat.le_add_right _ _
      · show Rp D (sP (mA (mRw M 5 2 N K j) (2, K)) (mN M) j (some (mN M + 1 + j))) (((G j).pushCell _).heap.setIfInBounds (gB D + mN M) _)
        have hlt2 : gB D + mN M < ((G j).pushCell { cls := comp', slots := Array.replicate K (defaultValue .long), vm := .none }).heap.size := (Array.getElem?_eq_some_iff.mp hcell).1
        have hs2 : mS (mA (mRw M 5 2 N K j) (2, K)) (mN M) = (5, N) := mRw_s M 5 2 N K (j + 1)
        refine hRp.put (a := mN M) (by show mN M < mN (mRw M 5 2 N K j) + 1; omega) rfl (fun b hb => ce_rP hb) (by simp) (fun q hq => by rw [Array.getElem?_setIfInBounds_ne (Ne.symm hq)]) ?_
        rw [ce_5 (M := sP (mA (mRw M 5 2 N K j) (2, K)) (mN M) j (some (mN M + 1 + j))) hs2, ← ecA]
        show (Array.setIfInBounds _ _ _)[gB D + mN M]? = some (vp_cell _ _)
        rw [Array.getElem?_setIfInBounds_self, if_pos hlt2, arrV_store, vp_cell_q]
        have hrh : rh D (mN M + 1 + j) = gB D + (mN M + 1 + j) := by unfold rh; rw [if_pos (by omega)]
        have hgp : gP (mA (mRw M 5 2 N K j) (2, K)) (mN M) = gP (mRw M 5 2 N K j) (mN M) := by
          have hne : mN M ≠ (mRw M 5 2 N K j).1 := by have e : (mRw M 5 2 N K j).1 = mN M + 1 + j := hnj; rw [e]; omega
          show va_up (mRw M 5 2 N K j).2.2.2.2 (mRw M 5 2 N K j).1 _ (mN M) = _
          rw [va_up_ne _ _ hne]
          rfl
        congr 2
        funext q
        by_cases hq : q = j
        · subst hq
          simp [updV, gP_sP, hrh, va_rf]
        · simp [updV, gP_sP, hq, hgp]
      · intro q hq
        show (Array.setIfInBounds _ _ _)[q]? = _
        rw [Array.getElem?_setIfInBounds_ne (by omega), State.heap_pushCell_of_lt (h := (show q < _ by rw [hsz]; omega))]
        exact hold q hq
  obtain ⟨L, XU, hLq, hRU, hold⟩ := inv N (Nat.le_refl _)
  have e1 : cv D (.ref (mN M)) = .ref (gB D + mN M) := by show Value.ref (rh D (mN M)) = _; unfold rh; rw [if_pos (by omega)]
  have k2 := kk p e s m args below meth c (G N).heap (locs ++ L) ls (cells + 1 + N) (slots + N + N * K) B (by omega) (by omega) hRU
    ⟨Nat.le_trans hS.1 (by rw [hR.2.1, hRU.2.1, mRw_n]; omega), fun q q1 q2 => (by rw [hold q (Nat.lt_of_not_le q2), hT]; exact hS.2.1 q q1 q2), fun q hq => (by
      rcases List.mem_append.mp hq with h | h
      · exact hS.2.2 q h
      · exact hLq q h)⟩ hl
  rw [List.map_cons, e1] at k2
  obtain ⟨t, ht, hQ⟩ := k2 (G N) rfl XU
  refine ⟨t, ?_, hQ⟩
  have hexec : p.tables.exec = Jvm.exec := B.1
  have hd' : decode c.code pc = .ok (.multianewarray i 2, 4) := by rw [B.2.1]; exact hd
  jvm_step X.here [hexec, hd']
  simp only [multianewarray.sem, wp_bind']
  have hsz1 : vm₁.classes.size ≤ T.vm.classes.size := by rw [hal.2.1, X.warmed.alike.2.1]; exact Nat.le_refl _
  refine (W.resolveClassAt_links (t := T.setTop (F0 m pc ls (cv D (.int k) :: cv D (.int n) :: st.map (cv D)))) (mm := m) (State.method?_setTop _ X.here.top) hg₁ hsz1).mpr ?_
  rw [State.setVm_setTop]
  have hp := fun (Q : List Value → Pre) (E : CtlPost) => popN_top (E := E) (e := e) (d := false) (acts := []) (Q := Q) (s := T.setVm vm₁) (f := F0 m pc ls (.int k :: .int n :: st.map (cv D))) X.here.top (args := [.int n, .int k]) (rest := st.map (cv D)) rfl
  rw [wp_bind']
  refine (hp _ _).mpr ?_
  simp only [List.mapM_cons, List.mapM_nil, pure_bind, bind_pure_comp, map_pure, wp_bind', wp_pure']
  refine mn_make (c := cA) (comp := comp') (cc := cc) (k := kA₁) (kc := kC₁) (ty := .long) hkA₁ hkindA₁ hkC₁ hkindC₁ hn hk (by rw [eN]; exact hl1) (by rw [eN]; exact hh1) (by rw [eK]; exact hl2) (by rw [eK]; exact hh2) rfl rfl (by rw [eN]; exact hr1) (by rw [eN, eK]; exact hr2) fun dq acts => ?_
  rw [eN, eK, State.pushCell_setTop, rwS_top]
  have eG' : rwS ((T.setVm vm₁).pushCell { cls := cA, slots := Array.replicate N .null, vm := .none }) ((T.setVm vm₁).setTop { method := m, pc := pc, locals := ls, stack := List.map (cv D) st, locked := none }).heap.size { cls := comp', slots := Array.replicate K (defaultValue .long), vm := .none } = G := eG
  rw [eG']
  show wp _ _ _ e dq acts _
  have hhs : ((T.setVm vm₁).setTop { method := m, pc := pc, locals := ls, stack := List.map (cv D) st, locked := none }).heap.size = gB D + mN M := hH
  rw [hhs]
  simp [jvm, XU.here.top]
  exact ht

end
