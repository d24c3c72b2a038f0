
section
variable {D : GD} {d mc ms : Nat} {u : MD} {kc ks pc : Nat} {lv : List (Nat × Value)} {st : List Value} {M : Mm} {post : Option Value → Mm → Prop}
theorem nfw : 8 + (nativeFrameWords "java/lang/System" "arraycopy" 5 + 11) ≤ 64 := by decide +kernel
theorem ab_acopyI {i a0 a n0 n1 : Nat} {sp dp n : Int32} (hd : decode u.2.1 pc = .ok (.invokestatic i, 3)) (hln : Cond.methodLink u.1.cls i arraycopyName ∈ lw_tbl) (hna : Cond.native arraycopyName ∈ lw_tbl) (hst : Cond.static arraycopyName ∈ lw_tbl) (hin : Cond.initialized "java/lang/System" ∈ lw_tbl)
    (s0 : Sh M a0 (1, n0)) (s1 : Sh M a (1, n1)) (g1 : ¬ sp < 0) (g2 : ¬ dp < 0) (g3 : ¬ n < 0) (g4 : sp.toNatClampNeg + n.toNatClampNeg ≤ n0) (g5 : dp.toNatClampNeg + n.toNatClampNeg ≤ n1) (hcat : (st.map fun v => v.category).sum ≤ 8) (hdd : 1 ≤ d)
    (kk : AW D d mc ms u kc ks (pc + 3) lv st (rI M a (va_cpy (gI M a0) (gI M a) sp.toNatClampNeg dp.toNatClampNeg n.toNatClampNeg)) post) : AW D d mc ms u kc ks pc lv (.int n :: .int dp :: .ref a :: .int sp :: .ref a0 :: st) M post := by
  intro p e s m args below meth c H locs ls cells slots B h1 h2 hR hS hl
  have nn : ∀ z : Int32, ¬ z < 0 → z.toInt = (z.toNatClampNeg : Int) := by
    intro z hz
    have hz0 : (0 : Int) ≤ z.toInt := by
      have := Int32.not_lt.mp hz
      simpa using Int32.le_iff_toInt_le.mp this
    show z.toInt = ((z.toInt.toNat : Nat) : Int)
    omega
  show W _ _ _ _ _ _ _ _ _ _ _ _ _ _ _ (F0 m pc ls (.int n :: .int dp :: .ref (rh D a) :: .int sp :: .ref (rh D a0) :: st.map (cv D)))
  rw [rh_own s1.1 hR.2.2, rh_own s0.1 hR.2.2]
  have hc0 := hR.1 a0 _ (wd_at s0.1)
  have hc1 := hR.1 a _ (wd_at s1.1)
  rw [ce_1 s0.2] at hc0
  rw [ce_1 s1.2] at hc1
  have hc0 : H[gB D + a0]? = some (vp_cell (D.2.2.1 0) (n0, .inl (gI M a0))) := hc0
  have hc1 : H[gB D + a]? = some (vp_cell (D.2.2.1 0) (n1, .inl (gI M a))) := hc1
  intro T hT X
  obtain ⟨-, k0, hk0, cm0, hkk0⟩ := (B.K.2 0 _ rfl).1 n0 (fun j => .int (gI M a0 j))
  obtain ⟨-, k1, hk1, cm1, hkk1⟩ := (B.K.2 0 _ rfl).1 n1 (fun j => .int (gI M a j))
  have hq := cat_room (D := D) (pc := pc) (m := m) (ls := ls) (stk := []) hcat
  have hq0 : ((st.map (cv D)).map fun v => v.category).sum ≤ 8 := by omega
  obtain ⟨vm', X', step⟩ := X.arraycopy B.1 B.own (B.tb.use hln rfl args) (B.tb.use hna rfl args) (B.tb.use hst rfl args) (B.tb.use hin rfl args) (src := gB D + a0) (dst := gB D + a) (cs := vp_cell (D.2.2.1 0) (n0, .inl (gI M a0))) (cd := vp_cell (D.2.2.1 0) (n1, .inl (gI M a))) (srcPos := sp) (destPos := dp) (n := n) (by rw [hT]; exact hc0) (by rw [hT]; exact hc1)
    (fun _ h => by cases h) (fun _ h => by cases h) (fun h => by cases h) (fun h => by cases h) hk0 hk1 hkk0 hkk1 (by simp [refKind]) g1 g2 g3
    (by rw [nn sp g1, nn n g3]; show ¬ _ > ((arrV (D.2.2.1 0) n0 (fun j => .int (gI M a0 j))).slots.size : Int); rw [arrV_size]; omega)
    (by rw [nn dp g2, nn n g3]; show ¬ _ > ((arrV (D.2.2.1 0) n1 (fun j => .int (gI M a j))).slots.size : Int); rw [arrV_size]; omega)
    (fun vm₁ _ i hi => by
      have e : (vp_cell (D.2.2.1 0) (n0, .inl (gI M a0))).slots.getD (sp.toNatClampNeg + i) .null = .int (gI M a0 (sp.toNatClampNeg + i)) := by
        show (arrV (D.2.2.1 0) n0 (fun j => .int (gI M a0 j))).slots.getD _ _ = _
        rw [Array.getD_eq_getD_getElem?, arrV_read _ _ (by omega)]
        rfl
      refine ⟨?_, ?_⟩
      · rw [e]
        rfl
      · rw [e]
        exact trivial)
    (g := F0 m pc ls (.int n :: .int dp :: .ref (gB D + a) :: .int sp :: .ref (gB D + a0) :: st.map (cv D))) rfl (by rw [B.2.2.2.1]; exact hl.1) (rest := st.map (cv D)) rfl (by rw [B.2.1]; exact hd) hdd (by have := nfw; show 2 * 0 + _ + _ ≤ 64 * d; omega)
  have e1 : copied (vp_cell (D.2.2.1 0) (n0, .inl (gI M a0))) (vp_cell (D.2.2.1 0) (n1, .inl (gI M a))) sp dp n = vp_cell (D.2.2.1 0) (n1, .inl (va_cpy (gI M a0) (gI M a) sp.toNatClampNeg dp.toNatClampNeg n.toNatClampNeg)) := va_copied (fun z => .int z) (D.2.2.1 0) (D.2.2.1 0) (gI M a0) (gI M a) g4
  rw [e1] at X' step
  have hlt : gB D + a < H.size := (Array.getElem?_eq_some_iff.mp hc1).1
  generalize hcell : vp_cell (D.2.2.1 0) (n1, .inl (va_cpy (gI M a0) (gI M a) sp.toNatClampNeg dp.toNatClampNeg n.toNatClampNeg)) = cell at X' step
  have hheap : ((T.setVm vm').setCell (gB D + a) cell).heap = H.setIfInBounds (gB D + a) cell := by rw [← hT]; rfl
  have oq : ∀ q : Nat, q ≠ gB D + a → (H.setIfInBounds (gB D + a) cell)[q]? = H[q]? := fun q hq => by simp [Array.getElem?_setIfInBounds, Ne.symm hq]
  have hz : (H.setIfInBounds (gB D + a) cell).size = H.size := by simp
  obtain ⟨t, a1, b1⟩ := kk p e s m args below meth c (H.setIfInBounds (gB D + a) cell) _ ls cells slots B h1 h2
    (hR.put s1.1 rfl (fun b hb => ce_rI hb) hz oq (by
      rw [ce_1 (M := rI M a _) s1.2]
      show (H.setIfInBounds (gB D + a) cell)[gB D + a]? = some (vp_cell _ _)
      rw [Array.getElem?_setIfInBounds_self, if_pos hlt, ← hcell]
      congr 3
      show _ = Sum.inl (va_up (gI M) a _ a)
      rw [va_up_self]))
    ⟨by rw [hz]; exact hS.1, fun q q1 q2 => by
      rw [oq q (fun e => q2 (by rw [e]; exact Nat.le_add_right _ _))]
      exact hS.2.1 q q1 q2, fun q hq => by
      rcases List.mem_append.mp hq with h | h
      · exact hS.2.2 q h
      · obtain ⟨z, -, hz⟩ := List.mem_map.mp h
        rw [← hz]
        exact Nat.le_add_right _ _⟩ hl _ hheap X'
  exact ⟨t, step t a1, b1⟩

theorem ab_acopyL {i a0 a n0 n1 : Nat} {sp dp n : Int32} (hd : decode u.2.1 pc = .ok (.invokestatic i, 3)) (hln : Cond.methodLink u.1.cls i arraycopyName ∈ lw_tbl) (hna : Cond.native arraycopyName ∈ lw_tbl) (hst : Cond.static arraycopyName ∈ lw_tbl) (hin : Cond.initialized "java/lang/System" ∈ lw_tbl)
    (s0 : Sh M a0 (2, n0)) (s1 : Sh M a (2, n1)) (g1 : ¬ sp < 0) (g2 : ¬ dp < 0) (g3 : ¬ n < 0) (g4 : sp.toNatClampNeg + n.toNatClampNeg ≤ n0) (g5 : dp.toNatClampNeg + n.toNatClampNeg ≤ n1) (hcat : (st.map fun v => v.category).sum ≤ 8) (hdd : 1 ≤ d)
    (kk : AW D d mc ms u kc ks (pc + 3) lv st (rL M a (va_cpy (gL M a0) (gL M a) sp.toNatClampNeg dp.toNatClampNeg n.toNatClampNeg)) post) : AW D d mc ms u kc ks pc lv (.int n :: .int dp :: .ref a :: .int sp :: .ref a0 :: st) M post := by
  intro p e s m args below meth c H locs ls cells slots B h1 h2 hR hS hl
  have nn : ∀ z : Int32, ¬ z < 0 → z.toInt = (z.toNatClampNeg : Int) := by
    intro z hz
    have hz0 : (0 : Int) ≤ z.toInt := by
      have := Int32.not_lt.mp hz
      simpa using Int32.le_iff_toInt_le.mp this
    show z.toInt = ((z.toInt.toNat : Nat) : Int)
    omega
  show W _ _ _ _ _ _ _ _ _ _ _ _ _ _ _ (F0 m pc ls (.int n :: .int dp :: .ref (rh D a) :: .int sp :: .ref (rh D a0) :: st.map (cv D)))
  rw [rh_own s1.1 hR.2.2, rh_own s0.1 hR.2.2]
  have hc0 := hR.1 a0 _ (wd_at s0.1)
  have hc1 := hR.1 a _ (wd_at s1.1)
  rw [ce_2 s0.2] at hc0
  rw [ce_2 s1.2] at hc1
  have hc0 : H[gB D + a0]? = some (vp_cell (D.2.2.1 1) (n0, .inr (.inl (gL M a0)))) := hc0
  have hc1 : H[gB D + a]? = some (vp_cell (D.2.2.1 1) (n1, .inr (.inl (gL M a)))) := hc1
  intro T hT X
  obtain ⟨-, k0, hk0, cm0, hkk0⟩ := (B.K.2 1 _ rfl).1 n0 (fun j => .long (gL M a0 j))
  obtain ⟨-, k1, hk1, cm1, hkk1⟩ := (B.K.2 1 _ rfl).1 n1 (fun j => .long (gL M a j))
  have hq := cat_room (D := D) (pc := pc) (m := m) (ls := ls) (stk := []) hcat
  have hq0 : ((st.map (cv D)).map fun v => v.category).sum ≤ 8 := by omega
  obtain ⟨vm', X', step⟩ := X.arraycopy B.1 B.own (B.tb.use hln rfl args) (B.tb.use hna rfl args) (B.tb.use hst rfl args) (B.tb.use hin rfl args) (src := gB D + a0) (dst := gB D + a) (cs := vp_cell (D.2.2.1 1) (n0, .inr (.inl (gL M a0)))) (cd := vp_cell (D.2.2.1 1) (n1, .inr (.inl (gL M a)))) (srcPos := sp) (destPos := dp) (n := n) (by rw [hT]; exact hc0) (by rw [hT]; exact hc1)
    (fun _ h => by cases h) (fun _ h => by cases h) (fun h => by cases h) (fun h => by cases h) hk0 hk1 hkk0 hkk1 (by simp [refKind]) g1 g2 g3
    (by rw [nn sp g1, nn n g3]; show ¬ _ > ((arrV (D.2.2.1 1) n0 (fun j => .long (gL M a0 j))).slots.size : Int); rw [arrV_size]; omega)
    (by rw [nn dp g2, nn n g3]; show ¬ _ > ((arrV (D.2.2.1 1) n1 (fun j => .long (gL M a j))).slots.size : Int); rw [arrV_size]; omega)
    (fun vm₁ _ i hi => by
      have e : (vp_cell (D.2.2.1 1) (n0, .inr (.inl (gL M a0)))).slots.getD (sp.toNatClampNeg + i) .null = .long (gL M a0 (sp.toNatClampNeg + i)) := by
        show (arrV (D.2.2.1 1) n0 (fun j => .long (gL M a0 j))).slots.getD _ _ = _
        rw [Array.getD_eq_getD_getElem?, arrV_read _ _ (by omega)]
        rfl
      refine ⟨?_, ?_⟩
      · rw [e]
        rfl
      · rw [e]
        exact trivial)
    (g := F0 m pc ls (.int n :: .int dp :: .ref (gB D + a) :: .int sp :: .ref (gB D + a0) :: st.map (cv D))) rfl (by rw [B.2.2.2.1]; exact hl.1) (rest := st.map (cv D)) rfl (by rw [B.2.1]; exact hd) hdd (by have := nfw; show 2 * 0 + _ + _ ≤ 64 * d; omega)
  have e1 : copied (vp_cell (D.2.2.1 1) (n0, .inr (.inl (gL M a0)))) (vp_cell (D.2.2.1 1) (n1, .inr (.inl (gL M a)))) sp dp n = vp_cell (D.2.2.1 1) (n1, .inr (.inl (va_cpy (gL M a0) (gL M a) sp.toNatClampNeg dp.toNatClampNeg n.toNatClampNeg))) := va_copied (fun z => .long z) (D.2.2.1 1) (D.2.2.1 1) (gL M a0) (gL M a) g4
  rw [e1] at X' step
  have hlt : gB D + a < H.size := (Array.getElem?_eq_some_iff.mp hc1).1
  generalize hcell : vp_cell (D.2.2.1 1) (n1, .inr (.inl (va_cpy (gL M a0) (gL M a) sp.toNatClampNeg dp.toNatClampNeg n.toNatClampNeg))) = cell at X' step
  have hheap : ((T.setVm vm').setCell (gB D + a) cell).heap = H.setIfInBounds (gB D + a) cell := by rw [← hT]; rfl
  have oq : ∀ q : Nat, q ≠ gB D + a → (H.setIfInBounds (gB D + a) cell)[q]? = H[q]? := fun q hq => by simp [Array.getElem?_setIfInBounds, Ne.symm hq]
  have hz : (H.setIfInBounds (gB D + a) cell).size = H.size := by simp
  obtain ⟨t, a1, b1⟩ := kk p e s m args below meth c (H.setIfInBounds (gB D + a) cell) _ ls cells slots B h1 h2
    (hR.put s1.1 rfl (fun b hb => ce_rL hb) hz oq (by
      rw [ce_2 (M := rL M a _) s1.2]
      show (H.setIfInBounds (gB D + a) cell)[gB D + a]? = some (vp_cell _ _)
      rw [Array.getElem?_setIfInBounds_self, if_pos hlt, ← hcell]
      congr 3
      show _ = Sum.inr (Sum.inl (va_up (gL M) a _ a))
      rw [va_up_self]))
    ⟨by rw [hz]; exact hS.1, fun q q1 q2 => by
      rw [oq q (fun e => q2 (by rw [e]; exact Nat.le_add_right _ _))]
      exact hS.2.1 q q1 q2, fun q hq => by
      rcases List.mem_append.mp hq with h | h
      · exact hS.2.2 q h
      · obtain ⟨z, -, hz⟩ := List.mem_map.mp h
        rw [← hz]
        exact Nat.le_add_right _ _⟩ hl _ hheap X'
  exact ⟨t, step t a1, b1⟩

end
