
section
variable {D : GD} {d mc ms : Nat} {u : MD} {kc ks pc : Nat} {lv : List (Nat × Value)} {st : List Value} {M : Mm} {post : Option Value → Mm → Prop}
theorem Pp.blind {vs : List Value} : FrameBlind (Pp D vs M) := fun a U g mk h => ⟨h.1, h.2.1, VF.warm (s := U) (U := U.calling g mk a) (State.WarmedH.refl U) h.2.2.1, XF.warm (s := U) (U := U.calling g mk a) (State.WarmedH.refl U) h.2.2.2⟩
theorem Pp.pre {p : Program} {s : State} {m : MethodId} {meth : Method} {c : Code} {H : Heap} {locs : List Loc} {vs : List Value} (B : Bx D u p s m meth c) (hR : Rp D M H) (hS : va_S (Fr D) s.heap H locs) : ∀ U : State, U.heap = H → s.WarmedH U.vm → Pp D vs M (vs.map (cv D)).toArray U :=
  fun U hU hW => ⟨rfl, by rw [hU]; exact hR, B.2.2.2.2.2.2.2.1.warm hW, by rw [hU]; exact (B.2.2.2.2.2.2.2.2.1.kept hS).warm hW⟩
theorem ab_after {p : Program} {e : Env} {s : State} {m : MethodId} {args : Array Value} {below : List Frame} {meth : Method} {c : Code} {H : Heap} {locs : List Loc} {cells slots mc' ms' : Nat} {ls : Array Slot} {st0 rest : List Value} {a : Array Value} {R : Room} {Q : State → Prop} {P : Option Value → Mm → Prop}
    (hr : va_Run p D.1 e R s m args below meth c H locs cells slots mc' ms' (F0 m pc ls st0) rest (Qp D P a) (Fr D)) (hS : va_S (Fr D) s.heap H locs)
    (kk : ∀ (r : Option Value) (M1 : Mm) (H1 : Heap) (locs1 : List Loc), P r M1 → Rp D M1 H1 → va_S (Fr D) s.heap H1 locs1 → W p D.1 e R s m args below meth c H1 locs1 (cells + mc') (slots + ms') Q (F0 m (pc + 3) ls ((r.map (cv D)).toList ++ rest))) : W p D.1 e R s m args below meth c H locs cells slots Q (F0 m pc ls st0) := by
  intro T hT X
  obtain ⟨v, st₀, t, T', L, h0, X', hL, e1, e2, ⟨⟨r, M1, hv, hp, hR1⟩, hz, hk⟩, stp⟩ := hr T hT X
  cases hv
  rw [h0] at hz hk
  obtain ⟨t2, a1, b1⟩ := kk r M1 T'.heap (locs ++ L) hp (by rw [e1]; exact hR1)
    ⟨Nat.le_trans hS.1 (by rw [e1]; exact hz), fun q h1 h2 => by rw [e1, hk q (Nat.lt_of_lt_of_le h1 hS.1) h2]; exact hS.2.1 q h1 h2, fun q hq => by
      rcases List.mem_append.mp hq with h | h
      · exact hS.2.2 q h
      · exact hL q h⟩ T' rfl X'
  exact ⟨t2, stp t2 a1, b1⟩
/-- what a call's place in the code asks of the tables -/
def CW (u' : MD) (n : Nat) : Prop := Cond.code u'.1 u'.2.1 u'.2.2.1 u'.2.2.2 ∈ lw_tbl ∧ Cond.initialized u'.1.cls ∈ lw_tbl ∧ (u'.1.cls ≠ "java/lang/invoke/MethodHandle" ∧ u'.1.cls ≠ "java/lang/invoke/VarHandle") ∧ (parseMethodDescriptor u'.1.desc).map (fun d => d.parameters.length) = some n ∧ u'.2.2.1 ≤ 45
def CB (own : String) (i : Nat) (u' : MD) (n : Nat) : Prop := CW u' n ∧ Cond.methodLink own i u'.1 ∈ lw_tbl
theorem CW.room {u' : MD} {n d' mc' ms' : Nat} (h : CW u' n) (hd : d' + 1 ≤ d) : (rm_ d' mc' ms').cells = mc' ∧ (rm_ d' mc' ms').slots = ms' ∧ (rm_ d' mc' ms').frames + 1 ≤ (rm_ d mc ms).frames ∧ 8 + (u'.2.2.1 + 11) + (rm_ d' mc' ms').locals ≤ (rm_ d mc ms).locals := by
  have h45 := h.2.2.2.2
  exact ⟨rfl, rfl, hd, by show 8 + (u'.2.2.1 + 11) + 64 * d' ≤ 64 * d; omega⟩
theorem CW.code {u' : MD} {n : Nat} (h : CW u' n) {s : State} (ht : TB s) : ∀ w ∈ [Cond.code u'.1 u'.2.1 u'.2.2.1 u'.2.2.2], ∀ (a' : Array Value) (U : State), s.WarmedH U.vm → w.before a' U = true := by
  intro w hw a' U hW
  rw [List.mem_singleton.mp hw]
  exact (ht.warm hW).use h.1 rfl a'
theorem CW.len {u' : MD} {n : Nat} (h : CW u' n) : ∀ sig, parseMethodDescriptor u'.1.desc = some sig → n = sig.parameters.length := by
  intro sig hs
  have h2 := h.2.2.2.1
  rw [hs] at h2
  exact (Option.some.inj h2).symm
theorem CB.use {own : String} {i n d' mc' ms' : Nat} {u' : MD} (h : CB own i u' n) (hd : d' + 1 ≤ d) {s : State} {args : Array Value} (ht : TB s) : CallB (rm_ d mc ms) s args own i u'.1 u'.2.1 u'.2.2.1 u'.2.2.2 [Cond.code u'.1 u'.2.1 u'.2.2.1 u'.2.2.2] (rm_ d' mc' ms') mc' ms' n := by
  have hr := h.1.room (mc := mc) (ms := ms) (mc' := mc') (ms' := ms') hd
  exact ⟨hr.1, hr.2.1, hr.2.2.1, hr.2.2.2, h.1.code ht, List.mem_singleton.mpr rfl, ht.use h.1.1 rfl args, ht.use h.1.2.1 rfl args, h.1.2.2.1, h.1.len, ht.use h.2 rfl args⟩
theorem cat_room {m : MethodId} {ls : Array Slot} {stk st : List Value} (h : (st.map fun v => v.category).sum ≤ 8) : 2 * (F0 m pc ls stk).monitorRoom + ((st.map (cv D)).map fun v => v.category).sum ≤ 8 := by
  refine lv_room ?_
  rw [List.map_map, show ((fun v : Value => v.category) ∘ cv D) = fun v => v.category from funext fun v => cv_cat D v]
  exact h
theorem st_map (r : Option Value) : (r.map (cv D)).toList ++ st.map (cv D) = (r.toList ++ st).map (cv D) := by cases r <;> simp
theorem rev_map (vs : List Value) : (vs.reverse ++ st).map (cv D) = (vs.map (cv D)).reverse ++ st.map (cv D) := by simp
theorem ab_callS {i n d' mc' ms' : Nat} {u' : MD} {vs stk : List Value} (hd : decode u.2.1 pc = .ok (.invokestatic i, 3)) (cb : CB u.1.cls i u' n) (hst : Cond.static u'.1 ∈ lw_tbl) (hn : vs.length = n) (hstk : stk = vs.reverse ++ st) (hcat : (st.map fun v => v.category).sum ≤ 8) (hdd : d' + 1 ≤ d) (hmc : mc' ≤ kc) (hms : ms' ≤ ks)
    (h : AM D d' mc' ms' u' vs M (fun r M1 => AW D d mc ms u (kc - mc') (ks - ms') (pc + 3) lv (r.toList ++ st) M1 post)) : AW D d mc ms u kc ks pc lv stk M post := by
  subst hstk
  intro p e s m args below meth c H locs ls cells slots B h1 h2 hR hS hl
  refine ab_after (va_runS (As := vs.map (cv D)) (rest := st.map (cv D)) (n := n) ⟨B.1, B.2.1, B.2.2.2.1, B.own, B.tb.all args⟩ h ⟨cb.use hdd B.tb, B.tb.use hst rfl args⟩ ⟨Pp.blind, Pp.pre B hR hS⟩ rfl (by simp [hn]) hl.1 (rev_map vs) (cat_room hcat) hd ⟨by show cells + mc' ≤ mc; omega, by show slots + ms' ≤ ms; omega⟩) hS (fun r M1 H1 locs1 hp hR1 hS1 => ?_)
  rw [st_map]
  exact hp p e s m args below meth c H1 locs1 ls (cells + mc') (slots + ms') B (by omega) (by omega) hR1 hS1 hl
theorem ab_callSN {i n d' mc' ms' : Nat} {u' : MD} {host : String} {vs stk : List Value} (hd : decode u.2.1 pc = .ok (.invokestatic i, 3)) (cb : CW u' n) (hln : Cond.methodLinkNest u.1.cls i u'.1 host ∈ lw_tbl) (hst : Cond.static u'.1 ∈ lw_tbl) (hn : vs.length = n) (hstk : stk = vs.reverse ++ st) (hcat : (st.map fun v => v.category).sum ≤ 8) (hdd : d' + 1 ≤ d) (hmc : mc' ≤ kc) (hms : ms' ≤ ks)
    (h : AM D d' mc' ms' u' vs M (fun r M1 => AW D d mc ms u (kc - mc') (ks - ms') (pc + 3) lv (r.toList ++ st) M1 post)) : AW D d mc ms u kc ks pc lv stk M post := by
  subst hstk
  intro p e s m args below meth c H locs ls cells slots B h1 h2 hR hS hl
  have hr := cb.room (mc := mc) (ms := ms) (mc' := mc') (ms' := ms') hdd
  refine ab_after (va_runSN (As := vs.map (cv D)) (rest := st.map (cv D)) (n := n) (host := host) ⟨B.1, B.2.1, B.2.2.2.1, B.own, B.tb.all args⟩ h ⟨⟨⟨hr.1, hr.2.1, hr.2.2.1, hr.2.2.2, cb.code B.tb, List.mem_singleton.mpr rfl⟩, B.tb.use cb.1 rfl args, B.tb.use cb.2.1 rfl args, cb.2.2.1, cb.len, B.tb.use hln rfl args⟩, B.tb.use hst rfl args, trivial⟩ ⟨Pp.blind, Pp.pre B hR hS⟩ rfl (by simp [hn]) hl.1 (rev_map vs) (cat_room hcat) hd ⟨by show cells + mc' ≤ mc; omega, by show slots + ms' ≤ ms; omega⟩) hS (fun r M1 H1 locs1 hp hR1 hS1 => ?_)
  rw [st_map]
  exact hp p e s m args below meth c H1 locs1 ls (cells + mc') (slots + ms') B (by omega) (by omega) hR1 hS1 hl
theorem Rp.recv {p : Program} {s : State} {m : MethodId} {meth : Method} {c0 : Code} {H : Heap} (B : Bx D u p s m meth c0) (hR : Rp D M H) {a c : Nat} (hc : c < 13) (ha : a < mN M) (hsh : mS M a = (0, c)) : ∃ cell : Cell, H[rh D a]? = some cell ∧ cell.vm.isStatics = false ∧ s.vm.findClass (Cn c) = some cell.cls :=
  va_recv (fs := (List.range (nF c)).map (fv D M a c)) B.K hR.1 (cl_at hc) ((hR.at ha).trans (congrArg (fun z => some (rh D a, z)) (ce_obj hsh)))
theorem ab_callV {i n d' mc' ms' a c0 : Nat} {u' : MD} {vs stk : List Value} (hd : decode u.2.1 pc = .ok (.invokevirtual i, 3)) (cb : CB u.1.cls i u' n) (hi : Cond.instanceMethod u'.1 ∈ lw_tbl) (hse : Cond.selects (Cn c0) u'.1 u'.1 ∈ lw_tbl) (hc0 : c0 < 13) (ha : a < mN M) (hsh : mS M a = (0, c0)) (hn : vs.length = n) (hstk : stk = vs.reverse ++ .ref a :: st) (hcat : (st.map fun v => v.category).sum ≤ 8) (hdd : d' + 1 ≤ d) (hmc : mc' ≤ kc) (hms : ms' ≤ ks)
    (h : AM D d' mc' ms' u' (.ref a :: vs) M (fun r M1 => AW D d mc ms u (kc - mc') (ks - ms') (pc + 3) lv (r.toList ++ st) M1 post)) : AW D d mc ms u kc ks pc lv stk M post := by
  subst hstk
  intro p e s m args below meth c H locs ls cells slots B h1 h2 hR hS hl
  refine ab_after (va_runV (C := Cn c0) (b := rh D a) (As := vs.map (cv D)) (rest := st.map (cv D)) (n := n) ⟨B.1, B.2.1, B.2.2.2.1, B.own, B.tb.all args⟩ h ⟨cb.use hdd B.tb, B.tb.use hi rfl args, B.tb.use hse rfl args⟩ ⟨Pp.blind, hR.recv B hc0 ha hsh, Pp.pre B hR hS⟩ rfl (by simp [hn]) hl.1 (rev_map vs) (cat_room hcat) hd ⟨by show cells + mc' ≤ mc; omega, by show slots + ms' ≤ ms; omega⟩) hS (fun r M1 H1 locs1 hp hR1 hS1 => ?_)
  rw [st_map]
  exact hp p e s m args below meth c H1 locs1 ls (cells + mc') (slots + ms') B (by omega) (by omega) hR1 hS1 hl
/-- a call of a method that the receiver's sort inherits or overrides -/
theorem ab_callU {i n d' mc' ms' a c0 : Nat} {u' : MD} {x : MethodName} {owner : String} {vs stk : List Value} (hd : decode u.2.1 pc = .ok (.invokevirtual i, 3)) (cb : CW u' n) (how : owner ≠ "java/lang/invoke/MethodHandle" ∧ owner ≠ "java/lang/invoke/VarHandle") (hln : Cond.methodLink u.1.cls i x ∈ lw_tbl) (hsm : Cond.sameMethod x.cls owner x.name x.desc ∈ lw_tbl) (hdc : Cond.declares ⟨owner, x.name, x.desc⟩ ∈ lw_tbl ∨ ∃ (b : ByteArray) (k : Nat) (rt : Option FieldType), Cond.instanceMethod ⟨owner, x.name, x.desc⟩ ∈ lw_tbl ∧ Cond.code ⟨owner, x.name, x.desc⟩ b k rt ∈ lw_tbl) (hxd : x.desc = u'.1.desc) (hi : Cond.instanceMethod u'.1 ∈ lw_tbl) (hse : Cond.selects (Cn c0) x u'.1 ∈ lw_tbl) (hc0 : c0 < 13) (ha : a < mN M) (hsh : mS M a = (0, c0)) (hn : vs.length = n) (hstk : stk = vs.reverse ++ .ref a :: st) (hcat : (st.map fun v => v.category).sum ≤ 8) (hdd : d' + 1 ≤ d) (hmc : mc' ≤ kc) (hms : ms' ≤ ks)
    (h : AM D d' mc' ms' u' (.ref a :: vs) M (fun r M1 => AW D d mc ms u (kc - mc') (ks - ms') (pc + 3) lv (r.toList ++ st) M1 post)) : AW D d mc ms u kc ks pc lv stk M post := by
  subst hstk
  intro p e s m args below meth c H locs ls cells slots B h1 h2 hR hS hl
  have hr := cb.room (mc := mc) (ms := ms) (mc' := mc') (ms' := ms') hdd
  have hdec : va_Decl s ⟨owner, x.name, x.desc⟩ := by
    rcases hdc with g | ⟨b, k, rt, g1, g2⟩
    · exact va_Decl.abs (va_Nw.of rfl (B.tb.use g rfl #[]))
    · exact va_Decl.of (B.tb.use g1 rfl args) (B.tb.use g2 rfl args)
  refine ab_after (va_runU (C := Cn c0) (owner := owner) (x := x) (b := rh D a) (As := vs.map (cv D)) (rest := st.map (cv D)) (n := n) ⟨B.1, B.2.1, B.2.2.2.1, B.own, B.tb.all args⟩ h ⟨⟨hr.1, hr.2.1, hr.2.2.1, hr.2.2.2, cb.code B.tb, List.mem_singleton.mpr rfl⟩, B.tb.use cb.1 rfl args, B.tb.use cb.2.1 rfl args, how, (by rw [hxd]; exact cb.len), B.tb.use hln rfl args, B.tb.use hsm rfl args, hdec, B.tb.use hse rfl args, B.tb.use hi rfl args⟩ ⟨Pp.blind, hR.recv B hc0 ha hsh, Pp.pre B hR hS⟩ rfl (by simp [hn]) hl.1 (rev_map vs) (cat_room hcat) hd ⟨by show cells + mc' ≤ mc; omega, by show slots + ms' ≤ ms; omega⟩) hS (fun r M1 H1 locs1 hp hR1 hS1 => ?_)
  rw [st_map]
  exact hp p e s m args below meth c H1 locs1 ls (cells + mc') (slots + ms') B (by omega) (by omega) hR1 hS1 hl
theorem ab_callI {i n d' mc' ms' a : Nat} {u' : MD} {vs stk : List Value} (hd : decode u.2.1 pc = .ok (.invokespecial i, 3)) (cb : CB u.1.cls i u' n) (hnm : u'.1.name = "<init>") (hrt : u'.2.2.2 = none) (hi : Cond.instanceMethod u'.1 ∈ lw_tbl) (hn : vs.length = n) (hstk : stk = vs.reverse ++ .ref a :: st) (hcat : (st.map fun v => v.category).sum ≤ 8) (hdd : d' + 1 ≤ d) (hmc : mc' ≤ kc) (hms : ms' ≤ ks)
    (h : AM D d' mc' ms' u' (.ref a :: vs) M (fun r M1 => AW D d mc ms u (kc - mc') (ks - ms') (pc + 3) lv (r.toList ++ st) M1 post)) : AW D d mc ms u kc ks pc lv stk M post := by
  subst hstk
  obtain ⟨y, b, k, rt⟩ := u'
  have hrt : rt = none := hrt
  subst hrt
  intro p e s m args below meth c H locs ls cells slots B h1 h2 hR hS hl
  refine ab_after (va_runI (b := rh D a) (As := vs.map (cv D)) (rest := st.map (cv D)) (n := n) ⟨B.1, B.2.1, B.2.2.2.1, B.own, B.tb.all args⟩ h ⟨cb.use hdd B.tb, hnm, B.tb.use hi rfl args⟩ ⟨Pp.blind, Pp.pre B hR hS⟩ rfl (by simp [hn]) hl.1 (rev_map vs) (cat_room hcat) hd ⟨by show cells + mc' ≤ mc; omega, by show slots + ms' ≤ ms; omega⟩) hS (fun r M1 H1 locs1 hp hR1 hS1 => ?_)
  rw [st_map]
  exact hp p e s m args below meth c H1 locs1 ls (cells + mc') (slots + ms') B (by omega) (by omega) hR1 hS1 hl
theorem ab_callIN {i n d' mc' ms' a : Nat} {u' : MD} {host : String} {vs stk : List Value} (hd : decode u.2.1 pc = .ok (.invokespecial i, 3)) (cb : CW u' n) (hln : Cond.methodLinkNest u.1.cls i u'.1 host ∈ lw_tbl) (hnm : u'.1.name = "<init>") (hrt : u'.2.2.2 = none) (hi : Cond.instanceMethod u'.1 ∈ lw_tbl) (hn : vs.length = n) (hstk : stk = vs.reverse ++ .ref a :: st) (hcat : (st.map fun v => v.category).sum ≤ 8) (hdd : d' + 1 ≤ d) (hmc : mc' ≤ kc) (hms : ms' ≤ ks)
    (h : AM D d' mc' ms' u' (.ref a :: vs) M (fun r M1 => AW D d mc ms u (kc - mc') (ks - ms') (pc + 3) lv (r.toList ++ st) M1 post)) : AW D d mc ms u kc ks pc lv stk M post := by
  subst hstk
  obtain ⟨y, b, k, rt⟩ := u'
  have hrt : rt = none := hrt
  subst hrt
  intro p e s m args below meth c H locs ls cells slots B h1 h2 hR hS hl
  have hr := cb.room (mc := mc) (ms := ms) (mc' := mc') (ms' := ms') hdd
  refine ab_after (va_runIN (host := host) (b := rh D a) (As := vs.map (cv D)) (rest := st.map (cv D)) (n := n) ⟨B.1, B.2.1, B.2.2.2.1, B.own, B.tb.all args⟩ h ⟨⟨⟨hr.1, hr.2.1, hr.2.2.1, hr.2.2.2, cb.code B.tb, List.mem_singleton.mpr rfl⟩, B.tb.use cb.1 rfl args, B.tb.use cb.2.1 rfl args, cb.2.2.1, cb.len, B.tb.use hln rfl args⟩, hnm, B.tb.use hi rfl args⟩ ⟨Pp.blind, Pp.pre B hR hS⟩ rfl (by simp [hn]) hl.1 (rev_map vs) (cat_room hcat) hd ⟨by show cells + mc' ≤ mc; omega, by show slots + ms' ≤ ms; omega⟩) hS (fun r M1 H1 locs1 hp hR1 hS1 => ?_)
  rw [st_map]
  exact hp p e s m args below meth c H1 locs1 ls (cells + mc') (slots + ms') B (by omega) (by omega) hR1 hS1 hl
/-- super.m(..) where the class above has m itself -/
theorem ab_callSU {i n d' mc' ms' a c0 : Nat} {u' : MD} {vs stk : List Value} (hd : decode u.2.1 pc = .ok (.invokespecial i, 3)) (cb : CB u.1.cls i u' n) (hsm : Cond.sameMethod u'.1.cls u'.1.cls u'.1.name u'.1.desc ∈ lw_tbl) (hsu : Cond.superclass u.1.cls u'.1.cls ∈ lw_tbl) (hi : Cond.instanceMethod u'.1 ∈ lw_tbl) (hno : u'.1.name ≠ "<init>") (hc0 : c0 < 13) (ha : a < mN M) (hsh : mS M a = (0, c0)) (hn : vs.length = n) (hstk : stk = vs.reverse ++ .ref a :: st) (hcat : (st.map fun v => v.category).sum ≤ 8) (hdd : d' + 1 ≤ d) (hmc : mc' ≤ kc) (hms : ms' ≤ ks)
    (h : AM D d' mc' ms' u' (.ref a :: vs) M (fun r M1 => AW D d mc ms u (kc - mc') (ks - ms') (pc + 3) lv (r.toList ++ st) M1 post)) : AW D d mc ms u kc ks pc lv stk M post := by
  subst hstk
  intro p e s m args below meth c H locs ls cells slots B h1 h2 hR hS hl
  have hr := cb.1.room (mc := mc) (ms := ms) (mc' := mc') (ms' := ms') hdd
  refine ab_after (va_runSU (C := Cn c0) (B.K.1 c0 _ (cl_at hc0)).2 (b := rh D a) (As := vs.map (cv D)) (rest := st.map (cv D)) (n := n) ⟨B.1, B.2.1, B.2.2.2.1, B.own, B.tb.all args⟩ h ⟨⟨hr.1, hr.2.1, hr.2.2.1, hr.2.2.2, cb.1.code B.tb, List.mem_singleton.mpr rfl⟩, B.tb.use cb.2 rfl args, B.tb.use hsm rfl args, B.tb.use hsu rfl args, B.tb.use hi rfl args, B.tb.use cb.1.2.1 rfl args, B.tb.use cb.1.1 rfl args, hno, cb.1.len⟩ ⟨Pp.blind, hR.recv B hc0 ha hsh, Pp.pre B hR hS⟩ rfl (by simp [hn]) hl.1 (rev_map vs) (cat_room hcat) hd ⟨by show cells + mc' ≤ mc; omega, by show slots + ms' ≤ ms; omega⟩) hS (fun r M1 H1 locs1 hp hR1 hS1 => ?_)
  rw [st_map]
  exact hp p e s m args below meth c H1 locs1 ls (cells + mc') (slots + ms') B (by omega) (by omega) hR1 hS1 hl
theorem ab_objInit {i a : Nat} (hd : decode u.2.1 pc = .ok (.invokespecial i, 3)) (hln : Cond.methodLink u.1.cls i Lib.objectInit ∈ lw_tbl) (hi : Cond.instanceMethod Lib.objectInit ∈ lw_tbl) (hco : Cond.code Lib.objectInit ⟨#[0xb1]⟩ 1 none ∈ lw_tbl) (hcat : (st.map fun v => v.category).sum ≤ 8) (hdd : 1 ≤ d)
    (kk : AW D d mc ms u kc ks (pc + 3) lv st M post) : AW D d mc ms u kc ks pc lv (.ref a :: st) M post := by
  intro p e s m args below meth c H locs ls cells slots B h1 h2 hR hS hl
  have hq := cat_room (D := D) (pc := pc) (m := m) (ls := ls) (stk := cv D (.ref a) :: st.map (cv D)) hcat
  refine W.objInit B.1 B.2.1 B.own (B.tb.use hln rfl args) (B.tb.use hi rfl args) (B.tb.use hco rfl args) rfl (hl.1.trans B.2.2.2.1.symm) rfl hd hdd ?_ (kk p e s m args below meth c H locs ls cells slots B h1 h2 hR hS hl)
  show 2 * (F0 m pc ls (cv D (.ref a) :: st.map (cv D))).monitorRoom + ((st.map (cv D)).map fun v => v.category).sum + 12 ≤ 64 * d
  omega
theorem AM.mono {u' : MD} {vs : List Value} {P Q : Option Value → Mm → Prop} (h : AM D d mc ms u' vs M P) (hPQ : ∀ r M', P r M' → Q r M') : AM D d mc ms u' vs M Q := by
  unfold AM Met at h ⊢
  exact MetFree.mono h (fun _ _ h => h) (fun _ _ _ _ _ h => h) (fun a s o t _ hq => ⟨Qp.mono hPQ hq.1, hq.2⟩)
end

