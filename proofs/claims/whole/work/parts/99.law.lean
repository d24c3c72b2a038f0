/-! the law: its own rows -/
def R_law : String := "ElevenYardsLaw"
def lw_P (b : Addr) (xs : List Int32) (args : Array Value) (s : State) : Prop := args = #[.ref b] ∧ s.IntsAt b xs ∧ xs.length ≤ 4608 ∧ (Jvm.Cond.and given_1 narrow_1).before args s = true
def lw_Q (_ : Array Value) (s : State) (o : Outcome) (t : State) : Prop := o = .returned (some (.int 1)) ∧ Framed s o t [] 600000 7302250
def lw_Z (below : List Frame) (a : Array Value) (s : State) : State → Prop := fun t => ∃ o, t.status = .running ∧ Ended t below o ∧ lw_Q a s o t
/-- the law's own end, with 1 on the stack, nothing written that was there before, its room as the claim has it -/
theorem lw_ret {p : Program} {l : Launch} {e : Env} {s : State} {m : MethodId} {below : List Frame} {meth : Method} {c : Code} {b : Nat} (hx : p.tables.exec = Jvm.exec) (hb : c.code = code) (hr : meth.sig.returnType = ret) (hlocks : meth.locks = false) {pc : Nat} {H : Heap} {ls : Array Slot} (hdg : decode code pc = .ok (.ireturn, 1)) : W p l e room_1 s m #[Value.ref b] below meth c H [] 600000 7302250 (lw_Z below #[Value.ref b] s) (F0 m pc ls [.int 1]) := by
  intro T hT X
  obtain ⟨fs, hret, hrun, hended, hW, hframe⟩ := X.leave (v := some (.int 1)) (hlocks := hlocks) (fun h => by rw [hr] at h; cases h)
  have hmeth' : T.vm.method? m = some meth := X.method'
  refine ⟨T.setFrames fs, ?_, .returned (some (.int 1)), hrun, hended, rfl, ⟨_, rfl⟩, hW, hframe⟩
  jvm_step X.here [X.here.top, hx, hb, hdg, hmeth', hr, ret, narrow_b1]
  (try refine ⟨rfl, ?_⟩); (try refine ⟨rfl, ?_⟩)
  first | (intro acts; rw [hret _ acts rfl rfl rfl]) | rw [hret _ _ rfl rfl rfl]
  exact Steps.refl _
/-- what holds at the law's entry: the machine, the code, the tables' words (any of lw_tbl by 'hts w (by decide +kernel)'), the script of L ints xs at the cell b, what the Statement gives of the start (any of its parts by flat_of_before) -/
def lw_At (p : Program) (s : State) (m : MethodId) (meth : Method) (c : Code) (b L : Nat) (xs : Nat → Int32) : Prop :=
  p.tables.exec = Jvm.exec ∧ c.code = code ∧ meth.sig.returnType = ret ∧ c.maxLocals = 4 ∧ s.vm.findClass R_law = some m.cls ∧ (∀ w ∈ lw_tbl, w.before #[Value.ref b] s = true) ∧ va_X b L xs s s.heap ∧ b < s.heap.size ∧ meth.locks = false ∧ (Jvm.Cond.and given_1 narrow_1).before #[Value.ref b] s = true
/-- the law as a method -/
def lu (meth : Method) : MD := ((⟨R_law, meth.name, ""⟩ : MethodName), code, 4, ret)
/-- a point within the law: the script is the reference 1000300 -/
def LW (D : GD) (b L : Nat) (xs : Nat → Int32) (kc ks pc : Nat) (lv : List (Nat × Value)) (st : List Value) (M : Mm) : Prop :=
  ∀ (p : Program) (e : Env) (s : State) (m : MethodId) (below : List Frame) (meth : Method) (c : Code) (H : Heap) (locs : List Loc) (ls : Array Slot) (cells slots : Nat),
    Bx D (lu meth) p s m meth c → (va_X b L xs s s.heap ∧ b < gB D ∧ gB D = s.heap.size ∧ D.2.2.2.2.1 300 = b) → cells + kc ≤ 600000 → slots + ks ≤ 7302250 → Rp D M H → va_S (Fr D) s.heap H locs → lv_has ls 4 (lc D lv) →
    W p D.1 e room_1 s m #[Value.ref b] below meth c H locs cells slots (lw_Z below #[Value.ref b] s) (F0 m pc ls (st.map (cv D)))
theorem lb_room {u' : MD} {n d' mc' ms' : Nat} (h : CW u' n) (hd : d' ≤ 1300) : (rm_ d' mc' ms').cells = mc' ∧ (rm_ d' mc' ms').slots = ms' ∧ (rm_ d' mc' ms').frames + 1 ≤ room_1.frames ∧ 8 + (u'.2.2.1 + 11) + (rm_ d' mc' ms').locals ≤ room_1.locals := by
  have h45 := h.2.2.2.2
  exact ⟨rfl, rfl, by show d' + 1 ≤ 2048; omega, by show 8 + (u'.2.2.1 + 11) + 64 * d' ≤ 84000; omega⟩
theorem lb_use {i n d' mc' ms' : Nat} {u' : MD} (h : CB R_law i u' n) (hd : d' ≤ 1300) {s : State} {args : Array Value} (ht : TB s) : CallB room_1 s args R_law i u'.1 u'.2.1 u'.2.2.1 u'.2.2.2 [Cond.code u'.1 u'.2.1 u'.2.2.1 u'.2.2.2] (rm_ d' mc' ms') mc' ms' n := by
  have hr := lb_room (mc' := mc') (ms' := ms') h.1 hd
  exact ⟨hr.1, hr.2.1, hr.2.2.1, hr.2.2.2, h.1.code ht, List.mem_singleton.mpr rfl, ht.use h.1.1 rfl args, ht.use h.1.2.1 rfl args, h.1.2.2.1, h.1.len, ht.use h.2 rfl args⟩
section
variable {D : GD} {b L : Nat} {xs : Nat → Int32} {kc ks pc : Nat} {lv : List (Nat × Value)} {st : List Value} {M : Mm}
theorem lb_iconst {n : Int} {v : Int32} (hd : decode code pc = .ok (.iconst n, 1)) (hv : Int32.ofInt n = v) (k : LW D b L xs kc ks (pc + 1) lv (.int v :: st) M) : LW D b L xs kc ks (pc) lv (st) M :=
  fun p e s m below meth c H locs ls cells slots B hX h1 h2 hR hS hl => lv_iconst B.1 B.2.1 hd hv (k p e s m below meth c H locs ls cells slots B hX h1 h2 hR hS hl)
theorem lb_bipush {n : Int} {v : Int32} (hd : decode code pc = .ok (.bipush n, 2)) (hv : (Int8.ofInt n).toInt32 = v) (k : LW D b L xs kc ks (pc + 2) lv (.int v :: st) M) : LW D b L xs kc ks (pc) lv (st) M :=
  fun p e s m below meth c H locs ls cells slots B hX h1 h2 hR hS hl => lv_bipush B.1 B.2.1 hd hv (k p e s m below meth c H locs ls cells slots B hX h1 h2 hR hS hl)
theorem lb_iload_n {x : Int32} {f : Fin 4} (j : Nat) (hd : decode code pc = .ok (.iload_n f, 1)) (hk : lv[j]? = some ((f : Nat), .int x)) (k : LW D b L xs kc ks (pc + 1) lv (.int x :: st) M) : LW D b L xs kc ks (pc) lv (st) M :=
  fun p e s m below meth c H locs ls cells slots B hX h1 h2 hR hS hl => lv_iload_n B.1 B.2.1 hd rfl (lk hl hk) (k p e s m below meth c H locs ls cells slots B hX h1 h2 hR hS hl)
theorem lb_aload_n {x : Nat} {f : Fin 4} (j : Nat) (hd : decode code pc = .ok (.aload_n f, 1)) (hk : lv[j]? = some ((f : Nat), .ref x)) (k : LW D b L xs kc ks (pc + 1) lv (.ref x :: st) M) : LW D b L xs kc ks (pc) lv (st) M :=
  fun p e s m below meth c H locs ls cells slots B hX h1 h2 hR hS hl => lv_aload_n B.1 B.2.1 hd rfl (lk hl hk) (k p e s m below meth c H locs ls cells slots B hX h1 h2 hR hS hl)
theorem lb_istore_n {x : Int32} {f : Fin 4} {lv1 : List (Nat × Value)} (hd : decode code pc = .ok (.istore_n f, 1)) (hn : (f : Nat) < 4) (he : ((f : Nat), .int x) :: lv.filter (q1 (f : Nat)) = lv1) (k : LW D b L xs kc ks (pc + 1) lv1 (st) M) : LW D b L xs kc ks (pc) lv (.int x :: st) M :=
  fun p e s m below meth c H locs ls cells slots B hX h1 h2 hR hS hl => lv_istore_n B.1 B.2.1 hd rfl hl hn (he ▸ lc_q1 (f : Nat) (.int x)) (fun ls1 hl1 => k p e s m below meth c H locs ls1 cells slots B hX h1 h2 hR hS hl1)
theorem lb_astore_n {x : Nat} {f : Fin 4} {lv1 : List (Nat × Value)} (hd : decode code pc = .ok (.astore_n f, 1)) (hn : (f : Nat) < 4) (he : ((f : Nat), .ref x) :: lv.filter (q1 (f : Nat)) = lv1) (k : LW D b L xs kc ks (pc + 1) lv1 (st) M) : LW D b L xs kc ks (pc) lv (.ref x :: st) M :=
  fun p e s m below meth c H locs ls cells slots B hX h1 h2 hR hS hl => lv_astore_n B.1 B.2.1 hd rfl hl hn (he ▸ lc_q1 (f : Nat) (.ref x)) (fun ls1 hl1 => k p e s m below meth c H locs ls1 cells slots B hX h1 h2 hR hS hl1)
theorem lb_iinc {x v : Int32} {i : Nat} {n : Int} (j : Nat) {lv1 : List (Nat × Value)} (hd : decode code pc = .ok (.iinc i n, 3)) (hk : lv[j]? = some (i, .int x)) (hv : x + Int32.ofInt n = v) (hn : i < 4) (he : (i, Value.int v) :: lv.filter (q1 i) = lv1) (k : LW D b L xs kc ks (pc + 3) lv1 (st) M) : LW D b L xs kc ks (pc) lv (st) M :=
  fun p e s m below meth c H locs ls cells slots B hX h1 h2 hR hS hl => lv_iinc (k := j) B.1 B.2.1 hd hl (by rw [lc, List.getElem?_map, hk]; rfl) hv hn (he ▸ lc_q1 i (.int v)) (fun ls1 hl1 => k p e s m below meth c H locs ls1 cells slots B hX h1 h2 hR hS hl1)
theorem lb_iadd {x y : Int32} (hd : decode code pc = .ok (.iadd, 1))  (k : LW D b L xs kc ks (pc + 1) lv (.int (x + y) :: st) M) : LW D b L xs kc ks (pc) lv (.int y :: .int x :: st) M :=
  fun p e s m below meth c H locs ls cells slots B hX h1 h2 hR hS hl => lv_iadd B.1 B.2.1 hd (k p e s m below meth c H locs ls cells slots B hX h1 h2 hR hS hl)
theorem lb_isub {x y : Int32} (hd : decode code pc = .ok (.isub, 1))  (k : LW D b L xs kc ks (pc + 1) lv (.int (x - y) :: st) M) : LW D b L xs kc ks (pc) lv (.int y :: .int x :: st) M :=
  fun p e s m below meth c H locs ls cells slots B hX h1 h2 hR hS hl => lv_isub B.1 B.2.1 hd (k p e s m below meth c H locs ls cells slots B hX h1 h2 hR hS hl)
theorem lb_iand {x y : Int32} (hd : decode code pc = .ok (.iand, 1))  (k : LW D b L xs kc ks (pc + 1) lv (.int (x &&& y) :: st) M) : LW D b L xs kc ks (pc) lv (.int y :: .int x :: st) M :=
  fun p e s m below meth c H locs ls cells slots B hX h1 h2 hR hS hl => lv_iand B.1 B.2.1 hd (k p e s m below meth c H locs ls cells slots B hX h1 h2 hR hS hl)
theorem lb_land {x y : Int64} (hd : decode code pc = .ok (.land, 1))  (k : LW D b L xs kc ks (pc + 1) lv (.long (x &&& y) :: st) M) : LW D b L xs kc ks (pc) lv (.long y :: .long x :: st) M :=
  fun p e s m below meth c H locs ls cells slots B hX h1 h2 hR hS hl => lv_land B.1 B.2.1 hd (k p e s m below meth c H locs ls cells slots B hX h1 h2 hR hS hl)
theorem lb_lor {x y : Int64} (hd : decode code pc = .ok (.lor, 1))  (k : LW D b L xs kc ks (pc + 1) lv (.long (x ||| y) :: st) M) : LW D b L xs kc ks (pc) lv (.long y :: .long x :: st) M :=
  fun p e s m below meth c H locs ls cells slots B hX h1 h2 hR hS hl => lv_lor B.1 B.2.1 hd (k p e s m below meth c H locs ls cells slots B hX h1 h2 hR hS hl)
theorem lb_lshl {x : Int64} {y : Int32} (hd : decode code pc = .ok (.lshl, 1))  (k : LW D b L xs kc ks (pc + 1) lv (.long (x <<< (y.toInt64 &&& 63)) :: st) M) : LW D b L xs kc ks (pc) lv (.int y :: .long x :: st) M :=
  fun p e s m below meth c H locs ls cells slots B hX h1 h2 hR hS hl => lv_lshl B.1 B.2.1 hd rfl (k p e s m below meth c H locs ls cells slots B hX h1 h2 hR hS hl)
theorem lb_i2l {x : Int32} (hd : decode code pc = .ok (.i2l, 1))  (k : LW D b L xs kc ks (pc + 1) lv (.long x.toInt64 :: st) M) : LW D b L xs kc ks (pc) lv (.int x :: st) M :=
  fun p e s m below meth c H locs ls cells slots B hX h1 h2 hR hS hl => lv_i2l B.1 B.2.1 hd rfl (k p e s m below meth c H locs ls cells slots B hX h1 h2 hR hS hl)
theorem lb_lcmp {x y : Int64} (hd : decode code pc = .ok (.lcmp, 1))  (k : LW D b L xs kc ks (pc + 1) lv (.int (lg_cmp x y) :: st) M) : LW D b L xs kc ks (pc) lv (.long y :: .long x :: st) M :=
  fun p e s m below meth c H locs ls cells slots B hX h1 h2 hR hS hl => W.lcmp B.1 B.2.1 hd (k p e s m below meth c H locs ls cells slots B hX h1 h2 hR hS hl)
theorem lb_dup {v : Value} (hd : decode code pc = .ok (.dup, 1)) (hv : v.category = 1) (k : LW D b L xs kc ks (pc + 1) lv (v :: v :: st) M) : LW D b L xs kc ks (pc) lv (v :: st) M :=
  fun p e s m below meth c H locs ls cells slots B hX h1 h2 hR hS hl => lv_dup B.1 B.2.1 hd ((cv_cat D v).trans hv) (k p e s m below meth c H locs ls cells slots B hX h1 h2 hR hS hl)
theorem lb_if_eq {x : Int32} {off : Int} {tgt : Nat} (hd : decode code pc = .ok (.ifCond .eq off, 3)) (ht : (pc : Int) + off = (tgt : Int)) (kt : x = 0 → LW D b L xs kc ks (tgt) lv (st) M) (kf : ¬ x = 0 → LW D b L xs kc ks (pc + 3) lv (st) M) : LW D b L xs kc ks (pc) lv (.int x :: st) M :=
  fun p e s m below meth c H locs ls cells slots B hX h1 h2 hR hS hl => lv_if_eq B.1 B.2.1 hd ht (fun q => kt q p e s m below meth c H locs ls cells slots B hX h1 h2 hR hS hl) (fun q => kf q p e s m below meth c H locs ls cells slots B hX h1 h2 hR hS hl)
theorem lb_icmp_eq {x y : Int32} {off : Int} {tgt : Nat} (hd : decode code pc = .ok (.if_icmp .eq off, 3)) (ht : (pc : Int) + off = (tgt : Int)) (kt : x = y → LW D b L xs kc ks (tgt) lv (st) M) (kf : ¬ x = y → LW D b L xs kc ks (pc + 3) lv (st) M) : LW D b L xs kc ks (pc) lv (.int y :: .int x :: st) M :=
  fun p e s m below meth c H locs ls cells slots B hX h1 h2 hR hS hl => lv_icmp_eq B.1 B.2.1 hd ht (fun q => kt q p e s m below meth c H locs ls cells slots B hX h1 h2 hR hS hl) (fun q => kf q p e s m below meth c H locs ls cells slots B hX h1 h2 hR hS hl)
theorem lb_if_ne {x : Int32} {off : Int} {tgt : Nat} (hd : decode code pc = .ok (.ifCond .ne off, 3)) (ht : (pc : Int) + off = (tgt : Int)) (kt : ¬ x = 0 → LW D b L xs kc ks (tgt) lv (st) M) (kf : x = 0 → LW D b L xs kc ks (pc + 3) lv (st) M) : LW D b L xs kc ks (pc) lv (.int x :: st) M :=
  fun p e s m below meth c H locs ls cells slots B hX h1 h2 hR hS hl => lv_if_ne B.1 B.2.1 hd ht (fun q => kt q p e s m below meth c H locs ls cells slots B hX h1 h2 hR hS hl) (fun q => kf q p e s m below meth c H locs ls cells slots B hX h1 h2 hR hS hl)
theorem lb_icmp_gt {x y : Int32} {off : Int} {tgt : Nat} (hd : decode code pc = .ok (.if_icmp .gt off, 3)) (ht : (pc : Int) + off = (tgt : Int)) (kt : y < x → LW D b L xs kc ks (tgt) lv (st) M) (kf : ¬ y < x → LW D b L xs kc ks (pc + 3) lv (st) M) : LW D b L xs kc ks (pc) lv (.int y :: .int x :: st) M :=
  fun p e s m below meth c H locs ls cells slots B hX h1 h2 hR hS hl => lv_icmp_gt B.1 B.2.1 hd ht (fun q => kt q p e s m below meth c H locs ls cells slots B hX h1 h2 hR hS hl) (fun q => kf q p e s m below meth c H locs ls cells slots B hX h1 h2 hR hS hl)
theorem lb_goto {off : Int} {tgt : Nat} (hd : decode code pc = .ok (.goto off, 3)) (ht : (pc : Int) + off = (tgt : Int)) (k : LW D b L xs kc ks (tgt) lv (st) M) : LW D b L xs kc ks (pc) lv (st) M :=
  fun p e s m below meth c H locs ls cells slots B hX h1 h2 hR hS hl => lv_goto B.1 B.2.1 hd ht (k p e s m below meth c H locs ls cells slots B hX h1 h2 hR hS hl)
theorem lb_tableIn {dflt lo hi : Int} {offs : Array Int} {len : Nat} {x : Int32} {off : Int} {tgt : Nat} (hd : decode code pc = .ok (.tableswitch dflt lo hi offs, len)) (g1 : ¬ x.toInt < lo) (g2 : ¬ hi < x.toInt) (ho : offs[(x.toInt - lo).toNat]? = some off) (ht : (pc : Int) + off = (tgt : Int)) (k : LW D b L xs kc ks (tgt) lv (st) M) : LW D b L xs kc ks (pc) lv (.int x :: st) M :=
  fun p e s m below meth c H locs ls cells slots B hX h1 h2 hR hS hl => lv_tableIn B.1 B.2.1 hd g1 g2 ho ht (k p e s m below meth c H locs ls cells slots B hX h1 h2 hR hS hl)
theorem lb_ldc2 {i : Nat} {v : Int64} (hd : decode code pc = .ok (.ldc2_w i, 3)) (hw : Cond.constantLong R_law i v ∈ lw_tbl) (k : LW D b L xs kc ks (pc + 3) lv (.long v :: st) M) : LW D b L xs kc ks (pc) lv (st) M :=
  fun p e s m below meth c H locs ls cells slots B hX h1 h2 hR hS hl => lv_ldc2 B.1 B.2.1 B.2.2.2.2.1 (B.2.2.2.2.2.2.2.1.2.1.use hw rfl #[Value.ref b]) hd (k p e s m below meth c H locs ls cells slots B hX h1 h2 hR hS hl)
theorem lb_callV {i n d' mc' ms' a c0 : Nat} {u' : MD} {vs stk : List Value} (hd : decode code pc = .ok (.invokevirtual i, 3)) (cb : CB R_law i u' n) (hi : Cond.instanceMethod u'.1 ∈ lw_tbl) (hse : Cond.selects (Cn c0) u'.1 u'.1 ∈ lw_tbl) (hc0 : c0 < 13) (ha : a < mN M) (hsh : mS M a = (0, c0)) (hn : vs.length = n) (hstk : stk = vs.reverse ++ .ref a :: st) (hcat : (st.map fun v => v.category).sum ≤ 8) (hdd : d' ≤ 1300) (hmc : mc' ≤ kc) (hms : ms' ≤ ks)
    (h : AM D d' mc' ms' u' (.ref a :: vs) M (fun r M1 => LW D b L xs (kc - mc') (ks - ms') (pc + 3) lv (r.toList ++ st) M1)) : LW D b L xs kc ks pc lv stk M := by
  subst hstk
  intro p e s m below meth c H locs ls cells slots B hX h1 h2 hR hS hl
  refine ab_after (va_runV (C := Cn c0) (b := rh D a) (As := vs.map (cv D)) (rest := st.map (cv D)) (n := n) ⟨B.1, B.2.1, B.2.2.2.1, B.own, B.tb.all #[Value.ref b]⟩ h ⟨lb_use cb hdd B.tb, B.tb.use hi rfl #[Value.ref b], B.tb.use hse rfl #[Value.ref b]⟩ ⟨Pp.blind, hR.recv B hc0 ha hsh, Pp.pre B hR hS⟩ rfl (by simp [hn]) hl.1 (rev_map vs) (cat_room hcat) hd ⟨by show cells + mc' ≤ 600000; omega, by show slots + ms' ≤ 7302250; omega⟩) hS (fun r M1 H1 locs1 hp hR1 hS1 => ?_)
  rw [st_map]
  exact hp p e s m below meth c H1 locs1 ls (cells + mc') (slots + ms') B hX (by omega) (by omega) hR1 hS1 hl
theorem lb_callI {i n d' mc' ms' a : Nat} {u' : MD} {vs stk : List Value} (hd : decode code pc = .ok (.invokespecial i, 3)) (cb : CB R_law i u' n) (hnm : u'.1.name = "<init>") (hrt : u'.2.2.2 = none) (hi : Cond.instanceMethod u'.1 ∈ lw_tbl) (hn : vs.length = n) (hstk : stk = vs.reverse ++ .ref a :: st) (hcat : (st.map fun v => v.category).sum ≤ 8) (hdd : d' ≤ 1300) (hmc : mc' ≤ kc) (hms : ms' ≤ ks)
    (h : AM D d' mc' ms' u' (.ref a :: vs) M (fun r M1 => LW D b L xs (kc - mc') (ks - ms') (pc + 3) lv (r.toList ++ st) M1)) : LW D b L xs kc ks pc lv stk M := by
  subst hstk
  obtain ⟨y, bb, k, rt⟩ := u'
  have hrt : rt = none := hrt
  subst hrt
  intro p e s m below meth c H locs ls cells slots B hX h1 h2 hR hS hl
  refine ab_after (va_runI (b := rh D a) (As := vs.map (cv D)) (rest := st.map (cv D)) (n := n) ⟨B.1, B.2.1, B.2.2.2.1, B.own, B.tb.all #[Value.ref b]⟩ h ⟨lb_use cb hdd B.tb, hnm, B.tb.use hi rfl #[Value.ref b]⟩ ⟨Pp.blind, Pp.pre B hR hS⟩ rfl (by simp [hn]) hl.1 (rev_map vs) (cat_room hcat) hd ⟨by show cells + mc' ≤ 600000; omega, by show slots + ms' ≤ 7302250; omega⟩) hS (fun r M1 H1 locs1 hp hR1 hS1 => ?_)
  rw [st_map]
  exact hp p e s m below meth c H1 locs1 ls (cells + mc') (slots + ms') B hX (by omega) (by omega) hR1 hS1 hl
theorem lb_new {i c : Nat} (hd : decode code pc = .ok (.new i, 3)) (hc : c < 13) (hcl : Cond.classLink R_law i (Cn c) ∈ lw_tbl) (hin : Cond.instantiable (Cn c) (nF c) ∈ lw_tbl) (hini : Cond.initialized (Cn c) ∈ lw_tbl) (hkc : 1 ≤ kc) (hks : nF c ≤ ks) (hm : mN M < 1000000)
    (kk : LW D b L xs (kc - 1) (ks - nF c) (pc + 3) lv (.ref (mN M) :: st) (mA M (0, c))) : LW D b L xs kc ks pc lv st M := by
  intro p e s m below meth c0 H locs ls cells slots B hX h1 h2 hR hS hl
  have hKn := B.K.1 c _ (cl_at hc)
  have hb := hR.2.1
  refine W.newcK B.1 B.2.1 B.own (B.tb.use hcl rfl #[Value.ref b]) (B.tb.use hin rfl #[Value.ref b]) (B.tb.use hini rfl #[Value.ref b]) rfl hd (by show cells + 1 ≤ 600000; omega) (by show slots + nF c ≤ 7302250; omega) hKn.2.1 rfl fun H1 kC hkC e1 z1 o1 => ?_
  have hR1 : Rp D (mA M (0, c)) H1 := by
    refine hR.push hm z1 o1 ?_
    rw [ce_obj (mS_mA (0, c))]
    refine ⟨_, cl_at hc, ((u_born (tyF c) (B.tb.all #[Value.ref b]) (cl_in hc) hKn hkC (by rw [← hb]; exact e1) (cl_ty hc))).to (fun j hj => ?_)⟩
    simp only [vp_V, List.getD_eq_getElem?_getD, List.getElem?_map, List.getElem?_range hj, Option.map_some, Option.getD_some]
    have hg1 : gI (mA M (0, c)) (mN M) j = 0 := by simp [gI, gL, gP, mA, mN, va_up]
    have hg2 : gL (mA M (0, c)) (mN M) j = 0 := by simp [gI, gL, gP, mA, mN, va_up]
    have hg3 : gP (mA M (0, c)) (mN M) j = none := by simp [gI, gL, gP, mA, mN, va_up]
    unfold fv fk
    show defaultValue (tyF c j) = if fK (tyF c j) = 1 then _ else if fK (tyF c j) = 2 then _ else _
    rw [hg1, hg2, hg3]
    have hty : tyF c j = .int ∨ tyF c j = .long ∨ tyF c j = .boolean ∨ (∃ t, tyF c j = .array t) ∨ ∃ t, tyF c j = .object t := cl_sorts hc j
    rcases hty with h | h | h | ⟨t, h⟩ | ⟨t, h⟩ <;> rw [h] <;> rfl
  have k2 := kk p e s m below meth c0 H1 locs ls (cells + 1) (slots + nF c) B hX (by omega) (by omega) hR1 ⟨Nat.le_trans hS.1 (by omega), fun x q1 q2 => (o1 x (Nat.lt_of_lt_of_le q1 hS.1)).trans (hS.2.1 x q1 q2), hS.2.2⟩ hl
  have e : cv D (.ref (mN M)) = .ref H.size := by
    show Value.ref (rh D (mN M)) = _
    unfold rh
    rw [if_pos hm, hb]
  rw [List.map_cons, e] at k2
  exact k2
theorem lb_X {s : State} {H : Heap} {locs : List Loc} (hX : va_X b L xs s s.heap ∧ b < gB D ∧ gB D = s.heap.size ∧ D.2.2.2.2.1 300 = b) (hS : va_S (Fr D) s.heap H locs) : va_X b L xs s H ∧ cv D (.ref 1000300) = .ref b := by
  obtain ⟨hx, hb1, hb2, hb3⟩ := hX
  refine ⟨hx.kept (hS.2.1 b (by omega) (fun z => by have z2 : gB D ≤ b := z; omega)), ?_⟩
  show Value.ref (rh D 1000300) = .ref b
  unfold rh
  rw [if_neg (by omega)]
  exact congrArg Value.ref hb3
/-- the script's length -/
theorem lb_len (hd : decode code pc = .ok (.arraylength, 1)) (k : LW D b L xs kc ks (pc + 1) lv (.int (Int32.ofNat L) :: st) M) : LW D b L xs kc ks pc lv (.ref 1000300 :: st) M := by
  intro p e s m below meth c H locs ls cells slots B hX h1 h2 hR hS hl
  have hk := k p e s m below meth c H locs ls cells slots B hX h1 h2 hR hS hl
  obtain ⟨⟨scr, c1, c2, c3, c4, c5⟩, hr⟩ := lb_X hX hS
  exact W.alen (n := Int32.ofNat L) (rest := st.map (cv D)) B.1 B.2.1 c1 c2 (by rw [c4]) rfl (by show cv D (.ref 1000300) :: st.map (cv D) = _; rw [hr]) hd hk
/-- an int of the script -/
theorem lb_scr {j : Nat} (hj : j < L) (hL : L ≤ 4608) (hd : decode code pc = .ok (.iaload, 1)) (k : LW D b L xs kc ks (pc + 1) lv (.int (xs j) :: st) M) : LW D b L xs kc ks pc lv (.int (J (j : Nat)) :: .ref 1000300 :: st) M := by
  intro p e s m below meth c H locs ls cells slots B hX h1 h2 hR hS hl
  have hk := k p e s m below meth c H locs ls cells slots B hX h1 h2 hR hS hl
  obtain ⟨⟨scr, c1, c2, c3, c4, c5⟩, hr⟩ := lb_X hX hS
  have en : (J (j : Int)).toNatClampNeg = j := by simp (disch := omega) only [J_lit, J_add, J_sub, J_mul, J_neg, J_lt, J_le, J_eq, J_nat, J_in, J_div]; omega
  refine W.iald (j := J (j : Nat)) (v := .int (xs j)) (rest := st.map (cv D)) B.1 B.2.1 c1 c2 c3 ?_ (by rw [en]; exact c5 j hj) rfl (by show .int (J (j : Nat)) :: cv D (.ref 1000300) :: st.map (cv D) = _; rw [hr]) hd hk
  rw [en, c4]
  rintro (z | z)
  · simp (disch := omega) only [J_lit, J_add, J_sub, J_mul, J_neg, J_lt, J_le, J_eq, J_nat, J_in, J_div] at z
    omega
  · omega
/-- the end -/
theorem lb_true (hd : decode code pc = .ok (.ireturn, 1)) : LW D b L xs kc ks pc lv [.int 1] M := by
  intro p e s m below meth c H locs ls cells slots B hX h1 h2 hR hS hl
  have f : ∀ q ∈ locs, s.heap.size ≤ q.base := fun q hq => by rw [← hX.2.2.1]; exact hS.2.2 q hq
  exact W.widen (by omega) (by omega) (W.forget (locs := []) f (lw_ret B.1 B.2.1 B.2.2.1 B.2.2.2.2.2.1 hd))
end
