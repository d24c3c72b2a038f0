def nc_l : List (String × String) := [("ElevenYards$Mixed", "ElevenYards$Own"), ("ElevenYards$Turning", "ElevenYards$Own"), ("ElevenYards$Noted", "ElevenYards$Own"), ("ElevenYards$Staying", "ElevenYards$Own"), ("ElevenYards$Player", "ElevenYards$Own"), ("ElevenYards$Own", "ElevenYards$Mixed"), ("ElevenYards$Turning", "ElevenYards$Mixed"), ("ElevenYards$Waiting", "ElevenYards$Mixed"), ("ElevenYards$Player", "ElevenYards$Mixed"), ("ElevenYards$Own", "ElevenYards$Turning"), ("ElevenYards$Mixed", "ElevenYards$Turning"), ("ElevenYards$Waiting", "ElevenYards$Turning"), ("ElevenYards$Noted", "ElevenYards$Turning"), ("ElevenYards$Staying", "ElevenYards$Turning"), ("ElevenYards$Player", "ElevenYards$Turning"), ("ElevenYards$Own", "ElevenYards$Waiting"), ("ElevenYards$Mixed", "ElevenYards$Waiting"), ("ElevenYards$Turning", "ElevenYards$Waiting"), ("ElevenYards$Noted", "ElevenYards$Waiting"), ("ElevenYards$Staying", "ElevenYards$Waiting"), ("ElevenYards$Player", "ElevenYards$Waiting"), ("ElevenYards$Own", "ElevenYards$Noted"), ("ElevenYards$Mixed", "ElevenYards$Noted"), ("ElevenYards$Turning", "ElevenYards$Noted"), ("ElevenYards$Waiting", "ElevenYards$Noted"), ("ElevenYards$Staying", "ElevenYards$Noted"), ("ElevenYards$Player", "ElevenYards$Noted"), ("ElevenYards$Own", "ElevenYards$Staying"), ("ElevenYards$Mixed", "ElevenYards$Staying"), ("ElevenYards$Turning", "ElevenYards$Staying"), ("ElevenYards$Waiting", "ElevenYards$Staying"), ("ElevenYards$Noted", "ElevenYards$Staying"), ("ElevenYards$Player", "ElevenYards$Staying")]
def st_x : List String := ["go ", "012", " ", "press ", ")", "lotd", "<=>"]
def st_i : List Nat := [39, 45, 51, 53, 73, 75, 77]
def st_n : List Nat := [3, 3, 1, 6, 1, 4, 3]
def st_b : List (List Int32) := [[103, 111, 32], [48, 49, 50], [32], [112, 114, 101, 115, 115, 32], [41], [108, 111, 116, 100], [60, 61, 62]]
def tens : List Int32 := [10000, 1000, 100, 10, 1]

theorem wok_warm {w : Cond} (h : wok w = true) {s U : State} (hW : s.WarmedH U.vm) {A A' : Array Value} (hb : w.before A s = true) : w.before A' U = true := by
  have gen : ∀ {w : Cond}, (w.onTables && w.keepsH) = true → w.before A s = true → w.before A' U = true := fun {w} h hb => by
    simp only [Bool.and_eq_true] at h
    have := Cond.onTables_warmH (T := U) (args' := A') hW h.1 h.2 hb
    rwa [State.setVm_self] at this
  cases w with
  | arrayClass ty => exact word_at hW (Or.inr ⟨_, rfl⟩) hb
  | stringRef a b c =>
    have h1 := Cond.stringRef_warmed hW hb
    first
      | exact va_tabs rfl (rfl : (s.setVm U.vm).vm = U.vm) h1
      | (simp only [Cond.before, Cond.holds, Cond.value, State.names, State.poolOf?, State.resolvedAt?] at h1 ⊢; exact h1)
  | declares x => exact va_tabs rfl rfl (va_Nw.warmD hW (va_Nw.of rfl hb))
  | castable x y => exact va_tabs rfl rfl (va_Nw.warmC hW (va_Nw.of rfl hb))
  | arrayOver ty =>
    have e : (Cond.arrayOver ty).before A' U = (Cond.arrayOver ty).before A s := by
      have h := hW.alike
      simp only [Cond.before, Cond.holds, Cond.value, h.findClass]
      congr 1
      congr 1
      funext comp
      rw [h.findIdx?_eq _ (fun _ => rfl)]
      congr 1
      funext c
      exact h.class_map _ (fun k r _ _ => rfl) c
    rw [e]; exact hb
  | _ => exact gen h hb
def TB (U : State) : Prop := ∀ w ∈ lw_tbl, wok w = true → w.before #[] U = true
theorem TB.warm {s U : State} (hW : s.WarmedH U.vm) (h : TB s) : TB U := fun w hw hk => wok_warm hk hW (h w hw hk)
theorem TB.use {s : State} (h : TB s) {w : Cond} (hw : w ∈ lw_tbl) (hk : wok w = true) (args : Array Value) : w.before args s = true := wok_warm hk (State.WarmedH.refl s) (h w hw hk)
def VF (D : GD) (U : State) : Prop := va_K D.2.1 vwCl (ty_ D) U ∧ TB U ∧ ∀ q ∈ nc_l, va_Nc q.1 q.2 U
theorem VF.warm {D : GD} {s U : State} (hW : s.WarmedH U.vm) (h : VF D s) : VF D U := ⟨va_K.moved hW.alike h.1, h.2.1.warm hW, fun q hq => va_Nc.moved hW.alike (h.2.2 q hq)⟩
def XF (D : GD) (U : State) (H : Heap) : Prop :=
  va_Z "ElevenYards$ShootOut" "TENS" "[I" (.ref (D.2.2.2.2.1 7)) (Fr D) U H ∧ va_T .int (D.2.2.2.2.1 7) 5 (fun j => .int (tens.getD j 0)) (Fr D) U H ∧
  va_Z "java/lang/String" "COMPACT_STRINGS" "Z" (.int 1) (Fr D) U H ∧ va_Zq "jdk/internal/util/Preconditions" "SIOOBE_FORMATTER" "Ljava/util/function/BiFunction;" (Fr D) U H ∧
  vk_S 7 st_n st_b D.2.2.2.2.1 D.2.2.2.2.2 (Fr D) U H ∧ ∀ i : Nat, i < 7 → vk_R RX6 (st_i.getD i 0) (st_x.getD i "") (D.2.2.2.2.1 i) U
theorem XF.warm {D : GD} {s U : State} {H : Heap} (hW : s.WarmedH U.vm) (h : XF D s H) : XF D U H :=
  ⟨va_Z.moved hW.alike h.1, va_T.moved hW.alike h.2.1, va_Z.moved hW.alike h.2.2.1, va_Zq.moved hW.alike h.2.2.2.1, vk_S.moved hW.alike h.2.2.2.2.1, fun i hi => (h.2.2.2.2.2 i hi).warm hW⟩
theorem XF.kept {D : GD} {s : State} {H H1 : Heap} {locs : List Loc} (hS : va_S (Fr D) H H1 locs) (h : XF D s H) : XF D s H1 :=
  ⟨h.1.kept hS.2.1, h.2.1.kept hS.2.1, h.2.2.1.kept hS.2.1, h.2.2.2.1.kept hS.2.1, h.2.2.2.2.1.kept hS.2.1, h.2.2.2.2.2⟩
/-- a method: its name, its bytes, how many slots, what it answers -/
abbrev MD : Type := MethodName × ByteArray × Nat × Option FieldType
def rm_ (d mc ms : Nat) : Room := { frames := d, cells := mc, slots := ms, locals := 64 * d }
def Pp (D : GD) (vs : List Value) (M : Mm) : Array Value → State → Prop := fun v U => v = (vs.map (cv D)).toArray ∧ Rp D M U.heap ∧ VF D U ∧ XF D U U.heap
def Qp (D : GD) (post : Option Value → Mm → Prop) : Array Value → State → Outcome → State → Prop := fun _ st oc t => (∃ (r : Option Value) (M' : Mm), oc = .returned (r.map (cv D)) ∧ post r M' ∧ Rp D M' t.heap) ∧ va_F (Fr D) st t
/-- a method's contract: from this memory it ends, and what it answers and leaves is as 'post' says -/
def AM (D : GD) (d mc ms : Nat) (u : MD) (vs : List Value) (M : Mm) (post : Option Value → Mm → Prop) : Prop :=
  Met D.1 u.1 [.code u.1 u.2.1 u.2.2.1 u.2.2.2] (rm_ d mc ms) (Pp D vs M) (Qp D post) mc ms (Fr D)
def Bx (D : GD) (u : MD) (p : Program) (s : State) (m : MethodId) (meth : Method) (c : Code) : Prop :=
  p.tables.exec = Jvm.exec ∧ c.code = u.2.1 ∧ meth.sig.returnType = u.2.2.2 ∧ c.maxLocals = u.2.2.1 ∧ s.vm.findClass u.1.cls = some m.cls ∧ meth.locks = false ∧ meth.name = u.1.name ∧ VF D s ∧ XF D s s.heap ∧ gB D ≤ s.heap.size
def lc (D : GD) (lv : List (Nat × Value)) : List (Nat × Value) := lv.map (fun q => (q.1, cv D q.2))
/-- a point within a method -/
def AW (D : GD) (d mc ms : Nat) (u : MD) (kc ks pc : Nat) (lv : List (Nat × Value)) (st : List Value) (M : Mm) (post : Option Value → Mm → Prop) : Prop :=
  ∀ (p : Program) (e : Env) (s : State) (m : MethodId) (args : Array Value) (below : List Frame) (meth : Method) (c : Code) (H : Heap) (locs : List Loc) (ls : Array Slot) (cells slots : Nat),
    Bx D u p s m meth c → cells + kc ≤ mc → slots + ks ≤ ms → Rp D M H → va_S (Fr D) s.heap H locs → lv_has ls u.2.2.1 (lc D lv) →
    W p D.1 e (rm_ d mc ms) s m args below meth c H locs cells slots (MQ below (Qp D post) args s mc ms (Fr D)) (F0 m pc ls (st.map (cv D)))
theorem cv_cat (D : GD) (v : Value) : (cv D v).category = v.category := by cases v <;> rfl
theorem lc_args (D : GD) (vs : List Value) : ∀ i, lv_args i (vs.map (cv D)) = lc D (lv_args i vs) := by
  induction vs with
  | nil => intro i; rfl
  | cons v t ih =>
    intro i
    simp only [List.map_cons, lv_args, cv_cat, lc]
    rw [ih]
    rfl
theorem lg_cv (D : GD) (vs : List Value) : (lg_sl (vs.map (cv D))).length = (lg_sl vs).length := by
  induction vs with
  | nil => rfl
  | cons v t ih =>
    simp only [lg_sl, List.map_cons, List.flatMap_cons, List.length_append] at ih ⊢
    rw [ih, cv_cat]
    split <;> rfl
theorem AM.of {D : GD} {d mc ms : Nat} {u : MD} {vs : List Value} {M : Mm} {post : Option Value → Mm → Prop} (hy : plainName u.1.cls = true) (hl : (lg_sl vs).length ≤ u.2.2.1)
    (h : AW D d mc ms u mc ms 0 (lv_args 0 vs) [] M post) : AM D d mc ms u vs M post := by
  refine Met.ofW (cc := u.2.1) (maxL := u.2.2.1) (ret := u.2.2.2) hy rfl ?_
  intro p e s m args below meth c s₁ B hml hv
  obtain ⟨rfl, hR, hV, hX⟩ := hv
  have hE := lv_entry (vs.map (cv D)) (n := u.2.2.1) (by rw [lg_cv]; exact hl)
  rw [lc_args] at hE
  rw [lg_entry_eq]
  exact h p e s m _ below meth c s.heap [] _ 0 0 ⟨B.exec, B.bytes, B.returns, hml, findClass_of_methodNamed B.named, B.notSynchronized, (name_of_methodNamed B.named B.method).1, hV, hX, by rw [hR.2.1]; exact Nat.le_add_right _ _⟩ (by omega) (by omega) hR va_S.rf hE
theorem Qp.mono {D : GD} {P Q : Option Value → Mm → Prop} (h : ∀ r M', P r M' → Q r M') {a : Array Value} {s : State} {o : Outcome} {t : State} (hq : Qp D P a s o t) : Qp D Q a s o t := by
  obtain ⟨⟨r, M', h1, h2, h3⟩, h4⟩ := hq
  exact ⟨⟨r, M', h1, h r M' h2, h3⟩, h4⟩

