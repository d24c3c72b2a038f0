
/-- where a field is named in the code: the pool's entry i of the class own is the field k of an object of sort c -/
def FS (own : String) (i c k : Nat) : Prop := c < 13 ∧ k < nF c ∧ ∃ ref : String, Cond.fieldLink own i ref (Tn c k).2.1 (Tn c k).2.2.1 ∈ lw_tbl ∧ (ref = (Tn c k).1 ∨ Cond.sameField ref (Tn c k).1 (Tn c k).2.1 (Tn c k).2.2.1 ∈ lw_tbl)
theorem ce_obj {D : GD} {M : Mm} {a c : Nat} (h : mS M a = (0, c)) : ce D M a = .inr (c, (List.range (nF c)).map (fv D M a c)) := by
  unfold ce; rw [h]; rfl
theorem ce_1 {D : GD} {M : Mm} {a n : Nat} (h : mS M a = (1, n)) : ce D M a = .inl (D.2.2.1 0, n, .inl (gI M a)) := by unfold ce; rw [h]; rfl
theorem ce_2 {D : GD} {M : Mm} {a n : Nat} (h : mS M a = (2, n)) : ce D M a = .inl (D.2.2.1 1, n, .inr (.inl (gL M a))) := by unfold ce; rw [h]; rfl
theorem ce_3 {D : GD} {M : Mm} {a n : Nat} (h : mS M a = (3, n)) : ce D M a = .inl (D.2.2.1 2, n, .inl (gI M a)) := by unfold ce; rw [h]; rfl
theorem ce_4 {D : GD} {M : Mm} {a n : Nat} (h : mS M a = (4, n)) : ce D M a = .inl (D.2.2.1 3, n, .inr (.inr (.inr (.inr (fun j => (gP M a j).map (rh D)))))) := by unfold ce; rw [h]; rfl
theorem ce_5 {D : GD} {M : Mm} {a n : Nat} (h : mS M a = (5, n)) : ce D M a = .inl (D.2.2.1 4, n, .inr (.inr (.inr (.inr (fun j => (gP M a j).map (rh D)))))) := by unfold ce; rw [h]; rfl
theorem ce_6 {D : GD} {M : Mm} {a n : Nat} (h : mS M a = (6, n)) : ce D M a = .inl (D.2.2.1 5, n, .inr (.inr (.inr (.inr (fun j => (gP M a j).map (rh D)))))) := by unfold ce; rw [h]; rfl
section
variable {D : GD} {d mc ms : Nat} {u : MD} {kc ks pc : Nat} {lv : List (Nat × Value)} {st : List Value} {M : Mm} {post : Option Value → Mm → Prop}
theorem Bx.tb {p : Program} {s : State} {m : MethodId} {meth : Method} {c : Code} (B : Bx D u p s m meth c) : TB s := B.2.2.2.2.2.2.2.1.2.1
theorem Bx.K {p : Program} {s : State} {m : MethodId} {meth : Method} {c : Code} (B : Bx D u p s m meth c) : va_K D.2.1 vwCl (ty_ D) s := B.2.2.2.2.2.2.2.1.1
theorem Bx.own {p : Program} {s : State} {m : MethodId} {meth : Method} {c : Code} (B : Bx D u p s m meth c) : s.vm.findClass u.1.cls = some m.cls := B.2.2.2.2.1
theorem Bx.A {p : Program} {s : State} {m : MethodId} {meth : Method} {c : Code} (B : Bx D u p s m meth c) : ∀ q, s.heap.size ≤ q → Fr D q := fun _ h => Nat.le_trans B.2.2.2.2.2.2.2.2.2 h
theorem Rp.at {H : Heap} (h : Rp D M H) {a : Nat} (ha : a < mN M) : (wd D M)[a]? = some (rh D a, ce D M a) := by rw [rh_own ha h.2.2]; exact wd_at ha
theorem cv_rf (o : Option Nat) : cv D (va_rf o) = va_rf (o.map (rh D)) := by cases o <;> rfl
theorem FS.same {own : String} {i c k : Nat} {s : State} {args : Array Value} (ht : TB s) {ref : String} (h : ref = (Tn c k).1 ∨ Cond.sameField ref (Tn c k).1 (Tn c k).2.1 (Tn c k).2.2.1 ∈ lw_tbl) : ∀ x, s.fieldFound? (Tn c k).1 (Tn c k).2.1 (Tn c k).2.2.1 = some x → s.fieldFound? ref (Tn c k).2.1 (Tn c k).2.2.1 = some x := by
  intro x hx
  rcases h with h | h
  · rw [h]; exact hx
  · exact u_same (ht.use h rfl #[]) x hx
theorem ab_get {i a c k : Nat} {v : Value} (hd : decode u.2.1 pc = .ok (.getfield i, 3)) (hs : FS u.1.cls i c k) (ha : a < mN M) (hsh : mS M a = (0, c)) (hv : fv D M a c k = cv D v) (kk : AW D d mc ms u kc ks (pc + 3) lv (v :: st) M post) : AW D d mc ms u kc ks pc lv (.ref a :: st) M post := by
  intro p e s m args below meth c0 H locs ls cells slots B h1 h2 hR hS hl
  obtain ⟨hc, hk, ref, hl1, hl2⟩ := hs
  refine va_get (D := D.2.1) (tys := ty_ D) (ws := wd D M) (ci := c) (v := cv D v) B.1 B.2.1 (B.tb.all args) (cl_in hc) B.own B.K hR.1 a (fs := (List.range (nF c)).map (fv D M a c)) ?_ (cl_at hc) k hk (B.tb.use hl1 rfl args) (FS.same (own := u.1.cls) (i := i) (args := args) B.tb hl2) ?_ hd (kk p e s m args below meth c0 H locs ls cells slots B h1 h2 hR hS hl)
  · rw [hR.at ha, ce_obj hsh]
  · simp [hk, hv]
theorem ab_getI {i a c k : Nat} (hd : decode u.2.1 pc = .ok (.getfield i, 3)) (hs : FS u.1.cls i c k) (hf : fk c k = 0) (ha : a < mN M) (hsh : mS M a = (0, c)) (kk : AW D d mc ms u kc ks (pc + 3) lv (.int (gI M a k) :: st) M post) : AW D d mc ms u kc ks pc lv (.ref a :: st) M post :=
  ab_get hd hs ha hsh (by simp [fv, hf, cv]) kk
theorem ab_getL {i a c k : Nat} (hd : decode u.2.1 pc = .ok (.getfield i, 3)) (hs : FS u.1.cls i c k) (hf : fk c k = 1) (ha : a < mN M) (hsh : mS M a = (0, c)) (kk : AW D d mc ms u kc ks (pc + 3) lv (.long (gL M a k) :: st) M post) : AW D d mc ms u kc ks pc lv (.ref a :: st) M post :=
  ab_get hd hs ha hsh (by simp [fv, hf, cv]) kk
theorem ab_getP {i a c k r : Nat} (hd : decode u.2.1 pc = .ok (.getfield i, 3)) (hs : FS u.1.cls i c k) (hf : fk c k = 2) (ha : a < mN M) (hsh : mS M a = (0, c)) (hr : gP M a k = some r) (kk : AW D d mc ms u kc ks (pc + 3) lv (.ref r :: st) M post) : AW D d mc ms u kc ks pc lv (.ref a :: st) M post :=
  ab_get hd hs ha hsh (by simp [fv, hf, cv, hr, va_rf]) kk
/-- a field of a nest mate -/
theorem ab_getN {i a c k r : Nat} {host : String} (hd : decode u.2.1 pc = .ok (.getfield i, 3)) (hc : c < 13) (hk : k < nF c) (hl1 : Cond.fieldLinkNest u.1.cls i (Tn c k).1 (Tn c k).2.1 (Tn c k).2.2.1 host ∈ lw_tbl) (hf : fk c k = 2) (ha : a < mN M) (hsh : mS M a = (0, c)) (hr : gP M a k = some r) (kk : AW D d mc ms u kc ks (pc + 3) lv (.ref r :: st) M post) : AW D d mc ms u kc ks pc lv (.ref a :: st) M post := by
  intro p e s m args below meth c0 H locs ls cells slots B h1 h2 hR hS hl
  refine va_getN (D := D.2.1) (tys := ty_ D) (ws := wd D M) (ci := c) (v := .ref (rh D r)) B.1 B.2.1 (B.tb.all args) (cl_in hc) B.own B.K hR.1 a (fs := (List.range (nF c)).map (fv D M a c)) ?_ (cl_at hc) k hk (B.tb.use hl1 rfl args) (fun _ h => h) ?_ hd (kk p e s m args below meth c0 H locs ls cells slots B h1 h2 hR hS hl)
  · rw [hR.at ha, ce_obj hsh]
  · simp [hk, fv, hf, hr, va_rf]
theorem put_at {H1 : Heap} {M' : Mm} {a c k : Nat} {v : Value} {cell : Cell} (hc : c < 13) (hk : k < nF c) (hsh' : mS M' a = (0, c)) (hap : ∀ x y, x < nF c → y < nF c → x ≠ y → (D.2.1.2 c) x ≠ (D.2.1.2 c) y)
    (e4 : ∀ j, j < nF c → fv D M' a c j = if j = k then v else fv D M a c j) (q2 : cell.cls = D.2.1.1 c) (q3 : cell.vm = .none) (q4 : ∀ j, j < nF c → cell.slots[(D.2.1.2 c) j]? = some (vp_V ((List.range (nF c)).map (fv D M a c)) j)) (e1 : H1[gB D + a]? = some (cell.setSlot ((D.2.1.2 c) k) v)) : va_at D.2.1 vwCl (gB D + a, ce D M' a) H1 := by
  rw [ce_obj hsh']
  refine ⟨_, cl_at hc, t_OB.to (V := updV (vp_V ((List.range (nF c)).map (fv D M a c))) k v) ⟨_, e1, q2, q3, t_set q4 hap hk v⟩ (fun j hj => ?_)⟩
  simp only [updV, vp_V, List.getD_eq_getElem?_getD, List.getElem?_map, List.getElem?_range hj, Option.map_some, Option.getD_some]
  rw [e4 j hj]
theorem ab_put {i a c k : Nat} {v : Value} {M' : Mm} (hd : decode u.2.1 pc = .ok (.putfield i, 3)) (hs : FS u.1.cls i c k) (hfin : (Tn c k).2.2.2 = false) (hn : narrow (tyF c k) (cv D v) = cv D v) (hfit : fits (tyF c k) (cv D v) = true) (ha : a < mN M) (hsh : mS M a = (0, c))
    (e1 : mN M' = mN M) (e2 : mS M' a = mS M a) (e3 : ∀ b, b ≠ a → ce D M' b = ce D M b) (e4 : ∀ j, j < nF c → fv D M' a c j = if j = k then cv D v else fv D M a c j) (kk : AW D d mc ms u kc ks (pc + 3) lv st M' post) : AW D d mc ms u kc ks pc lv (v :: .ref a :: st) M post := by
  intro p e s m args below meth c0 H locs ls cells slots B h1 h2 hR hS hl
  obtain ⟨hc, hk, ref, hl1, hl2⟩ := hs
  have hts := B.tb.all args
  have hin := cl_in hc
  have hap := va_apart (own := u.1.cls) hts hin (tyF c) (cl_ty hc) (cl_nm hc) B.K (cl_at hc)
  have he : (wd D M)[a]? = some (gB D + a, .inr (c, (List.range (nF c)).map (fv D M a c))) := by rw [wd_at ha, ce_obj hsh]
  obtain ⟨r, g1, cell, q1, q2, q3, q4⟩ := hR.1 a _ he
  have hr : r = (Cn c, Tn c, nF c) := Option.some.inj (g1.symm.trans (cl_at hc))
  subst hr
  obtain ⟨hSl, hfc, kC, hkC, hkind⟩ := B.K.1 c _ (cl_at hc)
  obtain ⟨cf, kf, fi, f, hi, hsl⟩ := hSl k hk
  have hlay := hts _ (hin _ (u_in_lay hk))
  unfold u_lay at hlay
  rw [if_neg (by rw [hfin]; decide)] at hlay
  have hst := (u_facts hfc hkC (u_lays hts hin hk) hi).1
  have h6 := u_store hfc hkC hkind hlay hi (cl_ty hc k hk) hn hfit
  show W _ _ _ _ _ _ _ _ _ _ _ _ _ _ _ (F0 m pc ls (cv D v :: .ref (rh D a) :: st.map (cv D)))
  rw [rh_own ha hR.2.2]
  refine W.putK B.1 B.2.1 (f := f) ⟨B.own, B.tb.use hl1 rfl args, ⟨_, _, _, FS.same (own := u.1.cls) (i := i) (args := args) B.tb hl2 _ hi⟩, hst⟩ (by rw [q2]; exact h6) q1 q3 (by rw [hsl]; exact k2_hasslot (q4 k hk)) rfl rfl hd fun H' z1 z2 z3 => ?_
  rw [hsl] at z1 ⊢
  exact kk p e s m args below meth c0 H' _ ls cells slots B h1 h2 (hR.put ha e1 e3 z2 z3 (put_at hc hk (e2.trans hsh) hap e4 q2 q3 q4 z1)) (hS.put z2 z3 (Nat.le_add_right _ _)) hl
theorem ab_putF {i a c k : Nat} {v : Value} {M' : Mm} (hd : decode u.2.1 pc = .ok (.putfield i, 3)) (hs : FS u.1.cls i c k) (hfin : (Tn c k).2.2.2 = true) (hnm : u.1.name = "<init>") (hdecl : (Tn c k).1 = u.1.cls) (hn : narrow (tyF c k) (cv D v) = cv D v) (hfit : fits (tyF c k) (cv D v) = true) (ha : a < mN M) (hsh : mS M a = (0, c))
    (e1 : mN M' = mN M) (e2 : mS M' a = mS M a) (e3 : ∀ b, b ≠ a → ce D M' b = ce D M b) (e4 : ∀ j, j < nF c → fv D M' a c j = if j = k then cv D v else fv D M a c j) (kk : AW D d mc ms u kc ks (pc + 3) lv st M' post) : AW D d mc ms u kc ks pc lv (v :: .ref a :: st) M post := by
  intro p e s m args below meth c0 H locs ls cells slots B h1 h2 hR hS hl
  obtain ⟨hc, hk, ref, hl1, hl2⟩ := hs
  have hts := B.tb.all args
  have hin := cl_in hc
  have hap := va_apart (own := u.1.cls) hts hin (tyF c) (cl_ty hc) (cl_nm hc) B.K (cl_at hc)
  have he : (wd D M)[a]? = some (gB D + a, .inr (c, (List.range (nF c)).map (fv D M a c))) := by rw [wd_at ha, ce_obj hsh]
  obtain ⟨r, g1, cell, q1, q2, q3, q4⟩ := hR.1 a _ he
  have hr : r = (Cn c, Tn c, nF c) := Option.some.inj (g1.symm.trans (cl_at hc))
  subst hr
  obtain ⟨hSl, hfc, kC, hkC, hkind⟩ := B.K.1 c _ (cl_at hc)
  obtain ⟨cf, kf, fi, f, hi, hsl⟩ := hSl k hk
  have hlay := hts _ (hin _ (u_in_lay hk))
  unfold u_lay at hlay
  rw [if_pos hfin] at hlay
  have hst := (u_facts hfc hkC (u_lays hts hin hk) hi).1
  have hcf : m.cls = cf := by
    obtain ⟨_, _, c', _, _, _, -, -, hf', -, -, -, hown2, -⟩ := Cond.laysFinal_spec hlay
    have e1 : c' = cf := by have := hi.symm.trans hf'; simp at this; exact this.1.symm
    rw [hdecl] at hown2
    rw [← e1]; exact Option.some.inj (B.own.symm.trans hown2)
  have h6 := u_fits hfc hkC hkind (Or.inr hlay) hi (cl_ty hc k hk) hn hfit
  show W _ _ _ _ _ _ _ _ _ _ _ _ _ _ _ (F0 m pc ls (cv D v :: .ref (rh D a) :: st.map (cv D)))
  rw [rh_own ha hR.2.2]
  refine W.putFinK B.1 B.2.1 B.own (B.tb.use hl1 rfl args) (FS.same (own := u.1.cls) (i := i) (args := args) B.tb hl2 _ hi) hst hcf (B.2.2.2.2.2.2.1.trans hnm) (by rw [q2]; exact h6) q1 q3 (by rw [hsl]; exact k2_hasslot (q4 k hk)) rfl rfl hd fun H' z1 z2 z3 => ?_
  rw [hsl] at z1 ⊢
  exact kk p e s m args below meth c0 H' _ ls cells slots B h1 h2 (hR.put ha e1 e3 z2 z3 (put_at hc hk (e2.trans hsh) hap e4 q2 q3 q4 z1)) (hS.put z2 z3 (Nat.le_add_right _ _)) hl
theorem fv_sI {a c k j : Nat} {x : Int32} (hf : fk c k = 0) : fv D (sI M a k x) a c j = if j = k then .int x else fv D M a c j := by
  unfold fv
  by_cases e : j = k
  · subst e
    simp [hf, sI, rI, gI, va_up]
  · simp [e, sI, rI, gI, gL, gP, va_up]
theorem fv_sL {a c k j : Nat} {x : Int64} (hf : fk c k = 1) : fv D (sL M a k x) a c j = if j = k then .long x else fv D M a c j := by
  unfold fv
  by_cases e : j = k
  · subst e
    simp [hf, sL, rL, gL, va_up]
  · simp [e, sL, rL, gI, gL, gP, va_up]
theorem fv_sP {a c k j : Nat} {o : Option Nat} (hf : fk c k = 2) : fv D (sP M a k o) a c j = if j = k then cv D (va_rf o) else fv D M a c j := by
  unfold fv
  by_cases e : j = k
  · subst e
    simp [hf, sP, rP, gP, va_up, cv_rf]
  · simp [e, sP, rP, gI, gL, gP, va_up]
theorem ab_putI {i a c k : Nat} {x : Int32} (hd : decode u.2.1 pc = .ok (.putfield i, 3)) (hs : FS u.1.cls i c k) (hf : tyF c k = .int) (hfin : (Tn c k).2.2.2 = false) (ha : a < mN M) (hsh : mS M a = (0, c)) (kk : AW D d mc ms u kc ks (pc + 3) lv st (sI M a k x) post) : AW D d mc ms u kc ks pc lv (.int x :: .ref a :: st) M post :=
  ab_put (M' := sI M a k x) hd hs hfin (by rw [hf]; exact vp_nar_int x) (by rw [hf]; rfl) ha hsh rfl rfl (fun b hb => ce_rI hb) (fun j _ => fv_sI (by unfold fk; rw [show cTy.getD c (fun _ => FieldType.int) k = tyF c k from rfl, hf]; rfl)) kk
theorem ab_putZ {i a c k : Nat} {x : Int32} (hd : decode u.2.1 pc = .ok (.putfield i, 3)) (hs : FS u.1.cls i c k) (hf : tyF c k = .boolean) (hfin : (Tn c k).2.2.2 = false) (ha : a < mN M) (hsh : mS M a = (0, c)) (hx : x = 0 ∨ x = 1) (kk : AW D d mc ms u kc ks (pc + 3) lv st (sI M a k x) post) : AW D d mc ms u kc ks pc lv (.int x :: .ref a :: st) M post :=
  ab_put (M' := sI M a k x) hd hs hfin (by rw [hf]; rcases hx with rfl | rfl <;> rfl) (by rw [hf]; rcases hx with rfl | rfl <;> rfl) ha hsh rfl rfl (fun b hb => ce_rI hb) (fun j _ => fv_sI (by unfold fk; rw [show cTy.getD c (fun _ => FieldType.int) k = tyF c k from rfl, hf]; rfl)) kk
theorem ab_putL {i a c k : Nat} {x : Int64} (hd : decode u.2.1 pc = .ok (.putfield i, 3)) (hs : FS u.1.cls i c k) (hf : tyF c k = .long) (hfin : (Tn c k).2.2.2 = false) (ha : a < mN M) (hsh : mS M a = (0, c)) (kk : AW D d mc ms u kc ks (pc + 3) lv st (sL M a k x) post) : AW D d mc ms u kc ks pc lv (.long x :: .ref a :: st) M post :=
  ab_put (M' := sL M a k x) hd hs hfin (by rw [hf]; rfl) (by rw [hf]; rfl) ha hsh rfl rfl (fun b hb => ce_rL hb) (fun j _ => fv_sL (by unfold fk; rw [show cTy.getD c (fun _ => FieldType.int) k = tyF c k from rfl, hf]; rfl)) kk
theorem ab_putFI {i a c k : Nat} {x : Int32} (hd : decode u.2.1 pc = .ok (.putfield i, 3)) (hs : FS u.1.cls i c k) (hf : tyF c k = .int) (hfin : (Tn c k).2.2.2 = true) (hnm : u.1.name = "<init>") (hdecl : (Tn c k).1 = u.1.cls) (ha : a < mN M) (hsh : mS M a = (0, c)) (kk : AW D d mc ms u kc ks (pc + 3) lv st (sI M a k x) post) : AW D d mc ms u kc ks pc lv (.int x :: .ref a :: st) M post :=
  ab_putF (M' := sI M a k x) hd hs hfin hnm hdecl (by rw [hf]; exact vp_nar_int x) (by rw [hf]; rfl) ha hsh rfl rfl (fun b hb => ce_rI hb) (fun j _ => fv_sI (by unfold fk; rw [show cTy.getD c (fun _ => FieldType.int) k = tyF c k from rfl, hf]; rfl)) kk
theorem fit_ref {t : FieldType} (h : fK t = 2) (o : Nat) : narrow t (.ref o) = .ref o ∧ fits t (.ref o) = true := by
  cases t <;> first | (simp [fK] at h; done) | exact ⟨rfl, rfl⟩
theorem ab_putFP {i a c k r : Nat} (hd : decode u.2.1 pc = .ok (.putfield i, 3)) (hs : FS u.1.cls i c k) (hf : fk c k = 2) (hfin : (Tn c k).2.2.2 = true) (hnm : u.1.name = "<init>") (hdecl : (Tn c k).1 = u.1.cls) (ha : a < mN M) (hsh : mS M a = (0, c)) (kk : AW D d mc ms u kc ks (pc + 3) lv st (sP M a k (some r)) post) : AW D d mc ms u kc ks pc lv (.ref r :: .ref a :: st) M post :=
  ab_putF (M' := sP M a k (some r)) hd hs hfin hnm hdecl (fit_ref hf _).1 (fit_ref hf _).2 ha hsh rfl rfl (fun b hb => ce_rP hb) (fun j _ => fv_sP hf) kk
/-! arrays -/
theorem ab_iald {a n : Nat} {i : Int32} (hd : decode u.2.1 pc = .ok (.iaload, 1)) (ha : a < mN M) (hsh : mS M a = (1, n)) (hin : vp_in i n) (kk : AW D d mc ms u kc ks (pc + 1) lv (.int (gI M a i.toNatClampNeg) :: st) M post) : AW D d mc ms u kc ks pc lv (.int i :: .ref a :: st) M post := by
  intro p e s m args below meth c0 H locs ls cells slots B h1 h2 hR hS hl
  exact va_iald B.1 B.2.1 B.K hR.1 a 0 (by rw [hR.at ha, ce_1 hsh]) rfl hin hd (kk p e s m args below meth c0 H locs ls cells slots B h1 h2 hR hS hl)
theorem ab_zald {a n : Nat} {i : Int32} (hd : decode u.2.1 pc = .ok (.baload, 1)) (ha : a < mN M) (hsh : mS M a = (3, n)) (hin : vp_in i n) (kk : AW D d mc ms u kc ks (pc + 1) lv (.int (gI M a i.toNatClampNeg) :: st) M post) : AW D d mc ms u kc ks pc lv (.int i :: .ref a :: st) M post := by
  intro p e s m args below meth c0 H locs ls cells slots B h1 h2 hR hS hl
  exact va_zald B.1 B.2.1 B.K hR.1 a 2 (by rw [hR.at ha, ce_3 hsh]) rfl hin hd (kk p e s m args below meth c0 H locs ls cells slots B h1 h2 hR hS hl)
theorem ab_lald {a n : Nat} {i : Int32} (hd : decode u.2.1 pc = .ok (.laload, 1)) (ha : a < mN M) (hsh : mS M a = (2, n)) (hin : vp_in i n) (kk : AW D d mc ms u kc ks (pc + 1) lv (.long (gL M a i.toNatClampNeg) :: st) M post) : AW D d mc ms u kc ks pc lv (.int i :: .ref a :: st) M post := by
  intro p e s m args below meth c0 H locs ls cells slots B h1 h2 hR hS hl
  exact va_lald B.1 B.2.1 B.K hR.1 a 1 (by rw [hR.at ha, ce_2 hsh]) rfl hin hd (kk p e s m args below meth c0 H locs ls cells slots B h1 h2 hR hS hl)
theorem aald_W {a n t0 : Nat} {i : Int32} {ty : FieldType} {f : Nat → Option Nat} {p : Program} {e : Env} {s : State} {m : MethodId} {args : Array Value} {below : List Frame} {meth : Method} {c0 : Code} {H : Heap} {locs : List Loc} {ls : Array Slot} {cells slots : Nat} {R : Room} {Q : State → Prop} {rest : List Value}
    (B : Bx D u p s m meth c0) (hR : Rp D M H) (ha : (wd D M)[a]? = some (rh D a, .inl (D.2.2.1 t0, n, .inr (.inr (.inr (.inr f)))))) (ht : (ty_ D)[t0]? = some (D.2.2.1 t0, ty)) (hty : ty.isReference = true) (hin : vp_in i n) (hd : decode u.2.1 pc = .ok (.aaload, 1))
    (kk : W p D.1 e R s m args below meth c0 H locs cells slots Q (F0 m (pc + 1) ls (va_rf (f i.toNatClampNeg) :: rest))) : W p D.1 e R s m args below meth c0 H locs cells slots Q (F0 m pc ls (.int i :: .ref (rh D a) :: rest)) := by
  have hlt : i.toNatClampNeg < n := Nat.not_le.mp fun q => hin (Or.inr q)
  exact W.aald (v := va_rf (f i.toNatClampNeg)) (ty := ty) B.1 B.2.1 (hR.1 a _ ha) ((B.K.2 t0 _ ht).1 n (fun j => va_rf (f j))) hty (fun q => by cases q) (by show ¬ (i < 0 ∨ (arrV _ _ _).slots.size ≤ _); rw [arrV_size]; exact hin) (by show (arrV _ _ _).slots[_]? = _; rw [arrV_read _ _ hlt]) rfl rfl hd kk
theorem ab_aald4 {a n r : Nat} {i : Int32} (hd : decode u.2.1 pc = .ok (.aaload, 1)) (ha : a < mN M) (hsh : mS M a = (4, n)) (hin : vp_in i n) (hr : gP M a i.toNatClampNeg = some r) (kk : AW D d mc ms u kc ks (pc + 1) lv (.ref r :: st) M post) : AW D d mc ms u kc ks pc lv (.int i :: .ref a :: st) M post := by
  intro p e s m args below meth c0 H locs ls cells slots B h1 h2 hR hS hl
  refine aald_W (t0 := 3) (ty := .array .int) B hR (by rw [hR.at ha, ce_4 hsh]) rfl rfl hin hd ?_
  rw [hr]
  exact kk p e s m args below meth c0 H locs ls cells slots B h1 h2 hR hS hl
theorem ab_aald5 {a n r : Nat} {i : Int32} (hd : decode u.2.1 pc = .ok (.aaload, 1)) (ha : a < mN M) (hsh : mS M a = (5, n)) (hin : vp_in i n) (hr : gP M a i.toNatClampNeg = some r) (kk : AW D d mc ms u kc ks (pc + 1) lv (.ref r :: st) M post) : AW D d mc ms u kc ks pc lv (.int i :: .ref a :: st) M post := by
  intro p e s m args below meth c0 H locs ls cells slots B h1 h2 hR hS hl
  refine aald_W (t0 := 4) (ty := .array .long) B hR (by rw [hR.at ha, ce_5 hsh]) rfl rfl hin hd ?_
  rw [hr]
  exact kk p e s m args below meth c0 H locs ls cells slots B h1 h2 hR hS hl
theorem ab_aald6 {a n : Nat} {i : Int32} (hd : decode u.2.1 pc = .ok (.aaload, 1)) (ha : a < mN M) (hsh : mS M a = (6, n)) (hin : vp_in i n) (kk : AW D d mc ms u kc ks (pc + 1) lv (va_rf (gP M a i.toNatClampNeg) :: st) M post) : AW D d mc ms u kc ks pc lv (.int i :: .ref a :: st) M post := by
  intro p e s m args below meth c0 H locs ls cells slots B h1 h2 hR hS hl
  refine aald_W (t0 := 5) (ty := .object "ElevenYards$Player") B hR (by rw [hR.at ha, ce_6 hsh]) rfl rfl hin hd ?_
  have := kk p e s m args below meth c0 H locs ls cells slots B h1 h2 hR hS hl
  rw [List.map_cons, cv_rf] at this
  exact this
theorem ab_alen {a t n : Nat} (hd : decode u.2.1 pc = .ok (.arraylength, 1)) (ha : a < mN M) (hsh : mS M a = (t, n)) (h1t : 1 ≤ t) (h6t : t ≤ 6) (kk : AW D d mc ms u kc ks (pc + 1) lv (.int (Int32.ofNat n) :: st) M post) : AW D d mc ms u kc ks pc lv (.ref a :: st) M post := by
  intro p e s m args below meth c0 H locs ls cells slots B h1 h2 hR hS hl
  have k2 := kk p e s m args below meth c0 H locs ls cells slots B h1 h2 hR hS hl
  have hat := hR.at ha
  match t, h1t, h6t, hsh with
  | 1, _, _, hsh => exact va_alen B.1 B.2.1 B.K hR.1 a 0 (hat.trans (congrArg (fun z => some (rh D a, z)) (ce_1 hsh))) rfl rfl hd k2
  | 2, _, _, hsh => exact va_alen B.1 B.2.1 B.K hR.1 a 1 (hat.trans (congrArg (fun z => some (rh D a, z)) (ce_2 hsh))) rfl rfl hd k2
  | 3, _, _, hsh => exact va_alen B.1 B.2.1 B.K hR.1 a 2 (hat.trans (congrArg (fun z => some (rh D a, z)) (ce_3 hsh))) rfl rfl hd k2
  | 4, _, _, hsh => exact va_alen B.1 B.2.1 B.K hR.1 a 3 (hat.trans (congrArg (fun z => some (rh D a, z)) (ce_4 hsh))) rfl rfl hd k2
  | 5, _, _, hsh => exact va_alen B.1 B.2.1 B.K hR.1 a 4 (hat.trans (congrArg (fun z => some (rh D a, z)) (ce_5 hsh))) rfl rfl hd k2
  | 6, _, _, hsh => exact va_alen B.1 B.2.1 B.K hR.1 a 5 (hat.trans (congrArg (fun z => some (rh D a, z)) (ce_6 hsh))) rfl rfl hd k2
theorem ab_iast {a n : Nat} {i x : Int32} (hd : decode u.2.1 pc = .ok (.iastore, 1)) (ha : a < mN M) (hsh : mS M a = (1, n)) (hin : vp_in i n) (kk : AW D d mc ms u kc ks (pc + 1) lv st (sI M a i.toNatClampNeg x) post) : AW D d mc ms u kc ks pc lv (.int x :: .int i :: .ref a :: st) M post := by
  intro p e s m args below meth c0 H locs ls cells slots B h1 h2 hR hS hl
  show W _ _ _ _ _ _ _ _ _ _ _ _ _ _ _ (F0 m pc ls (.int x :: .int i :: .ref (rh D a) :: st.map (cv D)))
  rw [rh_own ha hR.2.2]
  have he := hR.1 a _ (wd_at ha)
  rw [ce_1 hsh] at he
  refine W.iast B.1 B.2.1 he ((B.K.2 0 _ rfl).1 n (fun j => .int (gI M a j))) (fun q => by cases q) (by show ¬ (i < 0 ∨ (arrV _ _ _).slots.size ≤ _); rw [arrV_size]; exact hin) rfl rfl hd fun H1 z1 z2 z3 => ?_
  refine kk p e s m args below meth c0 H1 _ ls cells slots B h1 h2 (hR.put ha rfl (fun b hb => ce_rI hb) z2 z3 ?_) (hS.put z2 z3 (Nat.le_add_right _ _)) hl
  rw [ce_1 (M := sI M a i.toNatClampNeg x) hsh]
  show H1[_]? = some (vp_cell _ _)
  rw [z1]
  show some ((arrV _ _ _).setSlot _ _) = _
  rw [arrV_store, vp_cell_i]
  congr 2
  funext q
  by_cases hq : q = i.toNatClampNeg
  · subst hq
    simp [updV, sI, rI, gI, va_up]
  · simp [updV, sI, rI, gI, va_up, hq]
theorem ab_zast {a n : Nat} {i x : Int32} (hd : decode u.2.1 pc = .ok (.bastore, 1)) (ha : a < mN M) (hsh : mS M a = (3, n)) (hin : vp_in i n) (hx : x = 0 ∨ x = 1) (kk : AW D d mc ms u kc ks (pc + 1) lv st (sI M a i.toNatClampNeg x) post) : AW D d mc ms u kc ks pc lv (.int x :: .int i :: .ref a :: st) M post := by
  intro p e s m args below meth c0 H locs ls cells slots B h1 h2 hR hS hl
  show W _ _ _ _ _ _ _ _ _ _ _ _ _ _ _ (F0 m pc ls (.int x :: .int i :: .ref (rh D a) :: st.map (cv D)))
  rw [rh_own ha hR.2.2]
  have he := hR.1 a _ (wd_at ha)
  rw [ce_3 hsh] at he
  refine W.zast B.1 B.2.1 he ((B.K.2 2 _ rfl).1 n (fun j => .int (gI M a j))) (fun q => by cases q) (by show ¬ (i < 0 ∨ (arrV _ _ _).slots.size ≤ _); rw [arrV_size]; exact hin) rfl rfl hd fun H1 z1 z2 z3 => ?_
  refine kk p e s m args below meth c0 H1 _ ls cells slots B h1 h2 (hR.put ha rfl (fun b hb => ce_rI hb) z2 z3 ?_) (hS.put z2 z3 (Nat.le_add_right _ _)) hl
  rw [ce_3 (M := sI M a i.toNatClampNeg x) hsh]
  show H1[_]? = some (vp_cell _ _)
  rw [z1]
  show some ((arrV _ _ _).setSlot _ _) = _
  rw [arrV_store, vp_cell_i]
  have hnar : narrow .boolean (.int x) = .int x := by rcases hx with rfl | rfl <;> rfl
  rw [hnar]
  congr 2
  funext q
  by_cases hq : q = i.toNatClampNeg
  · subst hq
    simp [updV, sI, rI, gI, va_up]
  · simp [updV, sI, rI, gI, va_up, hq]
theorem ab_last {a n : Nat} {i : Int32} {x : Int64} (hd : decode u.2.1 pc = .ok (.lastore, 1)) (ha : a < mN M) (hsh : mS M a = (2, n)) (hin : vp_in i n) (kk : AW D d mc ms u kc ks (pc + 1) lv st (sL M a i.toNatClampNeg x) post) : AW D d mc ms u kc ks pc lv (.long x :: .int i :: .ref a :: st) M post := by
  intro p e s m args below meth c0 H locs ls cells slots B h1 h2 hR hS hl
  show W _ _ _ _ _ _ _ _ _ _ _ _ _ _ _ (F0 m pc ls (.long x :: .int i :: .ref (rh D a) :: st.map (cv D)))
  rw [rh_own ha hR.2.2]
  have he := hR.1 a _ (wd_at ha)
  rw [ce_2 hsh] at he
  refine W.last B.1 B.2.1 he ((B.K.2 1 _ rfl).1 n (fun j => .long (gL M a j))) (fun q => by cases q) (by show ¬ (i < 0 ∨ (arrV _ _ _).slots.size ≤ _); rw [arrV_size]; exact hin) rfl rfl hd fun H1 z1 z2 z3 => ?_
  refine kk p e s m args below meth c0 H1 _ ls cells slots B h1 h2 (hR.put ha rfl (fun b hb => ce_rL hb) z2 z3 ?_) (hS.put z2 z3 (Nat.le_add_right _ _)) hl
  rw [ce_2 (M := sL M a i.toNatClampNeg x) hsh]
  show H1[_]? = some (vp_cell _ _)
  rw [z1]
  show some ((arrV _ _ _).setSlot _ _) = _
  rw [arrV_store, vp_cell_l]
  congr 2
  funext q
  by_cases hq : q = i.toNatClampNeg
  · subst hq
    simp [updV, sL, rL, gL, va_up]
  · simp [updV, sL, rL, gL, va_up, hq]
end

