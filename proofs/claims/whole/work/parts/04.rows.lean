section
variable {D : GD} {d mc ms : Nat} {u : MD} {kc ks pc : Nat} {lv : List (Nat × Value)} {st : List Value} {M : Mm} {post : Option Value → Mm → Prop}
theorem ab_iconst {n : Int} {v : Int32} (hd : decode u.2.1 pc = .ok (.iconst n, 1)) (hv : Int32.ofInt n = v) (k : AW D d mc ms u kc ks (pc + 1) lv (.int v :: st) M post) : AW D d mc ms u kc ks (pc) lv (st) M post :=
  fun p e s m args below meth c H locs ls cells slots B h1 h2 hR hS hl => lv_iconst B.1 B.2.1 hd hv (k p e s m args below meth c H locs ls cells slots B h1 h2 hR hS hl)
theorem ab_bipush {n : Int} {v : Int32} (hd : decode u.2.1 pc = .ok (.bipush n, 2)) (hv : (Int8.ofInt n).toInt32 = v) (k : AW D d mc ms u kc ks (pc + 2) lv (.int v :: st) M post) : AW D d mc ms u kc ks (pc) lv (st) M post :=
  fun p e s m args below meth c H locs ls cells slots B h1 h2 hR hS hl => lv_bipush B.1 B.2.1 hd hv (k p e s m args below meth c H locs ls cells slots B h1 h2 hR hS hl)
theorem ab_sipush {n : Int} {v : Int32} (hd : decode u.2.1 pc = .ok (.sipush n, 3)) (hv : (Int16.ofInt n).toInt32 = v) (k : AW D d mc ms u kc ks (pc + 3) lv (.int v :: st) M post) : AW D d mc ms u kc ks (pc) lv (st) M post :=
  fun p e s m args below meth c H locs ls cells slots B h1 h2 hR hS hl => lv_sipush B.1 B.2.1 hd hv (k p e s m args below meth c H locs ls cells slots B h1 h2 hR hS hl)
theorem ab_lconst {n : Fin 2} {v : Int64} (hd : decode u.2.1 pc = .ok (.lconst n, 1)) (hv : Int64.ofNat (n : Nat) = v) (k : AW D d mc ms u kc ks (pc + 1) lv (.long v :: st) M post) : AW D d mc ms u kc ks (pc) lv (st) M post :=
  fun p e s m args below meth c H locs ls cells slots B h1 h2 hR hS hl => lv_lconst B.1 B.2.1 hd hv (k p e s m args below meth c H locs ls cells slots B h1 h2 hR hS hl)
theorem ab_null  (hd : decode u.2.1 pc = .ok (.aconst_null, 1))  (k : AW D d mc ms u kc ks (pc + 1) lv (.null :: st) M post) : AW D d mc ms u kc ks (pc) lv (st) M post :=
  fun p e s m args below meth c H locs ls cells slots B h1 h2 hR hS hl => lv_null B.1 B.2.1 hd (k p e s m args below meth c H locs ls cells slots B h1 h2 hR hS hl)
theorem lk {ls : Array Slot} {n : Nat} (hl : lv_has ls n (lc D lv)) {j i : Nat} {v : Value} (hk : lv[j]? = some (i, v)) : ls[i]? = some (.val (cv D v)) := by
  refine lv_at hl j (i := i) (v := cv D v) ?_
  rw [lc, List.getElem?_map, hk]
  rfl
theorem ab_iload_n {x : Int32} {f : Fin 4} (j : Nat) (hd : decode u.2.1 pc = .ok (.iload_n f, 1)) (hk : lv[j]? = some ((f : Nat), .int x)) (k : AW D d mc ms u kc ks (pc + 1) lv (.int x :: st) M post) : AW D d mc ms u kc ks (pc) lv (st) M post :=
  fun p e s m args below meth c H locs ls cells slots B h1 h2 hR hS hl => lv_iload_n B.1 B.2.1 hd rfl (lk hl hk) (k p e s m args below meth c H locs ls cells slots B h1 h2 hR hS hl)
theorem ab_iload {x : Int32} {i : Nat} (j : Nat) (hd : decode u.2.1 pc = .ok (.iload i, 2)) (hk : lv[j]? = some (i, .int x)) (k : AW D d mc ms u kc ks (pc + 2) lv (.int x :: st) M post) : AW D d mc ms u kc ks (pc) lv (st) M post :=
  fun p e s m args below meth c H locs ls cells slots B h1 h2 hR hS hl => lv_iload B.1 B.2.1 hd (lk hl hk) (k p e s m args below meth c H locs ls cells slots B h1 h2 hR hS hl)
theorem ab_lload_n {x : Int64} {f : Fin 4} (j : Nat) (hd : decode u.2.1 pc = .ok (.lload_n f, 1)) (hk : lv[j]? = some ((f : Nat), .long x)) (k : AW D d mc ms u kc ks (pc + 1) lv (.long x :: st) M post) : AW D d mc ms u kc ks (pc) lv (st) M post :=
  fun p e s m args below meth c H locs ls cells slots B h1 h2 hR hS hl => lv_lload_n B.1 B.2.1 hd rfl (lk hl hk) (k p e s m args below meth c H locs ls cells slots B h1 h2 hR hS hl)
theorem ab_lload {x : Int64} {i : Nat} (j : Nat) (hd : decode u.2.1 pc = .ok (.lload i, 2)) (hk : lv[j]? = some (i, .long x)) (k : AW D d mc ms u kc ks (pc + 2) lv (.long x :: st) M post) : AW D d mc ms u kc ks (pc) lv (st) M post :=
  fun p e s m args below meth c H locs ls cells slots B h1 h2 hR hS hl => lv_lload B.1 B.2.1 hd (lk hl hk) (k p e s m args below meth c H locs ls cells slots B h1 h2 hR hS hl)
theorem ab_aload_n {x : Nat} {f : Fin 4} (j : Nat) (hd : decode u.2.1 pc = .ok (.aload_n f, 1)) (hk : lv[j]? = some ((f : Nat), .ref x)) (k : AW D d mc ms u kc ks (pc + 1) lv (.ref x :: st) M post) : AW D d mc ms u kc ks (pc) lv (st) M post :=
  fun p e s m args below meth c H locs ls cells slots B h1 h2 hR hS hl => lv_aload_n B.1 B.2.1 hd rfl (lk hl hk) (k p e s m args below meth c H locs ls cells slots B h1 h2 hR hS hl)
theorem ab_aload {x : Nat} {i : Nat} (j : Nat) (hd : decode u.2.1 pc = .ok (.aload i, 2)) (hk : lv[j]? = some (i, .ref x)) (k : AW D d mc ms u kc ks (pc + 2) lv (.ref x :: st) M post) : AW D d mc ms u kc ks (pc) lv (st) M post :=
  fun p e s m args below meth c H locs ls cells slots B h1 h2 hR hS hl => lv_aload B.1 B.2.1 hd (lk hl hk) (k p e s m args below meth c H locs ls cells slots B h1 h2 hR hS hl)
theorem ab_aloadq_n {o : Option Nat} {f : Fin 4} (j : Nat) (hd : decode u.2.1 pc = .ok (.aload_n f, 1)) (hk : lv[j]? = some ((f : Nat), va_rf o)) (k : AW D d mc ms u kc ks (pc + 1) lv (va_rf o :: st) M post) : AW D d mc ms u kc ks (pc) lv (st) M post := by
  intro p e s m args below meth c H locs ls cells slots B h1 h2 hR hS hl
  have hk2 := k p e s m args below meth c H locs ls cells slots B h1 h2 hR hS hl
  cases o with
  | none => exact lv_aload_nN B.1 B.2.1 hd rfl (lk hl hk) hk2
  | some a => exact lv_aload_n B.1 B.2.1 hd rfl (lk hl hk) hk2
theorem ab_aloadq {o : Option Nat} {i : Nat} (j : Nat) (hd : decode u.2.1 pc = .ok (.aload i, 2)) (hk : lv[j]? = some (i, va_rf o)) (k : AW D d mc ms u kc ks (pc + 2) lv (va_rf o :: st) M post) : AW D d mc ms u kc ks (pc) lv (st) M post := by
  intro p e s m args below meth c H locs ls cells slots B h1 h2 hR hS hl
  have hk2 := k p e s m args below meth c H locs ls cells slots B h1 h2 hR hS hl
  cases o with
  | none => exact lv_aloadN B.1 B.2.1 hd (lk hl hk) hk2
  | some a => exact lv_aload B.1 B.2.1 hd (lk hl hk) hk2
def q1 (i : Nat) (q : Nat × Value) : Bool := !(q.1 == i) && !(q.1 + 1 == i && q.2.category == 2)
def q2 (i : Nat) (q : Nat × Value) : Bool := !(q.1 == i) && (!(q.1 == i + 1) && !(q.1 + 1 == i && q.2.category == 2))
theorem lc_q1 (i : Nat) (v : Value) : (i, cv D v) :: (lc D lv).filter (fun q => !(q.1 == i) && !(q.1 + 1 == i && q.2.category == 2)) = lc D ((i, v) :: lv.filter (q1 i)) := by
  simp only [lc, List.map_cons, List.filter_map]
  congr 2
  apply List.filter_congr
  intro q _
  simp [q1, cv_cat]
theorem lc_q2 (i : Nat) (v : Value) : (i, cv D v) :: (lc D lv).filter (fun q => !(q.1 == i) && (!(q.1 == i + 1) && !(q.1 + 1 == i && q.2.category == 2))) = lc D ((i, v) :: lv.filter (q2 i)) := by
  simp only [lc, List.map_cons, List.filter_map]
  congr 2
  apply List.filter_congr
  intro q _
  simp [q2, cv_cat]
theorem ab_istore_n {x : Int32} {f : Fin 4} {lv1 : List (Nat × Value)} (hd : decode u.2.1 pc = .ok (.istore_n f, 1)) (hn : (f : Nat) < u.2.2.1) (he : ((f : Nat), .int x) :: lv.filter (q1 (f : Nat)) = lv1) (k : AW D d mc ms u kc ks (pc + 1) lv1 (st) M post) : AW D d mc ms u kc ks (pc) lv (.int x :: st) M post :=
  fun p e s m args below meth c H locs ls cells slots B h1 h2 hR hS hl => lv_istore_n B.1 B.2.1 hd rfl hl hn (he ▸ lc_q1 (f : Nat) (.int x)) (fun ls1 hl1 => k p e s m args below meth c H locs ls1 cells slots B h1 h2 hR hS hl1)
theorem ab_istore {x : Int32} {i : Nat} {lv1 : List (Nat × Value)} (hd : decode u.2.1 pc = .ok (.istore i, 2)) (hn : i < u.2.2.1) (he : (i, .int x) :: lv.filter (q1 i) = lv1) (k : AW D d mc ms u kc ks (pc + 2) lv1 (st) M post) : AW D d mc ms u kc ks (pc) lv (.int x :: st) M post :=
  fun p e s m args below meth c H locs ls cells slots B h1 h2 hR hS hl => lv_istore B.1 B.2.1 hd hl hn (he ▸ lc_q1 i (.int x)) (fun ls1 hl1 => k p e s m args below meth c H locs ls1 cells slots B h1 h2 hR hS hl1)
theorem ab_lstore_n {x : Int64} {f : Fin 4} {lv1 : List (Nat × Value)} (hd : decode u.2.1 pc = .ok (.lstore_n f, 1)) (hn : (f : Nat) + 1 < u.2.2.1) (he : ((f : Nat), .long x) :: lv.filter (q2 (f : Nat)) = lv1) (k : AW D d mc ms u kc ks (pc + 1) lv1 (st) M post) : AW D d mc ms u kc ks (pc) lv (.long x :: st) M post :=
  fun p e s m args below meth c H locs ls cells slots B h1 h2 hR hS hl => lv_lstore_n B.1 B.2.1 hd rfl hl hn (he ▸ lc_q2 (f : Nat) (.long x)) (fun ls1 hl1 => k p e s m args below meth c H locs ls1 cells slots B h1 h2 hR hS hl1)
theorem ab_lstore {x : Int64} {i : Nat} {lv1 : List (Nat × Value)} (hd : decode u.2.1 pc = .ok (.lstore i, 2)) (hn : i + 1 < u.2.2.1) (he : (i, .long x) :: lv.filter (q2 i) = lv1) (k : AW D d mc ms u kc ks (pc + 2) lv1 (st) M post) : AW D d mc ms u kc ks (pc) lv (.long x :: st) M post :=
  fun p e s m args below meth c H locs ls cells slots B h1 h2 hR hS hl => lv_lstore B.1 B.2.1 hd hl hn (he ▸ lc_q2 i (.long x)) (fun ls1 hl1 => k p e s m args below meth c H locs ls1 cells slots B h1 h2 hR hS hl1)
theorem ab_astore_n {x : Nat} {f : Fin 4} {lv1 : List (Nat × Value)} (hd : decode u.2.1 pc = .ok (.astore_n f, 1)) (hn : (f : Nat) < u.2.2.1) (he : ((f : Nat), .ref x) :: lv.filter (q1 (f : Nat)) = lv1) (k : AW D d mc ms u kc ks (pc + 1) lv1 (st) M post) : AW D d mc ms u kc ks (pc) lv (.ref x :: st) M post :=
  fun p e s m args below meth c H locs ls cells slots B h1 h2 hR hS hl => lv_astore_n B.1 B.2.1 hd rfl hl hn (he ▸ lc_q1 (f : Nat) (.ref x)) (fun ls1 hl1 => k p e s m args below meth c H locs ls1 cells slots B h1 h2 hR hS hl1)
theorem ab_astore {x : Nat} {i : Nat} {lv1 : List (Nat × Value)} (hd : decode u.2.1 pc = .ok (.astore i, 2)) (hn : i < u.2.2.1) (he : (i, .ref x) :: lv.filter (q1 i) = lv1) (k : AW D d mc ms u kc ks (pc + 2) lv1 (st) M post) : AW D d mc ms u kc ks (pc) lv (.ref x :: st) M post :=
  fun p e s m args below meth c H locs ls cells slots B h1 h2 hR hS hl => lv_astore B.1 B.2.1 hd hl hn (he ▸ lc_q1 i (.ref x)) (fun ls1 hl1 => k p e s m args below meth c H locs ls1 cells slots B h1 h2 hR hS hl1)
theorem ab_astoreq_n {o : Option Nat} {f : Fin 4} {lv1 : List (Nat × Value)} (hd : decode u.2.1 pc = .ok (.astore_n f, 1)) (hn : (f : Nat) < u.2.2.1) (he : ((f : Nat), va_rf o) :: lv.filter (q1 (f : Nat)) = lv1) (k : AW D d mc ms u kc ks (pc + 1) lv1 (st) M post) : AW D d mc ms u kc ks (pc) lv (va_rf o :: st) M post := by
  intro p e s m args below meth c H locs ls cells slots B h1 h2 hR hS hl
  cases o with
  | none => exact lv_astore_nN B.1 B.2.1 hd rfl hl hn (he ▸ lc_q1 (f : Nat) .null) (fun ls1 hl1 => k p e s m args below meth c H locs ls1 cells slots B h1 h2 hR hS hl1)
  | some a => exact lv_astore_n B.1 B.2.1 hd rfl hl hn (he ▸ lc_q1 (f : Nat) (.ref a)) (fun ls1 hl1 => k p e s m args below meth c H locs ls1 cells slots B h1 h2 hR hS hl1)
theorem ab_astoreq {o : Option Nat} {i : Nat} {lv1 : List (Nat × Value)} (hd : decode u.2.1 pc = .ok (.astore i, 2)) (hn : i < u.2.2.1) (he : (i, va_rf o) :: lv.filter (q1 i) = lv1) (k : AW D d mc ms u kc ks (pc + 2) lv1 (st) M post) : AW D d mc ms u kc ks (pc) lv (va_rf o :: st) M post := by
  intro p e s m args below meth c H locs ls cells slots B h1 h2 hR hS hl
  cases o with
  | none => exact lv_astoreN B.1 B.2.1 hd hl hn (he ▸ lc_q1 i .null) (fun ls1 hl1 => k p e s m args below meth c H locs ls1 cells slots B h1 h2 hR hS hl1)
  | some a => exact lv_astore B.1 B.2.1 hd hl hn (he ▸ lc_q1 i (.ref a)) (fun ls1 hl1 => k p e s m args below meth c H locs ls1 cells slots B h1 h2 hR hS hl1)
theorem ab_iinc {x v : Int32} {i : Nat} {n : Int} (j : Nat) {lv1 : List (Nat × Value)} (hd : decode u.2.1 pc = .ok (.iinc i n, 3)) (hk : lv[j]? = some (i, .int x)) (hv : x + Int32.ofInt n = v) (hn : i < u.2.2.1) (he : (i, Value.int v) :: lv.filter (q1 i) = lv1) (k : AW D d mc ms u kc ks (pc + 3) lv1 (st) M post) : AW D d mc ms u kc ks (pc) lv (st) M post :=
  fun p e s m args below meth c H locs ls cells slots B h1 h2 hR hS hl => lv_iinc (k := j) B.1 B.2.1 hd hl (by rw [lc, List.getElem?_map, hk]; rfl) hv hn (he ▸ lc_q1 i (.int v)) (fun ls1 hl1 => k p e s m args below meth c H locs ls1 cells slots B h1 h2 hR hS hl1)
theorem ab_iadd {x y : Int32} (hd : decode u.2.1 pc = .ok (.iadd, 1))  (k : AW D d mc ms u kc ks (pc + 1) lv (.int (x + y) :: st) M post) : AW D d mc ms u kc ks (pc) lv (.int y :: .int x :: st) M post :=
  fun p e s m args below meth c H locs ls cells slots B h1 h2 hR hS hl => lv_iadd B.1 B.2.1 hd (k p e s m args below meth c H locs ls cells slots B h1 h2 hR hS hl)
theorem ab_isub {x y : Int32} (hd : decode u.2.1 pc = .ok (.isub, 1))  (k : AW D d mc ms u kc ks (pc + 1) lv (.int (x - y) :: st) M post) : AW D d mc ms u kc ks (pc) lv (.int y :: .int x :: st) M post :=
  fun p e s m args below meth c H locs ls cells slots B h1 h2 hR hS hl => lv_isub B.1 B.2.1 hd (k p e s m args below meth c H locs ls cells slots B h1 h2 hR hS hl)
theorem ab_imul {x y : Int32} (hd : decode u.2.1 pc = .ok (.imul, 1))  (k : AW D d mc ms u kc ks (pc + 1) lv (.int (x * y) :: st) M post) : AW D d mc ms u kc ks (pc) lv (.int y :: .int x :: st) M post :=
  fun p e s m args below meth c H locs ls cells slots B h1 h2 hR hS hl => lv_imul B.1 B.2.1 hd (k p e s m args below meth c H locs ls cells slots B h1 h2 hR hS hl)
theorem ab_iand {x y : Int32} (hd : decode u.2.1 pc = .ok (.iand, 1))  (k : AW D d mc ms u kc ks (pc + 1) lv (.int (x &&& y) :: st) M post) : AW D d mc ms u kc ks (pc) lv (.int y :: .int x :: st) M post :=
  fun p e s m args below meth c H locs ls cells slots B h1 h2 hR hS hl => lv_iand B.1 B.2.1 hd (k p e s m args below meth c H locs ls cells slots B h1 h2 hR hS hl)
theorem ab_ior {x y : Int32} (hd : decode u.2.1 pc = .ok (.ior, 1))  (k : AW D d mc ms u kc ks (pc + 1) lv (.int (x ||| y) :: st) M post) : AW D d mc ms u kc ks (pc) lv (.int y :: .int x :: st) M post :=
  fun p e s m args below meth c H locs ls cells slots B h1 h2 hR hS hl => lv_ior B.1 B.2.1 hd (k p e s m args below meth c H locs ls cells slots B h1 h2 hR hS hl)
theorem ab_ixor {x y : Int32} (hd : decode u.2.1 pc = .ok (.ixor, 1))  (k : AW D d mc ms u kc ks (pc + 1) lv (.int (x ^^^ y) :: st) M post) : AW D d mc ms u kc ks (pc) lv (.int y :: .int x :: st) M post :=
  fun p e s m args below meth c H locs ls cells slots B h1 h2 hR hS hl => lv_ixor B.1 B.2.1 hd (k p e s m args below meth c H locs ls cells slots B h1 h2 hR hS hl)
theorem ab_ishl {x y : Int32} (hd : decode u.2.1 pc = .ok (.ishl, 1))  (k : AW D d mc ms u kc ks (pc + 1) lv (.int (x <<< (y &&& 31)) :: st) M post) : AW D d mc ms u kc ks (pc) lv (.int y :: .int x :: st) M post :=
  fun p e s m args below meth c H locs ls cells slots B h1 h2 hR hS hl => lv_ishl B.1 B.2.1 hd (k p e s m args below meth c H locs ls cells slots B h1 h2 hR hS hl)
theorem ab_ishr {x y : Int32} (hd : decode u.2.1 pc = .ok (.ishr, 1))  (k : AW D d mc ms u kc ks (pc + 1) lv (.int (x >>> (y &&& 31)) :: st) M post) : AW D d mc ms u kc ks (pc) lv (.int y :: .int x :: st) M post :=
  fun p e s m args below meth c H locs ls cells slots B h1 h2 hR hS hl => lv_ishr B.1 B.2.1 hd (k p e s m args below meth c H locs ls cells slots B h1 h2 hR hS hl)
theorem ab_iushr {x y : Int32} (hd : decode u.2.1 pc = .ok (.iushr, 1))  (k : AW D d mc ms u kc ks (pc + 1) lv (.int ((x.toUInt32 >>> (y.toUInt32 &&& Int32.toUInt32 31)).toInt32) :: st) M post) : AW D d mc ms u kc ks (pc) lv (.int y :: .int x :: st) M post :=
  fun p e s m args below meth c H locs ls cells slots B h1 h2 hR hS hl => lv_iushr B.1 B.2.1 hd rfl (k p e s m args below meth c H locs ls cells slots B h1 h2 hR hS hl)
theorem ab_idiv {x y : Int32} (hd : decode u.2.1 pc = .ok (.idiv, 1)) (hne : ¬ y = 0) (k : AW D d mc ms u kc ks (pc + 1) lv (.int (x / y) :: st) M post) : AW D d mc ms u kc ks (pc) lv (.int y :: .int x :: st) M post :=
  fun p e s m args below meth c H locs ls cells slots B h1 h2 hR hS hl => lv_idiv B.1 B.2.1 hd hne (k p e s m args below meth c H locs ls cells slots B h1 h2 hR hS hl)
theorem ab_irem {x y : Int32} (hd : decode u.2.1 pc = .ok (.irem, 1)) (hne : ¬ y = 0) (k : AW D d mc ms u kc ks (pc + 1) lv (.int (x - x / y * y) :: st) M post) : AW D d mc ms u kc ks (pc) lv (.int y :: .int x :: st) M post :=
  fun p e s m args below meth c H locs ls cells slots B h1 h2 hR hS hl => lv_irem B.1 B.2.1 hd hne (k p e s m args below meth c H locs ls cells slots B h1 h2 hR hS hl)
theorem ab_ineg {x : Int32} (hd : decode u.2.1 pc = .ok (.ineg, 1))  (k : AW D d mc ms u kc ks (pc + 1) lv (.int (-x) :: st) M post) : AW D d mc ms u kc ks (pc) lv (.int x :: st) M post :=
  fun p e s m args below meth c H locs ls cells slots B h1 h2 hR hS hl => lv_ineg B.1 B.2.1 hd (k p e s m args below meth c H locs ls cells slots B h1 h2 hR hS hl)
theorem ab_ladd {x y : Int64} (hd : decode u.2.1 pc = .ok (.ladd, 1))  (k : AW D d mc ms u kc ks (pc + 1) lv (.long (x + y) :: st) M post) : AW D d mc ms u kc ks (pc) lv (.long y :: .long x :: st) M post :=
  fun p e s m args below meth c H locs ls cells slots B h1 h2 hR hS hl => lv_ladd B.1 B.2.1 hd (k p e s m args below meth c H locs ls cells slots B h1 h2 hR hS hl)
theorem ab_lsub {x y : Int64} (hd : decode u.2.1 pc = .ok (.lsub, 1))  (k : AW D d mc ms u kc ks (pc + 1) lv (.long (x - y) :: st) M post) : AW D d mc ms u kc ks (pc) lv (.long y :: .long x :: st) M post :=
  fun p e s m args below meth c H locs ls cells slots B h1 h2 hR hS hl => lv_lsub B.1 B.2.1 hd (k p e s m args below meth c H locs ls cells slots B h1 h2 hR hS hl)
theorem ab_lmul {x y : Int64} (hd : decode u.2.1 pc = .ok (.lmul, 1))  (k : AW D d mc ms u kc ks (pc + 1) lv (.long (x * y) :: st) M post) : AW D d mc ms u kc ks (pc) lv (.long y :: .long x :: st) M post :=
  fun p e s m args below meth c H locs ls cells slots B h1 h2 hR hS hl => lv_lmul B.1 B.2.1 hd (k p e s m args below meth c H locs ls cells slots B h1 h2 hR hS hl)
theorem ab_land {x y : Int64} (hd : decode u.2.1 pc = .ok (.land, 1))  (k : AW D d mc ms u kc ks (pc + 1) lv (.long (x &&& y) :: st) M post) : AW D d mc ms u kc ks (pc) lv (.long y :: .long x :: st) M post :=
  fun p e s m args below meth c H locs ls cells slots B h1 h2 hR hS hl => lv_land B.1 B.2.1 hd (k p e s m args below meth c H locs ls cells slots B h1 h2 hR hS hl)
theorem ab_lor {x y : Int64} (hd : decode u.2.1 pc = .ok (.lor, 1))  (k : AW D d mc ms u kc ks (pc + 1) lv (.long (x ||| y) :: st) M post) : AW D d mc ms u kc ks (pc) lv (.long y :: .long x :: st) M post :=
  fun p e s m args below meth c H locs ls cells slots B h1 h2 hR hS hl => lv_lor B.1 B.2.1 hd (k p e s m args below meth c H locs ls cells slots B h1 h2 hR hS hl)
theorem ab_ldiv {x y : Int64} (hd : decode u.2.1 pc = .ok (.ldiv, 1)) (hne : ¬ y = 0) (k : AW D d mc ms u kc ks (pc + 1) lv (.long (x / y) :: st) M post) : AW D d mc ms u kc ks (pc) lv (.long y :: .long x :: st) M post :=
  fun p e s m args below meth c H locs ls cells slots B h1 h2 hR hS hl => lv_ldiv B.1 B.2.1 hd hne (k p e s m args below meth c H locs ls cells slots B h1 h2 hR hS hl)
theorem ab_lrem {x y : Int64} (hd : decode u.2.1 pc = .ok (.lrem, 1)) (hne : ¬ y = 0) (k : AW D d mc ms u kc ks (pc + 1) lv (.long (x - x / y * y) :: st) M post) : AW D d mc ms u kc ks (pc) lv (.long y :: .long x :: st) M post :=
  fun p e s m args below meth c H locs ls cells slots B h1 h2 hR hS hl => lv_lrem B.1 B.2.1 hd hne (k p e s m args below meth c H locs ls cells slots B h1 h2 hR hS hl)
theorem ab_lneg {x : Int64} (hd : decode u.2.1 pc = .ok (.lneg, 1))  (k : AW D d mc ms u kc ks (pc + 1) lv (.long (-x) :: st) M post) : AW D d mc ms u kc ks (pc) lv (.long x :: st) M post :=
  fun p e s m args below meth c H locs ls cells slots B h1 h2 hR hS hl => lv_lneg B.1 B.2.1 hd (k p e s m args below meth c H locs ls cells slots B h1 h2 hR hS hl)
theorem ab_lshl {x : Int64} {y : Int32} (hd : decode u.2.1 pc = .ok (.lshl, 1))  (k : AW D d mc ms u kc ks (pc + 1) lv (.long (x <<< (y.toInt64 &&& 63)) :: st) M post) : AW D d mc ms u kc ks (pc) lv (.int y :: .long x :: st) M post :=
  fun p e s m args below meth c H locs ls cells slots B h1 h2 hR hS hl => lv_lshl B.1 B.2.1 hd rfl (k p e s m args below meth c H locs ls cells slots B h1 h2 hR hS hl)
theorem ab_i2l {x : Int32} (hd : decode u.2.1 pc = .ok (.i2l, 1))  (k : AW D d mc ms u kc ks (pc + 1) lv (.long x.toInt64 :: st) M post) : AW D d mc ms u kc ks (pc) lv (.int x :: st) M post :=
  fun p e s m args below meth c H locs ls cells slots B h1 h2 hR hS hl => lv_i2l B.1 B.2.1 hd rfl (k p e s m args below meth c H locs ls cells slots B h1 h2 hR hS hl)
theorem ab_l2i {x : Int64} (hd : decode u.2.1 pc = .ok (.l2i, 1))  (k : AW D d mc ms u kc ks (pc + 1) lv (.int x.toInt32 :: st) M post) : AW D d mc ms u kc ks (pc) lv (.long x :: st) M post :=
  fun p e s m args below meth c H locs ls cells slots B h1 h2 hR hS hl => lv_l2i B.1 B.2.1 hd rfl (k p e s m args below meth c H locs ls cells slots B h1 h2 hR hS hl)
theorem ab_i2b {x : Int32} (hd : decode u.2.1 pc = .ok (.i2b, 1))  (k : AW D d mc ms u kc ks (pc + 1) lv (.int x.toInt8.toInt32 :: st) M post) : AW D d mc ms u kc ks (pc) lv (.int x :: st) M post :=
  fun p e s m args below meth c H locs ls cells slots B h1 h2 hR hS hl => lv_i2b B.1 B.2.1 hd rfl (k p e s m args below meth c H locs ls cells slots B h1 h2 hR hS hl)
theorem ab_i2s {x : Int32} (hd : decode u.2.1 pc = .ok (.i2s, 1))  (k : AW D d mc ms u kc ks (pc + 1) lv (.int x.toInt16.toInt32 :: st) M post) : AW D d mc ms u kc ks (pc) lv (.int x :: st) M post :=
  fun p e s m args below meth c H locs ls cells slots B h1 h2 hR hS hl => lv_i2s B.1 B.2.1 hd rfl (k p e s m args below meth c H locs ls cells slots B h1 h2 hR hS hl)
theorem ab_i2c {x : Int32} (hd : decode u.2.1 pc = .ok (.i2c, 1))  (k : AW D d mc ms u kc ks (pc + 1) lv (.int (x.toUInt32 % 65536).toInt32 :: st) M post) : AW D d mc ms u kc ks (pc) lv (.int x :: st) M post :=
  fun p e s m args below meth c H locs ls cells slots B h1 h2 hR hS hl => lv_i2c B.1 B.2.1 hd rfl (k p e s m args below meth c H locs ls cells slots B h1 h2 hR hS hl)
theorem ab_lcmp {x y : Int64} (hd : decode u.2.1 pc = .ok (.lcmp, 1))  (k : AW D d mc ms u kc ks (pc + 1) lv (.int (lg_cmp x y) :: st) M post) : AW D d mc ms u kc ks (pc) lv (.long y :: .long x :: st) M post :=
  fun p e s m args below meth c H locs ls cells slots B h1 h2 hR hS hl => W.lcmp B.1 B.2.1 hd (k p e s m args below meth c H locs ls cells slots B h1 h2 hR hS hl)
theorem ab_dup {v : Value} (hd : decode u.2.1 pc = .ok (.dup, 1)) (hv : v.category = 1) (k : AW D d mc ms u kc ks (pc + 1) lv (v :: v :: st) M post) : AW D d mc ms u kc ks (pc) lv (v :: st) M post :=
  fun p e s m args below meth c H locs ls cells slots B h1 h2 hR hS hl => lv_dup B.1 B.2.1 hd ((cv_cat D v).trans hv) (k p e s m args below meth c H locs ls cells slots B h1 h2 hR hS hl)
theorem ab_pop {v : Value} (hd : decode u.2.1 pc = .ok (.pop, 1)) (hv : v.category = 1) (k : AW D d mc ms u kc ks (pc + 1) lv (st) M post) : AW D d mc ms u kc ks (pc) lv (v :: st) M post :=
  fun p e s m args below meth c H locs ls cells slots B h1 h2 hR hS hl => lv_pop B.1 B.2.1 hd ((cv_cat D v).trans hv) (k p e s m args below meth c H locs ls cells slots B h1 h2 hR hS hl)
theorem ab_dup2 {v w : Value} (hd : decode u.2.1 pc = .ok (.dup2, 1)) (hv : v.category = 1) (hw : w.category = 1) (k : AW D d mc ms u kc ks (pc + 1) lv (v :: w :: v :: w :: st) M post) : AW D d mc ms u kc ks (pc) lv (v :: w :: st) M post :=
  fun p e s m args below meth c H locs ls cells slots B h1 h2 hR hS hl => lv_dup2_11 B.1 B.2.1 hd ((cv_cat D v).trans hv) ((cv_cat D w).trans hw) (k p e s m args below meth c H locs ls cells slots B h1 h2 hR hS hl)
theorem ab_dup2l {v : Value} (hd : decode u.2.1 pc = .ok (.dup2, 1)) (hv : v.category = 2) (k : AW D d mc ms u kc ks (pc + 1) lv (v :: v :: st) M post) : AW D d mc ms u kc ks (pc) lv (v :: st) M post :=
  fun p e s m args below meth c H locs ls cells slots B h1 h2 hR hS hl => lv_dup2_2 B.1 B.2.1 hd ((cv_cat D v).trans hv) (k p e s m args below meth c H locs ls cells slots B h1 h2 hR hS hl)
theorem ab_topi {x : Int32} (k : ∀ y : Int32, y = x → AW D d mc ms u kc ks (pc) lv (.int y :: st) M post) : AW D d mc ms u kc ks (pc) lv (.int x :: st) M post := k x rfl
theorem ab_topl {x : Int64} (k : ∀ y : Int64, y = x → AW D d mc ms u kc ks (pc) lv (.long y :: st) M post) : AW D d mc ms u kc ks (pc) lv (.long x :: st) M post := k x rfl
theorem ab_if_eq {x : Int32} {off : Int} {tgt : Nat} (hd : decode u.2.1 pc = .ok (.ifCond .eq off, 3)) (ht : (pc : Int) + off = (tgt : Int)) (kt : x = 0 → AW D d mc ms u kc ks (tgt) lv (st) M post) (kf : ¬ x = 0 → AW D d mc ms u kc ks (pc + 3) lv (st) M post) : AW D d mc ms u kc ks (pc) lv (.int x :: st) M post :=
  fun p e s m args below meth c H locs ls cells slots B h1 h2 hR hS hl => lv_if_eq B.1 B.2.1 hd ht (fun q => kt q p e s m args below meth c H locs ls cells slots B h1 h2 hR hS hl) (fun q => kf q p e s m args below meth c H locs ls cells slots B h1 h2 hR hS hl)
theorem ab_icmp_eq {x y : Int32} {off : Int} {tgt : Nat} (hd : decode u.2.1 pc = .ok (.if_icmp .eq off, 3)) (ht : (pc : Int) + off = (tgt : Int)) (kt : x = y → AW D d mc ms u kc ks (tgt) lv (st) M post) (kf : ¬ x = y → AW D d mc ms u kc ks (pc + 3) lv (st) M post) : AW D d mc ms u kc ks (pc) lv (.int y :: .int x :: st) M post :=
  fun p e s m args below meth c H locs ls cells slots B h1 h2 hR hS hl => lv_icmp_eq B.1 B.2.1 hd ht (fun q => kt q p e s m args below meth c H locs ls cells slots B h1 h2 hR hS hl) (fun q => kf q p e s m args below meth c H locs ls cells slots B h1 h2 hR hS hl)
theorem ab_if_ne {x : Int32} {off : Int} {tgt : Nat} (hd : decode u.2.1 pc = .ok (.ifCond .ne off, 3)) (ht : (pc : Int) + off = (tgt : Int)) (kt : ¬ x = 0 → AW D d mc ms u kc ks (tgt) lv (st) M post) (kf : x = 0 → AW D d mc ms u kc ks (pc + 3) lv (st) M post) : AW D d mc ms u kc ks (pc) lv (.int x :: st) M post :=
  fun p e s m args below meth c H locs ls cells slots B h1 h2 hR hS hl => lv_if_ne B.1 B.2.1 hd ht (fun q => kt q p e s m args below meth c H locs ls cells slots B h1 h2 hR hS hl) (fun q => kf q p e s m args below meth c H locs ls cells slots B h1 h2 hR hS hl)
theorem ab_icmp_ne {x y : Int32} {off : Int} {tgt : Nat} (hd : decode u.2.1 pc = .ok (.if_icmp .ne off, 3)) (ht : (pc : Int) + off = (tgt : Int)) (kt : ¬ x = y → AW D d mc ms u kc ks (tgt) lv (st) M post) (kf : x = y → AW D d mc ms u kc ks (pc + 3) lv (st) M post) : AW D d mc ms u kc ks (pc) lv (.int y :: .int x :: st) M post :=
  fun p e s m args below meth c H locs ls cells slots B h1 h2 hR hS hl => lv_icmp_ne B.1 B.2.1 hd ht (fun q => kt q p e s m args below meth c H locs ls cells slots B h1 h2 hR hS hl) (fun q => kf q p e s m args below meth c H locs ls cells slots B h1 h2 hR hS hl)
theorem ab_if_lt {x : Int32} {off : Int} {tgt : Nat} (hd : decode u.2.1 pc = .ok (.ifCond .lt off, 3)) (ht : (pc : Int) + off = (tgt : Int)) (kt : x < 0 → AW D d mc ms u kc ks (tgt) lv (st) M post) (kf : ¬ x < 0 → AW D d mc ms u kc ks (pc + 3) lv (st) M post) : AW D d mc ms u kc ks (pc) lv (.int x :: st) M post :=
  fun p e s m args below meth c H locs ls cells slots B h1 h2 hR hS hl => lv_if_lt B.1 B.2.1 hd ht (fun q => kt q p e s m args below meth c H locs ls cells slots B h1 h2 hR hS hl) (fun q => kf q p e s m args below meth c H locs ls cells slots B h1 h2 hR hS hl)
theorem ab_icmp_lt {x y : Int32} {off : Int} {tgt : Nat} (hd : decode u.2.1 pc = .ok (.if_icmp .lt off, 3)) (ht : (pc : Int) + off = (tgt : Int)) (kt : x < y → AW D d mc ms u kc ks (tgt) lv (st) M post) (kf : ¬ x < y → AW D d mc ms u kc ks (pc + 3) lv (st) M post) : AW D d mc ms u kc ks (pc) lv (.int y :: .int x :: st) M post :=
  fun p e s m args below meth c H locs ls cells slots B h1 h2 hR hS hl => lv_icmp_lt B.1 B.2.1 hd ht (fun q => kt q p e s m args below meth c H locs ls cells slots B h1 h2 hR hS hl) (fun q => kf q p e s m args below meth c H locs ls cells slots B h1 h2 hR hS hl)
theorem ab_if_ge {x : Int32} {off : Int} {tgt : Nat} (hd : decode u.2.1 pc = .ok (.ifCond .ge off, 3)) (ht : (pc : Int) + off = (tgt : Int)) (kt : 0 ≤ x → AW D d mc ms u kc ks (tgt) lv (st) M post) (kf : ¬ 0 ≤ x → AW D d mc ms u kc ks (pc + 3) lv (st) M post) : AW D d mc ms u kc ks (pc) lv (.int x :: st) M post :=
  fun p e s m args below meth c H locs ls cells slots B h1 h2 hR hS hl => lv_if_ge B.1 B.2.1 hd ht (fun q => kt q p e s m args below meth c H locs ls cells slots B h1 h2 hR hS hl) (fun q => kf q p e s m args below meth c H locs ls cells slots B h1 h2 hR hS hl)
theorem ab_icmp_ge {x y : Int32} {off : Int} {tgt : Nat} (hd : decode u.2.1 pc = .ok (.if_icmp .ge off, 3)) (ht : (pc : Int) + off = (tgt : Int)) (kt : y ≤ x → AW D d mc ms u kc ks (tgt) lv (st) M post) (kf : ¬ y ≤ x → AW D d mc ms u kc ks (pc + 3) lv (st) M post) : AW D d mc ms u kc ks (pc) lv (.int y :: .int x :: st) M post :=
  fun p e s m args below meth c H locs ls cells slots B h1 h2 hR hS hl => lv_icmp_ge B.1 B.2.1 hd ht (fun q => kt q p e s m args below meth c H locs ls cells slots B h1 h2 hR hS hl) (fun q => kf q p e s m args below meth c H locs ls cells slots B h1 h2 hR hS hl)
theorem ab_if_gt {x : Int32} {off : Int} {tgt : Nat} (hd : decode u.2.1 pc = .ok (.ifCond .gt off, 3)) (ht : (pc : Int) + off = (tgt : Int)) (kt : 0 < x → AW D d mc ms u kc ks (tgt) lv (st) M post) (kf : ¬ 0 < x → AW D d mc ms u kc ks (pc + 3) lv (st) M post) : AW D d mc ms u kc ks (pc) lv (.int x :: st) M post :=
  fun p e s m args below meth c H locs ls cells slots B h1 h2 hR hS hl => lv_if_gt B.1 B.2.1 hd ht (fun q => kt q p e s m args below meth c H locs ls cells slots B h1 h2 hR hS hl) (fun q => kf q p e s m args below meth c H locs ls cells slots B h1 h2 hR hS hl)
theorem ab_icmp_gt {x y : Int32} {off : Int} {tgt : Nat} (hd : decode u.2.1 pc = .ok (.if_icmp .gt off, 3)) (ht : (pc : Int) + off = (tgt : Int)) (kt : y < x → AW D d mc ms u kc ks (tgt) lv (st) M post) (kf : ¬ y < x → AW D d mc ms u kc ks (pc + 3) lv (st) M post) : AW D d mc ms u kc ks (pc) lv (.int y :: .int x :: st) M post :=
  fun p e s m args below meth c H locs ls cells slots B h1 h2 hR hS hl => lv_icmp_gt B.1 B.2.1 hd ht (fun q => kt q p e s m args below meth c H locs ls cells slots B h1 h2 hR hS hl) (fun q => kf q p e s m args below meth c H locs ls cells slots B h1 h2 hR hS hl)
theorem ab_if_le {x : Int32} {off : Int} {tgt : Nat} (hd : decode u.2.1 pc = .ok (.ifCond .le off, 3)) (ht : (pc : Int) + off = (tgt : Int)) (kt : x ≤ 0 → AW D d mc ms u kc ks (tgt) lv (st) M post) (kf : ¬ x ≤ 0 → AW D d mc ms u kc ks (pc + 3) lv (st) M post) : AW D d mc ms u kc ks (pc) lv (.int x :: st) M post :=
  fun p e s m args below meth c H locs ls cells slots B h1 h2 hR hS hl => lv_if_le B.1 B.2.1 hd ht (fun q => kt q p e s m args below meth c H locs ls cells slots B h1 h2 hR hS hl) (fun q => kf q p e s m args below meth c H locs ls cells slots B h1 h2 hR hS hl)
theorem ab_icmp_le {x y : Int32} {off : Int} {tgt : Nat} (hd : decode u.2.1 pc = .ok (.if_icmp .le off, 3)) (ht : (pc : Int) + off = (tgt : Int)) (kt : x ≤ y → AW D d mc ms u kc ks (tgt) lv (st) M post) (kf : ¬ x ≤ y → AW D d mc ms u kc ks (pc + 3) lv (st) M post) : AW D d mc ms u kc ks (pc) lv (.int y :: .int x :: st) M post :=
  fun p e s m args below meth c H locs ls cells slots B h1 h2 hR hS hl => lv_icmp_le B.1 B.2.1 hd ht (fun q => kt q p e s m args below meth c H locs ls cells slots B h1 h2 hR hS hl) (fun q => kf q p e s m args below meth c H locs ls cells slots B h1 h2 hR hS hl)
theorem ab_goto {off : Int} {tgt : Nat} (hd : decode u.2.1 pc = .ok (.goto off, 3)) (ht : (pc : Int) + off = (tgt : Int)) (k : AW D d mc ms u kc ks (tgt) lv (st) M post) : AW D d mc ms u kc ks (pc) lv (st) M post :=
  fun p e s m args below meth c H locs ls cells slots B h1 h2 hR hS hl => lv_goto B.1 B.2.1 hd ht (k p e s m args below meth c H locs ls cells slots B h1 h2 hR hS hl)
theorem ab_ifnull {o : Option Nat} {off : Int} {tgt : Nat} (hd : decode u.2.1 pc = .ok (.ifnull off, 3)) (ht : (pc : Int) + off = (tgt : Int)) (kt : o = none → AW D d mc ms u kc ks (tgt) lv (st) M post) (kf : ∀ a, o = some a → AW D d mc ms u kc ks (pc + 3) lv (st) M post) : AW D d mc ms u kc ks (pc) lv (va_rf o :: st) M post := by
  intro p e s m args below meth c H locs ls cells slots B h1 h2 hR hS hl
  cases o with
  | none => exact lv_ifnullN B.1 B.2.1 hd ht (kt rfl p e s m args below meth c H locs ls cells slots B h1 h2 hR hS hl)
  | some a => exact lv_ifnull B.1 B.2.1 hd (kf a rfl p e s m args below meth c H locs ls cells slots B h1 h2 hR hS hl)
theorem ab_ifnonnull {o : Option Nat} {off : Int} {tgt : Nat} (hd : decode u.2.1 pc = .ok (.ifnonnull off, 3)) (ht : (pc : Int) + off = (tgt : Int)) (kt : ∀ a, o = some a → AW D d mc ms u kc ks (tgt) lv (st) M post) (kf : o = none → AW D d mc ms u kc ks (pc + 3) lv (st) M post) : AW D d mc ms u kc ks (pc) lv (va_rf o :: st) M post := by
  intro p e s m args below meth c H locs ls cells slots B h1 h2 hR hS hl
  cases o with
  | none => exact lv_ifnonnullN B.1 B.2.1 hd (kf rfl p e s m args below meth c H locs ls cells slots B h1 h2 hR hS hl)
  | some a => exact lv_ifnonnull B.1 B.2.1 hd ht (kt a rfl p e s m args below meth c H locs ls cells slots B h1 h2 hR hS hl)
theorem ab_lookup {dflt : Int} {ps : Array (Int × Int)} {len : Nat} {x : Int32} {off : Int} {tgt : Nat} (hd : decode u.2.1 pc = .ok (.lookupswitch dflt ps, len)) (hp : (ps.toList.zip (ps.toList.drop 1)).all (fun (a, next) => a.1 < next.1) = true) (ho : Op.lookupswitch.offset ps.toList dflt x.toInt = off) (ht : (pc : Int) + off = (tgt : Int)) (k : AW D d mc ms u kc ks (tgt) lv (st) M post) : AW D d mc ms u kc ks (pc) lv (.int x :: st) M post :=
  fun p e s m args below meth c H locs ls cells slots B h1 h2 hR hS hl => lv_lookup B.1 B.2.1 hd hp ho ht (k p e s m args below meth c H locs ls cells slots B h1 h2 hR hS hl)
theorem ab_tableOut {dflt lo hi : Int} {offs : Array Int} {len : Nat} {x : Int32} {tgt : Nat} (hd : decode u.2.1 pc = .ok (.tableswitch dflt lo hi offs, len)) (h : x.toInt < lo ∨ hi < x.toInt) (ht : (pc : Int) + dflt = (tgt : Int)) (k : AW D d mc ms u kc ks (tgt) lv (st) M post) : AW D d mc ms u kc ks (pc) lv (.int x :: st) M post :=
  fun p e s m args below meth c H locs ls cells slots B h1 h2 hR hS hl => lv_tableOut B.1 B.2.1 hd h ht (k p e s m args below meth c H locs ls cells slots B h1 h2 hR hS hl)
theorem ab_tableIn {dflt lo hi : Int} {offs : Array Int} {len : Nat} {x : Int32} {off : Int} {tgt : Nat} (hd : decode u.2.1 pc = .ok (.tableswitch dflt lo hi offs, len)) (g1 : ¬ x.toInt < lo) (g2 : ¬ hi < x.toInt) (ho : offs[(x.toInt - lo).toNat]? = some off) (ht : (pc : Int) + off = (tgt : Int)) (k : AW D d mc ms u kc ks (tgt) lv (st) M post) : AW D d mc ms u kc ks (pc) lv (.int x :: st) M post :=
  fun p e s m args below meth c H locs ls cells slots B h1 h2 hR hS hl => lv_tableIn B.1 B.2.1 hd g1 g2 ho ht (k p e s m args below meth c H locs ls cells slots B h1 h2 hR hS hl)
theorem ab_ldc {i : Nat} {v : Int32} (hd : decode u.2.1 pc = .ok (.ldc i, 2)) (hw : Cond.constant u.1.cls i v ∈ lw_tbl) (k : AW D d mc ms u kc ks (pc + 2) lv (.int v :: st) M post) : AW D d mc ms u kc ks (pc) lv (st) M post :=
  fun p e s m args below meth c H locs ls cells slots B h1 h2 hR hS hl => lv_ldc B.1 B.2.1 B.2.2.2.2.1 (B.2.2.2.2.2.2.2.1.2.1.use hw rfl args) hd (k p e s m args below meth c H locs ls cells slots B h1 h2 hR hS hl)
theorem ab_ldcw {i : Nat} {v : Int32} (hd : decode u.2.1 pc = .ok (.ldc_w i, 3)) (hw : Cond.constant u.1.cls i v ∈ lw_tbl) (k : AW D d mc ms u kc ks (pc + 3) lv (.int v :: st) M post) : AW D d mc ms u kc ks (pc) lv (st) M post :=
  fun p e s m args below meth c H locs ls cells slots B h1 h2 hR hS hl => lv_ldcw B.1 B.2.1 B.2.2.2.2.1 (B.2.2.2.2.2.2.2.1.2.1.use hw rfl args) hd (k p e s m args below meth c H locs ls cells slots B h1 h2 hR hS hl)
theorem ab_ldc2 {i : Nat} {v : Int64} (hd : decode u.2.1 pc = .ok (.ldc2_w i, 3)) (hw : Cond.constantLong u.1.cls i v ∈ lw_tbl) (k : AW D d mc ms u kc ks (pc + 3) lv (.long v :: st) M post) : AW D d mc ms u kc ks (pc) lv (st) M post :=
  fun p e s m args below meth c H locs ls cells slots B h1 h2 hR hS hl => lv_ldc2 B.1 B.2.1 B.2.2.2.2.1 (B.2.2.2.2.2.2.2.1.2.1.use hw rfl args) hd (k p e s m args below meth c H locs ls cells slots B h1 h2 hR hS hl)
theorem Qp.end {s t : State} {H : Heap} {locs : List Loc} {r : Option Value} {args : Array Value} (hq : post r M) (hR : Rp D M H) (hS : va_S (Fr D) s.heap H locs) (ht : t.heap = H) : Qp D post args s (.returned (r.map (cv D))) t :=
  ⟨⟨r, M, rfl, hq, by rw [ht]; exact hR⟩, hS.F ht⟩
theorem ab_iret {v : Int32} (hd : decode u.2.1 pc = .ok (.ireturn, 1)) (hr : u.2.2.2 = some .int) (k : post (some (.int v)) M) : AW D d mc ms u kc ks (pc) lv ([.int v]) M post :=
  fun p e s m args below meth c H locs ls cells slots B h1 h2 hR hS hl => W.widen (by omega) (by omega) (W.iret B.1 B.2.1 (B.2.2.1.trans hr) (fun t ht _ => Qp.end k hR hS ht) hS.2.2 hd B.2.2.2.2.2.1)
theorem ab_zret {v : Int32} {ty : FieldType} (hd : decode u.2.1 pc = .ok (.ireturn, 1)) (hr : u.2.2.2 = some ty) (hn : narrow ty (.int v) = .int v) (k : post (some (.int v)) M) : AW D d mc ms u kc ks (pc) lv ([.int v]) M post :=
  fun p e s m args below meth c H locs ls cells slots B h1 h2 hR hS hl => W.widen (by omega) (by omega) (W.zret B.1 B.2.1 (B.2.2.1.trans hr) hn (fun t ht _ => Qp.end k hR hS ht) hS.2.2 hd B.2.2.2.2.2.1)
theorem ab_lret {v : Int64} (hd : decode u.2.1 pc = .ok (.lreturn, 1)) (hr : u.2.2.2 = some .long) (k : post (some (.long v)) M) : AW D d mc ms u kc ks (pc) lv ([.long v]) M post :=
  fun p e s m args below meth c H locs ls cells slots B h1 h2 hR hS hl => W.widen (by omega) (by omega) (W.lret B.1 B.2.1 (B.2.2.1.trans hr) (fun t ht _ => Qp.end k hR hS ht) hS.2.2 hd B.2.2.2.2.2.1)
theorem ab_vret (hd : decode u.2.1 pc = .ok (.return_, 1)) (hr : u.2.2.2 = none) (k : post none M) : AW D d mc ms u kc ks (pc) lv ([]) M post :=
  fun p e s m args below meth c H locs ls cells slots B h1 h2 hR hS hl => W.widen (by omega) (by omega) (W.vret B.1 B.2.1 (B.2.2.1.trans hr) (fun t ht _ => Qp.end k hR hS ht) hS.2.2 hd B.2.2.2.2.2.1)
theorem ab_aret {o : Option Nat} {C : String} (hd : decode u.2.1 pc = .ok (.areturn, 1)) (hr : u.2.2.2 = some (.object C)) (k : post (some (va_rf o)) M) : AW D d mc ms u kc ks (pc) lv ([va_rf o]) M post := by
  intro p e s m args below meth c H locs ls cells slots B h1 h2 hR hS hl
  refine W.widen (k := mc) (n := ms) (by omega) (by omega) ?_
  cases o with
  | none => exact W.aret B.1 B.2.1 (B.2.2.1.trans hr) (Or.inl ⟨_, rfl⟩) (Or.inl rfl) (fun t ht _ => Qp.end (r := some .null) k hR hS ht) hS.2.2 hd B.2.2.2.2.2.1
  | some a => exact W.aret B.1 B.2.1 (B.2.2.1.trans hr) (Or.inl ⟨_, rfl⟩) (Or.inr ⟨_, rfl⟩) (fun t ht _ => Qp.end (r := some (.ref a)) k hR hS ht) hS.2.2 hd B.2.2.2.2.2.1
end
