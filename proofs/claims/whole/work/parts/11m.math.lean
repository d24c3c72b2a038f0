theorem wm_max : Cond.code Lib.Math.max.name Lib.Math.max.code 2 (some .int) ∈ lw_tbl := List.mem_of_getElem? (i := 745) (by decide +kernel)
theorem wn_max : Cond.static Lib.Math.max.name ∈ lw_tbl := List.mem_of_getElem? (i := 744) (by decide +kernel)
theorem wm_min : Cond.code Lib.Math.min.name Lib.Math.min.code 2 (some .int) ∈ lw_tbl := List.mem_of_getElem? (i := 630) (by decide +kernel)
theorem wn_min : Cond.static Lib.Math.min.name ∈ lw_tbl := List.mem_of_getElem? (i := 629) (by decide +kernel)
theorem wm_min_long : Cond.code Lib.MathLoose.min_long.x Lib.MathLoose.min_long.code 4 (some .long) ∈ lw_tbl := List.mem_of_getElem? (i := 694) (by decide +kernel)
theorem wn_min_long : Cond.static Lib.MathLoose.min_long.x ∈ lw_tbl := List.mem_of_getElem? (i := 693) (by decide +kernel)
theorem wm_abs_long : Cond.code Lib.MathLoose.abs_long.x Lib.MathLoose.abs_long.code 2 (some .long) ∈ lw_tbl := List.mem_of_getElem? (i := 702) (by decide +kernel)
theorem wn_abs_long : Cond.static Lib.MathLoose.abs_long.x ∈ lw_tbl := List.mem_of_getElem? (i := 701) (by decide +kernel)
theorem wi_math : Cond.initialized "java/lang/Math" ∈ lw_tbl := List.mem_of_getElem? (i := 99) (by decide +kernel)
section
variable {D : GD} {d mc ms : Nat} {u : MD} {kc ks pc : Nat} {lv : List (Nat × Value)} {st : List Value} {M : Mm} {post : Option Value → Mm → Prop}
theorem cat_sum {st : List Value} (h : (st.map fun v => v.category).sum ≤ 8) : ((st.map (cv D)).map fun v => v.category).sum ≤ 8 := by
  rw [List.map_map, show ((fun v : Value => v.category) ∘ cv D) = fun v => v.category from funext fun v => cv_cat D v]
  exact h
theorem ab_mmax {i : Nat} {x y : Int32} (hd : decode u.2.1 pc = .ok (.invokestatic i, 3)) (hln : Cond.methodLink u.1.cls i Lib.Math.max.name ∈ lw_tbl) (hcat : (st.map fun v => v.category).sum ≤ 8) (hdd : 1 ≤ d) (kk : AW D d mc ms u kc ks (pc + 3) lv (.int (if x < y then y else x) :: st) M post) : AW D d mc ms u kc ks pc lv (.int y :: .int x :: st) M post := by
  intro p e s m args below meth c H locs ls cells slots B h1 h2 hR hS hl
  have hq := cat_sum (D := D) hcat
  exact va_mmax B.1 B.2.1 (B.2.2.2.1.trans hl.1.symm) B.own (B.tb.use hln rfl args) (B.tb.use wn_max rfl args) (B.tb.use wi_math rfl args) (B.tb.use wm_max rfl args) hdd (by show _ ≤ 64 * d; omega) (by show cells ≤ mc; omega) (by show slots ≤ ms; omega) hd (kk p e s m args below meth c H locs ls cells slots B h1 h2 hR hS hl)
theorem ab_mmin {i : Nat} {x y : Int32} (hd : decode u.2.1 pc = .ok (.invokestatic i, 3)) (hln : Cond.methodLink u.1.cls i Lib.Math.min.name ∈ lw_tbl) (hcat : (st.map fun v => v.category).sum ≤ 8) (hdd : 1 ≤ d) (kk : AW D d mc ms u kc ks (pc + 3) lv (.int (if y < x then y else x) :: st) M post) : AW D d mc ms u kc ks pc lv (.int y :: .int x :: st) M post := by
  intro p e s m args below meth c H locs ls cells slots B h1 h2 hR hS hl
  have hq := cat_sum (D := D) hcat
  exact va_mmin B.1 B.2.1 (B.2.2.2.1.trans hl.1.symm) B.own (B.tb.use hln rfl args) (B.tb.use wn_min rfl args) (B.tb.use wi_math rfl args) (B.tb.use wm_min rfl args) hdd (by show _ ≤ 64 * d; omega) (by show cells ≤ mc; omega) (by show slots ≤ ms; omega) hd (kk p e s m args below meth c H locs ls cells slots B h1 h2 hR hS hl)
theorem ab_mmin_long {i : Nat} {x y : Int64} (hd : decode u.2.1 pc = .ok (.invokestatic i, 3)) (hln : Cond.methodLink u.1.cls i Lib.MathLoose.min_long.x ∈ lw_tbl) (hcat : (st.map fun v => v.category).sum ≤ 8) (hdd : 1 ≤ d) (kk : AW D d mc ms u kc ks (pc + 3) lv (.long (if y < x then y else x) :: st) M post) : AW D d mc ms u kc ks pc lv (.long y :: .long x :: st) M post := by
  intro p e s m args below meth c H locs ls cells slots B h1 h2 hR hS hl
  have hq := cat_sum (D := D) hcat
  exact va_mmin_long B.1 B.2.1 (B.2.2.2.1.trans hl.1.symm) B.own (B.tb.use hln rfl args) (B.tb.use wn_min_long rfl args) (B.tb.use wi_math rfl args) (B.tb.use wm_min_long rfl args) hdd (by show _ ≤ 64 * d; omega) (by show cells ≤ mc; omega) (by show slots ≤ ms; omega) hd (kk p e s m args below meth c H locs ls cells slots B h1 h2 hR hS hl)
theorem ab_mabs_long {i : Nat} {x : Int64} (hd : decode u.2.1 pc = .ok (.invokestatic i, 3)) (hln : Cond.methodLink u.1.cls i Lib.MathLoose.abs_long.x ∈ lw_tbl) (hcat : (st.map fun v => v.category).sum ≤ 8) (hdd : 1 ≤ d) (kk : AW D d mc ms u kc ks (pc + 3) lv (.long (if 0 < x then x else -x) :: st) M post) : AW D d mc ms u kc ks pc lv (.long x :: st) M post := by
  intro p e s m args below meth c H locs ls cells slots B h1 h2 hR hS hl
  have hq := cat_sum (D := D) hcat
  exact va_mabs_long B.1 B.2.1 (B.2.2.2.1.trans hl.1.symm) B.own (B.tb.use hln rfl args) (B.tb.use wn_abs_long rfl args) (B.tb.use wi_math rfl args) (B.tb.use wm_abs_long rfl args) hdd (by show _ ≤ 64 * d; omega) (by show cells ≤ mc; omega) (by show slots ≤ ms; omega) hd (kk p e s m args below meth c H locs ls cells slots B h1 h2 hR hS hl)
end
