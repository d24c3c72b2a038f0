/-! the law: arguments -/
abbrev lvl (i : Nat) : List (Nat × Value) := [(3, .int (J (i : Nat))), (2, .ref 62), (1, .ref 0), (0, .ref 1000300)]
section
variable {D : GD} {b L : Nat} {xs : Nat → Int32} {kc ks pc : Nat} {st : List Value} {M : Mm} {i k : Nat}
theorem lb_arg {n : Int} (d1 : decode code pc = .ok (.aload_n 0, 1)) (d2 : decode code (pc + 1) = .ok (.iload_n 3, 1)) (d3 : decode code (pc + 1 + 1) = .ok (.iconst n, 1)) (hn : n = (k : Int)) (d4 : decode code (pc + 1 + 1 + 1) = .ok (.iadd, 1)) (d5 : decode code (pc + 1 + 1 + 1 + 1) = .ok (.iaload, 1)) (hj : i + k < L) (hL : L ≤ 4608) (kk : LW D b L xs kc ks (pc + 1 + 1 + 1 + 1 + 1) (lvl i) (.int (xs (i + k)) :: st) M) : LW D b L xs kc ks pc (lvl i) st M := by
  refine lb_aload_n 3 d1 rfl (lb_iload_n 0 d2 rfl (lb_iconst (v := J (k : Nat)) d3 (by rw [hn]; rfl) (lb_iadd d4 ?_)))
  rw [J_add]
  exact lb_scr (j := i + k) hj hL d5 kk
theorem lb_argb {n : Int} (d1 : decode code pc = .ok (.aload_n 0, 1)) (d2 : decode code (pc + 1) = .ok (.iload_n 3, 1)) (d3 : decode code (pc + 1 + 1) = .ok (.bipush n, 2)) (hn : (Int8.ofInt n).toInt32 = J (k : Nat)) (d4 : decode code (pc + 1 + 1 + 2) = .ok (.iadd, 1)) (d5 : decode code (pc + 1 + 1 + 2 + 1) = .ok (.iaload, 1)) (hj : i + k < L) (hL : L ≤ 4608) (kk : LW D b L xs kc ks (pc + 1 + 1 + 2 + 1 + 1) (lvl i) (.int (xs (i + k)) :: st) M) : LW D b L xs kc ks pc (lvl i) st M := by
  refine lb_aload_n 3 d1 rfl (lb_iload_n 0 d2 rfl (lb_bipush (v := J (k : Nat)) d3 hn (lb_iadd d4 ?_)))
  rw [J_add]
  exact lb_scr (j := i + k) hj hL d5 kk
end
