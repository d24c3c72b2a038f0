/-! the law: its beginning -/
theorem dl_0 : decode code 0 = .ok (.new 7, 3) := by decide +kernel
theorem dl_3 : decode code 3 = .ok (.dup, 1) := by decide +kernel
theorem dl_4 : decode code 4 = .ok (.invokespecial 9, 3) := by decide +kernel
theorem dl_7 : decode code 7 = .ok (.astore_n 1, 1) := by decide +kernel
theorem dl_8 : decode code 8 = .ok (.new 10, 3) := by decide +kernel
theorem dl_11 : decode code 11 = .ok (.dup, 1) := by decide +kernel
theorem dl_12 : decode code 12 = .ok (.invokespecial 12, 3) := by decide +kernel
theorem dl_15 : decode code 15 = .ok (.astore_n 2, 1) := by decide +kernel
section
variable {D : GD} {b L : Nat} {xs : Nat → Int32}
theorem lw_begin (hE : ExOk D) (hL : L ≤ 4608) : LW D b L xs 600000 7302250 0 [(0, .ref 1000300)] [] st_0 := by
  refine lb_new (c := 11) dl_0 (by decide) w_100 w_101 w_80 (by decide) (by decide) (by decide) (lb_dup dl_3 rfl ?_)
  refine lb_callI (a := 0) (d' := 5) (mc' := 61) (ms' := 2504) (u' := mX11_init) (vs := []) (st := [.ref 0]) dl_4 ⟨cw_X11_init, w_102⟩ rfl rfl w_103 rfl rfl (by decide) (by omega) (by decide) (by decide) (ci_X11_init_0 D 0 _ (fun f f' g h r1 r2 hw => ?_))
  refine lb_astore_n (x := 0) (lv1 := [(1, .ref 0), (0, .ref 1000300)]) dl_7 (by decide) rfl ?_
  have n62 : mN (st_81 f f' g h) = 62 := (hz_81 f f' g h).1
  refine lb_new (c := 12) dl_8 (by decide) w_989 w_990 w_86 (by decide) (by decide) (by rw [n62]; decide) (lb_dup dl_11 rfl ?_)
  rw [n62]
  refine lb_callI (a := 62) (d' := 1) (mc' := 35) (ms' := 2691) (u' := mX12_init) (vs := []) (st := [.ref 62]) dl_12 ⟨cw_X12_init, w_991⟩ rfl rfl w_992 rfl rfl (by decide) (by omega) (by decide) (by decide) (ci_X12_init_62 D 0 f f' g h _ ?_)
  refine lb_astore_n (x := 62) (lv1 := [(2, .ref 62), (1, .ref 0), (0, .ref 1000300)]) dl_15 (by decide) rfl ?_
  refine lb_iconst (v := J ((0 : Nat) : Int)) dl_16 rfl ?_
  refine lb_istore_n (x := J ((0 : Nat) : Int)) (lv1 := lvl 0) dl_17 (by decide) rfl ?_
  exact lb_wk (lw_loop hE hL 4608 0 _ (by omega) (by omega) (start_all r1 r2 hw) (Nat.le_of_eq (hz_199 f f' g h).1)) (by decide) (by decide)
end
