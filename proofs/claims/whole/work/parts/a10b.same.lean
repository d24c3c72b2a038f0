theorem lg_self (x : Int64) : lg_cmp x x = 0 := by
  unfold lg_cmp
  rw [if_neg (fun h => by
    have h2 : x < x := h
    rw [Int64.lt_iff_toInt_lt] at h2
    omega), if_pos rfl]
