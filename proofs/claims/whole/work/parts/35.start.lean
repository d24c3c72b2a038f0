/-! the two systems as they are made -/
section
variable (f f' g h : Nat → Int32)
set_option maxRecDepth 400000
theorem start_lay : Lay 0 98 (st_199 f f' g h) := ⟨Nat.le_of_eq (hz_199 f f' g h).1.symm, fun a _ ha => (hz_199 f f' g h).2 a ha, fun q hq h1 h2 => hp_199 f f' g h q ((by decide +kernel : ∀ q ∈ layP, 0 ≤ q.1 → q.1 < 98 → q ∈ ps_71) q hq h1 h2)⟩
theorem start_n : mN (st_199 f f' g h) = 98 := (hz_199 f f' g h).1
theorem s0_2 : gI (st_199 f f' g h) 0 2 = 0 := rfl
theorem s0_4 : gI (st_199 f f' g h) 0 4 = 0 := rfl
theorem s0_9 : gI (st_199 f f' g h) 0 9 = 0 := rfl
theorem s1_2 : gI (st_199 f f' g h) 1 2 = 0 := rfl
theorem s25_2 : gI (st_199 f f' g h) 25 2 = 0 := rfl
theorem s46_0 : gI (st_199 f f' g h) 46 0 = 0 := rfl
theorem s14 (k : Nat) (hk : k < 9) : gI (st_199 f f' g h) 14 k = 50 := if_pos hk
theorem s16 : gI (st_199 f f' g h) 16 = f := rfl
theorem s17 : gI (st_199 f f' g h) 17 = f' := rfl
theorem s18 : gI (st_199 f f' g h) 18 = g := rfl
theorem s45 : gI (st_199 f f' g h) 45 = h := rfl
theorem s53 (k : Nat) (hk : k < 6) : gI (st_199 f f' g h) 53 k = -1 := if_pos hk
theorem s54 (k : Nat) : gI (st_199 f f' g h) 54 k = 0 := rfl
theorem s5 (k : Nat) : gI (st_199 f f' g h) 5 k = 0 := rfl
theorem s6 (k : Nat) : gI (st_199 f f' g h) 6 k = 0 := rfl
theorem s7 (k : Nat) : gI (st_199 f f' g h) 7 k = 0 := rfl
theorem s8 (k : Nat) : gI (st_199 f f' g h) 8 k = 0 := rfl
theorem s9 (k : Nat) : gI (st_199 f f' g h) 9 k = 0 := rfl
theorem s10 (k : Nat) : gI (st_199 f f' g h) 10 k = 0 := rfl
theorem s11 (k : Nat) : gI (st_199 f f' g h) 11 k = 0 := rfl
theorem s30 (k : Nat) : gP (st_199 f f' g h) 30 k = none := rfl
theorem s62_1 : gI (st_199 f f' g h) 62 1 = 0 := rfl
theorem s62_2 : gI (st_199 f f' g h) 62 2 = 0 := rfl
theorem s62_18 : gI (st_199 f f' g h) 62 18 = 0 := rfl
theorem s62_32 : gI (st_199 f f' g h) 62 32 = 0 := rfl
theorem s62_42 : gI (st_199 f f' g h) 62 42 = 0 := rfl
theorem s62_49 : gI (st_199 f f' g h) 62 49 = 0 := rfl
theorem s95 (k : Nat) : gI (st_199 f f' g h) 95 k = 0 := rfl
theorem s63 (k : Nat) (hk : k < 9) : gI (st_199 f f' g h) 63 k = 50 := by
  rcases (by omega : k = 0 ∨ k = 1 ∨ k = 2 ∨ k = 3 ∨ k = 4 ∨ k = 5 ∨ k = 6 ∨ k = 7 ∨ k = 8) with rfl | rfl | rfl | rfl | rfl | rfl | rfl | rfl | rfl <;> rfl
theorem s82 (k : Nat) (hk : k < 12) : gI (st_199 f f' g h) 82 k = -1 := by
  rcases (by omega : k = 0 ∨ k = 1 ∨ k = 2 ∨ k = 3 ∨ k = 4 ∨ k = 5 ∨ k = 6 ∨ k = 7 ∨ k = 8 ∨ k = 9 ∨ k = 10 ∨ k = 11) with rfl | rfl | rfl | rfl | rfl | rfl | rfl | rfl | rfl | rfl | rfl | rfl <;> rfl
theorem s94 (k : Nat) (hk : k < 6) : gI (st_199 f f' g h) 94 k = -1 := by
  rcases (by omega : k = 0 ∨ k = 1 ∨ k = 2 ∨ k = 3 ∨ k = 4 ∨ k = 5) with rfl | rfl | rfl | rfl | rfl | rfl <;> rfl
end
