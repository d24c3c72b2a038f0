/-! the law: the classes at its entry -/
theorem cl_new : ∀ c, c < 13 → ∃ n, Cond.instantiable (Cn c) n ∈ lw_tbl := by
  intro c hc
  rcases (by omega : c = 0 ∨ c = 1 ∨ c = 2 ∨ c = 3 ∨ c = 4 ∨ c = 5 ∨ c = 6 ∨ c = 7 ∨ c = 8 ∨ c = 9 ∨ c = 10 ∨ c = 11 ∨ c = 12) with rfl | rfl | rfl | rfl | rfl | rfl | rfl | rfl | rfl | rfl | rfl | rfl | rfl
  · exact ⟨_, w_143⟩
  · exact ⟨_, w_203⟩
  · exact ⟨_, w_493⟩
  · exact ⟨_, w_532⟩
  · exact ⟨_, w_450⟩
  · exact ⟨_, w_557⟩
  · exact ⟨_, w_109⟩
  · exact ⟨_, w_229⟩
  · exact ⟨_, w_545⟩
  · exact ⟨_, w_506⟩
  · exact ⟨_, w_519⟩
  · exact ⟨_, w_101⟩
  · exact ⟨_, w_990⟩
theorem kn_ex {s : State} {a : Array Value} (hts : ∀ w ∈ lw_tbl, w.before a s = true) (hok : ∀ w ∈ lw_ok, w.before a s = true) : ∃ D1 : va_G, ∀ (c : Nat) (q : vw_C), vwCl[c]? = some q → u_Kn s q.1 q.2.1 q.2.2 (D1.1 c) (D1.2 c) := by
  have h : ∀ c : Nat, ∃ (cC : ClassId) (iS : Nat → Nat), ∀ q : vw_C, vwCl[c]? = some q → u_Kn s q.1 q.2.1 q.2.2 cC iS := by
    intro c
    by_cases hc : c < 13
    · obtain ⟨n, hn⟩ := cl_new c hc
      obtain ⟨cC, iS, h⟩ := u_known (s := s) (args := a) hok (cl_in hc) (hts _ hn)
      refine ⟨cC, iS, fun q hq => ?_⟩
      rw [cl_at hc] at hq
      cases hq
      exact h
    · refine ⟨0, fun _ => 0, fun q hq => ?_⟩
      have hl : vwCl.length = 13 := rfl
      rw [List.getElem?_eq_none (by omega)] at hq
      cases hq
  exact ⟨(fun c => (h c).choose, fun c => (h c).choose_spec.choose), fun c q hq => (h c).choose_spec.choose_spec q hq⟩
