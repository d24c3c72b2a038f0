/-! the law: the types of arrays at its entry -/
theorem ar_ex {s : State} {a : Array Value} {ty : FieldType} (h : (Cond.arrayClass ty).before a s = true) : ∃ cA : ClassId, ArrOfT s cA ty ∧ s.vm.findClass ("[" ++ ty.toString) = some cA := by
  obtain ⟨cA, kA, comp, hfind, hk, hkind⟩ := Cond.arrayClass_spec h
  exact ⟨cA, fun n z => ⟨fun k h => (by cases h), kA, hk, comp, hkind⟩, hfind⟩
theorem ar_exA {s : State} {a : Array Value} {t : FieldType} (h : (Cond.arrayOver (.array t)).before a s = true) : ∃ cA : ClassId, ArrOfT s cA (.array t) ∧ va_RA s cA (.array t) := by
  obtain ⟨comp, cA, kA, hcomp, hidx, hkA, hkindA, hnameA⟩ := arrayOverA_spec h
  exact ⟨cA, fun n z => ⟨fun k h => (by cases h), kA, hkA, comp, hkindA⟩, hnameA⟩
theorem ar_exO {s : State} {a : Array Value} {n : String} (h : (Cond.arrayOver (.object n)).before a s = true) : ∃ cA : ClassId, ArrOfT s cA (.object n) ∧ va_RA s cA (.object n) := by
  obtain ⟨comp, cA, kA, hcomp, hidx, hkA, hkindA, hnameA⟩ := Cond.arrayOver_spec h
  exact ⟨cA, fun n z => ⟨fun k h => (by cases h), kA, hkA, comp, hkindA⟩, kA, comp, hkA, hkindA, hcomp, hnameA⟩
theorem ar_all {s : State} {a : Array Value} (hts : ∀ w ∈ lw_tbl, w.before a s = true) : ∃ C : Nat → ClassId, ∀ (k : Nat) (q : ClassId × FieldType), ([(C 0, .int), (C 1, .long), (C 2, .boolean), (C 3, .array .int), (C 4, .array .long), (C 5, .object "ElevenYards$Player")] : List (ClassId × FieldType))[k]? = some q → ArrOfT s q.1 q.2 ∧ va_RA s q.1 q.2 := by
  obtain ⟨c0, g0, h0⟩ := ar_ex (hts _ w_137)
  obtain ⟨c1, g1, h1⟩ := ar_ex (hts _ w_313)
  obtain ⟨c2, g2, h2⟩ := ar_ex (hts _ w_1161)
  obtain ⟨c3, g3, h3⟩ := ar_exA (hts _ w_139)
  obtain ⟨c4, g4, h4⟩ := ar_exA (hts _ w_262)
  obtain ⟨c5, g5, h5⟩ := ar_exO (hts _ w_141)
  refine ⟨fun k => [c0, c1, c2, c3, c4, c5].getD k 0, fun k q hq => ?_⟩
  match k, hq with
  | 0, hq => cases hq; exact ⟨g0, h0⟩
  | 1, hq => cases hq; exact ⟨g1, h1⟩
  | 2, hq => cases hq; exact ⟨g2, h2⟩
  | 3, hq => cases hq; exact ⟨g3, h3⟩
  | 4, hq => cases hq; exact ⟨g4, h4⟩
  | 5, hq => cases hq; exact ⟨g5, h5⟩
  | n + 6, hq => cases hq
