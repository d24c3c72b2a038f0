/-! rest, kick -/
section
variable {D : GD} {d : Nat} {M : Mm}
theorem c_isWho {x : Int32} {P : Int32 → Mm → Prop} (hL : Lay 0 62 M) (h : P (b2 (x = 0 ∨ x = 1)) M) : AMi D d mX11_isWho [.int x] M P := by
  refine rX11_isWho D d x M _ hL ⟨fun c => ⟨_, rfl, .refl M, ?_⟩, fun c => ⟨fun c2 => ⟨_, rfl, .refl M, ?_⟩, fun c2 => ⟨_, rfl, .refl M, ?_⟩⟩⟩
  · rwa [b2_t (Or.inl c)] at h
  · rwa [b2_f (by rintro (h | h); exact c h; exact c2 h)] at h
  · rwa [b2_t (Or.inr c2)] at h
theorem who_in (x : Int32) : (0 ≤ x ∧ x ≤ 1) ↔ (x = 0 ∨ x = 1) := by
  simp only [ile, ieq, Int32.reduceToInt]
  omega
theorem c_inWho {x : Int32} {P : Int32 → Mm → Prop} (hL : Lay 62 98 M) (h : P (b2 (x = 0 ∨ x = 1)) M) : AMi D d mX12_in [.ref 62, .int x, .int (0 : Int32), .int (1 : Int32)] M P := by
  refine c_in hL ?_
  have e : b2 (0 ≤ x ∧ x ≤ 1) = b2 (x = 0 ∨ x = 1) := by
    unfold b2
    simp only [who_in]
  rw [e]
  exact h
theorem k_rest {a b : Int32} (hR : Rall M) : Ki D (d + 8) mX11_rest mX12_rest [.int a, .int b] M := by
  obtain ⟨hL, ⟨T, hb, t1, t2, hx0, hx1⟩, hr⟩ := id hR
  have hL1 : Lay 0 62 M := hL.sub (by omega) (by omega)
  have hL2 : Lay 62 98 M := hL.sub (by omega) (by omega)
  by_cases hw : a = 0 ∨ a = 1
  · have hb1 := b2_t hw
    by_cases hc : 0 ≤ b ∧ b ≤ 3
    · have hb2 := b2_t hc
      have key : ∀ x : Int32, (∀ (r o : Nat → Int32), Rst T 0 r (o 23) → Rst T 1 (fun k => r (3 + k)) (o 24) → ((¬ b = (3 : Int32) → vp_in (((3 : Int32) * a) + b) 6 ∧ x = r (((3 : Int32) * a) + b).toNatClampNeg) ∧ (b = (3 : Int32) → ((¬ a = 0 → x = o 24) ∧ (a = 0 → x = o 23))))) → AMi D (d + 8) mX12_rest [.ref 62, .int a, .int b] M (fun y M2 => x = y ∧ Rall M2) := by
        intro x hk
        refine rX12_rest D (d + 7) a b M _ hL2 (c_inWho hL2 ?_)
        rw [hb1]
        refine ⟨fun c => absurd c (by decide), fun _ => c_in hL2 ?_⟩
        rw [hb2]
        refine ⟨fun _ => c_findRest hL2 t2 hb fun r o h0 h1 hg => ?_, fun c => absurd c (by decide)⟩
        obtain ⟨k1, k2⟩ := hk r o h0 h1
        exact ⟨fun c => ⟨(k1 c).1, _, rfl, (Sm.refl M).ri.ri, (k1 c).2, hR.sc (Sc.rest hg)⟩, fun c => ⟨fun c2 => ⟨_, rfl, (Sm.refl M).ri.ri, (k2 c).1 c2, hR.sc (Sc.rest hg)⟩, fun c2 => ⟨_, rfl, (Sm.refl M).ri.ri, (k2 c).2 c2, hR.sc (Sc.rest hg)⟩⟩⟩
      refine rX11_rest D (d + 7) a b M _ hL1 (c_isWho hL1 ?_)
      rw [hb1]
      have hb4 : b = 0 ∨ b = 1 ∨ b = 2 ∨ b = 3 := by
        simp only [ile, ieq, Int32.reduceToInt] at hc ⊢
        omega
      refine ⟨fun c => absurd c (by decide), fun _ => ⟨fun c => ?_, fun _ => ⟨fun _ => ⟨fun c3 => ?_, fun c3 => ?_⟩, fun c => absurd hc.2 c⟩⟩⟩
      · exfalso
        simp only [ilt, ile, Int32.reduceToInt] at hc c
        omega
      · rcases hw with rfl | rfl
        · rcases hb4 with rfl | rfl | rfl | rfl
          · refine ⟨vin (by decide), vin (by decide), _, rfl, .refl M, key _ fun r o h0 h1 => ⟨fun _ => ⟨vin (by decide), (hx0.uniq (by omega) h0).1⟩, fun c => absurd c (by decide)⟩⟩
          · refine ⟨vin (by decide), vin (by decide), _, rfl, .refl M, key _ fun r o h0 h1 => ⟨fun _ => ⟨vin (by decide), (hx0.uniq (by omega) h0).2.1⟩, fun c => absurd c (by decide)⟩⟩
          · refine ⟨vin (by decide), vin (by decide), _, rfl, .refl M, key _ fun r o h0 h1 => ⟨fun _ => ⟨vin (by decide), (hx0.uniq (by omega) h0).2.2.1⟩, fun c => absurd c (by decide)⟩⟩
          · exact absurd rfl c3
        · rcases hb4 with rfl | rfl | rfl | rfl
          · refine ⟨vin (by decide), vin (by decide), _, rfl, .refl M, key _ fun r o h0 h1 => ⟨fun _ => ⟨vin (by decide), (hx1.uniq (by omega) h1).1⟩, fun c => absurd c (by decide)⟩⟩
          · refine ⟨vin (by decide), vin (by decide), _, rfl, .refl M, key _ fun r o h0 h1 => ⟨fun _ => ⟨vin (by decide), (hx1.uniq (by omega) h1).2.1⟩, fun c => absurd c (by decide)⟩⟩
          · refine ⟨vin (by decide), vin (by decide), _, rfl, .refl M, key _ fun r o h0 h1 => ⟨fun _ => ⟨vin (by decide), (hx1.uniq (by omega) h1).2.2.1⟩, fun c => absurd c (by decide)⟩⟩
          · exact absurd rfl c3
      · subst c3
        rcases hw with rfl | rfl
        · exact ⟨vin (by decide), _, rfl, .refl M, key _ fun r o h0 h1 => ⟨fun c => absurd rfl c, fun _ => ⟨fun c => absurd rfl c, fun _ => (hx0.uniq (by omega) h0).2.2.2⟩⟩⟩
        · exact ⟨vin (by decide), _, rfl, .refl M, key _ fun r o h0 h1 => ⟨fun c => absurd rfl c, fun _ => ⟨fun _ => (hx1.uniq (by omega) h1).2.2.2, fun c => absurd c (by decide)⟩⟩⟩
    · have hb2 := b2_f hc
      have no : AMi D (d + 8) mX12_rest [.ref 62, .int a, .int b] M (fun y M2 => (-1 : Int32) = y ∧ Rall M2) := by
        refine rX12_rest D (d + 7) a b M _ hL2 (c_inWho hL2 ?_)
        rw [hb1]
        refine ⟨fun c => absurd c (by decide), fun _ => c_in hL2 ?_⟩
        rw [hb2]
        exact ⟨fun c => absurd rfl c, fun _ => ⟨_, rfl, .refl M, rfl, hR⟩⟩
      refine rX11_rest D (d + 7) a b M _ hL1 (c_isWho hL1 ?_)
      rw [hb1]
      refine ⟨fun c => absurd c (by decide), fun _ => ⟨fun c => ⟨_, rfl, .refl M, no⟩, fun c => ⟨fun c2 => ?_, fun c2 => ⟨_, rfl, .refl M, no⟩⟩⟩⟩
      exfalso
      simp only [ilt, ile, Int32.reduceToInt] at hc c c2
      omega
  · have hb1 := b2_f hw
    refine rX11_rest D (d + 7) a b M _ hL1 (c_isWho hL1 ?_)
    rw [hb1]
    refine ⟨fun _ => ⟨_, rfl, .refl M, ?_⟩, fun c => absurd rfl c⟩
    refine rX12_rest D (d + 7) a b M _ hL2 (c_inWho hL2 ?_)
    rw [hb1]
    exact ⟨fun _ => ⟨_, rfl, .refl M, rfl, hR⟩, fun c => absurd rfl c⟩
end
