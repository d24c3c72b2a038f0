/-! act: the call -/
section
variable {D : GD} {d : Nat} {M : Mm}
theorem act_all {M1 M2 : Mm} {L : List Int32} (hR : Rall M) (F1 : Fm [46] M M1) (G : F2 M1 M2) (hc : Lc M1 L) (hm : Lm M2 L) (hn : L.length ≤ 1000) : Rall M2 := by
  obtain ⟨hL, htb, htx, hki, hlo, hta, hw, nr, np, hru, hpl, hte, him⟩ := hR
  have F : Fm [46, 62, 93] M M2 := (F1.sub (by decide)).trans (G.1.sub (by decide))
  have g := F.2.2.2
  have s := F.1
  have z : ∀ k, k ≠ 49 → gI M2 62 k = gI M 62 k := fun k hk => by rw [G.2 k hk, F1.2.2.2 62 (by decide)]
  have p12 : gP M2 12 = gP M 12 := by rw [F.2.1]
  refine ⟨hL.of s, htb.fr (g _ (by decide)) (g _ (by decide)) (g _ (by decide)) (g _ (by decide)) (g _ (by decide)), htx.fr (by rw [g 1 (by decide)]) (z _ (by omega)) (g _ (by decide)) (g _ (by decide)), hki.fr (by rw [g 25 (by decide)]) (z _ (by omega)) (g _ (by decide)) (g _ (by decide)) (g _ (by decide)) (g _ (by decide)), ⟨L.length, hn, ?_, hm.1, fun k hk hk2 => ?_⟩, hta.fr (g _ (by decide)) (g _ (by decide)) (g _ (by decide)) (g _ (by decide)) F.2.2.1, by rw [g 45 (by decide)]; exact hw, nr, np, hru.fr (by rw [g 0 (by decide)]) (z _ (by omega)) (fun j hj => g _ ((by decide : ∀ j, j < 7 → [46, 62, 93].contains (5 + j) = false) j hj)) (g _ (by decide)) (g _ (by decide)) (g _ (by decide)) (g _ (by decide)) (g _ (by decide)) (g _ (by decide)), hpl.fr s.x (fun k => by rw [p12]) (by rw [g 0 (by decide)]) (z _ (by omega)) (g _ (by decide)) (g _ (by decide)) (g _ (by decide)) (fun a ha _ => F.hi (by decide) a ha), hte.fr p12 (by rw [F.2.1]) (g _ (by decide)), him.fr (by rw [g 0 (by decide)]) (z _ (by omega)) (g _ (by decide)) (g _ (by decide)) (by rw [g 48 (by decide)]) (z _ (by omega)) (g _ (by decide)) (g _ (by decide)) (g _ (by decide)) (g _ (by decide)) p12 (by rw [F.2.1]) (g _ (by decide))⟩
  · rw [G.1.2.2.2 46 (by decide)]
    exact hc.1
  · obtain ⟨b, hb⟩ : ∃ b, L[k]? = some b := ⟨L[k], List.getElem?_eq_getElem hk⟩
    rw [G.1.2.2.2 46 (by decide), hc.2 k b hk2 hb, hm.2 k b hk2 hb]
theorem k_act {a b c : Int32} (hR : Rall M) : Ki D (d + 9) mX11_act mX12_act [.int a, .int b, .int c] M := by
  obtain ⟨hL, htb, htx, hki, hlo, hta, hw, nr, np, hru, hpl, hte, him⟩ := id hR
  have hL1 : Lay 0 62 M := hL.sub (by omega) (by omega)
  have hL2 : Lay 62 98 M := hL.sub (by omega) (by omega)
  refine rX11_act D (d + 8) a b c M _ hL1 (fun M1 q1 => ?_)
  have F1 : Fm [46] M M1 := by rw [q1]; exact (Fm.refl _ M).si (by decide)
  have c1 : Lc M1 [] := ⟨by rw [q1]; rfl, fun k b _ h => by simp at h⟩
  have hpl1 : Rpl M1 nr np := hpl.fr F1.1.x (fun k => by rw [F1.2.1]) (by rw [F1.2.2.2 0 (by decide)]) (by rw [F1.2.2.2 62 (by decide)]) (F1.2.2.2 _ (by decide)) (F1.2.2.2 _ (by decide)) (F1.2.2.2 _ (by decide)) (fun a ha _ => F1.hi (by decide) a ha)
  -- the reference's start
  have ms : ∀ (x : Int32) (N : Mm), Sm M N → gI N 62 18 = J np → ((¬ ((0 ≤ a ∧ a < J np) ∧ (0 ≤ b ∧ b ≤ 2)) → x = 0 ∧ Rall (sI N 62 49 0)) ∧ ((0 ≤ a ∧ a < J np) → (0 ≤ b ∧ b ≤ 2) → (b = 0 → AMi D (d + 8) mX12_looksAct [.ref 62, .int a, .int c] (sI N 62 49 0) (fun y M2 => x = y ∧ Rall M2)) ∧ (b = 1 → AMi D (d + 8) mX12_goesAct [.ref 62, .int a, .int c] (sI N 62 49 0) (fun y M2 => x = y ∧ Rall M2)) ∧ (¬ b = 0 → ¬ b = 1 → AMi D (d + 8) mX12_tellsAct [.ref 62, .int a, .int c] (sI N 62 49 0) (fun y M2 => x = y ∧ Rall M2)))) → AMi D (d + 9) mX12_act [.ref 62, .int a, .int b, .int c] N (fun y M2 => x = y ∧ Rall M2) := by
    intro x N hs e18 hh
    have hL3 := hL2.of hs
    have hL4 : Lay 62 98 (sI N 62 49 0) := hL3.of (Sm.refl N).i
    refine rX12_act D (d + 8) a b c N _ hL3 (fun N1 r1 => ?_)
    subst r1
    refine c_isPlayer (np := np) hL4 hpl.1 e18 ⟨fun q => ⟨_, rfl, (Sm.refl N).i, hh.1 (fun z => b2_eq0.mp q z.1)⟩, fun q => c_in hL4 ⟨fun q2 => ?_, fun q2 => ⟨_, rfl, (Sm.refl N).i, hh.1 (fun z => b2_eq0.mp q2 z.2)⟩⟩⟩
    obtain ⟨h0, h1, h2⟩ := hh.2 (b2_ne0.mp q) (b2_ne0.mp q2)
    refine ⟨fun q3 => ⟨fun q4 => (h2 q3 q4).mono fun y M2 s h => ⟨_, rfl, (Sm.refl N).i.trans s, h⟩, fun q4 => (h1 q4).mono fun y M2 s h => ⟨_, rfl, (Sm.refl N).i.trans s, h⟩⟩, fun q3 => (h0 q3).mono fun y M2 s h => ⟨_, rfl, (Sm.refl N).i.trans s, h⟩⟩
  have no : ¬ ((0 ≤ a ∧ a < J np) ∧ (0 ≤ b ∧ b ≤ 2)) → AMi D (d + 9) mX12_act [.ref 62, .int a, .int b, .int c] M1 (fun y M2 => (0 : Int32) = y ∧ Rall M2) := by
    intro hno
    refine ms 0 M1 F1.1 (by rw [F1.2.2.2 62 (by decide)]; exact hpl.2.2.1) ⟨fun _ => ⟨rfl, ?_⟩, fun h1 h2 => absurd ⟨h1, h2⟩ hno⟩
    refine act_all (L := []) hR F1 ⟨(Fm.refl _ M1).si (by decide), fun k hk => ?_⟩ c1 ⟨rfl, fun k b _ h => by simp at h⟩ (by simp)
    rw [gI_sI, if_neg (by omega)]
  refine c_plr (hL1.of F1.1) hpl1 (fun p q hp ea hq hk => ⟨fun p12 e12 => ?_, fun e => by cases e⟩) (fun hno => ⟨fun p12 e => (by cases e), fun _ => ⟨_, rfl, F1.1, no (fun z => hno z.1)⟩⟩)
  cases e12
  subst ea
  obtain ⟨h98, k, v, jr, k6, v2, jn, hPl, a5, a6, a7, a8, a9, a10, a11⟩ := id hk
  have hp10 := hpl.1
  have hA : Ac M1 q (kcl k) jr (J p) (J v) [] := ⟨(hL.of F1.1).sub (by omega) (by omega), hPl, h98, a6, a7, c1⟩
  have l1 := (by decide : ∀ k, k ≤ 6 → (lkB k).length ≤ 100) k k6
  have l2 := (by decide : ∀ k, k ≤ 6 → (goB k).length ≤ 100) k k6
  have l3 := (by decide : ∀ k, k ≤ 6 → (teB k).length ≤ 100) k k6
  -- both behind an act
  have fin : ∀ (bs : List Int32) (N : Mm), bs.length ≤ 100 → Fm [46] M1 N → Ac N q (kcl k) jr (J p) (J v) ([] ++ bs) → Am (sI N 62 49 0) p k (J v) [] ∧ ∀ N2, F2 (sI N 62 49 0) N2 → Am N2 p k (J v) ([] ++ bs) → Rall N2 := by
    intro bs N hb F A
    have G0 : F2 N (sI N 62 49 0) := ⟨(Fm.refl _ N).si (by decide), fun k hk => by rw [gI_sI, if_neg (by omega)]⟩
    refine ⟨⟨(hL2.of (F1.1.trans F.1)).of (Sm.refl N).i, by omega, ?_, ?_, rfl, fun k b _ h => by simp at h⟩, fun N2 G A2 => ?_⟩
    · show gI N 74 p = _
      rw [F.2.2.2 74 (by decide)]
      exact a9
    · show gI N 75 p = _
      rw [F.2.2.2 75 (by decide)]
      exact a10
    · exact act_all hR (F1.trans F) (G0.trans G) A.2.2.2.2.2 A2.2.2.2.2 (by simp; omega)
  have e18 : ∀ N, Fm [46] M1 N → gI N 62 18 = J np := fun N F => by
    rw [F.2.2.2 62 (by decide), F1.2.2.2 62 (by decide)]
    exact hpl.2.2.1
  have hpn := J_pl hp hp10
  refine ⟨fun cb => ⟨_, _, hPl, ?_⟩, fun cb => ⟨_, _, hPl, ?_⟩, fun cb => ⟨_, _, hPl, ?_⟩, fun c0 c1' c2 => ⟨_, rfl, F1.1, no fun z => ?_⟩⟩
  · refine sp_looks (d := d + 5) k6 M1 [] c _ hA (by simp; omega) (fun N F A => ⟨_, rfl, F1.1.trans F.1, ?_⟩)
    obtain ⟨hm, hf⟩ := fin _ N l1 F A
    subst cb
    refine ms _ N (F1.1.trans F.1) (e18 N F) ⟨fun h => absurd ⟨hpn, by decide⟩ h, fun _ _ => ⟨fun _ => ?_, fun h => absurd h (by decide), fun h => absurd rfl h⟩⟩
    exact sm_looks (d := d + 5) k6 _ [] c _ hm (by simp; omega) (fun N2 G A2 => ⟨rfl, hf N2 G A2⟩)
  · refine sp_goes (d := d + 2) k6 M1 [] c _ hA (by simp; omega) (fun N F A => ⟨_, rfl, F1.1.trans F.1, ?_⟩)
    obtain ⟨hm, hf⟩ := fin _ N l2 F A
    subst cb
    refine ms _ N (F1.1.trans F.1) (e18 N F) ⟨fun h => absurd ⟨hpn, by decide⟩ h, fun _ _ => ⟨fun h => absurd h (by decide), fun _ => ?_, fun _ h => absurd rfl h⟩⟩
    exact sm_goes (d := d + 2) k6 _ [] c _ hm (by simp; omega) (fun N2 G A2 => ⟨rfl, hf N2 G A2⟩)
  · refine sp_tells (d := d + 1) k6 M1 [] c _ hA (by simp; omega) (fun N F A => ⟨_, rfl, F1.1.trans F.1, ?_⟩)
    obtain ⟨hm, hf⟩ := fin _ N l3 F A
    subst cb
    refine ms _ N (F1.1.trans F.1) (e18 N F) ⟨fun h => absurd ⟨hpn, by decide⟩ h, fun _ _ => ⟨fun h => absurd h (by decide), fun h => absurd h (by decide), fun _ _ => ?_⟩⟩
    exact sm_tells (d := d) k6 _ [] c _ hm (by simp; omega) (fun N2 G A2 => ⟨rfl, hf N2 G A2⟩)
  · simp only [ile, ieq, Int32.reduceToInt] at z c0 c1' c2
    omega
end
