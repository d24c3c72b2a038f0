/-! the law: all that holds at its entry, and its walk from there -/
abbrev gn_ : List Cond := flatC (Jvm.Cond.and given_1 narrow_1)
def tmS (i : Nat) : Term := .string RX6 (st_i.getD i 0)
def tmV (i : Nat) : Term := .field (tmS i) "java/lang/String" "value" "[B"
def tmT : Term := .static "ElevenYards$ShootOut" "TENS" "[I"
theorem gn_nc : ∀ q ∈ nc_l, Cond.not (.castable q.1 q.2) ∈ gn_ := by decide +kernel
theorem gn_ex : ∀ i : Nat, i < 7 → Cond.exactly (tmS i) "java/lang/String" ∈ gn_ := by decide +kernel
theorem gn_co : ∀ i : Nat, i < 7 → Cond.eq (.field (tmS i) "java/lang/String" "coder" "B") (.int 0) ∈ gn_ := by decide +kernel
theorem gn_ar : ∀ i : Nat, i < 7 → Cond.arrayOf (tmV i) .byte ∈ gn_ := by decide +kernel
theorem gn_le : ∀ i : Nat, i < 7 → Cond.eq (.length (tmV i)) (.int (Int32.ofNat (st_n.getD i 0))) ∈ gn_ := by decide +kernel
theorem gn_el : ∀ i : Nat, i < 7 → ∀ j : Nat, j < st_n.getD i 0 → Cond.eq (.elem (tmV i) (.int (Int32.ofNat j))) (.int ((st_b.getD i []).getD j 0)) ∈ gn_ := by decide +kernel
theorem gn_ne : ∀ i : Nat, i < 7 → ∀ j : Nat, j < 7 → i ≠ j → Cond.not (Cond.eq (tmS i) (tmS j)) ∈ gn_ ∨ Cond.not (Cond.eq (tmS j) (tmS i)) ∈ gn_ := by decide +kernel
theorem gn_ta : Cond.arrayOf tmT .int ∈ gn_ := by decide +kernel
theorem gn_tl : Cond.eq (.length tmT) (.int (Int32.ofNat 5)) ∈ gn_ := by decide +kernel
theorem gn_te : ∀ j : Nat, j < 5 → Cond.eq (.elem tmT (.int (Int32.ofNat j))) (.int (tens.getD j 0)) ∈ gn_ := by decide +kernel
theorem gn_cs : Cond.eq (.static "java/lang/String" "COMPACT_STRINGS" "Z") (.int 1) ∈ gn_ := by decide +kernel
theorem gn_sf : Cond.isRef (.static "jdk/internal/util/Preconditions" "SIOOBE_FORMATTER" "Ljava/util/function/BiFunction;") ∈ gn_ := by decide +kernel
theorem gw_ti : Cond.initialized "ElevenYards$ShootOut" ∈ lw_tbl := List.mem_of_getElem? (i := 85) (by decide +kernel)
theorem gw_si : Cond.initialized "java/lang/String" ∈ lw_tbl := List.mem_of_getElem? (i := 87) (by decide +kernel)
theorem gw_pi : Cond.initialized "jdk/internal/util/Preconditions" ∈ lw_tbl := List.mem_of_getElem? (i := 89) (by decide +kernel)
theorem gw_ts : Cond.laysStatic "ElevenYards$ShootOut" "TENS" "[I" ∈ lw_tbl := List.mem_of_getElem? (i := 823) (by decide +kernel)
theorem gw_ss : Cond.laysStatic "java/lang/String" "COMPACT_STRINGS" "Z" ∈ lw_tbl := List.mem_of_getElem? (i := 364) (by decide +kernel)
theorem gw_ps : Cond.laysStatic "jdk/internal/util/Preconditions" "SIOOBE_FORMATTER" "Ljava/util/function/BiFunction;" ∈ lw_tbl := List.mem_of_getElem? (i := 380) (by decide +kernel)
def st_w : List Nat := [350, 403, 408, 409, 434, 435, 436]
theorem gw_at : ∀ i : Nat, i < 7 → lw_tbl[st_w.getD i 0]? = some (Cond.stringRef RX6 (st_i.getD i 0) (st_x.getD i "")) := by decide +kernel
theorem gw_st {i : Nat} (hi : i < 7) : Cond.stringRef RX6 (st_i.getD i 0) (st_x.getD i "") ∈ lw_tbl := List.mem_of_getElem? (gw_at i hi)
/-- what lay there before, by its numbers -/
def xt_ (adK adV : Nat → Nat) (t b : Nat) (k : Nat) : Nat := if k < 7 then adK k else if k = 7 then t else if k = 300 then b else adV (k - 100)
theorem xt_k {adK adV : Nat → Nat} {t b k : Nat} (h : k < 7) : xt_ adK adV t b k = adK k := by
  unfold xt_
  rw [if_pos h]
theorem xt_v {adK adV : Nat → Nat} {t b k : Nat} (h : k < 7) : xt_ adK adV t b (100 + k) = adV k := by
  unfold xt_
  rw [if_neg (by omega), if_neg (by omega), if_neg (by omega), Nat.add_sub_cancel_left]
theorem en_D {p : Program} {s : State} {m : MethodId} {meth : Method} {c : Code} (l : Launch) {b L : Nat} {xs : Nat → Int32} (C0 : lw_At p s m meth c b L xs) :
    ∃ D : GD, D.1 = l ∧ gB D = s.heap.size ∧ D.2.2.2.2.1 300 = b ∧ ExOk D ∧ VF D s ∧ XF D s s.heap := by
  obtain ⟨hx, hb, hr, hml, hown, hts, hX, hbl, hlocks, hgv⟩ := id C0
  have hs : ∀ c ∈ gn_, c.before #[Value.ref b] s = true := flat_of_before _ hgv
  have hok : ∀ w ∈ lw_ok, w.before #[Value.ref b] s = true := fun w hw => hts w (List.mem_filter.mp hw).1
  obtain ⟨D1, hKn⟩ := kn_ex hts hok
  obtain ⟨C, hAr⟩ := ar_all hts
  have hA : ∀ a : Nat, a < s.heap.size → ¬ (fun q : Nat => s.heap.size ≤ q) a := fun a ha => Nat.not_le.mpr ha
  obtain ⟨adK, adV, hvs, hev⟩ := vk_Sof (args := #[Value.ref b]) (s := s) (N := 7) (tm := tmS) (len := st_n) (byt := st_b) (A := fun q : Nat => s.heap.size ≤ q)
    (by decide) (fun i hi => hs _ (gn_ex i hi)) (fun i hi => hs _ (gn_co i hi)) (fun i hi => hs _ (gn_ar i hi)) (fun i hi => hs _ (gn_le i hi)) (fun i hi j hj => hs _ (gn_el i hi j hj))
    (fun i j hi hj hij => (gn_ne i hi j hj hij).imp (hs _) (hs _)) hA
  obtain ⟨t, ht, hT⟩ := va_Tof (args := #[Value.ref b]) (s := s) (tm := tmT) (ty := .int) (N := 5) (f := fun j => .int (tens.getD j 0)) (A := fun q : Nat => s.heap.size ≤ q) (by decide) (hs _ gn_ta) (va_eqt (hs _ gn_tl)) (fun j hj => va_eqt (hs _ (gn_te j hj))) hA
  have hTB : TB s := fun w hw hk => wok_warm hk (State.WarmedH.refl s) (hts w hw)
  refine ⟨(l, D1, C, s.heap.size, xt_ adK adV t b, adV), rfl, rfl, rfl, fun j hj => xt_v hj, ⟨⟨hKn, hAr⟩, hTB, fun q hq => va_Nc.of (hs _ (gn_nc q hq))⟩, ?_⟩
  refine ⟨va_Zof (hts _ gw_ts) (hts _ gw_ti) ht hA, hT, va_Zof (hts _ gw_ss) (hts _ gw_si) (va_eqt (hs _ gn_cs)) hA, va_Zqof (hts _ gw_ps) (hts _ gw_pi) (hs _ gn_sf) hA, ⟨fun i hi => ?_, fun i j hi hj e => ?_⟩, fun i hi => ?_⟩
  · have e1 : xt_ adK adV t b i = adK i := xt_k hi
    show va_O _ (xt_ adK adV t b i) _ _ _ ∧ va_OF _ _ _ _ (xt_ adK adV t b i) _ _ _ ∧ va_OF _ _ _ _ (xt_ adK adV t b i) _ _ _ ∧ _
    rw [e1]
    exact hvs.1 i hi
  · have e2 : adK i = adK j := by
      have e3 : xt_ adK adV t b i = xt_ adK adV t b j := e
      rwa [xt_k hi, xt_k hj] at e3
    exact hvs.2 i j hi hj e2
  · show vk_R RX6 (st_i.getD i 0) (st_x.getD i "") (xt_ adK adV t b i) s
    rw [xt_k hi]
    exact vk_R.of (hts _ (gw_st hi)) (hev i hi)
theorem rp_0 {D : GD} {H : Heap} (h : gB D = H.size) : Rp D st_0 H := by
  refine ⟨fun k q hk => ?_, h.symm, Nat.zero_le _⟩
  have e : wd D st_0 = [] := rfl
  rw [e] at hk
  cases hk
theorem whole_start {p : Program} {e : Env} {s : State} {m : MethodId} {below : List Frame} {meth : Method} {c : Code} (l : Launch) (hflags : l.flags = flags0) {b L : Nat} {xs : Nat → Int32} (hL : L ≤ 4608) (C0 : lw_At p s m meth c b L xs) : W p l e room_1 s m #[Value.ref b] below meth c s.heap [] 0 0 (lw_Z below #[Value.ref b] s) (entryFrame m ([Value.ref b] : List Value).toArray 4) := by
  obtain ⟨D, rfl, hg, h3, hE, hV, hXF⟩ := en_D l C0
  obtain ⟨hx, hb, hr, hml, hown, hts, hX, hbl, hlocks, hgv⟩ := id C0
  have hl := lv_entry ([.ref b]) (n := 4) (Nat.le_of_ble_eq_true rfl)
  rw [lg_entry_eq]
  generalize (lg_sl ([.ref b]) ++ List.replicate (4 - (lg_sl ([.ref b])).length) Slot.unset).toArray = ls at hl ⊢
  have e0 : rh D 1000300 = b := by
    unfold rh
    rw [if_neg (by decide)]
    exact h3
  have hl' : lv_has ls 4 (lc D [(0, .ref 1000300)]) := by
    show lv_has ls 4 [(0, .ref (rh D 1000300))]
    rw [e0]
    exact hl
  exact lw_begin (D := D) (b := b) (L := L) (xs := xs) hE hL p e s m below meth c s.heap [] ls 0 0 ⟨hx, hb, hr, hml, hown, hlocks, rfl, hV, hXF, Nat.le_of_eq hg⟩ ⟨hX, by rw [hg]; exact hbl, hg, h3⟩ (by decide) (by decide) (rp_0 hg) va_S.rf hl'
