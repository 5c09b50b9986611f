/-! the law's start: what the statement gives of it -/
theorem fl_ex : ∀ i : Fin 11, Cond.exactly (.string "WrongClocks$Text" (89 + 2 * i.val)) "java/lang/String" ∈ flatC (Jvm.Cond.and given_1 narrow_1) := by decide +kernel
theorem fl_co : ∀ i : Fin 11, Cond.eq (.field (.string "WrongClocks$Text" (89 + 2 * i.val)) "java/lang/String" "coder" "B") (.int 0) ∈ flatC (Jvm.Cond.and given_1 narrow_1) := by decide +kernel
theorem fl_ar : ∀ i : Fin 11, Cond.arrayOf (.field (.string "WrongClocks$Text" (89 + 2 * i.val)) "java/lang/String" "value" "[B") .byte ∈ flatC (Jvm.Cond.and given_1 narrow_1) := by decide +kernel
theorem fl_le : ∀ i : Fin 11, Cond.eq (.length (.field (.string "WrongClocks$Text" (89 + 2 * i.val)) "java/lang/String" "value" "[B")) (.int (Int32.ofNat (skLen.getD i.val 0))) ∈ flatC (Jvm.Cond.and given_1 narrow_1) := by decide +kernel
theorem fl_el : ∀ i : Fin 11, ∀ j : Fin 8, j.val < skLen.getD i.val 0 → Cond.eq (.elem (.field (.string "WrongClocks$Text" (89 + 2 * i.val)) "java/lang/String" "value" "[B") (.int (Int32.ofNat j.val))) (.int ((skByt.getD i.val []).getD j.val 0)) ∈ flatC (Jvm.Cond.and given_1 narrow_1) := by decide +kernel
theorem fl_ne : ∀ i j : Fin 11, i.val < j.val → Cond.not (.eq (.string "WrongClocks$Text" (89 + 2 * i.val)) (.string "WrongClocks$Text" (89 + 2 * j.val))) ∈ flatC (Jvm.Cond.and given_1 narrow_1) := by decide +kernel
theorem fl_cs : Cond.eq (.static "java/lang/String" "COMPACT_STRINGS" "Z") (.int 1) ∈ flatC (Jvm.Cond.and given_1 narrow_1) := by decide +kernel
theorem fl_si : Cond.isRef (.static "jdk/internal/util/Preconditions" "SIOOBE_FORMATTER" "Ljava/util/function/BiFunction;") ∈ flatC (Jvm.Cond.and given_1 narrow_1) := by decide +kernel
theorem tb_sr : ∀ i : Fin 11, Cond.stringRef "WrongClocks$Text" (89 + 2 * i.val) (skTx i.val) ∈ lw_tbl := by decide +kernel
theorem tb_nw : ∀ q ∈ nw_l, nw_q q ∈ lw_tbl := by decide +kernel
theorem sk_len : ∀ i : Fin 11, skLen.getD i.val 0 ≤ 7 := by decide
theorem law_strings {s : State} {b : Nat} (hgv : (Jvm.Cond.and given_1 narrow_1).before #[Value.ref b] s = true) (hts : ∀ w ∈ lw_tbl, w.before #[Value.ref b] s = true) : ∃ adK adV : Nat → Nat, (∀ i : Nat, i < 11 → vk_R "WrongClocks$Text" (89 + 2 * i) (skTx i) (adK i) s) ∧ vk_S 11 skLen skByt adK adV (fun q : Nat => s.heap.size ≤ q) s s.heap := by
  have hs := flat_of_before _ hgv
  obtain ⟨adK, adV, h1, h2⟩ := vk_Sof (args := #[Value.ref b]) (s := s) (N := 11) (tm := fun i => .string "WrongClocks$Text" (89 + 2 * i)) (len := skLen) (byt := skByt) (A := fun q : Nat => s.heap.size ≤ q) (fun i hi => by have := sk_len ⟨i, hi⟩; have : skLen.getD i 0 ≤ 7 := this; omega) (fun i hi => hs _ (fl_ex ⟨i, hi⟩)) (fun i hi => hs _ (fl_co ⟨i, hi⟩)) (fun i hi => hs _ (fl_ar ⟨i, hi⟩)) (fun i hi => hs _ (fl_le ⟨i, hi⟩)) (fun i hi j hj => hs _ (fl_el ⟨i, hi⟩ ⟨j, by have := sk_len ⟨i, hi⟩; have : skLen.getD i 0 ≤ 7 := this; omega⟩ hj)) (fun i j hi hj hne => by
    rcases Nat.lt_or_gt_of_ne hne with h | h
    · exact Or.inl (hs _ (fl_ne ⟨i, hi⟩ ⟨j, hj⟩ h))
    · exact Or.inr (hs _ (fl_ne ⟨j, hj⟩ ⟨i, hi⟩ h))) (fun a ha => Nat.not_le.mpr ha)
  exact ⟨adK, adV, fun i hi => vk_R.of (hts _ (tb_sr ⟨i, hi⟩)) (h2 i hi), h1⟩
theorem law_cx {p : Program} {s : State} {m : MethodId} {meth : Method} {c : Code} {b L : Nat} {xs : Nat → Int32} (C0 : lw_At p s m meth c b L xs) : ∃ (D : va_G) (cI cZ cC cH : ClassId), LC p s m c D cI cZ cC cH b ∧ AO s := by
  obtain ⟨hx, hb, hr, hml, hown, hts, hX, hbl, hlocks, hgv⟩ := C0
  obtain ⟨c0, i0, k0⟩ := u_known (C := RX0) (T := TX0) (N := 6) (n := 6) hts inX0 (hts (.instantiable RX0 6) (by decide +kernel))
  obtain ⟨c1, i1, k1⟩ := u_known (C := RX1) (T := TX1) (N := 3) (n := 3) hts inX1 (hts (.instantiable RX1 3) (by decide +kernel))
  obtain ⟨c2, i2, k2⟩ := u_known (C := RX2) (T := TX2) (N := 4) (n := 4) hts inX2 (hts (.instantiable RX2 4) (by decide +kernel))
  obtain ⟨c3, i3, k3⟩ := u_known (C := RX3) (T := TX3) (N := 4) (n := 4) hts inX3 (hts (.instantiable RX3 4) (by decide +kernel))
  obtain ⟨c4, i4, k4⟩ := u_known (C := RX4) (T := TX4) (N := 4) (n := 4) hts inX4 (hts (.instantiable RX4 4) (by decide +kernel))
  obtain ⟨c5, i5, k5⟩ := u_known (C := RX5) (T := TX5) (N := 6) (n := 6) hts inX5 (hts (.instantiable RX5 6) (by decide +kernel))
  obtain ⟨c6, i6, k6⟩ := u_known (C := RX6) (T := TX6) (N := 9) (n := 9) hts inX6 (hts (.instantiable RX6 9) (by decide +kernel))
  obtain ⟨c7, i7, k7⟩ := u_known (C := RX7) (T := TX7) (N := 26) (n := 26) hts inX7 (hts (.instantiable RX7 26) (by decide +kernel))
  obtain ⟨adK, adV, hR, hS⟩ := law_strings hgv hts
  have hs := flat_of_before _ hgv
  have ha1 : va_AO "WrongClocks$Clock" s := va_AO.of (hts (.arrayOver (.object "WrongClocks$Clock")) (by decide +kernel))
  have ha2 : va_AO "WrongClocks$House" s := va_AO.of (hts (.arrayOver (.object "WrongClocks$House")) (by decide +kernel))
  obtain ⟨cI, kI, pI, n1, n2, n3⟩ := Cond.arrayClass_spec (args := #[Value.ref b]) (first := s) (o := none) (s := s) (idx := []) (type := .int) (hts (.arrayClass .int) (by decide +kernel))
  obtain ⟨cZ, kZ, pZ, z1, z2, z3⟩ := Cond.arrayClass_spec (args := #[Value.ref b]) (first := s) (o := none) (s := s) (idx := []) (type := .boolean) (hts (.arrayClass .boolean) (by decide +kernel))
  obtain ⟨pC, cC, kC, a1, -, a3, a4, a5⟩ := Cond.arrayOver_spec ha1
  obtain ⟨pH, cH, kH, b1, -, b3, b4, b5⟩ := Cond.arrayOver_spec ha2
  have hA : ∀ a : Nat, a < s.heap.size → ¬ (fun q : Nat => s.heap.size ≤ q) a := fun a ha => Nat.not_le.mpr ha
  refine ⟨(fun k => match k with | 0 => c0 | 1 => c1 | 2 => c2 | 3 => c3 | 4 => c4 | 5 => c5 | 6 => c6 | _ => c7, fun k => match k with | 0 => i0 | 1 => i1 | 2 => i2 | 3 => i3 | 4 => i4 | 5 => i5 | 6 => i6 | 100 => adK | 101 => adV | _ => i7), cI, cZ, cC, cH, ⟨hx, hb, hml, hown, fun w hw => hts w (wsL_law_in w hw), ⟨?_, ?_⟩, ⟨fun q hq => va_Nw.of rfl (hts _ (tb_nw q hq)), hR, hS, va_Zof (hts (.laysStatic "java/lang/String" "COMPACT_STRINGS" "Z") (by decide +kernel)) (hts (.initialized "java/lang/String") (by decide +kernel)) (va_eqt (hs _ fl_cs)) hA, va_Zqof (hts (.laysStatic "jdk/internal/util/Preconditions" "SIOOBE_FORMATTER" "Ljava/util/function/BiFunction;") (by decide +kernel)) (hts (.initialized "jdk/internal/util/Preconditions") (by decide +kernel)) (hs _ fl_si) hA⟩, fun q h => h⟩, ha1, ha2⟩
  · intro k q hq
    match k, hq with
    | 0, hq => cases hq; exact k0
    | 1, hq => cases hq; exact k1
    | 2, hq => cases hq; exact k2
    | 3, hq => cases hq; exact k3
    | 4, hq => cases hq; exact k4
    | 5, hq => cases hq; exact k5
    | 6, hq => cases hq; exact k6
    | 7, hq => cases hq; exact k7
    | k + 8, hq => simp [vwCl] at hq
  · intro k q hq
    match k, hq with
    | 0, hq => cases hq; exact ⟨fun n z => ⟨fun k h => (by cases h), kI, n2, pI, n3⟩, n1⟩
    | 1, hq => cases hq; exact ⟨fun n z => ⟨fun k h => (by cases h), kZ, z2, pZ, z3⟩, z1⟩
    | 2, hq => cases hq; exact ⟨fun n z => ⟨fun k h => (by cases h), kC, a3, pC, a4⟩, kC, pC, a3, a4, a1, a5⟩
    | 3, hq => cases hq; exact ⟨fun n z => ⟨fun k h => (by cases h), kH, b3, pH, b4⟩, kH, pH, b3, b4, b1, b5⟩
    | k + 4, hq => simp [TY] at hq
