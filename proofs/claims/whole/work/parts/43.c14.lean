def F_X5_wordOf (x0 : Int32) : Nat := (if x0 = 0 then 0 else if x0 = 1 then 1 else if x0 = 2 then 2 else if x0 = 3 then 3 else if x0 = 4 then 4 else 5)
set_option maxHeartbeats 2000000 in
set_option maxRecDepth 100000 in
theorem c_X5_wordOf (l : Launch) (D : va_G) (cI cZ cC cH : ClassId)  (x0 : Int32)  : MC l D (TY cI cZ cC cH) yX5_wordOf wsX5_wordOf 0 0 [.int x0] [] (some (.ref (D.2 100 (F_X5_wordOf x0)))) [] := by
  obtain ⟨R, hF⟩ : ∃ R, R = F_X5_wordOf x0 := ⟨_, rfl⟩
  rw [← hF]
  refine MC.of (cc := cX5_wordOf) (maxL := 1) (ret := (some (.object "java/lang/String"))) RX5 rfl (by decide +kernel) rfl (Nat.le_of_ble_eq_true rfl) ?_
  intro p e s m args below meth c A Q KX RT hh ls hl
  have z0 : (0 : Int32).toInt = 0 := rfl
  have z1 : (1 : Int32).toInt = 1 := rfl
  have zm : (-1 : Int32).toInt = -1 := rfl
  have hx := KX.1
  have hb := KX.2.1
  have hl : lv_has ls 1 [(0, .int x0)] := hl
  unfold F_X5_wordOf at hF
  refine lv_iload_n hx hb dX5_wordOf_0 rfl (lv_at hl 0 rfl) ?_
  by_cases c_1_0 : x0 = 0
  · replace hF := hF.trans (if_pos c_1_0)
    have i_1_0 : x0.toInt = 0 := congrArg Int32.toInt c_1_0
    refine W.eq (g2 := F0 m 1 ls (.int 0 :: [])) (by rw [c_1_0]) ?_
    refine lv_tableIn (tgt := 36) hx hb dX5_wordOf_1 (by decide) (by decide) rfl (by decide) ?_
    refine g_ldcS KX 0 (by decide) rfl dX5_wordOf_36 ?_
    exact RT _ _ _ _ _ _ hh (rfl) (Or.inr (Or.inr (Or.inr ⟨_, _, rfl, by rw [hF], dX5_wordOf_38, rfl, Or.inl ⟨_, rfl⟩, Or.inr ⟨_, rfl⟩⟩)))
  replace hF := hF.trans (if_neg c_1_0)
  by_cases c_1_1 : x0 = 1
  · replace hF := hF.trans (if_pos c_1_1)
    have i_1_1 : x0.toInt = 1 := congrArg Int32.toInt c_1_1
    refine W.eq (g2 := F0 m 1 ls (.int 1 :: [])) (by rw [c_1_1]) ?_
    refine lv_tableIn (tgt := 39) hx hb dX5_wordOf_1 (by decide) (by decide) rfl (by decide) ?_
    refine g_ldcS KX 1 (by decide) rfl dX5_wordOf_39 ?_
    exact RT _ _ _ _ _ _ hh (rfl) (Or.inr (Or.inr (Or.inr ⟨_, _, rfl, by rw [hF], dX5_wordOf_41, rfl, Or.inl ⟨_, rfl⟩, Or.inr ⟨_, rfl⟩⟩)))
  replace hF := hF.trans (if_neg c_1_1)
  by_cases c_1_2 : x0 = 2
  · replace hF := hF.trans (if_pos c_1_2)
    have i_1_2 : x0.toInt = 2 := congrArg Int32.toInt c_1_2
    refine W.eq (g2 := F0 m 1 ls (.int 2 :: [])) (by rw [c_1_2]) ?_
    refine lv_tableIn (tgt := 42) hx hb dX5_wordOf_1 (by decide) (by decide) rfl (by decide) ?_
    refine g_ldcS KX 2 (by decide) rfl dX5_wordOf_42 ?_
    exact RT _ _ _ _ _ _ hh (rfl) (Or.inr (Or.inr (Or.inr ⟨_, _, rfl, by rw [hF], dX5_wordOf_44, rfl, Or.inl ⟨_, rfl⟩, Or.inr ⟨_, rfl⟩⟩)))
  replace hF := hF.trans (if_neg c_1_2)
  by_cases c_1_3 : x0 = 3
  · replace hF := hF.trans (if_pos c_1_3)
    have i_1_3 : x0.toInt = 3 := congrArg Int32.toInt c_1_3
    refine W.eq (g2 := F0 m 1 ls (.int 3 :: [])) (by rw [c_1_3]) ?_
    refine lv_tableIn (tgt := 45) hx hb dX5_wordOf_1 (by decide) (by decide) rfl (by decide) ?_
    refine g_ldcS KX 3 (by decide) rfl dX5_wordOf_45 ?_
    exact RT _ _ _ _ _ _ hh (rfl) (Or.inr (Or.inr (Or.inr ⟨_, _, rfl, by rw [hF], dX5_wordOf_47, rfl, Or.inl ⟨_, rfl⟩, Or.inr ⟨_, rfl⟩⟩)))
  replace hF := hF.trans (if_neg c_1_3)
  by_cases c_1_4 : x0 = 4
  · replace hF := hF.trans (if_pos c_1_4)
    have i_1_4 : x0.toInt = 4 := congrArg Int32.toInt c_1_4
    refine W.eq (g2 := F0 m 1 ls (.int 4 :: [])) (by rw [c_1_4]) ?_
    refine lv_tableIn (tgt := 48) hx hb dX5_wordOf_1 (by decide) (by decide) rfl (by decide) ?_
    refine g_ldcS KX 4 (by decide) rfl dX5_wordOf_48 ?_
    exact RT _ _ _ _ _ _ hh (rfl) (Or.inr (Or.inr (Or.inr ⟨_, _, rfl, by rw [hF], dX5_wordOf_50, rfl, Or.inl ⟨_, rfl⟩, Or.inr ⟨_, rfl⟩⟩)))
  replace hF := hF.trans (if_neg c_1_4)
  refine lv_tableOut (tgt := 51) hx hb dX5_wordOf_1 (by have h1 := sw_ne (y := 0) (k := 0) c_1_0 rfl; have h2 := sw_ne (y := 1) (k := 1) c_1_1 rfl; have h3 := sw_ne (y := 2) (k := 2) c_1_2 rfl; have h4 := sw_ne (y := 3) (k := 3) c_1_3 rfl; have h5 := sw_ne (y := 4) (k := 4) c_1_4 rfl; omega) (by decide) ?_
  refine g_ldcS KX 5 (by decide) rfl dX5_wordOf_51 ?_
  exact RT _ _ _ _ _ _ hh (rfl) (Or.inr (Or.inr (Or.inr ⟨_, _, rfl, by rw [hF], dX5_wordOf_53, rfl, Or.inl ⟨_, rfl⟩, Or.inr ⟨_, rfl⟩⟩)))
def F_X5_numbersOf (x0 : Int32) : Nat := (if x0 = 0 then 6 else if x0 = 1 then 6 else if x0 = 2 then 7 else if x0 = 3 then 8 else if x0 = 4 then 9 else 10)
set_option maxHeartbeats 2000000 in
set_option maxRecDepth 100000 in
theorem c_X5_numbersOf (l : Launch) (D : va_G) (cI cZ cC cH : ClassId)  (x0 : Int32)  : MC l D (TY cI cZ cC cH) yX5_numbersOf wsX5_numbersOf 0 0 [.int x0] [] (some (.ref (D.2 100 (F_X5_numbersOf x0)))) [] := by
  obtain ⟨R, hF⟩ : ∃ R, R = F_X5_numbersOf x0 := ⟨_, rfl⟩
  rw [← hF]
  refine MC.of (cc := cX5_numbersOf) (maxL := 1) (ret := (some (.object "java/lang/String"))) RX5 rfl (by decide +kernel) rfl (Nat.le_of_ble_eq_true rfl) ?_
  intro p e s m args below meth c A Q KX RT hh ls hl
  have z0 : (0 : Int32).toInt = 0 := rfl
  have z1 : (1 : Int32).toInt = 1 := rfl
  have zm : (-1 : Int32).toInt = -1 := rfl
  have hx := KX.1
  have hb := KX.2.1
  have hl : lv_has ls 1 [(0, .int x0)] := hl
  unfold F_X5_numbersOf at hF
  refine lv_iload_n hx hb dX5_numbersOf_0 rfl (lv_at hl 0 rfl) ?_
  by_cases c_1_0 : x0 = 0
  · replace hF := hF.trans (if_pos c_1_0)
    have i_1_0 : x0.toInt = 0 := congrArg Int32.toInt c_1_0
    refine W.eq (g2 := F0 m 1 ls (.int 0 :: [])) (by rw [c_1_0]) ?_
    refine lv_tableIn (tgt := 36) hx hb dX5_numbersOf_1 (by decide) (by decide) rfl (by decide) ?_
    refine g_ldcS KX 6 (by decide) rfl dX5_numbersOf_36 ?_
    exact RT _ _ _ _ _ _ hh (rfl) (Or.inr (Or.inr (Or.inr ⟨_, _, rfl, by rw [hF], dX5_numbersOf_38, rfl, Or.inl ⟨_, rfl⟩, Or.inr ⟨_, rfl⟩⟩)))
  replace hF := hF.trans (if_neg c_1_0)
  by_cases c_1_1 : x0 = 1
  · replace hF := hF.trans (if_pos c_1_1)
    have i_1_1 : x0.toInt = 1 := congrArg Int32.toInt c_1_1
    refine W.eq (g2 := F0 m 1 ls (.int 1 :: [])) (by rw [c_1_1]) ?_
    refine lv_tableIn (tgt := 36) hx hb dX5_numbersOf_1 (by decide) (by decide) rfl (by decide) ?_
    refine g_ldcS KX 6 (by decide) rfl dX5_numbersOf_36 ?_
    exact RT _ _ _ _ _ _ hh (rfl) (Or.inr (Or.inr (Or.inr ⟨_, _, rfl, by rw [hF], dX5_numbersOf_38, rfl, Or.inl ⟨_, rfl⟩, Or.inr ⟨_, rfl⟩⟩)))
  replace hF := hF.trans (if_neg c_1_1)
  by_cases c_1_2 : x0 = 2
  · replace hF := hF.trans (if_pos c_1_2)
    have i_1_2 : x0.toInt = 2 := congrArg Int32.toInt c_1_2
    refine W.eq (g2 := F0 m 1 ls (.int 2 :: [])) (by rw [c_1_2]) ?_
    refine lv_tableIn (tgt := 39) hx hb dX5_numbersOf_1 (by decide) (by decide) rfl (by decide) ?_
    refine g_ldcS KX 7 (by decide) rfl dX5_numbersOf_39 ?_
    exact RT _ _ _ _ _ _ hh (rfl) (Or.inr (Or.inr (Or.inr ⟨_, _, rfl, by rw [hF], dX5_numbersOf_41, rfl, Or.inl ⟨_, rfl⟩, Or.inr ⟨_, rfl⟩⟩)))
  replace hF := hF.trans (if_neg c_1_2)
  by_cases c_1_3 : x0 = 3
  · replace hF := hF.trans (if_pos c_1_3)
    have i_1_3 : x0.toInt = 3 := congrArg Int32.toInt c_1_3
    refine W.eq (g2 := F0 m 1 ls (.int 3 :: [])) (by rw [c_1_3]) ?_
    refine lv_tableIn (tgt := 42) hx hb dX5_numbersOf_1 (by decide) (by decide) rfl (by decide) ?_
    refine g_ldcS KX 8 (by decide) rfl dX5_numbersOf_42 ?_
    exact RT _ _ _ _ _ _ hh (rfl) (Or.inr (Or.inr (Or.inr ⟨_, _, rfl, by rw [hF], dX5_numbersOf_44, rfl, Or.inl ⟨_, rfl⟩, Or.inr ⟨_, rfl⟩⟩)))
  replace hF := hF.trans (if_neg c_1_3)
  by_cases c_1_4 : x0 = 4
  · replace hF := hF.trans (if_pos c_1_4)
    have i_1_4 : x0.toInt = 4 := congrArg Int32.toInt c_1_4
    refine W.eq (g2 := F0 m 1 ls (.int 4 :: [])) (by rw [c_1_4]) ?_
    refine lv_tableIn (tgt := 45) hx hb dX5_numbersOf_1 (by decide) (by decide) rfl (by decide) ?_
    refine g_ldcS KX 9 (by decide) rfl dX5_numbersOf_45 ?_
    exact RT _ _ _ _ _ _ hh (rfl) (Or.inr (Or.inr (Or.inr ⟨_, _, rfl, by rw [hF], dX5_numbersOf_47, rfl, Or.inl ⟨_, rfl⟩, Or.inr ⟨_, rfl⟩⟩)))
  replace hF := hF.trans (if_neg c_1_4)
  refine lv_tableOut (tgt := 48) hx hb dX5_numbersOf_1 (by have h1 := sw_ne (y := 0) (k := 0) c_1_0 rfl; have h2 := sw_ne (y := 1) (k := 1) c_1_1 rfl; have h3 := sw_ne (y := 2) (k := 2) c_1_2 rfl; have h4 := sw_ne (y := 3) (k := 3) c_1_3 rfl; have h5 := sw_ne (y := 4) (k := 4) c_1_4 rfl; omega) (by decide) ?_
  refine g_ldcS KX 10 (by decide) rfl dX5_numbersOf_48 ?_
  exact RT _ _ _ _ _ _ hh (rfl) (Or.inr (Or.inr (Or.inr ⟨_, _, rfl, by rw [hF], dX5_numbersOf_50, rfl, Or.inl ⟨_, rfl⟩, Or.inr ⟨_, rfl⟩⟩)))
theorem wordOf_lt (x : Int32) : F_X5_wordOf x < 11 := by
  unfold F_X5_wordOf
  repeat' split
  all_goals decide
theorem numbersOf_lt (x : Int32) : F_X5_numbersOf x < 11 := by
  unfold F_X5_numbersOf
  repeat' split
  all_goals decide
theorem slen_le : ∀ {j : Nat}, j < 11 → 0 ≤ (slen j).toInt ∧ (slen j).toInt ≤ 7 := by decide +kernel
theorem tok119 {tl : Int32} {tb : Nat → Int32} {s : Int32} (ht : tl.toInt ≤ 200) : ∀ (n : Nat) (w : Int32), 0 ≤ w.toInt → 0 ≤ (F_X5_takeToken_119 tl tb s n w).2.toInt := by
  intro n
  induction n with
  | zero => intro w _; exact Int.le_refl _
  | succ n ih =>
    intro w h
    rw [F_X5_takeToken_119.eq_2]
    split
    · exact h
    · rename_i h1
      have h1 := ti_nle h1
      split
      · exact h
      · exact ih _ (by rw [ti_inc (by omega)]; omega)
theorem tok67 {tl : Int32} {tb : Nat → Int32} {s : Int32} (ht : tl.toInt ≤ 200) : ∀ (n : Nat) (w : Int32), 0 ≤ w.toInt → 0 ≤ (F_X5_takeToken_67 tl tb s n w).2.toInt := by
  intro n
  induction n with
  | zero => intro w _; exact Int.le_refl _
  | succ n ih =>
    intro w h
    rw [F_X5_takeToken_67.eq_2]
    split
    · exact h
    · rename_i h1
      have h1 := ti_nle h1
      split
      · exact h
      · exact ih _ (by rw [ti_inc (by omega)]; omega)
theorem tok45 {tl : Int32} {tb : Nat → Int32} {s : Int32} (ht : tl.toInt ≤ 200) (h : 0 ≤ s.toInt) : 0 ≤ (F_X5_takeToken_45 tl tb s).2.toInt := by
  unfold F_X5_takeToken_45
  split
  · split
    · split
      · exact h
      · rename_i h1
        have h1 := ti_nle h1
        show 0 ≤ (s + 1).toInt
        rw [ti_inc (by omega)]; omega
    · exact tok119 ht _ _ h
  · exact tok67 ht _ _ h
theorem tok8 {tl : Int32} {tb : Nat → Int32} (ht : tl.toInt ≤ 200) : ∀ (n : Nat) (w : Int32), 0 ≤ w.toInt → 0 ≤ (F_X5_takeToken_8 tl tb n w).2.toInt := by
  intro n
  induction n with
  | zero => intro w _; exact Int.le_refl _
  | succ n ih =>
    intro w h
    rw [F_X5_takeToken_8.eq_2]
    split
    · exact tok45 ht h
    · rename_i h1
      have h1 := ti_nle h1
      split
      · exact ih _ (by rw [ti_inc (by omega)]; omega)
      · exact tok45 ht h
theorem tok_end {tl te : Int32} {tb : Nat → Int32} (ht : tl.toInt ≤ 200) (h : 0 ≤ te.toInt) : 0 ≤ (F_X5_takeToken tl te tb).2.toInt := tok8 ht _ _ h
theorem ixr0 {a : Int32} (h0 : 0 ≤ a.toInt) (h1 : a.toInt < 8) : vp_in (a * 6) 48 := by
  have e6 : (6 : Int32).toInt = 6 := rfl
  have e := ti_mul (a := a) (b := 6) (by rw [e6]; omega) (by rw [e6]; omega)
  exact vp_in_iff.mpr (by rw [e, e6]; omega)
theorem ixr1 {a b : Int32} (h0 : 0 ≤ a.toInt) (h1 : a.toInt < 8) (g0 : 0 ≤ b.toInt) (g1 : b.toInt < 5) : vp_in (a * 6 + b + 1) 48 := by
  have e6 : (6 : Int32).toInt = 6 := rfl
  have e1 : (1 : Int32).toInt = 1 := rfl
  have e := ti_mul (a := a) (b := 6) (by rw [e6]; omega) (by rw [e6]; omega)
  have e' := ti_add (a := a * 6) (b := b) (by rw [e, e6]; omega) (by rw [e, e6]; omega)
  refine vp_in_iff.mpr ?_
  rw [ti_add (by rw [e', e, e6, e1]; omega) (by rw [e', e, e6, e1]; omega), e', e, e6, e1]
  omega
def F_X5_isTaken_20 (t_length : Int32) (t_start : Int32) (t_bytes : Nat → Int32) (j1 : Nat) : Nat → Int32 → Int32
  | 0, _ => default
  | n + 1, x2_1 => (if (slen j1) ≤ x2_1 then 1 else (if (F_X5_signAt t_length t_bytes (t_start + x2_1)) = (sbyt j1 x2_1) then ((F_X5_isTaken_20 t_length t_start t_bytes j1 n) (x2_1 + 1)) else 0))
def F_X5_isTaken (t_length : Int32) (t_start : Int32) (t_end : Int32) (t_bytes : Nat → Int32) (j1 : Nat) : Int32 := (if (t_end - t_start) = (slen j1) then (F_X5_isTaken_20 t_length t_start t_bytes j1 9 0) else 0)
theorem in_X5_isTaken_X5 : ∀ x ∈ u_ws RX5 TX5 6, x ∈ wsX5_isTaken := by decide +kernel
set_option maxHeartbeats 2000000 in
set_option maxRecDepth 100000 in
theorem c_X5_isTaken (l : Launch) (D : va_G) (cI cZ cC cH : ClassId) (t_o t_a_bytes t_a_rows : Nat) (t_length : Int32) (t_lineCount : Int32) (t_start : Int32) (t_end : Int32) (t_bytes : Nat → Int32) (t_rows : Nat → Int32) (j1 : Nat) (hj : j1 < 11) : MC l D (TY cI cZ cC cH) yX5_isTaken wsX5_isTaken 4 85 [.ref t_o, .ref (D.2 100 j1)] (WTx cI cZ cC cH t_o t_a_bytes t_a_rows t_length t_lineCount t_start t_end t_bytes t_rows) (some (.int (F_X5_isTaken t_length t_start t_end t_bytes j1))) (WTx cI cZ cC cH t_o t_a_bytes t_a_rows t_length t_lineCount t_start t_end t_bytes t_rows) := by
  obtain ⟨R, hF⟩ : ∃ R, R = F_X5_isTaken t_length t_start t_end t_bytes j1 := ⟨_, rfl⟩
  rw [← hF]
  refine MC.of (cc := cX5_isTaken) (maxL := 3) (ret := (some .boolean)) RX5 rfl (by decide +kernel) rfl (Nat.le_of_ble_eq_true rfl) ?_
  intro p e s m args below meth c A Q KX RT hh ls hl
  have z0 : (0 : Int32).toInt = 0 := rfl
  have z1 : (1 : Int32).toInt = 1 := rfl
  have zm : (-1 : Int32).toInt = -1 := rfl
  have hx := KX.1
  have hb := KX.2.1
  have hl : lv_has ls 3 [(0, .ref t_o), (1, .ref (D.2 100 j1))] := hl
  unfold F_X5_isTaken at hF
  obtain ⟨hs0, hs7⟩ := slen_le hj
  refine lv_aload_n hx hb dX5_isTaken_0 rfl (lv_at hl 0 rfl) ?_
  refine g_get KX hh in_X5_isTaken_X5 0 rfl rfl 5 (by decide) rfl (List.mem_of_getElem? (i := 1) rfl) dX5_isTaken_1 ?_
  refine lv_aload_n hx hb dX5_isTaken_4 rfl (lv_at hl 0 rfl) ?_
  refine g_get KX hh in_X5_isTaken_X5 0 rfl rfl 4 (by decide) rfl (List.mem_of_getElem? (i := 2) rfl) dX5_isTaken_5 ?_
  refine lv_isub hx hb dX5_isTaken_8 ?_
  refine lv_aload_n hx hb dX5_isTaken_9 rfl (lv_at hl 1 rfl) ?_
  refine g_callStr (As := []) (rest := [.int (t_end - t_start)]) KX rfl ⟨Nat.le_of_ble_eq_true rfl, Nat.le_of_ble_eq_true rfl⟩ hh hl (cs_J0_length_8abf5 l D cI cZ cC cH  j1 (by first | with_reducible assumption | omega | decide | exact tn_lt (n := 8) (by omega) (by omega))) JN.no 0 gX5_isTaken_J0_length_8abf5 rfl (by decide +kernel) ⟨Nat.le_of_ble_eq_true rfl, Nat.le_of_ble_eq_true rfl⟩ (by first | with_reducible assumption | omega | decide) rfl rfl (Nat.le_of_ble_eq_true rfl) dX5_isTaken_10 (fun H locs hh => ?_)
  refine W.eq (g2 := F0 m 13 ls [.int (slen j1), .int (t_end - t_start)]) rfl ?_
  refine lv_icmp_eq (tgt := 18) hx hb dX5_isTaken_13 (by decide) (fun c_13 => ?_) (fun c_13 => ?_)
  · replace hF := hF.trans (if_pos c_13)
    have i_13 : (t_end - t_start).toInt = (slen j1).toInt := congrArg Int32.toInt c_13
    refine lv_iconst (v := 0) hx hb dX5_isTaken_18 (by decide) ?_
    refine lv_istore_n (lv' := [(2, .int 0), (0, .ref t_o), (1, .ref (D.2 100 j1))]) hx hb dX5_isTaken_19 rfl hl (Nat.le_of_ble_eq_true rfl) rfl (fun ls hl => ?_)
    have L_20 : ∀ (n_20 : Nat) (x2_1 : Int32) (i0_20 : 0 ≤ x2_1.toInt) (_ : ((slen j1).toInt - x2_1.toInt).toNat < n_20) (_ : R = (F_X5_isTaken_20 t_length t_start t_bytes j1) n_20 x2_1) (ls : Array Slot) (H : Heap) (locs : List Loc) (_ : HS D A s.heap (WTx cI cZ cC cH t_o t_a_bytes t_a_rows t_length t_lineCount t_start t_end t_bytes t_rows) H locs) (_ : lv_has ls 3 [(2, .int x2_1), (0, .ref t_o), (1, .ref (D.2 100 j1))]), W p l e { frames := 4, cells := 0, slots := 0, locals := 85 } s m args below meth c H locs 0 0 Q (F0 m 20 ls []) := by
      intro n_20
      induction n_20 with
      | zero => intro x2_1 i0_20 hm; exact absurd hm (Nat.not_lt_zero _)
      | succ n_20 ih_20 =>
        intro x2_1 i0_20 hm_20 hF ls H locs hh hl
        rw [F_X5_isTaken_20.eq_2] at hF
        refine lv_iload_n hx hb dX5_isTaken_20 rfl (lv_at hl 0 rfl) ?_
        refine lv_aload_n hx hb dX5_isTaken_21 rfl (lv_at hl 2 rfl) ?_
        refine g_callStr (As := []) (rest := [.int x2_1]) KX rfl ⟨Nat.le_of_ble_eq_true rfl, Nat.le_of_ble_eq_true rfl⟩ hh hl (cs_J0_length_8abf5 l D cI cZ cC cH  j1 (by first | with_reducible assumption | omega | decide | exact tn_lt (n := 8) (by omega) (by omega))) JN.no 0 gX5_isTaken_J0_length_8abf5 rfl (by decide +kernel) ⟨Nat.le_of_ble_eq_true rfl, Nat.le_of_ble_eq_true rfl⟩ (by first | with_reducible assumption | omega | decide) rfl rfl (Nat.le_of_ble_eq_true rfl) dX5_isTaken_22 (fun H locs hh => ?_)
        refine W.eq (g2 := F0 m 25 ls [.int (slen j1), .int x2_1]) rfl ?_
        refine lv_icmp_ge (tgt := 54) hx hb dX5_isTaken_25 (by decide) (fun c_25 => ?_) (fun c_25 => ?_)
        · replace hF := hF.trans (if_pos c_25)
          have i_25 : (slen j1).toInt ≤ x2_1.toInt := ti_le.mp c_25
          refine lv_iconst (v := 1) hx hb dX5_isTaken_54 (by decide) ?_
          exact RT _ _ _ _ _ _ hh (rfl) (Or.inl ⟨_, rfl, by rw [hF], dX5_isTaken_55, Or.inr (Or.inl ⟨rfl, Or.inr rfl⟩)⟩)
        · replace hF := hF.trans (if_neg c_25)
          have i_25 : x2_1.toInt < (slen j1).toInt := ti_nle c_25
          refine lv_aload_n hx hb dX5_isTaken_28 rfl (lv_at hl 1 rfl) ?_
          refine lv_aload_n hx hb dX5_isTaken_29 rfl (lv_at hl 1 rfl) ?_
          refine g_get KX hh in_X5_isTaken_X5 0 rfl rfl 4 (by decide) rfl (List.mem_of_getElem? (i := 2) rfl) dX5_isTaken_30 ?_
          refine lv_iload_n hx hb dX5_isTaken_33 rfl (lv_at hl 0 rfl) ?_
          refine lv_iadd hx hb dX5_isTaken_34 ?_
          refine g_callV (As := [.int (t_start + x2_1)]) (rest := []) KX rfl ⟨Nat.le_of_ble_eq_true rfl, Nat.le_of_ble_eq_true rfl⟩ hh hl (c_X5_signAt l D cI cZ cC cH t_o t_a_bytes t_a_rows t_length t_lineCount t_start t_end t_bytes t_rows (t_start + x2_1) ) JN.all 1 gX5_isTaken_X5_signAt rfl (by decide +kernel) ⟨Nat.le_of_ble_eq_true rfl, Nat.le_of_ble_eq_true rfl⟩ 0 5 rfl rfl rfl rfl rfl (Nat.le_of_ble_eq_true rfl) dX5_isTaken_35 (fun H locs hh => ?_)
          refine W.eq (g2 := F0 m 38 ls [.int (F_X5_signAt t_length t_bytes (t_start + x2_1))]) rfl ?_
          refine lv_aload_n hx hb dX5_isTaken_38 rfl (lv_at hl 2 rfl) ?_
          refine lv_iload_n hx hb dX5_isTaken_39 rfl (lv_at hl 0 rfl) ?_
          refine g_callStr (As := [.int x2_1]) (rest := [.int (F_X5_signAt t_length t_bytes (t_start + x2_1))]) KX rfl ⟨Nat.le_of_ble_eq_true rfl, Nat.le_of_ble_eq_true rfl⟩ hh hl (cs_J0_charAt_5068e l D cI cZ cC cH  j1 x2_1 (by first | with_reducible assumption | omega | decide | exact tn_lt (n := 8) (by omega) (by omega)) (by first | with_reducible assumption | omega | decide | exact tn_lt (n := 8) (by omega) (by omega)) (by first | with_reducible assumption | omega | decide | exact tn_lt (n := 8) (by omega) (by omega))) JN.no 1 gX5_isTaken_J0_charAt_5068e rfl (by decide +kernel) ⟨Nat.le_of_ble_eq_true rfl, Nat.le_of_ble_eq_true rfl⟩ (by first | with_reducible assumption | omega | decide) rfl rfl (Nat.le_of_ble_eq_true rfl) dX5_isTaken_40 (fun H locs hh => ?_)
          refine W.eq (g2 := F0 m 43 ls [.int (sbyt j1 x2_1), .int (F_X5_signAt t_length t_bytes (t_start + x2_1))]) rfl ?_
          refine lv_icmp_eq (tgt := 48) hx hb dX5_isTaken_43 (by decide) (fun c_43 => ?_) (fun c_43 => ?_)
          · replace hF := hF.trans (if_pos c_43)
            refine lv_iinc (v := x2_1 + 1) (lv' := [(2, .int (x2_1 + 1)), (0, .ref t_o), (1, .ref (D.2 100 j1))]) hx hb dX5_isTaken_48 hl (k := 0) rfl rfl (Nat.le_of_ble_eq_true rfl) rfl (fun ls hl => ?_)
            refine lv_goto (tgt := 20) hx hb dX5_isTaken_51 (by decide) ?_
            exact ih_20 (x2_1 + 1) (by first | (rw [ti_inc] <;> omega) | decide) (by rw [ti_inc] <;> omega) hF _ _ _ hh (lv_sub hl [0, 1, 2] rfl)
          · replace hF := hF.trans (if_neg c_43)
            refine lv_iconst (v := 0) hx hb dX5_isTaken_46 (by decide) ?_
            exact RT _ _ _ _ _ _ hh (rfl) (Or.inl ⟨_, rfl, by rw [hF], dX5_isTaken_47, Or.inr (Or.inl ⟨rfl, Or.inl rfl⟩)⟩)
    exact L_20 9 0 (by first | (rw [ti_inc] <;> omega) | decide) (by omega) hF _ _ _ hh (lv_sub hl [0, 1, 2] rfl)
  · replace hF := hF.trans (if_neg c_13)
    have i_13 : ¬ (t_end - t_start).toInt = (slen j1).toInt := ti_ne c_13
    refine lv_iconst (v := 0) hx hb dX5_isTaken_16 (by decide) ?_
    exact RT _ _ _ _ _ _ hh (rfl) (Or.inl ⟨_, rfl, by rw [hF], dX5_isTaken_17, Or.inr (Or.inl ⟨rfl, Or.inl rfl⟩)⟩)
theorem zb_F_X5_isTaken_20 {t_length : Int32} {t_start : Int32} {t_bytes : Nat → Int32} {j1 : Nat} : ∀ (n : Nat) (x2_1 : Int32), (F_X5_isTaken_20 t_length t_start t_bytes j1 n x2_1) = 0 ∨ (F_X5_isTaken_20 t_length t_start t_bytes j1 n x2_1) = 1 := by
  intro n
  induction n with
  | zero => intros; exact Or.inl rfl
  | succ n ih =>
    intros
    rw [F_X5_isTaken_20.eq_2]
    split
    · exact Or.inr rfl
    · split
      · exact ih _
      · exact Or.inl rfl
theorem z_X5_isTaken (t_length : Int32) (t_start : Int32) (t_end : Int32) (t_bytes : Nat → Int32) (j1 : Nat) : (F_X5_isTaken t_length t_start t_end t_bytes j1) = 0 ∨ (F_X5_isTaken t_length t_start t_end t_bytes j1) = 1 := by
  unfold F_X5_isTaken
  split
  · exact zb_F_X5_isTaken_20 _ _
  · exact Or.inl rfl
def F_X5_wordTaken_2 (t_length : Int32) (t_start : Int32) (t_end : Int32) (t_bytes : Nat → Int32) : Nat → Int32 → Int32
  | 0, _ => default
  | n + 1, x1_1 => (if 6 ≤ x1_1 then (-1) else (if (F_X5_isTaken t_length t_start t_end t_bytes (F_X5_wordOf x1_1)) = 0 then ((F_X5_wordTaken_2 t_length t_start t_end t_bytes n) (x1_1 + 1)) else x1_1))
def F_X5_wordTaken (t_length : Int32) (t_start : Int32) (t_end : Int32) (t_bytes : Nat → Int32) : Int32 := (F_X5_wordTaken_2 t_length t_start t_end t_bytes 7 0)
set_option maxHeartbeats 2000000 in
set_option maxRecDepth 100000 in
theorem c_X5_wordTaken (l : Launch) (D : va_G) (cI cZ cC cH : ClassId) (t_o t_a_bytes t_a_rows : Nat) (t_length : Int32) (t_lineCount : Int32) (t_start : Int32) (t_end : Int32) (t_bytes : Nat → Int32) (t_rows : Nat → Int32)   : MC l D (TY cI cZ cC cH) yX5_wordTaken wsX5_wordTaken 5 107 [.ref t_o] (WTx cI cZ cC cH t_o t_a_bytes t_a_rows t_length t_lineCount t_start t_end t_bytes t_rows) (some (.int (F_X5_wordTaken t_length t_start t_end t_bytes))) (WTx cI cZ cC cH t_o t_a_bytes t_a_rows t_length t_lineCount t_start t_end t_bytes t_rows) := by
  obtain ⟨R, hF⟩ : ∃ R, R = F_X5_wordTaken t_length t_start t_end t_bytes := ⟨_, rfl⟩
  rw [← hF]
  refine MC.of (cc := cX5_wordTaken) (maxL := 2) (ret := (some .int)) RX5 rfl (by decide +kernel) rfl (Nat.le_of_ble_eq_true rfl) ?_
  intro p e s m args below meth c A Q KX RT hh ls hl
  have z0 : (0 : Int32).toInt = 0 := rfl
  have z1 : (1 : Int32).toInt = 1 := rfl
  have zm : (-1 : Int32).toInt = -1 := rfl
  have hx := KX.1
  have hb := KX.2.1
  have hl : lv_has ls 2 [(0, .ref t_o)] := hl
  unfold F_X5_wordTaken at hF
  refine lv_iconst (v := 0) hx hb dX5_wordTaken_0 (by decide) ?_
  refine lv_istore_n (lv' := [(1, .int 0), (0, .ref t_o)]) hx hb dX5_wordTaken_1 rfl hl (Nat.le_of_ble_eq_true rfl) rfl (fun ls hl => ?_)
  have L_2 : ∀ (n_2 : Nat) (x1_1 : Int32) (i0_2 : 0 ≤ x1_1.toInt) (i1_2 : x1_1.toInt ≤ 6) (_ : (6 - x1_1.toInt).toNat < n_2) (_ : R = (F_X5_wordTaken_2 t_length t_start t_end t_bytes) n_2 x1_1) (ls : Array Slot) (H : Heap) (locs : List Loc) (_ : HS D A s.heap (WTx cI cZ cC cH t_o t_a_bytes t_a_rows t_length t_lineCount t_start t_end t_bytes t_rows) H locs) (_ : lv_has ls 2 [(1, .int x1_1), (0, .ref t_o)]), W p l e { frames := 5, cells := 0, slots := 0, locals := 107 } s m args below meth c H locs 0 0 Q (F0 m 2 ls []) := by
    intro n_2
    induction n_2 with
    | zero => intro x1_1 i0_2 i1_2 hm; exact absurd hm (Nat.not_lt_zero _)
    | succ n_2 ih_2 =>
      intro x1_1 i0_2 i1_2 hm_2 hF ls H locs hh hl
      rw [F_X5_wordTaken_2.eq_2] at hF
      refine lv_iload_n hx hb dX5_wordTaken_2 rfl (lv_at hl 0 rfl) ?_
      refine lv_bipush (v := 6) hx hb dX5_wordTaken_3 (by decide) ?_
      refine lv_icmp_ge (tgt := 27) hx hb dX5_wordTaken_5 (by decide) (fun c_5 => ?_) (fun c_5 => ?_)
      · replace hF := hF.trans (if_pos c_5)
        have i_5 : 6 ≤ x1_1.toInt := ti_le.mp c_5
        refine lv_iconst (v := (-1)) hx hb dX5_wordTaken_27 (by decide) ?_
        exact RT _ _ _ _ _ _ hh (rfl) (Or.inl ⟨_, rfl, by rw [hF], dX5_wordTaken_28, Or.inl rfl⟩)
      · replace hF := hF.trans (if_neg c_5)
        have i_5 : x1_1.toInt < 6 := ti_nle c_5
        refine lv_aload_n hx hb dX5_wordTaken_8 rfl (lv_at hl 1 rfl) ?_
        refine lv_iload_n hx hb dX5_wordTaken_9 rfl (lv_at hl 0 rfl) ?_
        refine g_callS (As := [.int x1_1]) (rest := [.ref t_o]) KX rfl ⟨Nat.le_of_ble_eq_true rfl, Nat.le_of_ble_eq_true rfl⟩ hh hl (c_X5_wordOf l D cI cZ cC cH  x1_1 ) JN.no 1 gX5_wordTaken_X5_wordOf rfl (by decide +kernel) ⟨Nat.le_of_ble_eq_true rfl, Nat.le_of_ble_eq_true rfl⟩ rfl rfl (Nat.le_of_ble_eq_true rfl) dX5_wordTaken_10 (fun H locs hh => ?_)
        refine W.eq (g2 := F0 m 13 ls [.ref (D.2 100 (F_X5_wordOf x1_1)), .ref t_o]) rfl ?_
        refine g_callV (As := [.ref (D.2 100 (F_X5_wordOf x1_1))]) (rest := []) KX rfl ⟨Nat.le_of_ble_eq_true rfl, Nat.le_of_ble_eq_true rfl⟩ hh hl (c_X5_isTaken l D cI cZ cC cH t_o t_a_bytes t_a_rows t_length t_lineCount t_start t_end t_bytes t_rows (F_X5_wordOf x1_1) (wordOf_lt _)) JN.all 1 gX5_wordTaken_X5_isTaken rfl (by decide +kernel) ⟨Nat.le_of_ble_eq_true rfl, Nat.le_of_ble_eq_true rfl⟩ 0 5 rfl rfl rfl rfl rfl (Nat.le_of_ble_eq_true rfl) dX5_wordTaken_13 (fun H locs hh => ?_)
        refine W.eq (g2 := F0 m 16 ls [.int (F_X5_isTaken t_length t_start t_end t_bytes (F_X5_wordOf x1_1))]) rfl ?_
        refine lv_if_eq (tgt := 21) hx hb dX5_wordTaken_16 (by decide) (fun c_16 => ?_) (fun c_16 => ?_)
        · replace hF := hF.trans (if_pos c_16)
          refine lv_iinc (v := x1_1 + 1) (lv' := [(1, .int (x1_1 + 1)), (0, .ref t_o)]) hx hb dX5_wordTaken_21 hl (k := 0) rfl rfl (Nat.le_of_ble_eq_true rfl) rfl (fun ls hl => ?_)
          refine lv_goto (tgt := 2) hx hb dX5_wordTaken_24 (by decide) ?_
          have e_inc : (x1_1 + 1).toInt = x1_1.toInt + 1 := ti_inc (by omega)
          exact ih_2 (x1_1 + 1) (by first | with_reducible assumption | omega | decide) (by first | with_reducible assumption | omega | decide) (by omega) hF _ _ _ hh (lv_sub hl [0, 1] rfl)
        · replace hF := hF.trans (if_neg c_16)
          refine lv_iload_n hx hb dX5_wordTaken_19 rfl (lv_at hl 0 rfl) ?_
          exact RT _ _ _ _ _ _ hh (rfl) (Or.inl ⟨_, rfl, by rw [hF], dX5_wordTaken_20, Or.inl rfl⟩)
  exact L_2 7 0 (by first | with_reducible assumption | omega | decide) (by first | with_reducible assumption | omega | decide) (by first | omega | decide | (simp; done)) hF _ _ _ hh (lv_sub hl [0, 1] rfl)
