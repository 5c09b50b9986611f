abbrev WCk (cI cZ cC cH : ClassId) (k_o : Nat) (k_kind : Int32) (k_set : Int32) (k_dial : Int32) (k_low : Int32) (k_high : Int32) (k_read : Int32) : va_W := [(k_o, .inr (0, [.int k_kind, .int k_set, .int k_dial, .int k_low, .int k_high, .int k_read]))]
abbrev WCC (cI cZ cC cH : ClassId) (k_o j_o : Nat) (k_kind : Int32) (k_set : Int32) (k_dial : Int32) (k_low : Int32) (k_high : Int32) (k_read : Int32) (j_kind : Int32) (j_set : Int32) (j_dial : Int32) (j_low : Int32) (j_high : Int32) (j_read : Int32) : va_W := [(k_o, .inr (0, [.int k_kind, .int k_set, .int k_dial, .int k_low, .int k_high, .int k_read])), (j_o, .inr (0, [.int j_kind, .int j_set, .int j_dial, .int j_low, .int j_high, .int j_read]))]
abbrev WTa (cI cZ cC cH : ClassId) (y_o : Nat) (y_many : Int32) (y_first : Int32) (y_last : Int32) (y_runs : Int32) : va_W := [(y_o, .inr (4, [.int y_many, .int y_first, .int y_last, .int y_runs]))]
abbrev WNo (cI cZ cC cH : ClassId) (n_o n_a_clocks n_a_minutes n_a_dials : Nat) (n_many : Int32) (n_clocks : Nat → Int32) (n_minutes : Nat → Int32) (n_dials : Nat → Int32) : va_W := [(n_o, .inr (2, [.int n_many, .ref n_a_clocks, .ref n_a_minutes, .ref n_a_dials])), (n_a_clocks, .inl (cI, 12, .inl n_clocks)), (n_a_minutes, .inl (cI, 12, .inl n_minutes)), (n_a_dials, .inl (cI, 12, .inl n_dials))]
abbrev WNN (cI cZ cC cH : ClassId) (n_o n_a_clocks n_a_minutes n_a_dials g_o g_a_clocks g_a_minutes g_a_dials : Nat) (n_many : Int32) (n_clocks : Nat → Int32) (n_minutes : Nat → Int32) (n_dials : Nat → Int32) (g_many : Int32) (g_clocks : Nat → Int32) (g_minutes : Nat → Int32) (g_dials : Nat → Int32) : va_W := [(n_o, .inr (2, [.int n_many, .ref n_a_clocks, .ref n_a_minutes, .ref n_a_dials])), (n_a_clocks, .inl (cI, 12, .inl n_clocks)), (n_a_minutes, .inl (cI, 12, .inl n_minutes)), (n_a_dials, .inl (cI, 12, .inl n_dials)), (g_o, .inr (2, [.int g_many, .ref g_a_clocks, .ref g_a_minutes, .ref g_a_dials])), (g_a_clocks, .inl (cI, 12, .inl g_clocks)), (g_a_minutes, .inl (cI, 12, .inl g_minutes)), (g_a_dials, .inl (cI, 12, .inl g_dials))]
abbrev WQu (cI cZ cC cH : ClassId) (q_o q_a_clocks q_a_rates q_a_least : Nat) (q_many : Int32) (q_clocks : Nat → Int32) (q_rates : Nat → Int32) (q_least : Nat → Int32) : va_W := [(q_o, .inr (3, [.int q_many, .ref q_a_clocks, .ref q_a_rates, .ref q_a_least])), (q_a_clocks, .inl (cI, 8, .inl q_clocks)), (q_a_rates, .inl (cI, 8, .inl q_rates)), (q_a_least, .inl (cI, 64, .inl q_least))]
abbrev WTx (cI cZ cC cH : ClassId) (t_o t_a_bytes t_a_rows : Nat) (t_length : Int32) (t_lineCount : Int32) (t_start : Int32) (t_end : Int32) (t_bytes : Nat → Int32) (t_rows : Nat → Int32) : va_W := [(t_o, .inr (5, [.ref t_a_bytes, .int t_length, .ref t_a_rows, .int t_lineCount, .int t_start, .int t_end])), (t_a_bytes, .inl (cI, 200, .inl t_bytes)), (t_a_rows, .inl (cI, 48, .inl t_rows))]
def F_X0_tell (x1 : Int32) (x2 : Int32) (x3 : Int32) (x4 : Int32) (x5 : Int32) : Int32 × Int32 × Int32 × Int32 × Int32 × Int32 := (x1, x2, x3, x4, x5, (-1))
theorem in_X0_tell_X0 : ∀ x ∈ u_ws RX0 TX0 6, x ∈ wsX0_tell := by decide +kernel
set_option maxHeartbeats 2000000 in
set_option maxRecDepth 100000 in
theorem c_X0_tell (l : Launch) (D : va_G) (cI cZ cC cH : ClassId) (k_o : Nat) (k_kind : Int32) (k_set : Int32) (k_dial : Int32) (k_low : Int32) (k_high : Int32) (k_read : Int32) (x1 : Int32) (x2 : Int32) (x3 : Int32) (x4 : Int32) (x5 : Int32)  : MC l D (TY cI cZ cC cH) yX0_tell wsX0_tell 0 0 [.ref k_o, .int x1, .int x2, .int x3, .int x4, .int x5] (WCk cI cZ cC cH k_o k_kind k_set k_dial k_low k_high k_read) (none) (WCk cI cZ cC cH k_o (F_X0_tell x1 x2 x3 x4 x5).1 (F_X0_tell x1 x2 x3 x4 x5).2.1 (F_X0_tell x1 x2 x3 x4 x5).2.2.1 (F_X0_tell x1 x2 x3 x4 x5).2.2.2.1 (F_X0_tell x1 x2 x3 x4 x5).2.2.2.2.1 (F_X0_tell x1 x2 x3 x4 x5).2.2.2.2.2) := by
  obtain ⟨R, hF⟩ : ∃ R, R = F_X0_tell x1 x2 x3 x4 x5 := ⟨_, rfl⟩
  rw [← hF]
  refine MC.of (cc := cX0_tell) (maxL := 6) (ret := none) RX0 rfl (by decide +kernel) rfl (Nat.le_of_ble_eq_true rfl) ?_
  intro p e s m args below meth c A Q KX RT hh ls hl
  have z0 : (0 : Int32).toInt = 0 := rfl
  have z1 : (1 : Int32).toInt = 1 := rfl
  have zm : (-1 : Int32).toInt = -1 := rfl
  have hx := KX.1
  have hb := KX.2.1
  have hl : lv_has ls 6 [(0, .ref k_o), (1, .int x1), (2, .int x2), (3, .int x3), (4, .int x4), (5, .int x5)] := hl
  unfold F_X0_tell at hF
  refine lv_aload_n hx hb dX0_tell_0 rfl (lv_at hl 0 rfl) ?_
  refine lv_iload_n hx hb dX0_tell_1 rfl (lv_at hl 1 rfl) ?_
  refine g_put KX hh in_X0_tell_X0 tyX0 tyX0_ok nmX0 0 rfl rfl 0 (by decide) rfl rfl rfl (Nat.le_of_ble_eq_true rfl) (List.mem_of_getElem? (i := 1) rfl) (w' := (WCk cI cZ cC cH k_o x1 k_set k_dial k_low k_high k_read)) rfl rfl dX0_tell_2 (fun H locs hh => ?_)
  refine lv_aload_n hx hb dX0_tell_5 rfl (lv_at hl 0 rfl) ?_
  refine lv_iload_n hx hb dX0_tell_6 rfl (lv_at hl 2 rfl) ?_
  refine g_put KX hh in_X0_tell_X0 tyX0 tyX0_ok nmX0 0 rfl rfl 1 (by decide) rfl rfl rfl (Nat.le_of_ble_eq_true rfl) (List.mem_of_getElem? (i := 2) rfl) (w' := (WCk cI cZ cC cH k_o x1 x2 k_dial k_low k_high k_read)) rfl rfl dX0_tell_7 (fun H locs hh => ?_)
  refine lv_aload_n hx hb dX0_tell_10 rfl (lv_at hl 0 rfl) ?_
  refine lv_iload_n hx hb dX0_tell_11 rfl (lv_at hl 3 rfl) ?_
  refine g_put KX hh in_X0_tell_X0 tyX0 tyX0_ok nmX0 0 rfl rfl 2 (by decide) rfl rfl rfl (Nat.le_of_ble_eq_true rfl) (List.mem_of_getElem? (i := 3) rfl) (w' := (WCk cI cZ cC cH k_o x1 x2 x3 k_low k_high k_read)) rfl rfl dX0_tell_12 (fun H locs hh => ?_)
  refine lv_aload_n hx hb dX0_tell_15 rfl (lv_at hl 0 rfl) ?_
  refine lv_iload hx hb dX0_tell_16 (lv_at hl 4 rfl) ?_
  refine g_put KX hh in_X0_tell_X0 tyX0 tyX0_ok nmX0 0 rfl rfl 3 (by decide) rfl rfl rfl (Nat.le_of_ble_eq_true rfl) (List.mem_of_getElem? (i := 4) rfl) (w' := (WCk cI cZ cC cH k_o x1 x2 x3 x4 k_high k_read)) rfl rfl dX0_tell_18 (fun H locs hh => ?_)
  refine lv_aload_n hx hb dX0_tell_21 rfl (lv_at hl 0 rfl) ?_
  refine lv_iload hx hb dX0_tell_22 (lv_at hl 5 rfl) ?_
  refine g_put KX hh in_X0_tell_X0 tyX0 tyX0_ok nmX0 0 rfl rfl 4 (by decide) rfl rfl rfl (Nat.le_of_ble_eq_true rfl) (List.mem_of_getElem? (i := 5) rfl) (w' := (WCk cI cZ cC cH k_o x1 x2 x3 x4 x5 k_read)) rfl rfl dX0_tell_24 (fun H locs hh => ?_)
  refine lv_aload_n hx hb dX0_tell_27 rfl (lv_at hl 0 rfl) ?_
  refine lv_iconst (v := (-1)) hx hb dX0_tell_28 (by decide) ?_
  refine g_put KX hh in_X0_tell_X0 tyX0 tyX0_ok nmX0 0 rfl rfl 5 (by decide) rfl rfl rfl (Nat.le_of_ble_eq_true rfl) (List.mem_of_getElem? (i := 6) rfl) (w' := (WCk cI cZ cC cH k_o x1 x2 x3 x4 x5 (-1))) rfl rfl dX0_tell_29 (fun H locs hh => ?_)
  exact RT _ _ _ _ _ _ hh (by rw [hF]) (Or.inr (Or.inr (Or.inl ⟨rfl, rfl, dX0_tell_32, rfl⟩)))
def F_X0_runsByOneRate (k_kind : Int32) (k_low : Int32) (k_high : Int32) : Int32 := (if k_kind = 2 then 0 else (if k_low = k_high then 1 else 0))
theorem in_X0_runsByOneRate_X0 : ∀ x ∈ u_ws RX0 TX0 6, x ∈ wsX0_runsByOneRate := by decide +kernel
set_option maxHeartbeats 2000000 in
set_option maxRecDepth 100000 in
theorem c_X0_runsByOneRate (l : Launch) (D : va_G) (cI cZ cC cH : ClassId) (k_o : Nat) (k_kind : Int32) (k_set : Int32) (k_dial : Int32) (k_low : Int32) (k_high : Int32) (k_read : Int32)   : MC l D (TY cI cZ cC cH) yX0_runsByOneRate wsX0_runsByOneRate 0 0 [.ref k_o] (WCk cI cZ cC cH k_o k_kind k_set k_dial k_low k_high k_read) (some (.int (F_X0_runsByOneRate k_kind k_low k_high))) (WCk cI cZ cC cH k_o k_kind k_set k_dial k_low k_high k_read) := by
  obtain ⟨R, hF⟩ : ∃ R, R = F_X0_runsByOneRate k_kind k_low k_high := ⟨_, rfl⟩
  rw [← hF]
  refine MC.of (cc := cX0_runsByOneRate) (maxL := 1) (ret := (some .boolean)) RX0 rfl (by decide +kernel) rfl (Nat.le_of_ble_eq_true rfl) ?_
  intro p e s m args below meth c A Q KX RT hh ls hl
  have z0 : (0 : Int32).toInt = 0 := rfl
  have z1 : (1 : Int32).toInt = 1 := rfl
  have zm : (-1 : Int32).toInt = -1 := rfl
  have hx := KX.1
  have hb := KX.2.1
  have hl : lv_has ls 1 [(0, .ref k_o)] := hl
  unfold F_X0_runsByOneRate at hF
  refine lv_aload_n hx hb dX0_runsByOneRate_0 rfl (lv_at hl 0 rfl) ?_
  refine g_get KX hh in_X0_runsByOneRate_X0 0 rfl rfl 0 (by decide) rfl (List.mem_of_getElem? (i := 1) rfl) dX0_runsByOneRate_1 ?_
  refine lv_iconst (v := 2) hx hb dX0_runsByOneRate_4 (by decide) ?_
  refine lv_icmp_eq (tgt := 23) hx hb dX0_runsByOneRate_5 (by decide) (fun c_5 => ?_) (fun c_5 => ?_)
  · replace hF := hF.trans (if_pos c_5)
    have i_5 : k_kind.toInt = 2 := congrArg Int32.toInt c_5
    refine lv_iconst (v := 0) hx hb dX0_runsByOneRate_23 (by decide) ?_
    exact RT _ _ _ _ _ _ hh (rfl) (Or.inl ⟨_, rfl, by rw [hF], dX0_runsByOneRate_24, Or.inr (Or.inl ⟨rfl, Or.inl rfl⟩)⟩)
  · replace hF := hF.trans (if_neg c_5)
    have i_5 : ¬ k_kind.toInt = 2 := ti_ne c_5
    refine lv_aload_n hx hb dX0_runsByOneRate_8 rfl (lv_at hl 0 rfl) ?_
    refine g_get KX hh in_X0_runsByOneRate_X0 0 rfl rfl 3 (by decide) rfl (List.mem_of_getElem? (i := 2) rfl) dX0_runsByOneRate_9 ?_
    refine lv_aload_n hx hb dX0_runsByOneRate_12 rfl (lv_at hl 0 rfl) ?_
    refine g_get KX hh in_X0_runsByOneRate_X0 0 rfl rfl 4 (by decide) rfl (List.mem_of_getElem? (i := 3) rfl) dX0_runsByOneRate_13 ?_
    refine lv_icmp_ne (tgt := 23) hx hb dX0_runsByOneRate_16 (by decide) (fun c_16 => ?_) (fun c_16 => ?_)
    · replace hF := hF.trans (if_neg c_16)
      have i_16 : ¬ k_low.toInt = k_high.toInt := ti_ne c_16
      refine lv_iconst (v := 0) hx hb dX0_runsByOneRate_23 (by decide) ?_
      exact RT _ _ _ _ _ _ hh (rfl) (Or.inl ⟨_, rfl, by rw [hF], dX0_runsByOneRate_24, Or.inr (Or.inl ⟨rfl, Or.inl rfl⟩)⟩)
    · replace hF := hF.trans (if_pos c_16)
      have i_16 : k_low.toInt = k_high.toInt := congrArg Int32.toInt c_16
      refine lv_iconst (v := 1) hx hb dX0_runsByOneRate_19 (by decide) ?_
      refine lv_goto (tgt := 24) hx hb dX0_runsByOneRate_20 (by decide) ?_
      exact RT _ _ _ _ _ _ hh (rfl) (Or.inl ⟨_, rfl, by rw [hF], dX0_runsByOneRate_24, Or.inr (Or.inl ⟨rfl, Or.inr rfl⟩)⟩)
theorem z_X0_runsByOneRate (k_kind : Int32) (k_low : Int32) (k_high : Int32) : (F_X0_runsByOneRate k_kind k_low k_high) = 0 ∨ (F_X0_runsByOneRate k_kind k_low k_high) = 1 := by
  unfold F_X0_runsByOneRate
  split
  · exact Or.inl rfl
  · split
    · exact Or.inr rfl
    · exact Or.inl rfl
def F_X0_way (k_kind : Int32) (x1 : Int32) (x2 : Int32) : Int32 := (if k_kind = 2 then 0 else (if k_kind = 1 then -(x1 * (1440 + x2)) else x1 * (1440 + x2)))
theorem in_X0_way_X0 : ∀ x ∈ u_ws RX0 TX0 6, x ∈ wsX0_way := by decide +kernel
set_option maxHeartbeats 2000000 in
set_option maxRecDepth 100000 in
theorem c_X0_way (l : Launch) (D : va_G) (cI cZ cC cH : ClassId) (k_o : Nat) (k_kind : Int32) (k_set : Int32) (k_dial : Int32) (k_low : Int32) (k_high : Int32) (k_read : Int32) (x1 : Int32) (x2 : Int32)  : MC l D (TY cI cZ cC cH) yX0_way wsX0_way 0 0 [.ref k_o, .int x1, .int x2] (WCk cI cZ cC cH k_o k_kind k_set k_dial k_low k_high k_read) (some (.int (F_X0_way k_kind x1 x2))) (WCk cI cZ cC cH k_o k_kind k_set k_dial k_low k_high k_read) := by
  obtain ⟨R, hF⟩ : ∃ R, R = F_X0_way k_kind x1 x2 := ⟨_, rfl⟩
  rw [← hF]
  refine MC.of (cc := cX0_way) (maxL := 4) (ret := (some .int)) RX0 rfl (by decide +kernel) rfl (Nat.le_of_ble_eq_true rfl) ?_
  intro p e s m args below meth c A Q KX RT hh ls hl
  have z0 : (0 : Int32).toInt = 0 := rfl
  have z1 : (1 : Int32).toInt = 1 := rfl
  have zm : (-1 : Int32).toInt = -1 := rfl
  have hx := KX.1
  have hb := KX.2.1
  have hl : lv_has ls 4 [(0, .ref k_o), (1, .int x1), (2, .int x2)] := hl
  unfold F_X0_way at hF
  refine lv_aload_n hx hb dX0_way_0 rfl (lv_at hl 0 rfl) ?_
  refine g_get KX hh in_X0_way_X0 0 rfl rfl 0 (by decide) rfl (List.mem_of_getElem? (i := 1) rfl) dX0_way_1 ?_
  refine lv_iconst (v := 2) hx hb dX0_way_4 (by decide) ?_
  refine lv_icmp_ne (tgt := 10) hx hb dX0_way_5 (by decide) (fun c_5 => ?_) (fun c_5 => ?_)
  · replace hF := hF.trans (if_neg c_5)
    have i_5 : ¬ k_kind.toInt = 2 := ti_ne c_5
    refine lv_iload_n hx hb dX0_way_10 rfl (lv_at hl 1 rfl) ?_
    refine lv_sipush (v := 1440) hx hb dX0_way_11 (by decide) ?_
    refine lv_iload_n hx hb dX0_way_14 rfl (lv_at hl 2 rfl) ?_
    refine lv_iadd hx hb dX0_way_15 ?_
    refine lv_imul hx hb dX0_way_16 ?_
    refine lv_istore_n (lv' := [(3, .int (x1 * (1440 + x2))), (0, .ref k_o), (1, .int x1), (2, .int x2)]) hx hb dX0_way_17 rfl hl (Nat.le_of_ble_eq_true rfl) rfl (fun ls hl => ?_)
    refine lv_aload_n hx hb dX0_way_18 rfl (lv_at hl 1 rfl) ?_
    refine g_get KX hh in_X0_way_X0 0 rfl rfl 0 (by decide) rfl (List.mem_of_getElem? (i := 1) rfl) dX0_way_19 ?_
    refine lv_iconst (v := 1) hx hb dX0_way_22 (by decide) ?_
    refine lv_icmp_ne (tgt := 31) hx hb dX0_way_23 (by decide) (fun c_23 => ?_) (fun c_23 => ?_)
    · replace hF := hF.trans (if_neg c_23)
      have i_23 : ¬ k_kind.toInt = 1 := ti_ne c_23
      refine lv_iload_n hx hb dX0_way_31 rfl (lv_at hl 0 rfl) ?_
      exact RT _ _ _ _ _ _ hh (rfl) (Or.inl ⟨_, rfl, by rw [hF], dX0_way_32, Or.inl rfl⟩)
    · replace hF := hF.trans (if_pos c_23)
      have i_23 : k_kind.toInt = 1 := congrArg Int32.toInt c_23
      refine lv_iload_n hx hb dX0_way_26 rfl (lv_at hl 0 rfl) ?_
      refine lv_ineg hx hb dX0_way_27 ?_
      refine lv_goto (tgt := 32) hx hb dX0_way_28 (by decide) ?_
      exact RT _ _ _ _ _ _ hh (rfl) (Or.inl ⟨_, rfl, by rw [hF], dX0_way_32, Or.inl rfl⟩)
  · replace hF := hF.trans (if_pos c_5)
    have i_5 : k_kind.toInt = 2 := congrArg Int32.toInt c_5
    refine lv_iconst (v := 0) hx hb dX0_way_8 (by decide) ?_
    exact RT _ _ _ _ _ _ hh (rfl) (Or.inl ⟨_, rfl, by rw [hF], dX0_way_9, Or.inl rfl⟩)
def F_X0_handAt (k_kind : Int32) (k_set : Int32) (k_dial : Int32) (x1 : Int32) (x2 : Int32) : Int32 := (k_dial * 1440) + (F_X0_way k_kind (x1 - k_set) x2)
theorem in_X0_handAt_X0 : ∀ x ∈ u_ws RX0 TX0 6, x ∈ wsX0_handAt := by decide +kernel
set_option maxHeartbeats 2000000 in
set_option maxRecDepth 100000 in
theorem c_X0_handAt (l : Launch) (D : va_G) (cI cZ cC cH : ClassId) (k_o : Nat) (k_kind : Int32) (k_set : Int32) (k_dial : Int32) (k_low : Int32) (k_high : Int32) (k_read : Int32) (x1 : Int32) (x2 : Int32)  : MC l D (TY cI cZ cC cH) yX0_handAt wsX0_handAt 1 23 [.ref k_o, .int x1, .int x2] (WCk cI cZ cC cH k_o k_kind k_set k_dial k_low k_high k_read) (some (.int (F_X0_handAt k_kind k_set k_dial x1 x2))) (WCk cI cZ cC cH k_o k_kind k_set k_dial k_low k_high k_read) := by
  obtain ⟨R, hF⟩ : ∃ R, R = F_X0_handAt k_kind k_set k_dial x1 x2 := ⟨_, rfl⟩
  rw [← hF]
  refine MC.of (cc := cX0_handAt) (maxL := 3) (ret := (some .int)) RX0 rfl (by decide +kernel) rfl (Nat.le_of_ble_eq_true rfl) ?_
  intro p e s m args below meth c A Q KX RT hh ls hl
  have z0 : (0 : Int32).toInt = 0 := rfl
  have z1 : (1 : Int32).toInt = 1 := rfl
  have zm : (-1 : Int32).toInt = -1 := rfl
  have hx := KX.1
  have hb := KX.2.1
  have hl : lv_has ls 3 [(0, .ref k_o), (1, .int x1), (2, .int x2)] := hl
  unfold F_X0_handAt at hF
  refine lv_aload_n hx hb dX0_handAt_0 rfl (lv_at hl 0 rfl) ?_
  refine g_get KX hh in_X0_handAt_X0 0 rfl rfl 2 (by decide) rfl (List.mem_of_getElem? (i := 1) rfl) dX0_handAt_1 ?_
  refine lv_sipush (v := 1440) hx hb dX0_handAt_4 (by decide) ?_
  refine lv_imul hx hb dX0_handAt_7 ?_
  refine lv_aload_n hx hb dX0_handAt_8 rfl (lv_at hl 0 rfl) ?_
  refine lv_iload_n hx hb dX0_handAt_9 rfl (lv_at hl 1 rfl) ?_
  refine lv_aload_n hx hb dX0_handAt_10 rfl (lv_at hl 0 rfl) ?_
  refine g_get KX hh in_X0_handAt_X0 0 rfl rfl 1 (by decide) rfl (List.mem_of_getElem? (i := 2) rfl) dX0_handAt_11 ?_
  refine lv_isub hx hb dX0_handAt_14 ?_
  refine lv_iload_n hx hb dX0_handAt_15 rfl (lv_at hl 2 rfl) ?_
  refine g_callV (As := [.int (x1 - k_set), .int x2]) (rest := [.int (k_dial * 1440)]) KX rfl ⟨Nat.le_of_ble_eq_true rfl, Nat.le_of_ble_eq_true rfl⟩ hh hl (c_X0_way l D cI cZ cC cH k_o k_kind k_set k_dial k_low k_high k_read (x1 - k_set) x2 ) JN.all 2 gX0_handAt_X0_way rfl (by decide +kernel) ⟨Nat.le_of_ble_eq_true rfl, Nat.le_of_ble_eq_true rfl⟩ 0 0 rfl rfl rfl rfl rfl (Nat.le_of_ble_eq_true rfl) dX0_handAt_16 (fun H locs hh => ?_)
  refine W.eq (g2 := F0 m 19 ls [.int (F_X0_way k_kind (x1 - k_set) x2), .int (k_dial * 1440)]) rfl ?_
  refine lv_iadd hx hb dX0_handAt_19 ?_
  exact RT _ _ _ _ _ _ hh (rfl) (Or.inl ⟨_, rfl, by rw [hF], dX0_handAt_20, Or.inl rfl⟩)
def F_X0_dialAt (k_kind : Int32) (k_set : Int32) (k_dial : Int32) (x1 : Int32) (x2 : Int32) : Int32 := F_J9_floorMod_7cf53 (F_J9_floorDiv_7cf53 (F_X0_handAt k_kind k_set k_dial x1 x2) 1440) 720
set_option maxHeartbeats 2000000 in
set_option maxRecDepth 100000 in
theorem c_X0_dialAt (l : Launch) (D : va_G) (cI cZ cC cH : ClassId) (k_o : Nat) (k_kind : Int32) (k_set : Int32) (k_dial : Int32) (k_low : Int32) (k_high : Int32) (k_read : Int32) (x1 : Int32) (x2 : Int32)  : MC l D (TY cI cZ cC cH) yX0_dialAt wsX0_dialAt 2 45 [.ref k_o, .int x1, .int x2] (WCk cI cZ cC cH k_o k_kind k_set k_dial k_low k_high k_read) (some (.int (F_X0_dialAt k_kind k_set k_dial x1 x2))) (WCk cI cZ cC cH k_o k_kind k_set k_dial k_low k_high k_read) := by
  obtain ⟨R, hF⟩ : ∃ R, R = F_X0_dialAt k_kind k_set k_dial x1 x2 := ⟨_, rfl⟩
  rw [← hF]
  refine MC.of (cc := cX0_dialAt) (maxL := 3) (ret := (some .int)) RX0 rfl (by decide +kernel) rfl (Nat.le_of_ble_eq_true rfl) ?_
  intro p e s m args below meth c A Q KX RT hh ls hl
  have z0 : (0 : Int32).toInt = 0 := rfl
  have z1 : (1 : Int32).toInt = 1 := rfl
  have zm : (-1 : Int32).toInt = -1 := rfl
  have hx := KX.1
  have hb := KX.2.1
  have hl : lv_has ls 3 [(0, .ref k_o), (1, .int x1), (2, .int x2)] := hl
  unfold F_X0_dialAt at hF
  refine lv_aload_n hx hb dX0_dialAt_0 rfl (lv_at hl 0 rfl) ?_
  refine lv_iload_n hx hb dX0_dialAt_1 rfl (lv_at hl 1 rfl) ?_
  refine lv_iload_n hx hb dX0_dialAt_2 rfl (lv_at hl 2 rfl) ?_
  refine g_callV (As := [.int x1, .int x2]) (rest := []) KX rfl ⟨Nat.le_of_ble_eq_true rfl, Nat.le_of_ble_eq_true rfl⟩ hh hl (c_X0_handAt l D cI cZ cC cH k_o k_kind k_set k_dial k_low k_high k_read x1 x2 ) JN.all 2 gX0_dialAt_X0_handAt rfl (by decide +kernel) ⟨Nat.le_of_ble_eq_true rfl, Nat.le_of_ble_eq_true rfl⟩ 0 0 rfl rfl rfl rfl rfl (Nat.le_of_ble_eq_true rfl) dX0_dialAt_3 (fun H locs hh => ?_)
  refine W.eq (g2 := F0 m 6 ls [.int (F_X0_handAt k_kind k_set k_dial x1 x2)]) rfl ?_
  refine lv_sipush (v := 1440) hx hb dX0_dialAt_6 (by decide) ?_
  refine g_callS (As := [.int (F_X0_handAt k_kind k_set k_dial x1 x2), .int 1440]) (rest := []) KX rfl ⟨Nat.le_of_ble_eq_true rfl, Nat.le_of_ble_eq_true rfl⟩ hh hl (c_J9_floorDiv_7cf53 l D cI cZ cC cH  (F_X0_handAt k_kind k_set k_dial x1 x2) 1440 (by first | with_reducible assumption | omega | decide | exact tn_lt (n := 8) (by omega) (by omega))) JN.no 2 gX0_dialAt_J9_floorDiv_7cf53 rfl (by decide +kernel) ⟨Nat.le_of_ble_eq_true rfl, Nat.le_of_ble_eq_true rfl⟩ rfl rfl (Nat.le_of_ble_eq_true rfl) dX0_dialAt_9 (fun H locs hh => ?_)
  refine W.eq (g2 := F0 m 12 ls [.int (F_J9_floorDiv_7cf53 (F_X0_handAt k_kind k_set k_dial x1 x2) 1440)]) rfl ?_
  refine lv_sipush (v := 720) hx hb dX0_dialAt_12 (by decide) ?_
  refine g_callS (As := [.int (F_J9_floorDiv_7cf53 (F_X0_handAt k_kind k_set k_dial x1 x2) 1440), .int 720]) (rest := []) KX rfl ⟨Nat.le_of_ble_eq_true rfl, Nat.le_of_ble_eq_true rfl⟩ hh hl (c_J9_floorMod_7cf53 l D cI cZ cC cH  (F_J9_floorDiv_7cf53 (F_X0_handAt k_kind k_set k_dial x1 x2) 1440) 720 (by first | with_reducible assumption | omega | decide | exact tn_lt (n := 8) (by omega) (by omega))) JN.no 2 gX0_dialAt_J9_floorMod_7cf53 rfl (by decide +kernel) ⟨Nat.le_of_ble_eq_true rfl, Nat.le_of_ble_eq_true rfl⟩ rfl rfl (Nat.le_of_ble_eq_true rfl) dX0_dialAt_15 (fun H locs hh => ?_)
  refine W.eq (g2 := F0 m 18 ls [.int (F_J9_floorMod_7cf53 (F_J9_floorDiv_7cf53 (F_X0_handAt k_kind k_set k_dial x1 x2) 1440) 720)]) rfl ?_
  exact RT _ _ _ _ _ _ hh (rfl) (Or.inl ⟨_, rfl, by rw [hF], dX0_dialAt_18, Or.inl rfl⟩)
def F_X0_canShow (k_kind : Int32) (k_set : Int32) (k_dial : Int32) (k_low : Int32) (k_high : Int32) (x1 : Int32) (x2 : Int32) : Int32 := (if ((F_J9_floorDiv_7cf53 (F_J9_max_7cf53 (F_X0_handAt k_kind k_set k_dial x1 k_low) (F_X0_handAt k_kind k_set k_dial x1 k_high)) 1440) - (F_J9_floorDiv_7cf53 (F_J9_min_7cf53 (F_X0_handAt k_kind k_set k_dial x1 k_low) (F_X0_handAt k_kind k_set k_dial x1 k_high)) 1440)) < (F_J9_floorMod_7cf53 (x2 - (F_J9_floorDiv_7cf53 (F_J9_min_7cf53 (F_X0_handAt k_kind k_set k_dial x1 k_low) (F_X0_handAt k_kind k_set k_dial x1 k_high)) 1440)) 720) then 0 else 1)
theorem gm_X0_canShow_J9_min_7cf53_49 : GoodIn wsX0_canShow (va_wsS RX0 49 yJ9_min_7cf53 wsJ9_min_7cf53) := goodIn_of _ (by decide +kernel)
theorem gm_X0_canShow_J9_max_7cf53_52 : GoodIn wsX0_canShow (va_wsS RX0 52 yJ9_max_7cf53 wsJ9_max_7cf53) := goodIn_of _ (by decide +kernel)
theorem in_X0_canShow_X0 : ∀ x ∈ u_ws RX0 TX0 6, x ∈ wsX0_canShow := by decide +kernel
set_option maxHeartbeats 2000000 in
set_option maxRecDepth 100000 in
theorem c_X0_canShow (l : Launch) (D : va_G) (cI cZ cC cH : ClassId) (k_o : Nat) (k_kind : Int32) (k_set : Int32) (k_dial : Int32) (k_low : Int32) (k_high : Int32) (k_read : Int32) (x1 : Int32) (x2 : Int32)  : MC l D (TY cI cZ cC cH) yX0_canShow wsX0_canShow 2 45 [.ref k_o, .int x1, .int x2] (WCk cI cZ cC cH k_o k_kind k_set k_dial k_low k_high k_read) (some (.int (F_X0_canShow k_kind k_set k_dial k_low k_high x1 x2))) (WCk cI cZ cC cH k_o k_kind k_set k_dial k_low k_high k_read) := by
  obtain ⟨R, hF⟩ : ∃ R, R = F_X0_canShow k_kind k_set k_dial k_low k_high x1 x2 := ⟨_, rfl⟩
  rw [← hF]
  refine MC.of (cc := cX0_canShow) (maxL := 7) (ret := (some .boolean)) RX0 rfl (by decide +kernel) rfl (Nat.le_of_ble_eq_true rfl) ?_
  intro p e s m args below meth c A Q KX RT hh ls hl
  have z0 : (0 : Int32).toInt = 0 := rfl
  have z1 : (1 : Int32).toInt = 1 := rfl
  have zm : (-1 : Int32).toInt = -1 := rfl
  have hx := KX.1
  have hb := KX.2.1
  have hl : lv_has ls 7 [(0, .ref k_o), (1, .int x1), (2, .int x2)] := hl
  unfold F_X0_canShow at hF
  refine lv_aload_n hx hb dX0_canShow_0 rfl (lv_at hl 0 rfl) ?_
  refine lv_iload_n hx hb dX0_canShow_1 rfl (lv_at hl 1 rfl) ?_
  refine lv_aload_n hx hb dX0_canShow_2 rfl (lv_at hl 0 rfl) ?_
  refine g_get KX hh in_X0_canShow_X0 0 rfl rfl 3 (by decide) rfl (List.mem_of_getElem? (i := 1) rfl) dX0_canShow_3 ?_
  refine g_callV (As := [.int x1, .int k_low]) (rest := []) KX rfl ⟨Nat.le_of_ble_eq_true rfl, Nat.le_of_ble_eq_true rfl⟩ hh hl (c_X0_handAt l D cI cZ cC cH k_o k_kind k_set k_dial k_low k_high k_read x1 k_low ) JN.all 2 gX0_canShow_X0_handAt rfl (by decide +kernel) ⟨Nat.le_of_ble_eq_true rfl, Nat.le_of_ble_eq_true rfl⟩ 0 0 rfl rfl rfl rfl rfl (Nat.le_of_ble_eq_true rfl) dX0_canShow_6 (fun H locs hh => ?_)
  refine W.eq (g2 := F0 m 9 ls [.int (F_X0_handAt k_kind k_set k_dial x1 k_low)]) rfl ?_
  refine lv_istore_n (lv' := [(3, .int (F_X0_handAt k_kind k_set k_dial x1 k_low)), (0, .ref k_o), (1, .int x1), (2, .int x2)]) hx hb dX0_canShow_9 rfl hl (Nat.le_of_ble_eq_true rfl) rfl (fun ls hl => ?_)
  refine lv_aload_n hx hb dX0_canShow_10 rfl (lv_at hl 1 rfl) ?_
  refine lv_iload_n hx hb dX0_canShow_11 rfl (lv_at hl 2 rfl) ?_
  refine lv_aload_n hx hb dX0_canShow_12 rfl (lv_at hl 1 rfl) ?_
  refine g_get KX hh in_X0_canShow_X0 0 rfl rfl 4 (by decide) rfl (List.mem_of_getElem? (i := 2) rfl) dX0_canShow_13 ?_
  refine g_callV (As := [.int x1, .int k_high]) (rest := []) KX rfl ⟨Nat.le_of_ble_eq_true rfl, Nat.le_of_ble_eq_true rfl⟩ hh hl (c_X0_handAt l D cI cZ cC cH k_o k_kind k_set k_dial k_low k_high k_read x1 k_high ) JN.all 2 gX0_canShow_X0_handAt rfl (by decide +kernel) ⟨Nat.le_of_ble_eq_true rfl, Nat.le_of_ble_eq_true rfl⟩ 0 0 rfl rfl rfl rfl rfl (Nat.le_of_ble_eq_true rfl) dX0_canShow_16 (fun H locs hh => ?_)
  refine W.eq (g2 := F0 m 19 ls [.int (F_X0_handAt k_kind k_set k_dial x1 k_high)]) rfl ?_
  refine lv_istore (lv' := [(4, .int (F_X0_handAt k_kind k_set k_dial x1 k_high)), (3, .int (F_X0_handAt k_kind k_set k_dial x1 k_low)), (0, .ref k_o), (1, .int x1), (2, .int x2)]) hx hb dX0_canShow_19 hl (Nat.le_of_ble_eq_true rfl) rfl (fun ls hl => ?_)
  refine lv_iload_n hx hb dX0_canShow_21 rfl (lv_at hl 1 rfl) ?_
  refine lv_iload hx hb dX0_canShow_22 (lv_at hl 0 rfl) ?_
  refine g_callS (As := [.int (F_X0_handAt k_kind k_set k_dial x1 k_low), .int (F_X0_handAt k_kind k_set k_dial x1 k_high)]) (rest := []) KX rfl ⟨Nat.le_of_ble_eq_true rfl, Nat.le_of_ble_eq_true rfl⟩ hh hl (c_J9_min_7cf53 l D cI cZ cC cH  (F_X0_handAt k_kind k_set k_dial x1 k_low) (F_X0_handAt k_kind k_set k_dial x1 k_high) ) JN.no 2 gm_X0_canShow_J9_min_7cf53_49 rfl (by decide +kernel) ⟨Nat.le_of_ble_eq_true rfl, Nat.le_of_ble_eq_true rfl⟩ rfl rfl (Nat.le_of_ble_eq_true rfl) dX0_canShow_24 (fun H locs hh => ?_)
  refine W.eq (g2 := F0 m 27 ls [.int (F_J9_min_7cf53 (F_X0_handAt k_kind k_set k_dial x1 k_low) (F_X0_handAt k_kind k_set k_dial x1 k_high))]) rfl ?_
  refine lv_sipush (v := 1440) hx hb dX0_canShow_27 (by decide) ?_
  refine g_callS (As := [.int (F_J9_min_7cf53 (F_X0_handAt k_kind k_set k_dial x1 k_low) (F_X0_handAt k_kind k_set k_dial x1 k_high)), .int 1440]) (rest := []) KX rfl ⟨Nat.le_of_ble_eq_true rfl, Nat.le_of_ble_eq_true rfl⟩ hh hl (c_J9_floorDiv_7cf53 l D cI cZ cC cH  (F_J9_min_7cf53 (F_X0_handAt k_kind k_set k_dial x1 k_low) (F_X0_handAt k_kind k_set k_dial x1 k_high)) 1440 (by first | with_reducible assumption | omega | decide | exact tn_lt (n := 8) (by omega) (by omega))) JN.no 2 gX0_canShow_J9_floorDiv_7cf53 rfl (by decide +kernel) ⟨Nat.le_of_ble_eq_true rfl, Nat.le_of_ble_eq_true rfl⟩ rfl rfl (Nat.le_of_ble_eq_true rfl) dX0_canShow_30 (fun H locs hh => ?_)
  refine W.eq (g2 := F0 m 33 ls [.int (F_J9_floorDiv_7cf53 (F_J9_min_7cf53 (F_X0_handAt k_kind k_set k_dial x1 k_low) (F_X0_handAt k_kind k_set k_dial x1 k_high)) 1440)]) rfl ?_
  refine lv_istore (lv' := [(5, .int (F_J9_floorDiv_7cf53 (F_J9_min_7cf53 (F_X0_handAt k_kind k_set k_dial x1 k_low) (F_X0_handAt k_kind k_set k_dial x1 k_high)) 1440)), (4, .int (F_X0_handAt k_kind k_set k_dial x1 k_high)), (3, .int (F_X0_handAt k_kind k_set k_dial x1 k_low)), (0, .ref k_o), (1, .int x1), (2, .int x2)]) hx hb dX0_canShow_33 hl (Nat.le_of_ble_eq_true rfl) rfl (fun ls hl => ?_)
  refine lv_iload_n hx hb dX0_canShow_35 rfl (lv_at hl 2 rfl) ?_
  refine lv_iload hx hb dX0_canShow_36 (lv_at hl 1 rfl) ?_
  refine g_callS (As := [.int (F_X0_handAt k_kind k_set k_dial x1 k_low), .int (F_X0_handAt k_kind k_set k_dial x1 k_high)]) (rest := []) KX rfl ⟨Nat.le_of_ble_eq_true rfl, Nat.le_of_ble_eq_true rfl⟩ hh hl (c_J9_max_7cf53 l D cI cZ cC cH  (F_X0_handAt k_kind k_set k_dial x1 k_low) (F_X0_handAt k_kind k_set k_dial x1 k_high) ) JN.no 2 gm_X0_canShow_J9_max_7cf53_52 rfl (by decide +kernel) ⟨Nat.le_of_ble_eq_true rfl, Nat.le_of_ble_eq_true rfl⟩ rfl rfl (Nat.le_of_ble_eq_true rfl) dX0_canShow_38 (fun H locs hh => ?_)
  refine W.eq (g2 := F0 m 41 ls [.int (F_J9_max_7cf53 (F_X0_handAt k_kind k_set k_dial x1 k_low) (F_X0_handAt k_kind k_set k_dial x1 k_high))]) rfl ?_
  refine lv_sipush (v := 1440) hx hb dX0_canShow_41 (by decide) ?_
  refine g_callS (As := [.int (F_J9_max_7cf53 (F_X0_handAt k_kind k_set k_dial x1 k_low) (F_X0_handAt k_kind k_set k_dial x1 k_high)), .int 1440]) (rest := []) KX rfl ⟨Nat.le_of_ble_eq_true rfl, Nat.le_of_ble_eq_true rfl⟩ hh hl (c_J9_floorDiv_7cf53 l D cI cZ cC cH  (F_J9_max_7cf53 (F_X0_handAt k_kind k_set k_dial x1 k_low) (F_X0_handAt k_kind k_set k_dial x1 k_high)) 1440 (by first | with_reducible assumption | omega | decide | exact tn_lt (n := 8) (by omega) (by omega))) JN.no 2 gX0_canShow_J9_floorDiv_7cf53 rfl (by decide +kernel) ⟨Nat.le_of_ble_eq_true rfl, Nat.le_of_ble_eq_true rfl⟩ rfl rfl (Nat.le_of_ble_eq_true rfl) dX0_canShow_44 (fun H locs hh => ?_)
  refine W.eq (g2 := F0 m 47 ls [.int (F_J9_floorDiv_7cf53 (F_J9_max_7cf53 (F_X0_handAt k_kind k_set k_dial x1 k_low) (F_X0_handAt k_kind k_set k_dial x1 k_high)) 1440)]) rfl ?_
  refine lv_istore (lv' := [(6, .int (F_J9_floorDiv_7cf53 (F_J9_max_7cf53 (F_X0_handAt k_kind k_set k_dial x1 k_low) (F_X0_handAt k_kind k_set k_dial x1 k_high)) 1440)), (5, .int (F_J9_floorDiv_7cf53 (F_J9_min_7cf53 (F_X0_handAt k_kind k_set k_dial x1 k_low) (F_X0_handAt k_kind k_set k_dial x1 k_high)) 1440)), (4, .int (F_X0_handAt k_kind k_set k_dial x1 k_high)), (3, .int (F_X0_handAt k_kind k_set k_dial x1 k_low)), (0, .ref k_o), (1, .int x1), (2, .int x2)]) hx hb dX0_canShow_47 hl (Nat.le_of_ble_eq_true rfl) rfl (fun ls hl => ?_)
  refine lv_iload_n hx hb dX0_canShow_49 rfl (lv_at hl 6 rfl) ?_
  refine lv_iload hx hb dX0_canShow_50 (lv_at hl 1 rfl) ?_
  refine lv_isub hx hb dX0_canShow_52 ?_
  refine lv_sipush (v := 720) hx hb dX0_canShow_53 (by decide) ?_
  refine g_callS (As := [.int (x2 - (F_J9_floorDiv_7cf53 (F_J9_min_7cf53 (F_X0_handAt k_kind k_set k_dial x1 k_low) (F_X0_handAt k_kind k_set k_dial x1 k_high)) 1440)), .int 720]) (rest := []) KX rfl ⟨Nat.le_of_ble_eq_true rfl, Nat.le_of_ble_eq_true rfl⟩ hh hl (c_J9_floorMod_7cf53 l D cI cZ cC cH  (x2 - (F_J9_floorDiv_7cf53 (F_J9_min_7cf53 (F_X0_handAt k_kind k_set k_dial x1 k_low) (F_X0_handAt k_kind k_set k_dial x1 k_high)) 1440)) 720 (by first | with_reducible assumption | omega | decide | exact tn_lt (n := 8) (by omega) (by omega))) JN.no 2 gX0_canShow_J9_floorMod_7cf53 rfl (by decide +kernel) ⟨Nat.le_of_ble_eq_true rfl, Nat.le_of_ble_eq_true rfl⟩ rfl rfl (Nat.le_of_ble_eq_true rfl) dX0_canShow_56 (fun H locs hh => ?_)
  refine W.eq (g2 := F0 m 59 ls [.int (F_J9_floorMod_7cf53 (x2 - (F_J9_floorDiv_7cf53 (F_J9_min_7cf53 (F_X0_handAt k_kind k_set k_dial x1 k_low) (F_X0_handAt k_kind k_set k_dial x1 k_high)) 1440)) 720)]) rfl ?_
  refine lv_iload hx hb dX0_canShow_59 (lv_at hl 0 rfl) ?_
  refine lv_iload hx hb dX0_canShow_61 (lv_at hl 1 rfl) ?_
  refine lv_isub hx hb dX0_canShow_63 ?_
  refine lv_icmp_gt (tgt := 71) hx hb dX0_canShow_64 (by decide) (fun c_64 => ?_) (fun c_64 => ?_)
  · replace hF := hF.trans (if_pos c_64)
    refine lv_iconst (v := 0) hx hb dX0_canShow_71 (by decide) ?_
    exact RT _ _ _ _ _ _ hh (rfl) (Or.inl ⟨_, rfl, by rw [hF], dX0_canShow_72, Or.inr (Or.inl ⟨rfl, Or.inl rfl⟩)⟩)
  · replace hF := hF.trans (if_neg c_64)
    refine lv_iconst (v := 1) hx hb dX0_canShow_67 (by decide) ?_
    refine lv_goto (tgt := 72) hx hb dX0_canShow_68 (by decide) ?_
    exact RT _ _ _ _ _ _ hh (rfl) (Or.inl ⟨_, rfl, by rw [hF], dX0_canShow_72, Or.inr (Or.inl ⟨rfl, Or.inr rfl⟩)⟩)
theorem z_X0_canShow (k_kind : Int32) (k_set : Int32) (k_dial : Int32) (k_low : Int32) (k_high : Int32) (x1 : Int32) (x2 : Int32) : (F_X0_canShow k_kind k_set k_dial k_low k_high x1 x2) = 0 ∨ (F_X0_canShow k_kind k_set k_dial k_low k_high x1 x2) = 1 := by
  unfold F_X0_canShow
  split
  · exact Or.inl rfl
  · exact Or.inr rfl
def F_X0_partsToWholeMinute (k_set : Int32) (k_low : Int32) (x1 : Int32) : Int32 := F_J9_floorMod_7cf53 ((-(x1 - k_set)) * (1440 + k_low)) 1440
theorem in_X0_partsToWholeMinute_X0 : ∀ x ∈ u_ws RX0 TX0 6, x ∈ wsX0_partsToWholeMinute := by decide +kernel
set_option maxHeartbeats 2000000 in
set_option maxRecDepth 100000 in
theorem c_X0_partsToWholeMinute (l : Launch) (D : va_G) (cI cZ cC cH : ClassId) (k_o : Nat) (k_kind : Int32) (k_set : Int32) (k_dial : Int32) (k_low : Int32) (k_high : Int32) (k_read : Int32) (x1 : Int32)  : MC l D (TY cI cZ cC cH) yX0_partsToWholeMinute wsX0_partsToWholeMinute 1 22 [.ref k_o, .int x1] (WCk cI cZ cC cH k_o k_kind k_set k_dial k_low k_high k_read) (some (.int (F_X0_partsToWholeMinute k_set k_low x1))) (WCk cI cZ cC cH k_o k_kind k_set k_dial k_low k_high k_read) := by
  obtain ⟨R, hF⟩ : ∃ R, R = F_X0_partsToWholeMinute k_set k_low x1 := ⟨_, rfl⟩
  rw [← hF]
  refine MC.of (cc := cX0_partsToWholeMinute) (maxL := 2) (ret := (some .int)) RX0 rfl (by decide +kernel) rfl (Nat.le_of_ble_eq_true rfl) ?_
  intro p e s m args below meth c A Q KX RT hh ls hl
  have z0 : (0 : Int32).toInt = 0 := rfl
  have z1 : (1 : Int32).toInt = 1 := rfl
  have zm : (-1 : Int32).toInt = -1 := rfl
  have hx := KX.1
  have hb := KX.2.1
  have hl : lv_has ls 2 [(0, .ref k_o), (1, .int x1)] := hl
  unfold F_X0_partsToWholeMinute at hF
  refine lv_iload_n hx hb dX0_partsToWholeMinute_0 rfl (lv_at hl 1 rfl) ?_
  refine lv_aload_n hx hb dX0_partsToWholeMinute_1 rfl (lv_at hl 0 rfl) ?_
  refine g_get KX hh in_X0_partsToWholeMinute_X0 0 rfl rfl 1 (by decide) rfl (List.mem_of_getElem? (i := 1) rfl) dX0_partsToWholeMinute_2 ?_
  refine lv_isub hx hb dX0_partsToWholeMinute_5 ?_
  refine lv_ineg hx hb dX0_partsToWholeMinute_6 ?_
  refine lv_sipush (v := 1440) hx hb dX0_partsToWholeMinute_7 (by decide) ?_
  refine lv_aload_n hx hb dX0_partsToWholeMinute_10 rfl (lv_at hl 0 rfl) ?_
  refine g_get KX hh in_X0_partsToWholeMinute_X0 0 rfl rfl 3 (by decide) rfl (List.mem_of_getElem? (i := 2) rfl) dX0_partsToWholeMinute_11 ?_
  refine lv_iadd hx hb dX0_partsToWholeMinute_14 ?_
  refine lv_imul hx hb dX0_partsToWholeMinute_15 ?_
  refine lv_sipush (v := 1440) hx hb dX0_partsToWholeMinute_16 (by decide) ?_
  refine g_callS (As := [.int ((-(x1 - k_set)) * (1440 + k_low)), .int 1440]) (rest := []) KX rfl ⟨Nat.le_of_ble_eq_true rfl, Nat.le_of_ble_eq_true rfl⟩ hh hl (c_J9_floorMod_7cf53 l D cI cZ cC cH  ((-(x1 - k_set)) * (1440 + k_low)) 1440 (by first | with_reducible assumption | omega | decide | exact tn_lt (n := 8) (by omega) (by omega))) JN.no 2 gX0_partsToWholeMinute_J9_floorMod_7cf53 rfl (by decide +kernel) ⟨Nat.le_of_ble_eq_true rfl, Nat.le_of_ble_eq_true rfl⟩ rfl rfl (Nat.le_of_ble_eq_true rfl) dX0_partsToWholeMinute_19 (fun H locs hh => ?_)
  refine W.eq (g2 := F0 m 22 ls [.int (F_J9_floorMod_7cf53 ((-(x1 - k_set)) * (1440 + k_low)) 1440)]) rfl ?_
  exact RT _ _ _ _ _ _ hh (rfl) (Or.inl ⟨_, rfl, by rw [hF], dX0_partsToWholeMinute_22, Or.inl rfl⟩)
def F_X0_copy_c21 (j_read : Int32) (r21_1 : Int32 × Int32 × Int32 × Int32 × Int32 × Int32) : Int32 × Int32 × Int32 × Int32 × Int32 × Int32 := (r21_1.1, r21_1.2.1, r21_1.2.2.1, r21_1.2.2.2.1, r21_1.2.2.2.2.1, j_read)
def F_X0_copy (j_kind : Int32) (j_set : Int32) (j_dial : Int32) (j_low : Int32) (j_high : Int32) (j_read : Int32) : Int32 × Int32 × Int32 × Int32 × Int32 × Int32 := (F_X0_copy_c21 j_read (F_X0_tell j_kind j_set j_dial j_low j_high))
theorem in_X0_copy_X0 : ∀ x ∈ u_ws RX0 TX0 6, x ∈ wsX0_copy := by decide +kernel
set_option maxHeartbeats 2000000 in
set_option maxRecDepth 100000 in
theorem c_X0_copy (l : Launch) (D : va_G) (cI cZ cC cH : ClassId) (k_o j_o : Nat) (k_kind : Int32) (k_set : Int32) (k_dial : Int32) (k_low : Int32) (k_high : Int32) (k_read : Int32) (j_kind : Int32) (j_set : Int32) (j_dial : Int32) (j_low : Int32) (j_high : Int32) (j_read : Int32)   : MC l D (TY cI cZ cC cH) yX0_copy wsX0_copy 1 25 [.ref k_o, .ref j_o] (WCC cI cZ cC cH k_o j_o k_kind k_set k_dial k_low k_high k_read j_kind j_set j_dial j_low j_high j_read) (none) (WCC cI cZ cC cH k_o j_o (F_X0_copy j_kind j_set j_dial j_low j_high j_read).1 (F_X0_copy j_kind j_set j_dial j_low j_high j_read).2.1 (F_X0_copy j_kind j_set j_dial j_low j_high j_read).2.2.1 (F_X0_copy j_kind j_set j_dial j_low j_high j_read).2.2.2.1 (F_X0_copy j_kind j_set j_dial j_low j_high j_read).2.2.2.2.1 (F_X0_copy j_kind j_set j_dial j_low j_high j_read).2.2.2.2.2 j_kind j_set j_dial j_low j_high j_read) := by
  obtain ⟨R, hF⟩ : ∃ R, R = F_X0_copy j_kind j_set j_dial j_low j_high j_read := ⟨_, rfl⟩
  rw [← hF]
  refine MC.of (cc := cX0_copy) (maxL := 2) (ret := none) RX0 rfl (by decide +kernel) rfl (Nat.le_of_ble_eq_true rfl) ?_
  intro p e s m args below meth c A Q KX RT hh ls hl
  have z0 : (0 : Int32).toInt = 0 := rfl
  have z1 : (1 : Int32).toInt = 1 := rfl
  have zm : (-1 : Int32).toInt = -1 := rfl
  have hx := KX.1
  have hb := KX.2.1
  have hl : lv_has ls 2 [(0, .ref k_o), (1, .ref j_o)] := hl
  unfold F_X0_copy at hF
  refine lv_aload_n hx hb dX0_copy_0 rfl (lv_at hl 0 rfl) ?_
  refine lv_aload_n hx hb dX0_copy_1 rfl (lv_at hl 1 rfl) ?_
  refine g_get KX hh in_X0_copy_X0 1 rfl rfl 0 (by decide) rfl (List.mem_of_getElem? (i := 1) rfl) dX0_copy_2 ?_
  refine lv_aload_n hx hb dX0_copy_5 rfl (lv_at hl 1 rfl) ?_
  refine g_get KX hh in_X0_copy_X0 1 rfl rfl 1 (by decide) rfl (List.mem_of_getElem? (i := 2) rfl) dX0_copy_6 ?_
  refine lv_aload_n hx hb dX0_copy_9 rfl (lv_at hl 1 rfl) ?_
  refine g_get KX hh in_X0_copy_X0 1 rfl rfl 2 (by decide) rfl (List.mem_of_getElem? (i := 3) rfl) dX0_copy_10 ?_
  refine lv_aload_n hx hb dX0_copy_13 rfl (lv_at hl 1 rfl) ?_
  refine g_get KX hh in_X0_copy_X0 1 rfl rfl 3 (by decide) rfl (List.mem_of_getElem? (i := 4) rfl) dX0_copy_14 ?_
  refine lv_aload_n hx hb dX0_copy_17 rfl (lv_at hl 1 rfl) ?_
  refine g_get KX hh in_X0_copy_X0 1 rfl rfl 4 (by decide) rfl (List.mem_of_getElem? (i := 5) rfl) dX0_copy_18 ?_
  refine g_callV (As := [.int j_kind, .int j_set, .int j_dial, .int j_low, .int j_high]) (rest := []) KX rfl ⟨Nat.le_of_ble_eq_true rfl, Nat.le_of_ble_eq_true rfl⟩ hh hl (c_X0_tell l D cI cZ cC cH k_o k_kind k_set k_dial k_low k_high k_read j_kind j_set j_dial j_low j_high ) (JN.up (ws1 := (WCC cI cZ cC cH k_o j_o ((F_X0_tell j_kind j_set j_dial j_low j_high).1) ((F_X0_tell j_kind j_set j_dial j_low j_high).2.1) ((F_X0_tell j_kind j_set j_dial j_low j_high).2.2.1) ((F_X0_tell j_kind j_set j_dial j_low j_high).2.2.2.1) ((F_X0_tell j_kind j_set j_dial j_low j_high).2.2.2.2.1) ((F_X0_tell j_kind j_set j_dial j_low j_high).2.2.2.2.2) j_kind j_set j_dial j_low j_high j_read)) [0] rfl rfl rfl rfl rfl) 5 gX0_copy_X0_tell rfl (by decide +kernel) ⟨Nat.le_of_ble_eq_true rfl, Nat.le_of_ble_eq_true rfl⟩ 0 0 rfl rfl rfl rfl rfl (Nat.le_of_ble_eq_true rfl) dX0_copy_21 (fun H locs hh => ?_)
  refine W.eq (g2 := F0 m 24 ls []) rfl ?_
  generalize q_21 : F_X0_tell j_kind j_set j_dial j_low j_high = r21_1 at hh hF ⊢
  unfold F_X0_copy_c21 at hF
  refine lv_aload_n hx hb dX0_copy_24 rfl (lv_at hl 0 rfl) ?_
  refine lv_aload_n hx hb dX0_copy_25 rfl (lv_at hl 1 rfl) ?_
  refine g_get KX hh in_X0_copy_X0 1 rfl rfl 5 (by decide) rfl (List.mem_of_getElem? (i := 6) rfl) dX0_copy_26 ?_
  refine g_put KX hh in_X0_copy_X0 tyX0 tyX0_ok nmX0 0 rfl rfl 5 (by decide) rfl rfl rfl (Nat.le_of_ble_eq_true rfl) (List.mem_of_getElem? (i := 6) rfl) (w' := (WCC cI cZ cC cH k_o j_o r21_1.1 r21_1.2.1 r21_1.2.2.1 r21_1.2.2.2.1 r21_1.2.2.2.2.1 j_read j_kind j_set j_dial j_low j_high j_read)) rfl rfl dX0_copy_29 (fun H locs hh => ?_)
  exact RT _ _ _ _ _ _ hh (by rw [hF]) (Or.inr (Or.inr (Or.inl ⟨rfl, rfl, dX0_copy_32, rfl⟩)))
def F_X4_clear  : Int32 × Int32 × Int32 × Int32 := (0, (-1), (-1), 0)
theorem in_X4_clear_X4 : ∀ x ∈ u_ws RX4 TX4 4, x ∈ wsX4_clear := by decide +kernel
set_option maxHeartbeats 2000000 in
set_option maxRecDepth 100000 in
theorem c_X4_clear (l : Launch) (D : va_G) (cI cZ cC cH : ClassId) (y_o : Nat) (y_many : Int32) (y_first : Int32) (y_last : Int32) (y_runs : Int32)   : MC l D (TY cI cZ cC cH) yX4_clear wsX4_clear 0 0 [.ref y_o] (WTa cI cZ cC cH y_o y_many y_first y_last y_runs) (none) (WTa cI cZ cC cH y_o (F_X4_clear).1 (F_X4_clear).2.1 (F_X4_clear).2.2.1 (F_X4_clear).2.2.2) := by
  obtain ⟨R, hF⟩ : ∃ R, R = F_X4_clear := ⟨_, rfl⟩
  rw [← hF]
  refine MC.of (cc := cX4_clear) (maxL := 1) (ret := none) RX4 rfl (by decide +kernel) rfl (Nat.le_of_ble_eq_true rfl) ?_
  intro p e s m args below meth c A Q KX RT hh ls hl
  have z0 : (0 : Int32).toInt = 0 := rfl
  have z1 : (1 : Int32).toInt = 1 := rfl
  have zm : (-1 : Int32).toInt = -1 := rfl
  have hx := KX.1
  have hb := KX.2.1
  have hl : lv_has ls 1 [(0, .ref y_o)] := hl
  unfold F_X4_clear at hF
  refine lv_aload_n hx hb dX4_clear_0 rfl (lv_at hl 0 rfl) ?_
  refine lv_iconst (v := 0) hx hb dX4_clear_1 (by decide) ?_
  refine g_put KX hh in_X4_clear_X4 tyX4 tyX4_ok nmX4 0 rfl rfl 0 (by decide) rfl rfl rfl (Nat.le_of_ble_eq_true rfl) (List.mem_of_getElem? (i := 1) rfl) (w' := (WTa cI cZ cC cH y_o 0 y_first y_last y_runs)) rfl rfl dX4_clear_2 (fun H locs hh => ?_)
  refine lv_aload_n hx hb dX4_clear_5 rfl (lv_at hl 0 rfl) ?_
  refine lv_iconst (v := (-1)) hx hb dX4_clear_6 (by decide) ?_
  refine g_put KX hh in_X4_clear_X4 tyX4 tyX4_ok nmX4 0 rfl rfl 1 (by decide) rfl rfl rfl (Nat.le_of_ble_eq_true rfl) (List.mem_of_getElem? (i := 2) rfl) (w' := (WTa cI cZ cC cH y_o 0 (-1) y_last y_runs)) rfl rfl dX4_clear_7 (fun H locs hh => ?_)
  refine lv_aload_n hx hb dX4_clear_10 rfl (lv_at hl 0 rfl) ?_
  refine lv_iconst (v := (-1)) hx hb dX4_clear_11 (by decide) ?_
  refine g_put KX hh in_X4_clear_X4 tyX4 tyX4_ok nmX4 0 rfl rfl 2 (by decide) rfl rfl rfl (Nat.le_of_ble_eq_true rfl) (List.mem_of_getElem? (i := 3) rfl) (w' := (WTa cI cZ cC cH y_o 0 (-1) (-1) y_runs)) rfl rfl dX4_clear_12 (fun H locs hh => ?_)
  refine lv_aload_n hx hb dX4_clear_15 rfl (lv_at hl 0 rfl) ?_
  refine lv_iconst (v := 0) hx hb dX4_clear_16 (by decide) ?_
  refine g_put KX hh in_X4_clear_X4 tyX4 tyX4_ok nmX4 0 rfl rfl 3 (by decide) rfl rfl rfl (Nat.le_of_ble_eq_true rfl) (List.mem_of_getElem? (i := 4) rfl) (w' := (WTa cI cZ cC cH y_o 0 (-1) (-1) 0)) rfl rfl dX4_clear_17 (fun H locs hh => ?_)
  exact RT _ _ _ _ _ _ hh (by rw [hF]) (Or.inr (Or.inr (Or.inl ⟨rfl, rfl, dX4_clear_20, rfl⟩)))
def F_X4_add_39 (y_many : Int32) (x1 : Int32) (w_y_first_1 : Int32) (w_y_runs_2 : Int32) : Int32 × Int32 × Int32 × Int32 := (y_many + 1, w_y_first_1, x1, w_y_runs_2)
def F_X4_add_29 (y_many : Int32) (y_runs : Int32) (x1 : Int32) (w_y_first_1 : Int32)  : Int32 × Int32 × Int32 × Int32 := (F_X4_add_39 y_many x1 w_y_first_1 (y_runs + 1))
def F_X4_add_12 (y_many : Int32) (y_last : Int32) (y_runs : Int32) (x1 : Int32) (w_y_first_1 : Int32) : Int32 × Int32 × Int32 × Int32 := (if y_many = 0 then F_X4_add_29 y_many y_runs x1 w_y_first_1 else (if y_last = (x1 - 1) then (F_X4_add_39 y_many x1 w_y_first_1 y_runs) else F_X4_add_29 y_many y_runs x1 w_y_first_1))
def F_X4_add (y_many : Int32) (y_first : Int32) (y_last : Int32) (y_runs : Int32) (x1 : Int32) : Int32 × Int32 × Int32 × Int32 := (if y_many = 0 then (F_X4_add_12 y_many y_last y_runs x1 x1) else (F_X4_add_12 y_many y_last y_runs x1 y_first))
theorem in_X4_add_X4 : ∀ x ∈ u_ws RX4 TX4 4, x ∈ wsX4_add := by decide +kernel
set_option maxHeartbeats 2000000 in
set_option maxRecDepth 100000 in
theorem c_X4_add (l : Launch) (D : va_G) (cI cZ cC cH : ClassId) (y_o : Nat) (y_many : Int32) (y_first : Int32) (y_last : Int32) (y_runs : Int32) (x1 : Int32)  : MC l D (TY cI cZ cC cH) yX4_add wsX4_add 0 0 [.ref y_o, .int x1] (WTa cI cZ cC cH y_o y_many y_first y_last y_runs) (none) (WTa cI cZ cC cH y_o (F_X4_add y_many y_first y_last y_runs x1).1 (F_X4_add y_many y_first y_last y_runs x1).2.1 (F_X4_add y_many y_first y_last y_runs x1).2.2.1 (F_X4_add y_many y_first y_last y_runs x1).2.2.2) := by
  obtain ⟨R, hF⟩ : ∃ R, R = F_X4_add y_many y_first y_last y_runs x1 := ⟨_, rfl⟩
  rw [← hF]
  refine MC.of (cc := cX4_add) (maxL := 2) (ret := none) RX4 rfl (by decide +kernel) rfl (Nat.le_of_ble_eq_true rfl) ?_
  intro p e s m args below meth c A Q KX RT hh ls hl
  have z0 : (0 : Int32).toInt = 0 := rfl
  have z1 : (1 : Int32).toInt = 1 := rfl
  have zm : (-1 : Int32).toInt = -1 := rfl
  have hx := KX.1
  have hb := KX.2.1
  have hl : lv_has ls 2 [(0, .ref y_o), (1, .int x1)] := hl
  unfold F_X4_add at hF
  refine lv_aload_n hx hb dX4_add_0 rfl (lv_at hl 0 rfl) ?_
  refine g_get KX hh in_X4_add_X4 0 rfl rfl 0 (by decide) rfl (List.mem_of_getElem? (i := 1) rfl) dX4_add_1 ?_
  have K_12 : ∀ (w_y_first_1 : Int32) (_ : R = (F_X4_add_12 y_many y_last y_runs x1) w_y_first_1) (ls : Array Slot) (H : Heap) (locs : List Loc) (_ : HS D A s.heap (WTa cI cZ cC cH y_o y_many w_y_first_1 y_last y_runs) H locs) (_ : lv_has ls 2 [(0, .ref y_o), (1, .int x1)]), W p l e { frames := 0, cells := 0, slots := 0, locals := 0 } s m args below meth c H locs 0 0 Q (F0 m 12 ls []) := by
    intro w_y_first_1 hF ls H locs hh hl
    unfold F_X4_add_12 at hF
    refine lv_aload_n hx hb dX4_add_12 rfl (lv_at hl 0 rfl) ?_
    refine g_get KX hh in_X4_add_X4 0 rfl rfl 0 (by decide) rfl (List.mem_of_getElem? (i := 1) rfl) dX4_add_13 ?_
    have K_39 : ∀ (w_y_runs_2 : Int32) (_ : R = (F_X4_add_39 y_many x1 w_y_first_1) w_y_runs_2) (ls : Array Slot) (H : Heap) (locs : List Loc) (_ : HS D A s.heap (WTa cI cZ cC cH y_o y_many w_y_first_1 y_last w_y_runs_2) H locs) (_ : lv_has ls 2 [(0, .ref y_o), (1, .int x1)]), W p l e { frames := 0, cells := 0, slots := 0, locals := 0 } s m args below meth c H locs 0 0 Q (F0 m 39 ls []) := by
      intro w_y_runs_2 hF ls H locs hh hl
      unfold F_X4_add_39 at hF
      refine lv_aload_n hx hb dX4_add_39 rfl (lv_at hl 0 rfl) ?_
      refine lv_iload_n hx hb dX4_add_40 rfl (lv_at hl 1 rfl) ?_
      refine g_put KX hh in_X4_add_X4 tyX4 tyX4_ok nmX4 0 rfl rfl 2 (by decide) rfl rfl rfl (Nat.le_of_ble_eq_true rfl) (List.mem_of_getElem? (i := 3) rfl) (w' := (WTa cI cZ cC cH y_o y_many w_y_first_1 x1 w_y_runs_2)) rfl rfl dX4_add_41 (fun H locs hh => ?_)
      refine lv_aload_n hx hb dX4_add_44 rfl (lv_at hl 0 rfl) ?_
      refine lv_dup hx hb dX4_add_45 rfl ?_
      refine g_get KX hh in_X4_add_X4 0 rfl rfl 0 (by decide) rfl (List.mem_of_getElem? (i := 1) rfl) dX4_add_46 ?_
      refine lv_iconst (v := 1) hx hb dX4_add_49 (by decide) ?_
      refine lv_iadd hx hb dX4_add_50 ?_
      refine g_put KX hh in_X4_add_X4 tyX4 tyX4_ok nmX4 0 rfl rfl 0 (by decide) rfl rfl rfl (Nat.le_of_ble_eq_true rfl) (List.mem_of_getElem? (i := 1) rfl) (w' := (WTa cI cZ cC cH y_o (y_many + 1) w_y_first_1 x1 w_y_runs_2)) rfl rfl dX4_add_51 (fun H locs hh => ?_)
      exact RT _ _ _ _ _ _ hh (by rw [hF]) (Or.inr (Or.inr (Or.inl ⟨rfl, rfl, dX4_add_54, rfl⟩)))
    have K_29 : ∀ (_ : R = (F_X4_add_29 y_many y_runs x1 w_y_first_1)) (ls : Array Slot) (H : Heap) (locs : List Loc) (_ : HS D A s.heap (WTa cI cZ cC cH y_o y_many w_y_first_1 y_last y_runs) H locs) (_ : lv_has ls 2 [(0, .ref y_o), (1, .int x1)]), W p l e { frames := 0, cells := 0, slots := 0, locals := 0 } s m args below meth c H locs 0 0 Q (F0 m 29 ls []) := by
      intro  hF ls H locs hh hl
      unfold F_X4_add_29 at hF
      refine lv_aload_n hx hb dX4_add_29 rfl (lv_at hl 0 rfl) ?_
      refine lv_dup hx hb dX4_add_30 rfl ?_
      refine g_get KX hh in_X4_add_X4 0 rfl rfl 3 (by decide) rfl (List.mem_of_getElem? (i := 4) rfl) dX4_add_31 ?_
      refine lv_iconst (v := 1) hx hb dX4_add_34 (by decide) ?_
      refine lv_iadd hx hb dX4_add_35 ?_
      refine g_put KX hh in_X4_add_X4 tyX4 tyX4_ok nmX4 0 rfl rfl 3 (by decide) rfl rfl rfl (Nat.le_of_ble_eq_true rfl) (List.mem_of_getElem? (i := 4) rfl) (w' := (WTa cI cZ cC cH y_o y_many w_y_first_1 y_last (y_runs + 1))) rfl rfl dX4_add_36 (fun H locs hh => ?_)
      exact K_39 (y_runs + 1)  hF _ _ _ hh (lv_sub hl [0, 1] rfl)
    refine lv_if_eq (tgt := 29) hx hb dX4_add_16 (by decide) (fun c_16 => ?_) (fun c_16 => ?_)
    · replace hF := hF.trans (if_pos c_16)
      have i_16 : y_many.toInt = 0 := congrArg Int32.toInt c_16
      exact K_29   hF _ _ _ hh (lv_sub hl [0, 1] rfl)
    · replace hF := hF.trans (if_neg c_16)
      have i_16 : ¬ y_many.toInt = 0 := ti_ne c_16
      refine lv_aload_n hx hb dX4_add_19 rfl (lv_at hl 0 rfl) ?_
      refine g_get KX hh in_X4_add_X4 0 rfl rfl 2 (by decide) rfl (List.mem_of_getElem? (i := 3) rfl) dX4_add_20 ?_
      refine lv_iload_n hx hb dX4_add_23 rfl (lv_at hl 1 rfl) ?_
      refine lv_iconst (v := 1) hx hb dX4_add_24 (by decide) ?_
      refine lv_isub hx hb dX4_add_25 ?_
      refine lv_icmp_eq (tgt := 39) hx hb dX4_add_26 (by decide) (fun c_26 => ?_) (fun c_26 => ?_)
      · replace hF := hF.trans (if_pos c_26)
        have i_26 : y_last.toInt = (x1 - 1).toInt := congrArg Int32.toInt c_26
        exact K_39 y_runs  hF _ _ _ hh (lv_sub hl [0, 1] rfl)
      · replace hF := hF.trans (if_neg c_26)
        have i_26 : ¬ y_last.toInt = (x1 - 1).toInt := ti_ne c_26
        exact K_29   hF _ _ _ hh (lv_sub hl [0, 1] rfl)
  refine lv_if_ne (tgt := 12) hx hb dX4_add_4 (by decide) (fun c_4 => ?_) (fun c_4 => ?_)
  · replace hF := hF.trans (if_neg c_4)
    have i_4 : ¬ y_many.toInt = 0 := ti_ne c_4
    exact K_12 y_first  hF _ _ _ hh (lv_sub hl [0, 1] rfl)
  · replace hF := hF.trans (if_pos c_4)
    have i_4 : y_many.toInt = 0 := congrArg Int32.toInt c_4
    refine lv_aload_n hx hb dX4_add_7 rfl (lv_at hl 0 rfl) ?_
    refine lv_iload_n hx hb dX4_add_8 rfl (lv_at hl 1 rfl) ?_
    refine g_put KX hh in_X4_add_X4 tyX4 tyX4_ok nmX4 0 rfl rfl 1 (by decide) rfl rfl rfl (Nat.le_of_ble_eq_true rfl) (List.mem_of_getElem? (i := 2) rfl) (w' := (WTa cI cZ cC cH y_o y_many x1 y_last y_runs)) rfl rfl dX4_add_9 (fun H locs hh => ?_)
    exact K_12 x1  hF _ _ _ hh (lv_sub hl [0, 1] rfl)
def F_X4_tell (y_many : Int32) (y_first : Int32) (y_last : Int32) (y_runs : Int32) (x1 : Int32) : Int32 := (if x1 = 0 then y_many else if x1 = 1 then y_first else if x1 = 2 then y_last else y_runs)
theorem in_X4_tell_X4 : ∀ x ∈ u_ws RX4 TX4 4, x ∈ wsX4_tell := by decide +kernel
set_option maxHeartbeats 2000000 in
set_option maxRecDepth 100000 in
theorem c_X4_tell (l : Launch) (D : va_G) (cI cZ cC cH : ClassId) (y_o : Nat) (y_many : Int32) (y_first : Int32) (y_last : Int32) (y_runs : Int32) (x1 : Int32)  : MC l D (TY cI cZ cC cH) yX4_tell wsX4_tell 0 0 [.ref y_o, .int x1] (WTa cI cZ cC cH y_o y_many y_first y_last y_runs) (some (.int (F_X4_tell y_many y_first y_last y_runs x1))) (WTa cI cZ cC cH y_o y_many y_first y_last y_runs) := by
  obtain ⟨R, hF⟩ : ∃ R, R = F_X4_tell y_many y_first y_last y_runs x1 := ⟨_, rfl⟩
  rw [← hF]
  refine MC.of (cc := cX4_tell) (maxL := 2) (ret := (some .int)) RX4 rfl (by decide +kernel) rfl (Nat.le_of_ble_eq_true rfl) ?_
  intro p e s m args below meth c A Q KX RT hh ls hl
  have z0 : (0 : Int32).toInt = 0 := rfl
  have z1 : (1 : Int32).toInt = 1 := rfl
  have zm : (-1 : Int32).toInt = -1 := rfl
  have hx := KX.1
  have hb := KX.2.1
  have hl : lv_has ls 2 [(0, .ref y_o), (1, .int x1)] := hl
  unfold F_X4_tell at hF
  refine lv_iload_n hx hb dX4_tell_0 rfl (lv_at hl 1 rfl) ?_
  by_cases c_1_0 : x1 = 0
  · replace hF := hF.trans (if_pos c_1_0)
    have i_1_0 : x1.toInt = 0 := congrArg Int32.toInt c_1_0
    refine W.eq (g2 := F0 m 1 ls (.int 0 :: [])) (by rw [c_1_0]) ?_
    refine lv_tableIn (tgt := 28) hx hb dX4_tell_1 (by decide) (by decide) rfl (by decide) ?_
    refine lv_aload_n hx hb dX4_tell_28 rfl (lv_at hl 0 rfl) ?_
    refine g_get KX hh in_X4_tell_X4 0 rfl rfl 0 (by decide) rfl (List.mem_of_getElem? (i := 1) rfl) dX4_tell_29 ?_
    exact RT _ _ _ _ _ _ hh (rfl) (Or.inl ⟨_, rfl, by rw [hF], dX4_tell_32, Or.inl rfl⟩)
  replace hF := hF.trans (if_neg c_1_0)
  by_cases c_1_1 : x1 = 1
  · replace hF := hF.trans (if_pos c_1_1)
    have i_1_1 : x1.toInt = 1 := congrArg Int32.toInt c_1_1
    refine W.eq (g2 := F0 m 1 ls (.int 1 :: [])) (by rw [c_1_1]) ?_
    refine lv_tableIn (tgt := 33) hx hb dX4_tell_1 (by decide) (by decide) rfl (by decide) ?_
    refine lv_aload_n hx hb dX4_tell_33 rfl (lv_at hl 0 rfl) ?_
    refine g_get KX hh in_X4_tell_X4 0 rfl rfl 1 (by decide) rfl (List.mem_of_getElem? (i := 2) rfl) dX4_tell_34 ?_
    exact RT _ _ _ _ _ _ hh (rfl) (Or.inl ⟨_, rfl, by rw [hF], dX4_tell_37, Or.inl rfl⟩)
  replace hF := hF.trans (if_neg c_1_1)
  by_cases c_1_2 : x1 = 2
  · replace hF := hF.trans (if_pos c_1_2)
    have i_1_2 : x1.toInt = 2 := congrArg Int32.toInt c_1_2
    refine W.eq (g2 := F0 m 1 ls (.int 2 :: [])) (by rw [c_1_2]) ?_
    refine lv_tableIn (tgt := 38) hx hb dX4_tell_1 (by decide) (by decide) rfl (by decide) ?_
    refine lv_aload_n hx hb dX4_tell_38 rfl (lv_at hl 0 rfl) ?_
    refine g_get KX hh in_X4_tell_X4 0 rfl rfl 2 (by decide) rfl (List.mem_of_getElem? (i := 3) rfl) dX4_tell_39 ?_
    exact RT _ _ _ _ _ _ hh (rfl) (Or.inl ⟨_, rfl, by rw [hF], dX4_tell_42, Or.inl rfl⟩)
  replace hF := hF.trans (if_neg c_1_2)
  refine lv_tableOut (tgt := 43) hx hb dX4_tell_1 (by have h1 := sw_ne (y := 0) (k := 0) c_1_0 rfl; have h2 := sw_ne (y := 1) (k := 1) c_1_1 rfl; have h3 := sw_ne (y := 2) (k := 2) c_1_2 rfl; omega) (by decide) ?_
  refine lv_aload_n hx hb dX4_tell_43 rfl (lv_at hl 0 rfl) ?_
  refine g_get KX hh in_X4_tell_X4 0 rfl rfl 3 (by decide) rfl (List.mem_of_getElem? (i := 4) rfl) dX4_tell_44 ?_
  exact RT _ _ _ _ _ _ hh (rfl) (Or.inl ⟨_, rfl, by rw [hF], dX4_tell_47, Or.inl rfl⟩)
def F_X2_add (n_many : Int32) (n_clocks : Nat → Int32) (n_minutes : Nat → Int32) (n_dials : Nat → Int32) (x1 : Int32) (x2 : Int32) (x3 : Int32) : Int32 × Int32 × (Nat → Int32) × (Nat → Int32) × (Nat → Int32) := (if n_many < 12 then (1, n_many + 1, upd n_clocks n_many.toNatClampNeg x1, upd n_minutes n_many.toNatClampNeg x2, upd n_dials n_many.toNatClampNeg x3) else (0, n_many, n_clocks, n_minutes, n_dials))
theorem in_X2_add_X2 : ∀ x ∈ u_ws RX2 TX2 4, x ∈ wsX2_add := by decide +kernel
set_option maxHeartbeats 2000000 in
set_option maxRecDepth 100000 in
theorem c_X2_add (l : Launch) (D : va_G) (cI cZ cC cH : ClassId) (n_o n_a_clocks n_a_minutes n_a_dials : Nat) (n_many : Int32) (n_clocks : Nat → Int32) (n_minutes : Nat → Int32) (n_dials : Nat → Int32) (x1 : Int32) (x2 : Int32) (x3 : Int32) (hn0 : 0 ≤ n_many.toInt) : MC l D (TY cI cZ cC cH) yX2_add wsX2_add 0 0 [.ref n_o, .int x1, .int x2, .int x3] (WNo cI cZ cC cH n_o n_a_clocks n_a_minutes n_a_dials n_many n_clocks n_minutes n_dials) (some (.int ((F_X2_add n_many n_clocks n_minutes n_dials x1 x2 x3).1))) (WNo cI cZ cC cH n_o n_a_clocks n_a_minutes n_a_dials (F_X2_add n_many n_clocks n_minutes n_dials x1 x2 x3).2.1 (F_X2_add n_many n_clocks n_minutes n_dials x1 x2 x3).2.2.1 (F_X2_add n_many n_clocks n_minutes n_dials x1 x2 x3).2.2.2.1 (F_X2_add n_many n_clocks n_minutes n_dials x1 x2 x3).2.2.2.2) := by
  obtain ⟨R, hF⟩ : ∃ R, R = F_X2_add n_many n_clocks n_minutes n_dials x1 x2 x3 := ⟨_, rfl⟩
  rw [← hF]
  refine MC.of (cc := cX2_add) (maxL := 4) (ret := (some .boolean)) RX2 rfl (by decide +kernel) rfl (Nat.le_of_ble_eq_true rfl) ?_
  intro p e s m args below meth c A Q KX RT hh ls hl
  have z0 : (0 : Int32).toInt = 0 := rfl
  have z1 : (1 : Int32).toInt = 1 := rfl
  have zm : (-1 : Int32).toInt = -1 := rfl
  have hx := KX.1
  have hb := KX.2.1
  have hl : lv_has ls 4 [(0, .ref n_o), (1, .int x1), (2, .int x2), (3, .int x3)] := hl
  unfold F_X2_add at hF
  refine lv_aload_n hx hb dX2_add_0 rfl (lv_at hl 0 rfl) ?_
  refine g_get KX hh in_X2_add_X2 0 rfl rfl 0 (by decide) rfl (List.mem_of_getElem? (i := 1) rfl) dX2_add_1 ?_
  refine lv_bipush (v := 12) hx hb dX2_add_4 (by decide) ?_
  refine lv_icmp_lt (tgt := 11) hx hb dX2_add_6 (by decide) (fun c_6 => ?_) (fun c_6 => ?_)
  · replace hF := hF.trans (if_pos c_6)
    have i_6 : n_many.toInt < 12 := ti_lt.mp c_6
    refine lv_aload_n hx hb dX2_add_11 rfl (lv_at hl 0 rfl) ?_
    refine g_get KX hh in_X2_add_X2 0 rfl rfl 1 (by decide) rfl (List.mem_of_getElem? (i := 2) rfl) dX2_add_12 ?_
    refine lv_aload_n hx hb dX2_add_15 rfl (lv_at hl 0 rfl) ?_
    refine g_get KX hh in_X2_add_X2 0 rfl rfl 0 (by decide) rfl (List.mem_of_getElem? (i := 1) rfl) dX2_add_16 ?_
    refine lv_iload_n hx hb dX2_add_19 rfl (lv_at hl 1 rfl) ?_
    refine g_iast KX hh 1 0 rfl rfl (vp_in_iff.mpr (by omega)) (w' := (WNo cI cZ cC cH n_o n_a_clocks n_a_minutes n_a_dials n_many (upd n_clocks n_many.toNatClampNeg x1) n_minutes n_dials)) rfl dX2_add_20 (fun H locs hh => ?_)
    refine lv_aload_n hx hb dX2_add_21 rfl (lv_at hl 0 rfl) ?_
    refine g_get KX hh in_X2_add_X2 0 rfl rfl 2 (by decide) rfl (List.mem_of_getElem? (i := 3) rfl) dX2_add_22 ?_
    refine lv_aload_n hx hb dX2_add_25 rfl (lv_at hl 0 rfl) ?_
    refine g_get KX hh in_X2_add_X2 0 rfl rfl 0 (by decide) rfl (List.mem_of_getElem? (i := 1) rfl) dX2_add_26 ?_
    refine lv_iload_n hx hb dX2_add_29 rfl (lv_at hl 2 rfl) ?_
    refine g_iast KX hh 2 0 rfl rfl (vp_in_iff.mpr (by omega)) (w' := (WNo cI cZ cC cH n_o n_a_clocks n_a_minutes n_a_dials n_many (upd n_clocks n_many.toNatClampNeg x1) (upd n_minutes n_many.toNatClampNeg x2) n_dials)) rfl dX2_add_30 (fun H locs hh => ?_)
    refine lv_aload_n hx hb dX2_add_31 rfl (lv_at hl 0 rfl) ?_
    refine g_get KX hh in_X2_add_X2 0 rfl rfl 3 (by decide) rfl (List.mem_of_getElem? (i := 4) rfl) dX2_add_32 ?_
    refine lv_aload_n hx hb dX2_add_35 rfl (lv_at hl 0 rfl) ?_
    refine g_get KX hh in_X2_add_X2 0 rfl rfl 0 (by decide) rfl (List.mem_of_getElem? (i := 1) rfl) dX2_add_36 ?_
    refine lv_iload_n hx hb dX2_add_39 rfl (lv_at hl 3 rfl) ?_
    refine g_iast KX hh 3 0 rfl rfl (vp_in_iff.mpr (by omega)) (w' := (WNo cI cZ cC cH n_o n_a_clocks n_a_minutes n_a_dials n_many (upd n_clocks n_many.toNatClampNeg x1) (upd n_minutes n_many.toNatClampNeg x2) (upd n_dials n_many.toNatClampNeg x3))) rfl dX2_add_40 (fun H locs hh => ?_)
    refine lv_aload_n hx hb dX2_add_41 rfl (lv_at hl 0 rfl) ?_
    refine lv_dup hx hb dX2_add_42 rfl ?_
    refine g_get KX hh in_X2_add_X2 0 rfl rfl 0 (by decide) rfl (List.mem_of_getElem? (i := 1) rfl) dX2_add_43 ?_
    refine lv_iconst (v := 1) hx hb dX2_add_46 (by decide) ?_
    refine lv_iadd hx hb dX2_add_47 ?_
    refine g_put KX hh in_X2_add_X2 tyX2 tyX2_ok nmX2 0 rfl rfl 0 (by decide) rfl rfl rfl (Nat.le_of_ble_eq_true rfl) (List.mem_of_getElem? (i := 1) rfl) (w' := (WNo cI cZ cC cH n_o n_a_clocks n_a_minutes n_a_dials (n_many + 1) (upd n_clocks n_many.toNatClampNeg x1) (upd n_minutes n_many.toNatClampNeg x2) (upd n_dials n_many.toNatClampNeg x3))) rfl rfl dX2_add_48 (fun H locs hh => ?_)
    refine lv_iconst (v := 1) hx hb dX2_add_51 (by decide) ?_
    exact RT _ _ _ _ _ _ hh (by rw [hF]) (Or.inl ⟨_, rfl, by rw [hF], dX2_add_52, Or.inr (Or.inl ⟨rfl, Or.inr rfl⟩)⟩)
  · replace hF := hF.trans (if_neg c_6)
    have i_6 : 12 ≤ n_many.toInt := ti_nlt c_6
    refine lv_iconst (v := 0) hx hb dX2_add_9 (by decide) ?_
    exact RT _ _ _ _ _ _ hh (by rw [hF]) (Or.inl ⟨_, rfl, by rw [hF], dX2_add_10, Or.inr (Or.inl ⟨rfl, Or.inl rfl⟩)⟩)
theorem z_X2_add (n_many : Int32) (n_clocks : Nat → Int32) (n_minutes : Nat → Int32) (n_dials : Nat → Int32) (x1 : Int32) (x2 : Int32) (x3 : Int32) : (F_X2_add n_many n_clocks n_minutes n_dials x1 x2 x3).1 = 0 ∨ (F_X2_add n_many n_clocks n_minutes n_dials x1 x2 x3).1 = 1 := by
  unfold F_X2_add
  split
  · exact Or.inr rfl
  · exact Or.inl rfl
def F_X3_clear  : Int32 := 0
theorem in_X3_clear_X3 : ∀ x ∈ u_ws RX3 TX3 4, x ∈ wsX3_clear := by decide +kernel
set_option maxHeartbeats 2000000 in
set_option maxRecDepth 100000 in
theorem c_X3_clear (l : Launch) (D : va_G) (cI cZ cC cH : ClassId) (q_o q_a_clocks q_a_rates q_a_least : Nat) (q_many : Int32) (q_clocks : Nat → Int32) (q_rates : Nat → Int32) (q_least : Nat → Int32)   : MC l D (TY cI cZ cC cH) yX3_clear wsX3_clear 0 0 [.ref q_o] (WQu cI cZ cC cH q_o q_a_clocks q_a_rates q_a_least q_many q_clocks q_rates q_least) (none) (WQu cI cZ cC cH q_o q_a_clocks q_a_rates q_a_least (F_X3_clear) q_clocks q_rates q_least) := by
  obtain ⟨R, hF⟩ : ∃ R, R = F_X3_clear := ⟨_, rfl⟩
  rw [← hF]
  refine MC.of (cc := cX3_clear) (maxL := 1) (ret := none) RX3 rfl (by decide +kernel) rfl (Nat.le_of_ble_eq_true rfl) ?_
  intro p e s m args below meth c A Q KX RT hh ls hl
  have z0 : (0 : Int32).toInt = 0 := rfl
  have z1 : (1 : Int32).toInt = 1 := rfl
  have zm : (-1 : Int32).toInt = -1 := rfl
  have hx := KX.1
  have hb := KX.2.1
  have hl : lv_has ls 1 [(0, .ref q_o)] := hl
  unfold F_X3_clear at hF
  refine lv_aload_n hx hb dX3_clear_0 rfl (lv_at hl 0 rfl) ?_
  refine lv_iconst (v := 0) hx hb dX3_clear_1 (by decide) ?_
  refine g_put KX hh in_X3_clear_X3 tyX3 tyX3_ok nmX3 0 rfl rfl 0 (by decide) rfl rfl rfl (Nat.le_of_ble_eq_true rfl) (List.mem_of_getElem? (i := 1) rfl) (w' := (WQu cI cZ cC cH q_o q_a_clocks q_a_rates q_a_least 0 q_clocks q_rates q_least)) rfl rfl dX3_clear_2 (fun H locs hh => ?_)
  exact RT _ _ _ _ _ _ hh (by rw [hF]) (Or.inr (Or.inr (Or.inl ⟨rfl, rfl, dX3_clear_5, rfl⟩)))
def F_X3_add (q_many : Int32) (q_clocks : Nat → Int32) (q_rates : Nat → Int32) (x1 : Int32) (x2 : Int32) : Int32 × (Nat → Int32) × (Nat → Int32) := (if 8 ≤ q_many then (q_many, q_clocks, q_rates) else (q_many + 1, upd q_clocks q_many.toNatClampNeg x1, upd q_rates q_many.toNatClampNeg x2))
theorem in_X3_add_X3 : ∀ x ∈ u_ws RX3 TX3 4, x ∈ wsX3_add := by decide +kernel
set_option maxHeartbeats 2000000 in
set_option maxRecDepth 100000 in
theorem c_X3_add (l : Launch) (D : va_G) (cI cZ cC cH : ClassId) (q_o q_a_clocks q_a_rates q_a_least : Nat) (q_many : Int32) (q_clocks : Nat → Int32) (q_rates : Nat → Int32) (q_least : Nat → Int32) (x1 : Int32) (x2 : Int32) (hq0 : 0 ≤ q_many.toInt) : MC l D (TY cI cZ cC cH) yX3_add wsX3_add 0 0 [.ref q_o, .int x1, .int x2] (WQu cI cZ cC cH q_o q_a_clocks q_a_rates q_a_least q_many q_clocks q_rates q_least) (none) (WQu cI cZ cC cH q_o q_a_clocks q_a_rates q_a_least (F_X3_add q_many q_clocks q_rates x1 x2).1 (F_X3_add q_many q_clocks q_rates x1 x2).2.1 (F_X3_add q_many q_clocks q_rates x1 x2).2.2 q_least) := by
  obtain ⟨R, hF⟩ : ∃ R, R = F_X3_add q_many q_clocks q_rates x1 x2 := ⟨_, rfl⟩
  rw [← hF]
  refine MC.of (cc := cX3_add) (maxL := 3) (ret := none) RX3 rfl (by decide +kernel) rfl (Nat.le_of_ble_eq_true rfl) ?_
  intro p e s m args below meth c A Q KX RT hh ls hl
  have z0 : (0 : Int32).toInt = 0 := rfl
  have z1 : (1 : Int32).toInt = 1 := rfl
  have zm : (-1 : Int32).toInt = -1 := rfl
  have hx := KX.1
  have hb := KX.2.1
  have hl : lv_has ls 3 [(0, .ref q_o), (1, .int x1), (2, .int x2)] := hl
  unfold F_X3_add at hF
  refine lv_aload_n hx hb dX3_add_0 rfl (lv_at hl 0 rfl) ?_
  refine g_get KX hh in_X3_add_X3 0 rfl rfl 0 (by decide) rfl (List.mem_of_getElem? (i := 1) rfl) dX3_add_1 ?_
  refine lv_bipush (v := 8) hx hb dX3_add_4 (by decide) ?_
  refine lv_icmp_ge (tgt := 39) hx hb dX3_add_6 (by decide) (fun c_6 => ?_) (fun c_6 => ?_)
  · replace hF := hF.trans (if_pos c_6)
    have i_6 : 8 ≤ q_many.toInt := ti_le.mp c_6
    exact RT _ _ _ _ _ _ hh (by rw [hF]) (Or.inr (Or.inr (Or.inl ⟨rfl, rfl, dX3_add_39, rfl⟩)))
  · replace hF := hF.trans (if_neg c_6)
    have i_6 : q_many.toInt < 8 := ti_nle c_6
    refine lv_aload_n hx hb dX3_add_9 rfl (lv_at hl 0 rfl) ?_
    refine g_get KX hh in_X3_add_X3 0 rfl rfl 1 (by decide) rfl (List.mem_of_getElem? (i := 2) rfl) dX3_add_10 ?_
    refine lv_aload_n hx hb dX3_add_13 rfl (lv_at hl 0 rfl) ?_
    refine g_get KX hh in_X3_add_X3 0 rfl rfl 0 (by decide) rfl (List.mem_of_getElem? (i := 1) rfl) dX3_add_14 ?_
    refine lv_iload_n hx hb dX3_add_17 rfl (lv_at hl 1 rfl) ?_
    refine g_iast KX hh 1 0 rfl rfl (vp_in_iff.mpr (by omega)) (w' := (WQu cI cZ cC cH q_o q_a_clocks q_a_rates q_a_least q_many (upd q_clocks q_many.toNatClampNeg x1) q_rates q_least)) rfl dX3_add_18 (fun H locs hh => ?_)
    refine lv_aload_n hx hb dX3_add_19 rfl (lv_at hl 0 rfl) ?_
    refine g_get KX hh in_X3_add_X3 0 rfl rfl 2 (by decide) rfl (List.mem_of_getElem? (i := 3) rfl) dX3_add_20 ?_
    refine lv_aload_n hx hb dX3_add_23 rfl (lv_at hl 0 rfl) ?_
    refine g_get KX hh in_X3_add_X3 0 rfl rfl 0 (by decide) rfl (List.mem_of_getElem? (i := 1) rfl) dX3_add_24 ?_
    refine lv_iload_n hx hb dX3_add_27 rfl (lv_at hl 2 rfl) ?_
    refine g_iast KX hh 2 0 rfl rfl (vp_in_iff.mpr (by omega)) (w' := (WQu cI cZ cC cH q_o q_a_clocks q_a_rates q_a_least q_many (upd q_clocks q_many.toNatClampNeg x1) (upd q_rates q_many.toNatClampNeg x2) q_least)) rfl dX3_add_28 (fun H locs hh => ?_)
    refine lv_aload_n hx hb dX3_add_29 rfl (lv_at hl 0 rfl) ?_
    refine lv_dup hx hb dX3_add_30 rfl ?_
    refine g_get KX hh in_X3_add_X3 0 rfl rfl 0 (by decide) rfl (List.mem_of_getElem? (i := 1) rfl) dX3_add_31 ?_
    refine lv_iconst (v := 1) hx hb dX3_add_34 (by decide) ?_
    refine lv_iadd hx hb dX3_add_35 ?_
    refine g_put KX hh in_X3_add_X3 tyX3 tyX3_ok nmX3 0 rfl rfl 0 (by decide) rfl rfl rfl (Nat.le_of_ble_eq_true rfl) (List.mem_of_getElem? (i := 1) rfl) (w' := (WQu cI cZ cC cH q_o q_a_clocks q_a_rates q_a_least (q_many + 1) (upd q_clocks q_many.toNatClampNeg x1) (upd q_rates q_many.toNatClampNeg x2) q_least)) rfl rfl dX3_add_36 (fun H locs hh => ?_)
    exact RT _ _ _ _ _ _ hh (by rw [hF]) (Or.inr (Or.inr (Or.inl ⟨rfl, rfl, dX3_add_39, rfl⟩)))
def F_X3_leastError (q_least : Nat → Int32) : Int32 := q_least (0 : Int32).toNatClampNeg
theorem in_X3_leastError_X3 : ∀ x ∈ u_ws RX3 TX3 4, x ∈ wsX3_leastError := by decide +kernel
set_option maxHeartbeats 2000000 in
set_option maxRecDepth 100000 in
theorem c_X3_leastError (l : Launch) (D : va_G) (cI cZ cC cH : ClassId) (q_o q_a_clocks q_a_rates q_a_least : Nat) (q_many : Int32) (q_clocks : Nat → Int32) (q_rates : Nat → Int32) (q_least : Nat → Int32)   : MC l D (TY cI cZ cC cH) yX3_leastError wsX3_leastError 0 0 [.ref q_o] (WQu cI cZ cC cH q_o q_a_clocks q_a_rates q_a_least q_many q_clocks q_rates q_least) (some (.int (F_X3_leastError q_least))) (WQu cI cZ cC cH q_o q_a_clocks q_a_rates q_a_least q_many q_clocks q_rates q_least) := by
  obtain ⟨R, hF⟩ : ∃ R, R = F_X3_leastError q_least := ⟨_, rfl⟩
  rw [← hF]
  refine MC.of (cc := cX3_leastError) (maxL := 1) (ret := (some .int)) RX3 rfl (by decide +kernel) rfl (Nat.le_of_ble_eq_true rfl) ?_
  intro p e s m args below meth c A Q KX RT hh ls hl
  have z0 : (0 : Int32).toInt = 0 := rfl
  have z1 : (1 : Int32).toInt = 1 := rfl
  have zm : (-1 : Int32).toInt = -1 := rfl
  have hx := KX.1
  have hb := KX.2.1
  have hl : lv_has ls 1 [(0, .ref q_o)] := hl
  unfold F_X3_leastError at hF
  refine lv_aload_n hx hb dX3_leastError_0 rfl (lv_at hl 0 rfl) ?_
  refine g_get KX hh in_X3_leastError_X3 0 rfl rfl 3 (by decide) rfl (List.mem_of_getElem? (i := 1) rfl) dX3_leastError_1 ?_
  refine lv_iconst (v := 0) hx hb dX3_leastError_4 (by decide) ?_
  refine g_iald KX hh 3 0 rfl rfl (vp_in_iff.mpr (by decide)) dX3_leastError_5 ?_
  exact RT _ _ _ _ _ _ hh (rfl) (Or.inl ⟨_, rfl, by rw [hF], dX3_leastError_6, Or.inl rfl⟩)
def F_X3_leastBehind (q_least : Nat → Int32) (x1 : Int32) : Int32 := (if (F_X6_isBelow x1 64) = 0 then 0 else q_least x1.toNatClampNeg)
theorem in_X3_leastBehind_X3 : ∀ x ∈ u_ws RX3 TX3 4, x ∈ wsX3_leastBehind := by decide +kernel
set_option maxHeartbeats 2000000 in
set_option maxRecDepth 100000 in
theorem c_X3_leastBehind (l : Launch) (D : va_G) (cI cZ cC cH : ClassId) (q_o q_a_clocks q_a_rates q_a_least : Nat) (q_many : Int32) (q_clocks : Nat → Int32) (q_rates : Nat → Int32) (q_least : Nat → Int32) (x1 : Int32)  : MC l D (TY cI cZ cC cH) yX3_leastBehind wsX3_leastBehind 1 21 [.ref q_o, .int x1] (WQu cI cZ cC cH q_o q_a_clocks q_a_rates q_a_least q_many q_clocks q_rates q_least) (some (.int (F_X3_leastBehind q_least x1))) (WQu cI cZ cC cH q_o q_a_clocks q_a_rates q_a_least q_many q_clocks q_rates q_least) := by
  obtain ⟨R, hF⟩ : ∃ R, R = F_X3_leastBehind q_least x1 := ⟨_, rfl⟩
  rw [← hF]
  refine MC.of (cc := cX3_leastBehind) (maxL := 2) (ret := (some .int)) RX3 rfl (by decide +kernel) rfl (Nat.le_of_ble_eq_true rfl) ?_
  intro p e s m args below meth c A Q KX RT hh ls hl
  have z0 : (0 : Int32).toInt = 0 := rfl
  have z1 : (1 : Int32).toInt = 1 := rfl
  have zm : (-1 : Int32).toInt = -1 := rfl
  have hx := KX.1
  have hb := KX.2.1
  have hl : lv_has ls 2 [(0, .ref q_o), (1, .int x1)] := hl
  unfold F_X3_leastBehind at hF
  refine lv_iload_n hx hb dX3_leastBehind_0 rfl (lv_at hl 1 rfl) ?_
  refine lv_bipush (v := 64) hx hb dX3_leastBehind_1 (by decide) ?_
  refine g_callN (host := "WrongClocks") (As := [.int x1, .int 64]) (rest := []) KX rfl ⟨Nat.le_of_ble_eq_true rfl, Nat.le_of_ble_eq_true rfl⟩ hh hl (c_X6_isBelow l D cI cZ cC cH  x1 64 ) JN.no 2 gX3_leastBehind_X6_isBelow_n41 rfl (by decide +kernel) (List.mem_of_getElem? (i := 3) rfl) (List.mem_of_getElem? (i := 2) rfl) (by decide +kernel) ⟨Nat.le_of_ble_eq_true rfl, Nat.le_of_ble_eq_true rfl⟩ rfl rfl (Nat.le_of_ble_eq_true rfl) dX3_leastBehind_3 (fun H locs hh => ?_)
  refine W.eq (g2 := F0 m 6 ls [.int (F_X6_isBelow x1 64)]) rfl ?_
  refine lv_if_eq (tgt := 18) hx hb dX3_leastBehind_6 (by decide) (fun c_6 => ?_) (fun c_6 => ?_)
  · replace hF := hF.trans (if_pos c_6)
    refine lv_iconst (v := 0) hx hb dX3_leastBehind_18 (by decide) ?_
    exact RT _ _ _ _ _ _ hh (rfl) (Or.inl ⟨_, rfl, by rw [hF], dX3_leastBehind_19, Or.inl rfl⟩)
  · replace hF := hF.trans (if_neg c_6)
    obtain ⟨k0_6, k1_6⟩ : (0 : Int) ≤ x1.toInt ∧ x1.toInt < 64 := X6_isBelow_in c_6
    refine lv_aload_n hx hb dX3_leastBehind_9 rfl (lv_at hl 0 rfl) ?_
    refine g_get KX hh in_X3_leastBehind_X3 0 rfl rfl 3 (by decide) rfl (List.mem_of_getElem? (i := 1) rfl) dX3_leastBehind_10 ?_
    refine lv_iload_n hx hb dX3_leastBehind_13 rfl (lv_at hl 1 rfl) ?_
    refine g_iald KX hh 3 0 rfl rfl (vp_in_iff.mpr (by omega)) dX3_leastBehind_14 ?_
    refine lv_goto (tgt := 19) hx hb dX3_leastBehind_15 (by decide) ?_
    exact RT _ _ _ _ _ _ hh (rfl) (Or.inl ⟨_, rfl, by rw [hF], dX3_leastBehind_19, Or.inl rfl⟩)
def F_X5_signAt (t_length : Int32) (t_bytes : Nat → Int32) (x1 : Int32) : Int32 := (if x1 < 0 then (-1) else (if t_length ≤ x1 then (-1) else (if 200 ≤ x1 then (-1) else t_bytes x1.toNatClampNeg)))
theorem in_X5_signAt_X5 : ∀ x ∈ u_ws RX5 TX5 6, x ∈ wsX5_signAt := by decide +kernel
set_option maxHeartbeats 2000000 in
set_option maxRecDepth 100000 in
theorem c_X5_signAt (l : Launch) (D : va_G) (cI cZ cC cH : ClassId) (t_o t_a_bytes t_a_rows : Nat) (t_length : Int32) (t_lineCount : Int32) (t_start : Int32) (t_end : Int32) (t_bytes : Nat → Int32) (t_rows : Nat → Int32) (x1 : Int32)  : MC l D (TY cI cZ cC cH) yX5_signAt wsX5_signAt 0 0 [.ref t_o, .int x1] (WTx cI cZ cC cH t_o t_a_bytes t_a_rows t_length t_lineCount t_start t_end t_bytes t_rows) (some (.int (F_X5_signAt t_length t_bytes x1))) (WTx cI cZ cC cH t_o t_a_bytes t_a_rows t_length t_lineCount t_start t_end t_bytes t_rows) := by
  obtain ⟨R, hF⟩ : ∃ R, R = F_X5_signAt t_length t_bytes x1 := ⟨_, rfl⟩
  rw [← hF]
  refine MC.of (cc := cX5_signAt) (maxL := 2) (ret := (some .int)) RX5 rfl (by decide +kernel) rfl (Nat.le_of_ble_eq_true rfl) ?_
  intro p e s m args below meth c A Q KX RT hh ls hl
  have z0 : (0 : Int32).toInt = 0 := rfl
  have z1 : (1 : Int32).toInt = 1 := rfl
  have zm : (-1 : Int32).toInt = -1 := rfl
  have hx := KX.1
  have hb := KX.2.1
  have hl : lv_has ls 2 [(0, .ref t_o), (1, .int x1)] := hl
  unfold F_X5_signAt at hF
  refine lv_iload_n hx hb dX5_signAt_0 rfl (lv_at hl 1 rfl) ?_
  refine lv_if_lt (tgt := 28) hx hb dX5_signAt_1 (by decide) (fun c_1 => ?_) (fun c_1 => ?_)
  · replace hF := hF.trans (if_pos c_1)
    have i_1 : x1.toInt < 0 := ti_lt.mp c_1
    refine lv_iconst (v := (-1)) hx hb dX5_signAt_28 (by decide) ?_
    exact RT _ _ _ _ _ _ hh (rfl) (Or.inl ⟨_, rfl, by rw [hF], dX5_signAt_29, Or.inl rfl⟩)
  · replace hF := hF.trans (if_neg c_1)
    have i_1 : 0 ≤ x1.toInt := ti_nlt c_1
    refine lv_iload_n hx hb dX5_signAt_4 rfl (lv_at hl 1 rfl) ?_
    refine lv_aload_n hx hb dX5_signAt_5 rfl (lv_at hl 0 rfl) ?_
    refine g_get KX hh in_X5_signAt_X5 0 rfl rfl 1 (by decide) rfl (List.mem_of_getElem? (i := 1) rfl) dX5_signAt_6 ?_
    refine lv_icmp_ge (tgt := 28) hx hb dX5_signAt_9 (by decide) (fun c_9 => ?_) (fun c_9 => ?_)
    · replace hF := hF.trans (if_pos c_9)
      have i_9 : t_length.toInt ≤ x1.toInt := ti_le.mp c_9
      refine lv_iconst (v := (-1)) hx hb dX5_signAt_28 (by decide) ?_
      exact RT _ _ _ _ _ _ hh (rfl) (Or.inl ⟨_, rfl, by rw [hF], dX5_signAt_29, Or.inl rfl⟩)
    · replace hF := hF.trans (if_neg c_9)
      have i_9 : x1.toInt < t_length.toInt := ti_nle c_9
      refine lv_iload_n hx hb dX5_signAt_12 rfl (lv_at hl 1 rfl) ?_
      refine lv_sipush (v := 200) hx hb dX5_signAt_13 (by decide) ?_
      refine lv_icmp_ge (tgt := 28) hx hb dX5_signAt_16 (by decide) (fun c_16 => ?_) (fun c_16 => ?_)
      · replace hF := hF.trans (if_pos c_16)
        have i_16 : 200 ≤ x1.toInt := ti_le.mp c_16
        refine lv_iconst (v := (-1)) hx hb dX5_signAt_28 (by decide) ?_
        exact RT _ _ _ _ _ _ hh (rfl) (Or.inl ⟨_, rfl, by rw [hF], dX5_signAt_29, Or.inl rfl⟩)
      · replace hF := hF.trans (if_neg c_16)
        have i_16 : x1.toInt < 200 := ti_nle c_16
        refine lv_aload_n hx hb dX5_signAt_19 rfl (lv_at hl 0 rfl) ?_
        refine g_get KX hh in_X5_signAt_X5 0 rfl rfl 0 (by decide) rfl (List.mem_of_getElem? (i := 2) rfl) dX5_signAt_20 ?_
        refine lv_iload_n hx hb dX5_signAt_23 rfl (lv_at hl 1 rfl) ?_
        refine g_iald KX hh 1 0 rfl rfl (vp_in_iff.mpr (by omega)) dX5_signAt_24 ?_
        refine lv_goto (tgt := 29) hx hb dX5_signAt_25 (by decide) ?_
        exact RT _ _ _ _ _ _ hh (rfl) (Or.inl ⟨_, rfl, by rw [hF], dX5_signAt_29, Or.inl rfl⟩)
def F_X5_put (t_length : Int32) (t_bytes : Nat → Int32) (x1 : Int32) : Int32 × (Nat → Int32) := (if 200 ≤ t_length then (t_length, t_bytes) else (t_length + 1, upd t_bytes t_length.toNatClampNeg x1))
theorem in_X5_put_X5 : ∀ x ∈ u_ws RX5 TX5 6, x ∈ wsX5_put := by decide +kernel
set_option maxHeartbeats 2000000 in
set_option maxRecDepth 100000 in
theorem c_X5_put (l : Launch) (D : va_G) (cI cZ cC cH : ClassId) (t_o t_a_bytes t_a_rows : Nat) (t_length : Int32) (t_lineCount : Int32) (t_start : Int32) (t_end : Int32) (t_bytes : Nat → Int32) (t_rows : Nat → Int32) (x1 : Int32) (ht0 : 0 ≤ t_length.toInt) : MC l D (TY cI cZ cC cH) yX5_put wsX5_put 0 0 [.ref t_o, .int x1] (WTx cI cZ cC cH t_o t_a_bytes t_a_rows t_length t_lineCount t_start t_end t_bytes t_rows) (none) (WTx cI cZ cC cH t_o t_a_bytes t_a_rows (F_X5_put t_length t_bytes x1).1 t_lineCount t_start t_end (F_X5_put t_length t_bytes x1).2 t_rows) := by
  obtain ⟨R, hF⟩ : ∃ R, R = F_X5_put t_length t_bytes x1 := ⟨_, rfl⟩
  rw [← hF]
  refine MC.of (cc := cX5_put) (maxL := 2) (ret := none) RX5 rfl (by decide +kernel) rfl (Nat.le_of_ble_eq_true rfl) ?_
  intro p e s m args below meth c A Q KX RT hh ls hl
  have z0 : (0 : Int32).toInt = 0 := rfl
  have z1 : (1 : Int32).toInt = 1 := rfl
  have zm : (-1 : Int32).toInt = -1 := rfl
  have hx := KX.1
  have hb := KX.2.1
  have hl : lv_has ls 2 [(0, .ref t_o), (1, .int x1)] := hl
  unfold F_X5_put at hF
  refine lv_aload_n hx hb dX5_put_0 rfl (lv_at hl 0 rfl) ?_
  refine g_get KX hh in_X5_put_X5 0 rfl rfl 1 (by decide) rfl (List.mem_of_getElem? (i := 1) rfl) dX5_put_1 ?_
  refine lv_sipush (v := 200) hx hb dX5_put_4 (by decide) ?_
  refine lv_icmp_ge (tgt := 30) hx hb dX5_put_7 (by decide) (fun c_7 => ?_) (fun c_7 => ?_)
  · replace hF := hF.trans (if_pos c_7)
    have i_7 : 200 ≤ t_length.toInt := ti_le.mp c_7
    exact RT _ _ _ _ _ _ hh (by rw [hF]) (Or.inr (Or.inr (Or.inl ⟨rfl, rfl, dX5_put_30, rfl⟩)))
  · replace hF := hF.trans (if_neg c_7)
    have i_7 : t_length.toInt < 200 := ti_nle c_7
    refine lv_aload_n hx hb dX5_put_10 rfl (lv_at hl 0 rfl) ?_
    refine g_get KX hh in_X5_put_X5 0 rfl rfl 0 (by decide) rfl (List.mem_of_getElem? (i := 2) rfl) dX5_put_11 ?_
    refine lv_aload_n hx hb dX5_put_14 rfl (lv_at hl 0 rfl) ?_
    refine g_get KX hh in_X5_put_X5 0 rfl rfl 1 (by decide) rfl (List.mem_of_getElem? (i := 1) rfl) dX5_put_15 ?_
    refine lv_iload_n hx hb dX5_put_18 rfl (lv_at hl 1 rfl) ?_
    refine g_iast KX hh 1 0 rfl rfl (vp_in_iff.mpr (by omega)) (w' := (WTx cI cZ cC cH t_o t_a_bytes t_a_rows t_length t_lineCount t_start t_end (upd t_bytes t_length.toNatClampNeg x1) t_rows)) rfl dX5_put_19 (fun H locs hh => ?_)
    refine lv_aload_n hx hb dX5_put_20 rfl (lv_at hl 0 rfl) ?_
    refine lv_dup hx hb dX5_put_21 rfl ?_
    refine g_get KX hh in_X5_put_X5 0 rfl rfl 1 (by decide) rfl (List.mem_of_getElem? (i := 1) rfl) dX5_put_22 ?_
    refine lv_iconst (v := 1) hx hb dX5_put_25 (by decide) ?_
    refine lv_iadd hx hb dX5_put_26 ?_
    refine g_put KX hh in_X5_put_X5 tyX5 tyX5_ok nmX5 0 rfl rfl 1 (by decide) rfl rfl rfl (Nat.le_of_ble_eq_true rfl) (List.mem_of_getElem? (i := 1) rfl) (w' := (WTx cI cZ cC cH t_o t_a_bytes t_a_rows (t_length + 1) t_lineCount t_start t_end (upd t_bytes t_length.toNatClampNeg x1) t_rows)) rfl rfl dX5_put_27 (fun H locs hh => ?_)
    exact RT _ _ _ _ _ _ hh (by rw [hF]) (Or.inr (Or.inr (Or.inl ⟨rfl, rfl, dX5_put_30, rfl⟩)))
