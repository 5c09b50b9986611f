def F_X6_count (t_length : Int32) (p_ck : Nat → Nat → Int32) (p_n_many : Int32) (x1 : Int32) : Int32 := (if x1 = 0 then F_X1_toldBits p_ck else if x1 = 1 then F_X1_readBits p_ck else if x1 = 2 then p_n_many else if x1 = 3 then t_length else (-3))
theorem in_X6_count_X6 : ∀ x ∈ u_ws RX6 TX6 9, x ∈ wsX6_count := by decide +kernel
theorem in_X6_count_X1 : ∀ x ∈ u_ws RX1 TX1 3, x ∈ wsX6_count := by decide +kernel
theorem in_X6_count_X2 : ∀ x ∈ u_ws RX2 TX2 4, x ∈ wsX6_count := by decide +kernel
theorem in_X6_count_X5 : ∀ x ∈ u_ws RX5 TX5 6, x ∈ wsX6_count := by decide +kernel
set_option maxHeartbeats 2000000 in
set_option maxRecDepth 100000 in
theorem c_X6_count (l : Launch) (D : va_G) (cI cZ cC cH : ClassId) (o t_o t_a_bytes t_a_rows p_o p_a_clocks p_n_o p_n_a_clocks p_n_a_minutes p_n_a_dials a_kept a_o a_a_clocks a_n_o a_n_a_clocks a_n_a_minutes a_n_a_dials b_o b_a_clocks b_n_o b_n_a_clocks b_n_a_minutes b_n_a_dials y_o r_o q_o q_a_clocks q_a_rates q_a_least a_misfits a_shown : Nat) (p_c : Nat → Nat) (a_c : Nat → Nat) (b_c : Nat → Nat) (sifted : Int32) (t_length : Int32) (t_lineCount : Int32) (t_start : Int32) (t_end : Int32) (t_bytes : Nat → Int32) (t_rows : Nat → Int32) (p_filled : Int32) (p_ck : Nat → Nat → Int32) (p_n_many : Int32) (p_n_clocks : Nat → Int32) (p_n_minutes : Nat → Int32) (p_n_dials : Nat → Int32) (a_filled : Int32) (a_ck : Nat → Nat → Int32) (a_n_many : Int32) (a_n_clocks : Nat → Int32) (a_n_minutes : Nat → Int32) (a_n_dials : Nat → Int32) (b_filled : Int32) (b_ck : Nat → Nat → Int32) (b_n_many : Int32) (b_n_clocks : Nat → Int32) (b_n_minutes : Nat → Int32) (b_n_dials : Nat → Int32) (y_many : Int32) (y_first : Int32) (y_last : Int32) (y_runs : Int32) (r_kind : Int32) (r_set : Int32) (r_dial : Int32) (r_low : Int32) (r_high : Int32) (r_read : Int32) (q_many : Int32) (q_clocks : Nat → Int32) (q_rates : Nat → Int32) (q_least : Nat → Int32) (misfits : Nat → Int32) (shown : Nat → Int32) (x1 : Int32)  : MC l D (TY cI cZ cC cH) yX6_count wsX6_count 1 22 [.ref o, .int x1] (W6 cI cZ cC cH o t_o t_a_bytes t_a_rows p_o p_a_clocks p_n_o p_n_a_clocks p_n_a_minutes p_n_a_dials a_kept a_o a_a_clocks a_n_o a_n_a_clocks a_n_a_minutes a_n_a_dials b_o b_a_clocks b_n_o b_n_a_clocks b_n_a_minutes b_n_a_dials y_o r_o q_o q_a_clocks q_a_rates q_a_least a_misfits a_shown p_c a_c b_c sifted t_length t_lineCount t_start t_end t_bytes t_rows p_filled p_ck p_n_many p_n_clocks p_n_minutes p_n_dials a_filled a_ck a_n_many a_n_clocks a_n_minutes a_n_dials b_filled b_ck b_n_many b_n_clocks b_n_minutes b_n_dials y_many y_first y_last y_runs r_kind r_set r_dial r_low r_high r_read q_many q_clocks q_rates q_least misfits shown) (some (.int (F_X6_count t_length p_ck p_n_many x1))) (W6 cI cZ cC cH o t_o t_a_bytes t_a_rows p_o p_a_clocks p_n_o p_n_a_clocks p_n_a_minutes p_n_a_dials a_kept a_o a_a_clocks a_n_o a_n_a_clocks a_n_a_minutes a_n_a_dials b_o b_a_clocks b_n_o b_n_a_clocks b_n_a_minutes b_n_a_dials y_o r_o q_o q_a_clocks q_a_rates q_a_least a_misfits a_shown p_c a_c b_c sifted t_length t_lineCount t_start t_end t_bytes t_rows p_filled p_ck p_n_many p_n_clocks p_n_minutes p_n_dials a_filled a_ck a_n_many a_n_clocks a_n_minutes a_n_dials b_filled b_ck b_n_many b_n_clocks b_n_minutes b_n_dials y_many y_first y_last y_runs r_kind r_set r_dial r_low r_high r_read q_many q_clocks q_rates q_least misfits shown) := by
  obtain ⟨R, hF⟩ : ∃ R, R = F_X6_count t_length p_ck p_n_many x1 := ⟨_, rfl⟩
  rw [← hF]
  refine MC.of (cc := cX6_count) (maxL := 2) (ret := (some .int)) RX6 rfl (by decide +kernel) rfl (Nat.le_of_ble_eq_true rfl) ?_
  intro p e s m args below meth c A Q KX RT hh ls hl
  have z0 : (0 : Int32).toInt = 0 := rfl
  have z1 : (1 : Int32).toInt = 1 := rfl
  have zm : (-1 : Int32).toInt = -1 := rfl
  have hx := KX.1
  have hb := KX.2.1
  have hl : lv_has ls 2 [(0, .ref o), (1, .int x1)] := hl
  unfold F_X6_count at hF
  refine lv_iload_n hx hb dX6_count_0 rfl (lv_at hl 1 rfl) ?_
  by_cases c_1_0 : x1 = 0
  · replace hF := hF.trans (if_pos c_1_0)
    have i_1_0 : x1.toInt = 0 := congrArg Int32.toInt c_1_0
    refine W.eq (g2 := F0 m 1 ls (.int 0 :: [])) (by rw [c_1_0]) ?_
    refine lv_tableIn (tgt := 32) hx hb dX6_count_1 (by decide) (by decide) rfl (by decide) ?_
    refine lv_aload_n hx hb dX6_count_32 rfl (lv_at hl 0 rfl) ?_
    refine g_get KX hh in_X6_count_X6 0 rfl rfl 1 (by decide) rfl (List.mem_of_getElem? (i := 1) rfl) dX6_count_33 ?_
    refine g_callV (As := []) (rest := []) KX rfl ⟨Nat.le_of_ble_eq_true rfl, Nat.le_of_ble_eq_true rfl⟩ hh hl (c_X1_toldBits l D cI cZ cC cH p_o p_a_clocks p_n_o p_n_a_clocks p_n_a_minutes p_n_a_dials p_c p_filled p_ck p_n_many p_n_clocks p_n_minutes p_n_dials  ) (JN.ro [4, 5, 6, 7, 8, 9, 10, 11, 12, 13, 14, 15, 16, 17] rfl (by decide +kernel)) 0 gX6_count_X1_toldBits rfl (by decide +kernel) ⟨Nat.le_of_ble_eq_true rfl, Nat.le_of_ble_eq_true rfl⟩ 4 1 rfl rfl rfl rfl rfl (Nat.le_of_ble_eq_true rfl) dX6_count_36 (fun H locs hh => ?_)
    refine W.eq (g2 := F0 m 39 ls [.int (F_X1_toldBits p_ck)]) rfl ?_
    exact RT _ _ _ _ _ _ hh (rfl) (Or.inl ⟨_, rfl, by rw [hF], dX6_count_39, Or.inl rfl⟩)
  replace hF := hF.trans (if_neg c_1_0)
  by_cases c_1_1 : x1 = 1
  · replace hF := hF.trans (if_pos c_1_1)
    have i_1_1 : x1.toInt = 1 := congrArg Int32.toInt c_1_1
    refine W.eq (g2 := F0 m 1 ls (.int 1 :: [])) (by rw [c_1_1]) ?_
    refine lv_tableIn (tgt := 40) hx hb dX6_count_1 (by decide) (by decide) rfl (by decide) ?_
    refine lv_aload_n hx hb dX6_count_40 rfl (lv_at hl 0 rfl) ?_
    refine g_get KX hh in_X6_count_X6 0 rfl rfl 1 (by decide) rfl (List.mem_of_getElem? (i := 1) rfl) dX6_count_41 ?_
    refine g_callV (As := []) (rest := []) KX rfl ⟨Nat.le_of_ble_eq_true rfl, Nat.le_of_ble_eq_true rfl⟩ hh hl (c_X1_readBits l D cI cZ cC cH p_o p_a_clocks p_n_o p_n_a_clocks p_n_a_minutes p_n_a_dials p_c p_filled p_ck p_n_many p_n_clocks p_n_minutes p_n_dials  ) (JN.ro [4, 5, 6, 7, 8, 9, 10, 11, 12, 13, 14, 15, 16, 17] rfl (by decide +kernel)) 0 gX6_count_X1_readBits rfl (by decide +kernel) ⟨Nat.le_of_ble_eq_true rfl, Nat.le_of_ble_eq_true rfl⟩ 4 1 rfl rfl rfl rfl rfl (Nat.le_of_ble_eq_true rfl) dX6_count_44 (fun H locs hh => ?_)
    refine W.eq (g2 := F0 m 47 ls [.int (F_X1_readBits p_ck)]) rfl ?_
    exact RT _ _ _ _ _ _ hh (rfl) (Or.inl ⟨_, rfl, by rw [hF], dX6_count_47, Or.inl rfl⟩)
  replace hF := hF.trans (if_neg c_1_1)
  by_cases c_1_2 : x1 = 2
  · replace hF := hF.trans (if_pos c_1_2)
    have i_1_2 : x1.toInt = 2 := congrArg Int32.toInt c_1_2
    refine W.eq (g2 := F0 m 1 ls (.int 2 :: [])) (by rw [c_1_2]) ?_
    refine lv_tableIn (tgt := 48) hx hb dX6_count_1 (by decide) (by decide) rfl (by decide) ?_
    refine lv_aload_n hx hb dX6_count_48 rfl (lv_at hl 0 rfl) ?_
    refine g_get KX hh in_X6_count_X6 0 rfl rfl 1 (by decide) rfl (List.mem_of_getElem? (i := 1) rfl) dX6_count_49 ?_
    refine g_get KX hh in_X6_count_X1 4 rfl rfl 2 (by decide) rfl (List.mem_of_getElem? (i := 2) rfl) dX6_count_52 ?_
    refine g_get KX hh in_X6_count_X2 14 rfl rfl 0 (by decide) rfl (List.mem_of_getElem? (i := 3) rfl) dX6_count_55 ?_
    exact RT _ _ _ _ _ _ hh (rfl) (Or.inl ⟨_, rfl, by rw [hF], dX6_count_58, Or.inl rfl⟩)
  replace hF := hF.trans (if_neg c_1_2)
  by_cases c_1_3 : x1 = 3
  · replace hF := hF.trans (if_pos c_1_3)
    have i_1_3 : x1.toInt = 3 := congrArg Int32.toInt c_1_3
    refine W.eq (g2 := F0 m 1 ls (.int 3 :: [])) (by rw [c_1_3]) ?_
    refine lv_tableIn (tgt := 59) hx hb dX6_count_1 (by decide) (by decide) rfl (by decide) ?_
    refine lv_aload_n hx hb dX6_count_59 rfl (lv_at hl 0 rfl) ?_
    refine g_get KX hh in_X6_count_X6 0 rfl rfl 0 (by decide) rfl (List.mem_of_getElem? (i := 4) rfl) dX6_count_60 ?_
    refine g_get KX hh in_X6_count_X5 1 rfl rfl 1 (by decide) rfl (List.mem_of_getElem? (i := 5) rfl) dX6_count_63 ?_
    exact RT _ _ _ _ _ _ hh (rfl) (Or.inl ⟨_, rfl, by rw [hF], dX6_count_66, Or.inl rfl⟩)
  replace hF := hF.trans (if_neg c_1_3)
  refine lv_tableOut (tgt := 67) hx hb dX6_count_1 (by have h1 := sw_ne (y := 0) (k := 0) c_1_0 rfl; have h2 := sw_ne (y := 1) (k := 1) c_1_1 rfl; have h3 := sw_ne (y := 2) (k := 2) c_1_2 rfl; have h4 := sw_ne (y := 3) (k := 3) c_1_3 rfl; omega) (by decide) ?_
  refine lv_bipush (v := (-3)) hx hb dX6_count_67 (by decide) ?_
  exact RT _ _ _ _ _ _ hh (rfl) (Or.inl ⟨_, rfl, by rw [hF], dX6_count_69, Or.inl rfl⟩)
