def F_X6_erase (t_length : Int32) : Int32 × Int32 := (t_length, 0)
theorem in_X6_erase_X6 : ∀ x ∈ u_ws RX6 TX6 9, x ∈ wsX6_erase := by decide +kernel
theorem in_X6_erase_X5 : ∀ x ∈ u_ws RX5 TX5 6, x ∈ wsX6_erase := by decide +kernel
set_option maxHeartbeats 2000000 in
set_option maxRecDepth 100000 in
theorem c_X6_erase (l : Launch) (D : va_G) (cI cZ cC cH : ClassId) (o t_o t_a_bytes t_a_rows p_o p_a_clocks p_n_o p_n_a_clocks p_n_a_minutes p_n_a_dials a_kept a_o a_a_clocks a_n_o a_n_a_clocks a_n_a_minutes a_n_a_dials b_o b_a_clocks b_n_o b_n_a_clocks b_n_a_minutes b_n_a_dials y_o r_o q_o q_a_clocks q_a_rates q_a_least a_misfits a_shown : Nat) (p_c : Nat → Nat) (a_c : Nat → Nat) (b_c : Nat → Nat) (sifted : Int32) (t_length : Int32) (t_lineCount : Int32) (t_start : Int32) (t_end : Int32) (t_bytes : Nat → Int32) (t_rows : Nat → Int32) (p_filled : Int32) (p_ck : Nat → Nat → Int32) (p_n_many : Int32) (p_n_clocks : Nat → Int32) (p_n_minutes : Nat → Int32) (p_n_dials : Nat → Int32) (a_filled : Int32) (a_ck : Nat → Nat → Int32) (a_n_many : Int32) (a_n_clocks : Nat → Int32) (a_n_minutes : Nat → Int32) (a_n_dials : Nat → Int32) (b_filled : Int32) (b_ck : Nat → Nat → Int32) (b_n_many : Int32) (b_n_clocks : Nat → Int32) (b_n_minutes : Nat → Int32) (b_n_dials : Nat → Int32) (y_many : Int32) (y_first : Int32) (y_last : Int32) (y_runs : Int32) (r_kind : Int32) (r_set : Int32) (r_dial : Int32) (r_low : Int32) (r_high : Int32) (r_read : Int32) (q_many : Int32) (q_clocks : Nat → Int32) (q_rates : Nat → Int32) (q_least : Nat → Int32) (misfits : Nat → Int32) (shown : Nat → Int32)   : MC l D (TY cI cZ cC cH) yX6_erase wsX6_erase 0 0 [.ref o] (W6 cI cZ cC cH o t_o t_a_bytes t_a_rows p_o p_a_clocks p_n_o p_n_a_clocks p_n_a_minutes p_n_a_dials a_kept a_o a_a_clocks a_n_o a_n_a_clocks a_n_a_minutes a_n_a_dials b_o b_a_clocks b_n_o b_n_a_clocks b_n_a_minutes b_n_a_dials y_o r_o q_o q_a_clocks q_a_rates q_a_least a_misfits a_shown p_c a_c b_c sifted t_length t_lineCount t_start t_end t_bytes t_rows p_filled p_ck p_n_many p_n_clocks p_n_minutes p_n_dials a_filled a_ck a_n_many a_n_clocks a_n_minutes a_n_dials b_filled b_ck b_n_many b_n_clocks b_n_minutes b_n_dials y_many y_first y_last y_runs r_kind r_set r_dial r_low r_high r_read q_many q_clocks q_rates q_least misfits shown) (some (.int ((F_X6_erase t_length).1))) (W6 cI cZ cC cH o t_o t_a_bytes t_a_rows p_o p_a_clocks p_n_o p_n_a_clocks p_n_a_minutes p_n_a_dials a_kept a_o a_a_clocks a_n_o a_n_a_clocks a_n_a_minutes a_n_a_dials b_o b_a_clocks b_n_o b_n_a_clocks b_n_a_minutes b_n_a_dials y_o r_o q_o q_a_clocks q_a_rates q_a_least a_misfits a_shown p_c a_c b_c sifted (F_X6_erase t_length).2 t_lineCount t_start t_end t_bytes t_rows p_filled p_ck p_n_many p_n_clocks p_n_minutes p_n_dials a_filled a_ck a_n_many a_n_clocks a_n_minutes a_n_dials b_filled b_ck b_n_many b_n_clocks b_n_minutes b_n_dials y_many y_first y_last y_runs r_kind r_set r_dial r_low r_high r_read q_many q_clocks q_rates q_least misfits shown) := by
  obtain ⟨R, hF⟩ : ∃ R, R = F_X6_erase t_length := ⟨_, rfl⟩
  rw [← hF]
  refine MC.of (cc := cX6_erase) (maxL := 2) (ret := (some .int)) RX6 rfl (by decide +kernel) rfl (Nat.le_of_ble_eq_true rfl) ?_
  intro p e s m args below meth c A Q KX RT hh ls hl
  have z0 : (0 : Int32).toInt = 0 := rfl
  have z1 : (1 : Int32).toInt = 1 := rfl
  have zm : (-1 : Int32).toInt = -1 := rfl
  have hx := KX.1
  have hb := KX.2.1
  have hl : lv_has ls 2 [(0, .ref o)] := hl
  unfold F_X6_erase at hF
  refine lv_aload_n hx hb dX6_erase_0 rfl (lv_at hl 0 rfl) ?_
  refine g_get KX hh in_X6_erase_X6 0 rfl rfl 0 (by decide) rfl (List.mem_of_getElem? (i := 1) rfl) dX6_erase_1 ?_
  refine g_get KX hh in_X6_erase_X5 1 rfl rfl 1 (by decide) rfl (List.mem_of_getElem? (i := 2) rfl) dX6_erase_4 ?_
  refine lv_istore_n (lv' := [(1, .int t_length), (0, .ref o)]) hx hb dX6_erase_7 rfl hl (Nat.le_of_ble_eq_true rfl) rfl (fun ls hl => ?_)
  refine lv_aload_n hx hb dX6_erase_8 rfl (lv_at hl 1 rfl) ?_
  refine g_get KX hh in_X6_erase_X6 0 rfl rfl 0 (by decide) rfl (List.mem_of_getElem? (i := 1) rfl) dX6_erase_9 ?_
  refine lv_iconst (v := 0) hx hb dX6_erase_12 (by decide) ?_
  refine g_put KX hh in_X6_erase_X5 tyX5 tyX5_ok nmX5 1 rfl rfl 1 (by decide) rfl rfl rfl (Nat.le_of_ble_eq_true rfl) (List.mem_of_getElem? (i := 2) rfl) (w' := (W6 cI cZ cC cH o t_o t_a_bytes t_a_rows p_o p_a_clocks p_n_o p_n_a_clocks p_n_a_minutes p_n_a_dials a_kept a_o a_a_clocks a_n_o a_n_a_clocks a_n_a_minutes a_n_a_dials b_o b_a_clocks b_n_o b_n_a_clocks b_n_a_minutes b_n_a_dials y_o r_o q_o q_a_clocks q_a_rates q_a_least a_misfits a_shown p_c a_c b_c sifted 0 t_lineCount t_start t_end t_bytes t_rows p_filled p_ck p_n_many p_n_clocks p_n_minutes p_n_dials a_filled a_ck a_n_many a_n_clocks a_n_minutes a_n_dials b_filled b_ck b_n_many b_n_clocks b_n_minutes b_n_dials y_many y_first y_last y_runs r_kind r_set r_dial r_low r_high r_read q_many q_clocks q_rates q_least misfits shown)) rfl rfl dX6_erase_13 (fun H locs hh => ?_)
  refine lv_iload_n hx hb dX6_erase_16 rfl (lv_at hl 0 rfl) ?_
  exact RT _ _ _ _ _ _ hh (by rw [hF]) (Or.inl ⟨_, rfl, by rw [hF], dX6_erase_17, Or.inl rfl⟩)
def F_X6_clock_29 (p_ck : Nat → Nat → Int32) (x1 : Int32) (x2 : Int32) (y0_1 : Int32) : Int32 := (if x2 = 0 then p_ck x1.toNatClampNeg 0 else if x2 = 1 then (if y0_1 = 0 then p_ck x1.toNatClampNeg 1 else (-1)) else if x2 = 2 then p_ck x1.toNatClampNeg 2 else if x2 = 3 then (if y0_1 = 0 then (p_ck x1.toNatClampNeg 3) + 120 else (-1)) else if x2 = 4 then (if y0_1 = 0 then (p_ck x1.toNatClampNeg 4) + 120 else (-1)) else if x2 = 5 then p_ck x1.toNatClampNeg 5 else (-3))
def F_X6_clock (p_ck : Nat → Nat → Int32) (x1 : Int32) (x2 : Int32) : Int32 := (if tld p_ck x1 = 0 then (-2) else (if (p_ck x1.toNatClampNeg 0) = 2 then (F_X6_clock_29 p_ck x1 x2 1) else (F_X6_clock_29 p_ck x1 x2 0)))
theorem in_X6_clock_X6 : ∀ x ∈ u_ws RX6 TX6 9, x ∈ wsX6_clock := by decide +kernel
theorem in_X6_clock_X0 : ∀ x ∈ u_ws RX0 TX0 6, x ∈ wsX6_clock := by decide +kernel
set_option maxHeartbeats 2000000 in
set_option maxRecDepth 100000 in
theorem c_X6_clock (l : Launch) (D : va_G) (cI cZ cC cH : ClassId) (o t_o t_a_bytes t_a_rows p_o p_a_clocks p_n_o p_n_a_clocks p_n_a_minutes p_n_a_dials a_kept a_o a_a_clocks a_n_o a_n_a_clocks a_n_a_minutes a_n_a_dials b_o b_a_clocks b_n_o b_n_a_clocks b_n_a_minutes b_n_a_dials y_o r_o q_o q_a_clocks q_a_rates q_a_least a_misfits a_shown : Nat) (p_c : Nat → Nat) (a_c : Nat → Nat) (b_c : Nat → Nat) (sifted : Int32) (t_length : Int32) (t_lineCount : Int32) (t_start : Int32) (t_end : Int32) (t_bytes : Nat → Int32) (t_rows : Nat → Int32) (p_filled : Int32) (p_ck : Nat → Nat → Int32) (p_n_many : Int32) (p_n_clocks : Nat → Int32) (p_n_minutes : Nat → Int32) (p_n_dials : Nat → Int32) (a_filled : Int32) (a_ck : Nat → Nat → Int32) (a_n_many : Int32) (a_n_clocks : Nat → Int32) (a_n_minutes : Nat → Int32) (a_n_dials : Nat → Int32) (b_filled : Int32) (b_ck : Nat → Nat → Int32) (b_n_many : Int32) (b_n_clocks : Nat → Int32) (b_n_minutes : Nat → Int32) (b_n_dials : Nat → Int32) (y_many : Int32) (y_first : Int32) (y_last : Int32) (y_runs : Int32) (r_kind : Int32) (r_set : Int32) (r_dial : Int32) (r_low : Int32) (r_high : Int32) (r_read : Int32) (q_many : Int32) (q_clocks : Nat → Int32) (q_rates : Nat → Int32) (q_least : Nat → Int32) (misfits : Nat → Int32) (shown : Nat → Int32) (x1 : Int32) (x2 : Int32)  : MC l D (TY cI cZ cC cH) yX6_clock wsX6_clock 2 42 [.ref o, .int x1, .int x2] (W6 cI cZ cC cH o t_o t_a_bytes t_a_rows p_o p_a_clocks p_n_o p_n_a_clocks p_n_a_minutes p_n_a_dials a_kept a_o a_a_clocks a_n_o a_n_a_clocks a_n_a_minutes a_n_a_dials b_o b_a_clocks b_n_o b_n_a_clocks b_n_a_minutes b_n_a_dials y_o r_o q_o q_a_clocks q_a_rates q_a_least a_misfits a_shown p_c a_c b_c sifted t_length t_lineCount t_start t_end t_bytes t_rows p_filled p_ck p_n_many p_n_clocks p_n_minutes p_n_dials a_filled a_ck a_n_many a_n_clocks a_n_minutes a_n_dials b_filled b_ck b_n_many b_n_clocks b_n_minutes b_n_dials y_many y_first y_last y_runs r_kind r_set r_dial r_low r_high r_read q_many q_clocks q_rates q_least misfits shown) (some (.int (F_X6_clock p_ck x1 x2))) (W6 cI cZ cC cH o t_o t_a_bytes t_a_rows p_o p_a_clocks p_n_o p_n_a_clocks p_n_a_minutes p_n_a_dials a_kept a_o a_a_clocks a_n_o a_n_a_clocks a_n_a_minutes a_n_a_dials b_o b_a_clocks b_n_o b_n_a_clocks b_n_a_minutes b_n_a_dials y_o r_o q_o q_a_clocks q_a_rates q_a_least a_misfits a_shown p_c a_c b_c sifted t_length t_lineCount t_start t_end t_bytes t_rows p_filled p_ck p_n_many p_n_clocks p_n_minutes p_n_dials a_filled a_ck a_n_many a_n_clocks a_n_minutes a_n_dials b_filled b_ck b_n_many b_n_clocks b_n_minutes b_n_dials y_many y_first y_last y_runs r_kind r_set r_dial r_low r_high r_read q_many q_clocks q_rates q_least misfits shown) := by
  obtain ⟨R, hF⟩ : ∃ R, R = F_X6_clock p_ck x1 x2 := ⟨_, rfl⟩
  rw [← hF]
  refine MC.of (cc := cX6_clock) (maxL := 5) (ret := (some .int)) RX6 rfl (by decide +kernel) rfl (Nat.le_of_ble_eq_true rfl) ?_
  intro p e s m args below meth c A Q KX RT hh ls hl
  have z0 : (0 : Int32).toInt = 0 := rfl
  have z1 : (1 : Int32).toInt = 1 := rfl
  have zm : (-1 : Int32).toInt = -1 := rfl
  have hx := KX.1
  have hb := KX.2.1
  have hl : lv_has ls 5 [(0, .ref o), (1, .int x1), (2, .int x2)] := hl
  unfold F_X6_clock at hF
  refine lv_aload_n hx hb dX6_clock_0 rfl (lv_at hl 0 rfl) ?_
  refine g_get KX hh in_X6_clock_X6 0 rfl rfl 1 (by decide) rfl (List.mem_of_getElem? (i := 1) rfl) dX6_clock_1 ?_
  refine lv_iload_n hx hb dX6_clock_4 rfl (lv_at hl 1 rfl) ?_
  refine g_callV (As := [.int x1]) (rest := []) KX rfl ⟨Nat.le_of_ble_eq_true rfl, Nat.le_of_ble_eq_true rfl⟩ hh hl (c_X1_toldClock l D cI cZ cC cH p_o p_a_clocks p_n_o p_n_a_clocks p_n_a_minutes p_n_a_dials p_c p_filled p_ck p_n_many p_n_clocks p_n_minutes p_n_dials x1 ) (JN.ro [4, 5, 6, 7, 8, 9, 10, 11, 12, 13, 14, 15, 16, 17] rfl (by decide +kernel)) 1 gX6_clock_X1_toldClock rfl (by decide +kernel) ⟨Nat.le_of_ble_eq_true rfl, Nat.le_of_ble_eq_true rfl⟩ 4 1 rfl rfl rfl rfl rfl (Nat.le_of_ble_eq_true rfl) dX6_clock_5 (fun H locs hh => ?_)
  rcases told_cases p_ck p_c x1 with ⟨c_5, e_5⟩ | ⟨c_5, e_5⟩
  · refine W.eq (g2 := F0 m 8 ls [.null]) (by rw [e_5]; rfl) ?_
    replace hF := hF.trans (if_pos c_5)
    refine lv_astore_nN (lv' := [(3, .null), (0, .ref o), (1, .int x1), (2, .int x2)]) hx hb dX6_clock_8 rfl hl (Nat.le_of_ble_eq_true rfl) rfl (fun ls hl => ?_)
    refine lv_aload_nN hx hb dX6_clock_9 rfl (lv_at hl 0 rfl) ?_
    refine lv_ifnonnullN hx hb dX6_clock_10 ?_
    refine lv_bipush (v := (-2)) hx hb dX6_clock_13 (by decide) ?_
    exact RT _ _ _ _ _ _ hh (rfl) (Or.inl ⟨_, rfl, by rw [hF], dX6_clock_15, Or.inl rfl⟩)
  · refine W.eq (g2 := F0 m 8 ls [.ref (p_c x1.toNatClampNeg)]) (by rw [e_5]; rfl) ?_
    replace hF := hF.trans (if_neg c_5)
    obtain ⟨k0_5, k1_5⟩ := tld_in c_5
    refine lv_astore_n (lv' := [(3, .ref (p_c x1.toNatClampNeg)), (0, .ref o), (1, .int x1), (2, .int x2)]) hx hb dX6_clock_8 rfl hl (Nat.le_of_ble_eq_true rfl) rfl (fun ls hl => ?_)
    refine lv_aload_n hx hb dX6_clock_9 rfl (lv_at hl 0 rfl) ?_
    refine lv_ifnonnull (tgt := 16) hx hb dX6_clock_10 (by decide) ?_
    refine lv_aload_n hx hb dX6_clock_16 rfl (lv_at hl 0 rfl) ?_
    refine g_get KX hh in_X6_clock_X0 (6 + x1.toNatClampNeg) (clk_W6_p (tn_lt (k := x1) (n := 8) (by omega) (by omega))) rfl 0 (by decide) rfl (List.mem_of_getElem? (i := 2) rfl) dX6_clock_17 ?_
    refine lv_iconst (v := 2) hx hb dX6_clock_20 (by decide) ?_
    have K_29 : ∀ (y0_1 : Int32) (_ : R = (F_X6_clock_29 p_ck x1 x2) y0_1) (ls : Array Slot) (H : Heap) (locs : List Loc) (_ : HS D A s.heap (W6 cI cZ cC cH o t_o t_a_bytes t_a_rows p_o p_a_clocks p_n_o p_n_a_clocks p_n_a_minutes p_n_a_dials a_kept a_o a_a_clocks a_n_o a_n_a_clocks a_n_a_minutes a_n_a_dials b_o b_a_clocks b_n_o b_n_a_clocks b_n_a_minutes b_n_a_dials y_o r_o q_o q_a_clocks q_a_rates q_a_least a_misfits a_shown p_c a_c b_c sifted t_length t_lineCount t_start t_end t_bytes t_rows p_filled p_ck p_n_many p_n_clocks p_n_minutes p_n_dials a_filled a_ck a_n_many a_n_clocks a_n_minutes a_n_dials b_filled b_ck b_n_many b_n_clocks b_n_minutes b_n_dials y_many y_first y_last y_runs r_kind r_set r_dial r_low r_high r_read q_many q_clocks q_rates q_least misfits shown) H locs) (_ : lv_has ls 5 [(3, .ref (p_c x1.toNatClampNeg)), (0, .ref o), (1, .int x1), (2, .int x2)]), W p l e { frames := 2, cells := 0, slots := 0, locals := 42 } s m args below meth c H locs 0 0 Q (F0 m 29 ls [.int y0_1]) := by
      intro y0_1 hF ls H locs hh hl
      unfold F_X6_clock_29 at hF
      refine lv_istore (lv' := [(4, .int y0_1), (3, .ref (p_c x1.toNatClampNeg)), (0, .ref o), (1, .int x1), (2, .int x2)]) hx hb dX6_clock_29 hl (Nat.le_of_ble_eq_true rfl) rfl (fun ls hl => ?_)
      refine lv_iload_n hx hb dX6_clock_31 rfl (lv_at hl 4 rfl) ?_
      by_cases c_32_0 : x2 = 0
      · replace hF := hF.trans (if_pos c_32_0)
        have i_32_0 : x2.toInt = 0 := congrArg Int32.toInt c_32_0
        refine W.eq (g2 := F0 m 32 ls (.int 0 :: [])) (by rw [c_32_0]) ?_
        refine lv_tableIn (tgt := 72) hx hb dX6_clock_32 (by decide) (by decide) rfl (by decide) ?_
        refine lv_aload_n hx hb dX6_clock_72 rfl (lv_at hl 1 rfl) ?_
        refine g_get KX hh in_X6_clock_X0 (6 + x1.toNatClampNeg) (clk_W6_p (tn_lt (k := x1) (n := 8) (by omega) (by omega))) rfl 0 (by decide) rfl (List.mem_of_getElem? (i := 2) rfl) dX6_clock_73 ?_
        exact RT _ _ _ _ _ _ hh (rfl) (Or.inl ⟨_, rfl, by rw [hF], dX6_clock_76, Or.inl rfl⟩)
      replace hF := hF.trans (if_neg c_32_0)
      by_cases c_32_1 : x2 = 1
      · replace hF := hF.trans (if_pos c_32_1)
        have i_32_1 : x2.toInt = 1 := congrArg Int32.toInt c_32_1
        refine W.eq (g2 := F0 m 32 ls (.int 1 :: [])) (by rw [c_32_1]) ?_
        refine lv_tableIn (tgt := 77) hx hb dX6_clock_32 (by decide) (by decide) rfl (by decide) ?_
        refine lv_iload hx hb dX6_clock_77 (lv_at hl 0 rfl) ?_
        refine lv_if_eq (tgt := 86) hx hb dX6_clock_79 (by decide) (fun c_79 => ?_) (fun c_79 => ?_)
        · replace hF := hF.trans (if_pos c_79)
          have i_79 : y0_1.toInt = 0 := congrArg Int32.toInt c_79
          refine lv_aload_n hx hb dX6_clock_86 rfl (lv_at hl 1 rfl) ?_
          refine g_get KX hh in_X6_clock_X0 (6 + x1.toNatClampNeg) (clk_W6_p (tn_lt (k := x1) (n := 8) (by omega) (by omega))) rfl 1 (by decide) rfl (List.mem_of_getElem? (i := 3) rfl) dX6_clock_87 ?_
          exact RT _ _ _ _ _ _ hh (rfl) (Or.inl ⟨_, rfl, by rw [hF], dX6_clock_90, Or.inl rfl⟩)
        · replace hF := hF.trans (if_neg c_79)
          have i_79 : ¬ y0_1.toInt = 0 := ti_ne c_79
          refine lv_iconst (v := (-1)) hx hb dX6_clock_82 (by decide) ?_
          refine lv_goto (tgt := 90) hx hb dX6_clock_83 (by decide) ?_
          exact RT _ _ _ _ _ _ hh (rfl) (Or.inl ⟨_, rfl, by rw [hF], dX6_clock_90, Or.inl rfl⟩)
      replace hF := hF.trans (if_neg c_32_1)
      by_cases c_32_2 : x2 = 2
      · replace hF := hF.trans (if_pos c_32_2)
        have i_32_2 : x2.toInt = 2 := congrArg Int32.toInt c_32_2
        refine W.eq (g2 := F0 m 32 ls (.int 2 :: [])) (by rw [c_32_2]) ?_
        refine lv_tableIn (tgt := 91) hx hb dX6_clock_32 (by decide) (by decide) rfl (by decide) ?_
        refine lv_aload_n hx hb dX6_clock_91 rfl (lv_at hl 1 rfl) ?_
        refine g_get KX hh in_X6_clock_X0 (6 + x1.toNatClampNeg) (clk_W6_p (tn_lt (k := x1) (n := 8) (by omega) (by omega))) rfl 2 (by decide) rfl (List.mem_of_getElem? (i := 4) rfl) dX6_clock_92 ?_
        exact RT _ _ _ _ _ _ hh (rfl) (Or.inl ⟨_, rfl, by rw [hF], dX6_clock_95, Or.inl rfl⟩)
      replace hF := hF.trans (if_neg c_32_2)
      by_cases c_32_3 : x2 = 3
      · replace hF := hF.trans (if_pos c_32_3)
        have i_32_3 : x2.toInt = 3 := congrArg Int32.toInt c_32_3
        refine W.eq (g2 := F0 m 32 ls (.int 3 :: [])) (by rw [c_32_3]) ?_
        refine lv_tableIn (tgt := 96) hx hb dX6_clock_32 (by decide) (by decide) rfl (by decide) ?_
        refine lv_iload hx hb dX6_clock_96 (lv_at hl 0 rfl) ?_
        refine lv_if_eq (tgt := 105) hx hb dX6_clock_98 (by decide) (fun c_98 => ?_) (fun c_98 => ?_)
        · replace hF := hF.trans (if_pos c_98)
          have i_98 : y0_1.toInt = 0 := congrArg Int32.toInt c_98
          refine lv_aload_n hx hb dX6_clock_105 rfl (lv_at hl 1 rfl) ?_
          refine g_get KX hh in_X6_clock_X0 (6 + x1.toNatClampNeg) (clk_W6_p (tn_lt (k := x1) (n := 8) (by omega) (by omega))) rfl 3 (by decide) rfl (List.mem_of_getElem? (i := 5) rfl) dX6_clock_106 ?_
          refine lv_bipush (v := 120) hx hb dX6_clock_109 (by decide) ?_
          refine lv_iadd hx hb dX6_clock_111 ?_
          exact RT _ _ _ _ _ _ hh (rfl) (Or.inl ⟨_, rfl, by rw [hF], dX6_clock_112, Or.inl rfl⟩)
        · replace hF := hF.trans (if_neg c_98)
          have i_98 : ¬ y0_1.toInt = 0 := ti_ne c_98
          refine lv_iconst (v := (-1)) hx hb dX6_clock_101 (by decide) ?_
          refine lv_goto (tgt := 112) hx hb dX6_clock_102 (by decide) ?_
          exact RT _ _ _ _ _ _ hh (rfl) (Or.inl ⟨_, rfl, by rw [hF], dX6_clock_112, Or.inl rfl⟩)
      replace hF := hF.trans (if_neg c_32_3)
      by_cases c_32_4 : x2 = 4
      · replace hF := hF.trans (if_pos c_32_4)
        have i_32_4 : x2.toInt = 4 := congrArg Int32.toInt c_32_4
        refine W.eq (g2 := F0 m 32 ls (.int 4 :: [])) (by rw [c_32_4]) ?_
        refine lv_tableIn (tgt := 113) hx hb dX6_clock_32 (by decide) (by decide) rfl (by decide) ?_
        refine lv_iload hx hb dX6_clock_113 (lv_at hl 0 rfl) ?_
        refine lv_if_eq (tgt := 122) hx hb dX6_clock_115 (by decide) (fun c_115 => ?_) (fun c_115 => ?_)
        · replace hF := hF.trans (if_pos c_115)
          have i_115 : y0_1.toInt = 0 := congrArg Int32.toInt c_115
          refine lv_aload_n hx hb dX6_clock_122 rfl (lv_at hl 1 rfl) ?_
          refine g_get KX hh in_X6_clock_X0 (6 + x1.toNatClampNeg) (clk_W6_p (tn_lt (k := x1) (n := 8) (by omega) (by omega))) rfl 4 (by decide) rfl (List.mem_of_getElem? (i := 6) rfl) dX6_clock_123 ?_
          refine lv_bipush (v := 120) hx hb dX6_clock_126 (by decide) ?_
          refine lv_iadd hx hb dX6_clock_128 ?_
          exact RT _ _ _ _ _ _ hh (rfl) (Or.inl ⟨_, rfl, by rw [hF], dX6_clock_129, Or.inl rfl⟩)
        · replace hF := hF.trans (if_neg c_115)
          have i_115 : ¬ y0_1.toInt = 0 := ti_ne c_115
          refine lv_iconst (v := (-1)) hx hb dX6_clock_118 (by decide) ?_
          refine lv_goto (tgt := 129) hx hb dX6_clock_119 (by decide) ?_
          exact RT _ _ _ _ _ _ hh (rfl) (Or.inl ⟨_, rfl, by rw [hF], dX6_clock_129, Or.inl rfl⟩)
      replace hF := hF.trans (if_neg c_32_4)
      by_cases c_32_5 : x2 = 5
      · replace hF := hF.trans (if_pos c_32_5)
        have i_32_5 : x2.toInt = 5 := congrArg Int32.toInt c_32_5
        refine W.eq (g2 := F0 m 32 ls (.int 5 :: [])) (by rw [c_32_5]) ?_
        refine lv_tableIn (tgt := 130) hx hb dX6_clock_32 (by decide) (by decide) rfl (by decide) ?_
        refine lv_aload_n hx hb dX6_clock_130 rfl (lv_at hl 1 rfl) ?_
        refine g_get KX hh in_X6_clock_X0 (6 + x1.toNatClampNeg) (clk_W6_p (tn_lt (k := x1) (n := 8) (by omega) (by omega))) rfl 5 (by decide) rfl (List.mem_of_getElem? (i := 7) rfl) dX6_clock_131 ?_
        exact RT _ _ _ _ _ _ hh (rfl) (Or.inl ⟨_, rfl, by rw [hF], dX6_clock_134, Or.inl rfl⟩)
      replace hF := hF.trans (if_neg c_32_5)
      refine lv_tableOut (tgt := 135) hx hb dX6_clock_32 (by have h1 := sw_ne (y := 0) (k := 0) c_32_0 rfl; have h2 := sw_ne (y := 1) (k := 1) c_32_1 rfl; have h3 := sw_ne (y := 2) (k := 2) c_32_2 rfl; have h4 := sw_ne (y := 3) (k := 3) c_32_3 rfl; have h5 := sw_ne (y := 4) (k := 4) c_32_4 rfl; have h6 := sw_ne (y := 5) (k := 5) c_32_5 rfl; omega) (by decide) ?_
      refine lv_bipush (v := (-3)) hx hb dX6_clock_135 (by decide) ?_
      exact RT _ _ _ _ _ _ hh (rfl) (Or.inl ⟨_, rfl, by rw [hF], dX6_clock_137, Or.inl rfl⟩)
    refine lv_icmp_ne (tgt := 28) hx hb dX6_clock_21 (by decide) (fun c_21 => ?_) (fun c_21 => ?_)
    · replace hF := hF.trans (if_neg c_21)
      refine lv_iconst (v := 0) hx hb dX6_clock_28 (by decide) ?_
      exact K_29 0  hF _ _ _ hh (lv_sub hl [0, 1, 2, 3] rfl)
    · replace hF := hF.trans (if_pos c_21)
      refine lv_iconst (v := 1) hx hb dX6_clock_24 (by decide) ?_
      refine lv_goto (tgt := 29) hx hb dX6_clock_25 (by decide) ?_
      exact K_29 1  hF _ _ _ hh (lv_sub hl [0, 1, 2, 3] rfl)
def F_X6_shows_59 (p_ck : Nat → Nat → Int32) (x1 : Int32) (x2 : Int32) (y0_1 : Int32) : Int32 := F_X0_dialAt (p_ck x1.toNatClampNeg 0) (p_ck x1.toNatClampNeg 1) (p_ck x1.toNatClampNeg 2) x2 y0_1
def F_X6_shows (p_ck : Nat → Nat → Int32) (x1 : Int32) (x2 : Int32) (x3 : Int32) : Int32 := (if tld p_ck x1 = 0 then (-2) else (if (F_X6_isBelow x2 4320) = 0 then (-3) else (if (F_X6_isBelow x3 2) = 0 then (-3) else (if x3 = 0 then (F_X6_shows_59 p_ck x1 x2 (p_ck x1.toNatClampNeg 3)) else (F_X6_shows_59 p_ck x1 x2 (p_ck x1.toNatClampNeg 4))))))
theorem in_X6_shows_X6 : ∀ x ∈ u_ws RX6 TX6 9, x ∈ wsX6_shows := by decide +kernel
theorem in_X6_shows_X0 : ∀ x ∈ u_ws RX0 TX0 6, x ∈ wsX6_shows := by decide +kernel
set_option maxHeartbeats 2000000 in
set_option maxRecDepth 100000 in
theorem c_X6_shows (l : Launch) (D : va_G) (cI cZ cC cH : ClassId) (o t_o t_a_bytes t_a_rows p_o p_a_clocks p_n_o p_n_a_clocks p_n_a_minutes p_n_a_dials a_kept a_o a_a_clocks a_n_o a_n_a_clocks a_n_a_minutes a_n_a_dials b_o b_a_clocks b_n_o b_n_a_clocks b_n_a_minutes b_n_a_dials y_o r_o q_o q_a_clocks q_a_rates q_a_least a_misfits a_shown : Nat) (p_c : Nat → Nat) (a_c : Nat → Nat) (b_c : Nat → Nat) (sifted : Int32) (t_length : Int32) (t_lineCount : Int32) (t_start : Int32) (t_end : Int32) (t_bytes : Nat → Int32) (t_rows : Nat → Int32) (p_filled : Int32) (p_ck : Nat → Nat → Int32) (p_n_many : Int32) (p_n_clocks : Nat → Int32) (p_n_minutes : Nat → Int32) (p_n_dials : Nat → Int32) (a_filled : Int32) (a_ck : Nat → Nat → Int32) (a_n_many : Int32) (a_n_clocks : Nat → Int32) (a_n_minutes : Nat → Int32) (a_n_dials : Nat → Int32) (b_filled : Int32) (b_ck : Nat → Nat → Int32) (b_n_many : Int32) (b_n_clocks : Nat → Int32) (b_n_minutes : Nat → Int32) (b_n_dials : Nat → Int32) (y_many : Int32) (y_first : Int32) (y_last : Int32) (y_runs : Int32) (r_kind : Int32) (r_set : Int32) (r_dial : Int32) (r_low : Int32) (r_high : Int32) (r_read : Int32) (q_many : Int32) (q_clocks : Nat → Int32) (q_rates : Nat → Int32) (q_least : Nat → Int32) (misfits : Nat → Int32) (shown : Nat → Int32) (x1 : Int32) (x2 : Int32) (x3 : Int32)  : MC l D (TY cI cZ cC cH) yX6_shows wsX6_shows 3 67 [.ref o, .int x1, .int x2, .int x3] (W6 cI cZ cC cH o t_o t_a_bytes t_a_rows p_o p_a_clocks p_n_o p_n_a_clocks p_n_a_minutes p_n_a_dials a_kept a_o a_a_clocks a_n_o a_n_a_clocks a_n_a_minutes a_n_a_dials b_o b_a_clocks b_n_o b_n_a_clocks b_n_a_minutes b_n_a_dials y_o r_o q_o q_a_clocks q_a_rates q_a_least a_misfits a_shown p_c a_c b_c sifted t_length t_lineCount t_start t_end t_bytes t_rows p_filled p_ck p_n_many p_n_clocks p_n_minutes p_n_dials a_filled a_ck a_n_many a_n_clocks a_n_minutes a_n_dials b_filled b_ck b_n_many b_n_clocks b_n_minutes b_n_dials y_many y_first y_last y_runs r_kind r_set r_dial r_low r_high r_read q_many q_clocks q_rates q_least misfits shown) (some (.int (F_X6_shows p_ck x1 x2 x3))) (W6 cI cZ cC cH o t_o t_a_bytes t_a_rows p_o p_a_clocks p_n_o p_n_a_clocks p_n_a_minutes p_n_a_dials a_kept a_o a_a_clocks a_n_o a_n_a_clocks a_n_a_minutes a_n_a_dials b_o b_a_clocks b_n_o b_n_a_clocks b_n_a_minutes b_n_a_dials y_o r_o q_o q_a_clocks q_a_rates q_a_least a_misfits a_shown p_c a_c b_c sifted t_length t_lineCount t_start t_end t_bytes t_rows p_filled p_ck p_n_many p_n_clocks p_n_minutes p_n_dials a_filled a_ck a_n_many a_n_clocks a_n_minutes a_n_dials b_filled b_ck b_n_many b_n_clocks b_n_minutes b_n_dials y_many y_first y_last y_runs r_kind r_set r_dial r_low r_high r_read q_many q_clocks q_rates q_least misfits shown) := by
  obtain ⟨R, hF⟩ : ∃ R, R = F_X6_shows p_ck x1 x2 x3 := ⟨_, rfl⟩
  rw [← hF]
  refine MC.of (cc := cX6_shows) (maxL := 5) (ret := (some .int)) RX6 rfl (by decide +kernel) rfl (Nat.le_of_ble_eq_true rfl) ?_
  intro p e s m args below meth c A Q KX RT hh ls hl
  have z0 : (0 : Int32).toInt = 0 := rfl
  have z1 : (1 : Int32).toInt = 1 := rfl
  have zm : (-1 : Int32).toInt = -1 := rfl
  have hx := KX.1
  have hb := KX.2.1
  have hl : lv_has ls 5 [(0, .ref o), (1, .int x1), (2, .int x2), (3, .int x3)] := hl
  unfold F_X6_shows at hF
  refine lv_aload_n hx hb dX6_shows_0 rfl (lv_at hl 0 rfl) ?_
  refine g_get KX hh in_X6_shows_X6 0 rfl rfl 1 (by decide) rfl (List.mem_of_getElem? (i := 1) rfl) dX6_shows_1 ?_
  refine lv_iload_n hx hb dX6_shows_4 rfl (lv_at hl 1 rfl) ?_
  refine g_callV (As := [.int x1]) (rest := []) KX rfl ⟨Nat.le_of_ble_eq_true rfl, Nat.le_of_ble_eq_true rfl⟩ hh hl (c_X1_toldClock l D cI cZ cC cH p_o p_a_clocks p_n_o p_n_a_clocks p_n_a_minutes p_n_a_dials p_c p_filled p_ck p_n_many p_n_clocks p_n_minutes p_n_dials x1 ) (JN.ro [4, 5, 6, 7, 8, 9, 10, 11, 12, 13, 14, 15, 16, 17] rfl (by decide +kernel)) 1 gX6_shows_X1_toldClock rfl (by decide +kernel) ⟨Nat.le_of_ble_eq_true rfl, Nat.le_of_ble_eq_true rfl⟩ 4 1 rfl rfl rfl rfl rfl (Nat.le_of_ble_eq_true rfl) dX6_shows_5 (fun H locs hh => ?_)
  rcases told_cases p_ck p_c x1 with ⟨c_5, e_5⟩ | ⟨c_5, e_5⟩
  · refine W.eq (g2 := F0 m 8 ls [.null]) (by rw [e_5]; rfl) ?_
    replace hF := hF.trans (if_pos c_5)
    refine lv_astoreN (lv' := [(4, .null), (0, .ref o), (1, .int x1), (2, .int x2), (3, .int x3)]) hx hb dX6_shows_8 hl (Nat.le_of_ble_eq_true rfl) rfl (fun ls hl => ?_)
    refine lv_aloadN hx hb dX6_shows_10 (lv_at hl 0 rfl) ?_
    refine lv_ifnonnullN hx hb dX6_shows_12 ?_
    refine lv_bipush (v := (-2)) hx hb dX6_shows_15 (by decide) ?_
    exact RT _ _ _ _ _ _ hh (rfl) (Or.inl ⟨_, rfl, by rw [hF], dX6_shows_17, Or.inl rfl⟩)
  · refine W.eq (g2 := F0 m 8 ls [.ref (p_c x1.toNatClampNeg)]) (by rw [e_5]; rfl) ?_
    replace hF := hF.trans (if_neg c_5)
    obtain ⟨k0_5, k1_5⟩ := tld_in c_5
    refine lv_astore (lv' := [(4, .ref (p_c x1.toNatClampNeg)), (0, .ref o), (1, .int x1), (2, .int x2), (3, .int x3)]) hx hb dX6_shows_8 hl (Nat.le_of_ble_eq_true rfl) rfl (fun ls hl => ?_)
    refine lv_aload hx hb dX6_shows_10 (lv_at hl 0 rfl) ?_
    refine lv_ifnonnull (tgt := 18) hx hb dX6_shows_12 (by decide) ?_
    refine lv_iload_n hx hb dX6_shows_18 rfl (lv_at hl 3 rfl) ?_
    refine lv_sipush (v := 4320) hx hb dX6_shows_19 (by decide) ?_
    refine g_callS (As := [.int x2, .int 4320]) (rest := []) KX rfl ⟨Nat.le_of_ble_eq_true rfl, Nat.le_of_ble_eq_true rfl⟩ hh hl (c_X6_isBelow l D cI cZ cC cH  x2 4320 ) JN.no 2 gX6_shows_X6_isBelow rfl (by decide +kernel) ⟨Nat.le_of_ble_eq_true rfl, Nat.le_of_ble_eq_true rfl⟩ rfl rfl (Nat.le_of_ble_eq_true rfl) dX6_shows_22 (fun H locs hh => ?_)
    refine W.eq (g2 := F0 m 25 ls [.int (F_X6_isBelow x2 4320)]) rfl ?_
    refine lv_if_eq (tgt := 36) hx hb dX6_shows_25 (by decide) (fun c_25 => ?_) (fun c_25 => ?_)
    · replace hF := hF.trans (if_pos c_25)
      refine lv_bipush (v := (-3)) hx hb dX6_shows_36 (by decide) ?_
      exact RT _ _ _ _ _ _ hh (rfl) (Or.inl ⟨_, rfl, by rw [hF], dX6_shows_38, Or.inl rfl⟩)
    · replace hF := hF.trans (if_neg c_25)
      obtain ⟨k0_25, k1_25⟩ : (0 : Int) ≤ x2.toInt ∧ x2.toInt < 4320 := X6_isBelow_in c_25
      refine lv_iload_n hx hb dX6_shows_28 rfl (lv_at hl 4 rfl) ?_
      refine lv_iconst (v := 2) hx hb dX6_shows_29 (by decide) ?_
      refine g_callS (As := [.int x3, .int 2]) (rest := []) KX rfl ⟨Nat.le_of_ble_eq_true rfl, Nat.le_of_ble_eq_true rfl⟩ hh hl (c_X6_isBelow l D cI cZ cC cH  x3 2 ) JN.no 2 gX6_shows_X6_isBelow rfl (by decide +kernel) ⟨Nat.le_of_ble_eq_true rfl, Nat.le_of_ble_eq_true rfl⟩ rfl rfl (Nat.le_of_ble_eq_true rfl) dX6_shows_30 (fun H locs hh => ?_)
      refine W.eq (g2 := F0 m 33 ls [.int (F_X6_isBelow x3 2)]) rfl ?_
      refine lv_if_ne (tgt := 39) hx hb dX6_shows_33 (by decide) (fun c_33 => ?_) (fun c_33 => ?_)
      · replace hF := hF.trans (if_neg c_33)
        obtain ⟨k0_33, k1_33⟩ : (0 : Int) ≤ x3.toInt ∧ x3.toInt < 2 := X6_isBelow_in c_33
        refine lv_aload hx hb dX6_shows_39 (lv_at hl 0 rfl) ?_
        refine lv_iload_n hx hb dX6_shows_41 rfl (lv_at hl 3 rfl) ?_
        refine lv_iload_n hx hb dX6_shows_42 rfl (lv_at hl 4 rfl) ?_
        have K_59 : ∀ (y0_1 : Int32) (_ : R = (F_X6_shows_59 p_ck x1 x2) y0_1) (ls : Array Slot) (H : Heap) (locs : List Loc) (_ : HS D A s.heap (W6 cI cZ cC cH o t_o t_a_bytes t_a_rows p_o p_a_clocks p_n_o p_n_a_clocks p_n_a_minutes p_n_a_dials a_kept a_o a_a_clocks a_n_o a_n_a_clocks a_n_a_minutes a_n_a_dials b_o b_a_clocks b_n_o b_n_a_clocks b_n_a_minutes b_n_a_dials y_o r_o q_o q_a_clocks q_a_rates q_a_least a_misfits a_shown p_c a_c b_c sifted t_length t_lineCount t_start t_end t_bytes t_rows p_filled p_ck p_n_many p_n_clocks p_n_minutes p_n_dials a_filled a_ck a_n_many a_n_clocks a_n_minutes a_n_dials b_filled b_ck b_n_many b_n_clocks b_n_minutes b_n_dials y_many y_first y_last y_runs r_kind r_set r_dial r_low r_high r_read q_many q_clocks q_rates q_least misfits shown) H locs) (_ : lv_has ls 5 [(4, .ref (p_c x1.toNatClampNeg)), (0, .ref o), (1, .int x1), (2, .int x2), (3, .int x3)]), W p l e { frames := 3, cells := 0, slots := 0, locals := 67 } s m args below meth c H locs 0 0 Q (F0 m 59 ls [.int y0_1, .int x2, .ref (p_c x1.toNatClampNeg)]) := by
          intro y0_1 hF ls H locs hh hl
          unfold F_X6_shows_59 at hF
          refine g_callV (As := [.int x2, .int y0_1]) (rest := []) KX rfl ⟨Nat.le_of_ble_eq_true rfl, Nat.le_of_ble_eq_true rfl⟩ hh hl (c_X0_dialAt l D cI cZ cC cH (p_c x1.toNatClampNeg) (p_ck x1.toNatClampNeg 0) (p_ck x1.toNatClampNeg 1) (p_ck x1.toNatClampNeg 2) (p_ck x1.toNatClampNeg 3) (p_ck x1.toNatClampNeg 4) (p_ck x1.toNatClampNeg 5) x2 y0_1 ) (JN.ro [6 + x1.toNatClampNeg] (by first | (simp only [List.map_cons, List.map_nil, clk_W6_p (tn_lt (k := x1) (n := 8) (by omega) (by omega))]; done) | (simp only [List.map_cons, List.map_nil, clk_W6_p (tn_lt (k := x1) (n := 8) (by omega) (by omega))]; rfl)) rfl) 2 gX6_shows_X0_dialAt rfl (by decide +kernel) ⟨Nat.le_of_ble_eq_true rfl, Nat.le_of_ble_eq_true rfl⟩ (6 + x1.toNatClampNeg) 0 rfl rfl (clk_W6_p (tn_lt (k := x1) (n := 8) (by omega) (by omega))) rfl rfl (Nat.le_of_ble_eq_true rfl) dX6_shows_59 (fun H locs hh => ?_)
          refine W.eq (g2 := F0 m 62 ls [.int (F_X0_dialAt (p_ck x1.toNatClampNeg 0) (p_ck x1.toNatClampNeg 1) (p_ck x1.toNatClampNeg 2) x2 y0_1)]) rfl ?_
          exact RT _ _ _ _ _ _ hh (rfl) (Or.inl ⟨_, rfl, by rw [hF], dX6_shows_62, Or.inl rfl⟩)
        refine lv_if_ne (tgt := 54) hx hb dX6_shows_43 (by decide) (fun c_43 => ?_) (fun c_43 => ?_)
        · replace hF := hF.trans (if_neg c_43)
          have i_43 : ¬ x3.toInt = 0 := ti_ne c_43
          refine lv_aload hx hb dX6_shows_54 (lv_at hl 0 rfl) ?_
          refine g_get KX hh in_X6_shows_X0 (6 + x1.toNatClampNeg) (clk_W6_p (tn_lt (k := x1) (n := 8) (by omega) (by omega))) rfl 4 (by decide) rfl (List.mem_of_getElem? (i := 3) rfl) dX6_shows_56 ?_
          exact K_59 (p_ck x1.toNatClampNeg 4)  hF _ _ _ hh (lv_sub hl [0, 1, 2, 3, 4] rfl)
        · replace hF := hF.trans (if_pos c_43)
          have i_43 : x3.toInt = 0 := congrArg Int32.toInt c_43
          refine lv_aload hx hb dX6_shows_46 (lv_at hl 0 rfl) ?_
          refine g_get KX hh in_X6_shows_X0 (6 + x1.toNatClampNeg) (clk_W6_p (tn_lt (k := x1) (n := 8) (by omega) (by omega))) rfl 3 (by decide) rfl (List.mem_of_getElem? (i := 2) rfl) dX6_shows_48 ?_
          refine lv_goto (tgt := 59) hx hb dX6_shows_51 (by decide) ?_
          exact K_59 (p_ck x1.toNatClampNeg 3)  hF _ _ _ hh (lv_sub hl [0, 1, 2, 3, 4] rfl)
      · replace hF := hF.trans (if_pos c_33)
        refine lv_bipush (v := (-3)) hx hb dX6_shows_36 (by decide) ?_
        exact RT _ _ _ _ _ _ hh (rfl) (Or.inl ⟨_, rfl, by rw [hF], dX6_shows_38, Or.inl rfl⟩)
def F_X6_can (p_ck : Nat → Nat → Int32) (x1 : Int32) (x2 : Int32) (x3 : Int32) : Int32 := (if tld p_ck x1 = 0 then (-2) else (if (F_X6_isBelow x2 4320) = 0 then (-3) else (if (F_X6_isBelow x3 720) = 0 then (-3) else (if (F_X0_canShow (p_ck x1.toNatClampNeg 0) (p_ck x1.toNatClampNeg 1) (p_ck x1.toNatClampNeg 2) (p_ck x1.toNatClampNeg 3) (p_ck x1.toNatClampNeg 4) x2 x3) = 0 then 0 else 1))))
theorem in_X6_can_X6 : ∀ x ∈ u_ws RX6 TX6 9, x ∈ wsX6_can := by decide +kernel
set_option maxHeartbeats 2000000 in
set_option maxRecDepth 100000 in
theorem c_X6_can (l : Launch) (D : va_G) (cI cZ cC cH : ClassId) (o t_o t_a_bytes t_a_rows p_o p_a_clocks p_n_o p_n_a_clocks p_n_a_minutes p_n_a_dials a_kept a_o a_a_clocks a_n_o a_n_a_clocks a_n_a_minutes a_n_a_dials b_o b_a_clocks b_n_o b_n_a_clocks b_n_a_minutes b_n_a_dials y_o r_o q_o q_a_clocks q_a_rates q_a_least a_misfits a_shown : Nat) (p_c : Nat → Nat) (a_c : Nat → Nat) (b_c : Nat → Nat) (sifted : Int32) (t_length : Int32) (t_lineCount : Int32) (t_start : Int32) (t_end : Int32) (t_bytes : Nat → Int32) (t_rows : Nat → Int32) (p_filled : Int32) (p_ck : Nat → Nat → Int32) (p_n_many : Int32) (p_n_clocks : Nat → Int32) (p_n_minutes : Nat → Int32) (p_n_dials : Nat → Int32) (a_filled : Int32) (a_ck : Nat → Nat → Int32) (a_n_many : Int32) (a_n_clocks : Nat → Int32) (a_n_minutes : Nat → Int32) (a_n_dials : Nat → Int32) (b_filled : Int32) (b_ck : Nat → Nat → Int32) (b_n_many : Int32) (b_n_clocks : Nat → Int32) (b_n_minutes : Nat → Int32) (b_n_dials : Nat → Int32) (y_many : Int32) (y_first : Int32) (y_last : Int32) (y_runs : Int32) (r_kind : Int32) (r_set : Int32) (r_dial : Int32) (r_low : Int32) (r_high : Int32) (r_read : Int32) (q_many : Int32) (q_clocks : Nat → Int32) (q_rates : Nat → Int32) (q_least : Nat → Int32) (misfits : Nat → Int32) (shown : Nat → Int32) (x1 : Int32) (x2 : Int32) (x3 : Int32)  : MC l D (TY cI cZ cC cH) yX6_can wsX6_can 3 71 [.ref o, .int x1, .int x2, .int x3] (W6 cI cZ cC cH o t_o t_a_bytes t_a_rows p_o p_a_clocks p_n_o p_n_a_clocks p_n_a_minutes p_n_a_dials a_kept a_o a_a_clocks a_n_o a_n_a_clocks a_n_a_minutes a_n_a_dials b_o b_a_clocks b_n_o b_n_a_clocks b_n_a_minutes b_n_a_dials y_o r_o q_o q_a_clocks q_a_rates q_a_least a_misfits a_shown p_c a_c b_c sifted t_length t_lineCount t_start t_end t_bytes t_rows p_filled p_ck p_n_many p_n_clocks p_n_minutes p_n_dials a_filled a_ck a_n_many a_n_clocks a_n_minutes a_n_dials b_filled b_ck b_n_many b_n_clocks b_n_minutes b_n_dials y_many y_first y_last y_runs r_kind r_set r_dial r_low r_high r_read q_many q_clocks q_rates q_least misfits shown) (some (.int (F_X6_can p_ck x1 x2 x3))) (W6 cI cZ cC cH o t_o t_a_bytes t_a_rows p_o p_a_clocks p_n_o p_n_a_clocks p_n_a_minutes p_n_a_dials a_kept a_o a_a_clocks a_n_o a_n_a_clocks a_n_a_minutes a_n_a_dials b_o b_a_clocks b_n_o b_n_a_clocks b_n_a_minutes b_n_a_dials y_o r_o q_o q_a_clocks q_a_rates q_a_least a_misfits a_shown p_c a_c b_c sifted t_length t_lineCount t_start t_end t_bytes t_rows p_filled p_ck p_n_many p_n_clocks p_n_minutes p_n_dials a_filled a_ck a_n_many a_n_clocks a_n_minutes a_n_dials b_filled b_ck b_n_many b_n_clocks b_n_minutes b_n_dials y_many y_first y_last y_runs r_kind r_set r_dial r_low r_high r_read q_many q_clocks q_rates q_least misfits shown) := by
  obtain ⟨R, hF⟩ : ∃ R, R = F_X6_can p_ck x1 x2 x3 := ⟨_, rfl⟩
  rw [← hF]
  refine MC.of (cc := cX6_can) (maxL := 5) (ret := (some .int)) RX6 rfl (by decide +kernel) rfl (Nat.le_of_ble_eq_true rfl) ?_
  intro p e s m args below meth c A Q KX RT hh ls hl
  have z0 : (0 : Int32).toInt = 0 := rfl
  have z1 : (1 : Int32).toInt = 1 := rfl
  have zm : (-1 : Int32).toInt = -1 := rfl
  have hx := KX.1
  have hb := KX.2.1
  have hl : lv_has ls 5 [(0, .ref o), (1, .int x1), (2, .int x2), (3, .int x3)] := hl
  unfold F_X6_can at hF
  refine lv_aload_n hx hb dX6_can_0 rfl (lv_at hl 0 rfl) ?_
  refine g_get KX hh in_X6_can_X6 0 rfl rfl 1 (by decide) rfl (List.mem_of_getElem? (i := 1) rfl) dX6_can_1 ?_
  refine lv_iload_n hx hb dX6_can_4 rfl (lv_at hl 1 rfl) ?_
  refine g_callV (As := [.int x1]) (rest := []) KX rfl ⟨Nat.le_of_ble_eq_true rfl, Nat.le_of_ble_eq_true rfl⟩ hh hl (c_X1_toldClock l D cI cZ cC cH p_o p_a_clocks p_n_o p_n_a_clocks p_n_a_minutes p_n_a_dials p_c p_filled p_ck p_n_many p_n_clocks p_n_minutes p_n_dials x1 ) (JN.ro [4, 5, 6, 7, 8, 9, 10, 11, 12, 13, 14, 15, 16, 17] rfl (by decide +kernel)) 1 gX6_can_X1_toldClock rfl (by decide +kernel) ⟨Nat.le_of_ble_eq_true rfl, Nat.le_of_ble_eq_true rfl⟩ 4 1 rfl rfl rfl rfl rfl (Nat.le_of_ble_eq_true rfl) dX6_can_5 (fun H locs hh => ?_)
  rcases told_cases p_ck p_c x1 with ⟨c_5, e_5⟩ | ⟨c_5, e_5⟩
  · refine W.eq (g2 := F0 m 8 ls [.null]) (by rw [e_5]; rfl) ?_
    replace hF := hF.trans (if_pos c_5)
    refine lv_astoreN (lv' := [(4, .null), (0, .ref o), (1, .int x1), (2, .int x2), (3, .int x3)]) hx hb dX6_can_8 hl (Nat.le_of_ble_eq_true rfl) rfl (fun ls hl => ?_)
    refine lv_aloadN hx hb dX6_can_10 (lv_at hl 0 rfl) ?_
    refine lv_ifnonnullN hx hb dX6_can_12 ?_
    refine lv_bipush (v := (-2)) hx hb dX6_can_15 (by decide) ?_
    exact RT _ _ _ _ _ _ hh (rfl) (Or.inl ⟨_, rfl, by rw [hF], dX6_can_17, Or.inl rfl⟩)
  · refine W.eq (g2 := F0 m 8 ls [.ref (p_c x1.toNatClampNeg)]) (by rw [e_5]; rfl) ?_
    replace hF := hF.trans (if_neg c_5)
    obtain ⟨k0_5, k1_5⟩ := tld_in c_5
    refine lv_astore (lv' := [(4, .ref (p_c x1.toNatClampNeg)), (0, .ref o), (1, .int x1), (2, .int x2), (3, .int x3)]) hx hb dX6_can_8 hl (Nat.le_of_ble_eq_true rfl) rfl (fun ls hl => ?_)
    refine lv_aload hx hb dX6_can_10 (lv_at hl 0 rfl) ?_
    refine lv_ifnonnull (tgt := 18) hx hb dX6_can_12 (by decide) ?_
    refine lv_iload_n hx hb dX6_can_18 rfl (lv_at hl 3 rfl) ?_
    refine lv_sipush (v := 4320) hx hb dX6_can_19 (by decide) ?_
    refine g_callS (As := [.int x2, .int 4320]) (rest := []) KX rfl ⟨Nat.le_of_ble_eq_true rfl, Nat.le_of_ble_eq_true rfl⟩ hh hl (c_X6_isBelow l D cI cZ cC cH  x2 4320 ) JN.no 2 gX6_can_X6_isBelow rfl (by decide +kernel) ⟨Nat.le_of_ble_eq_true rfl, Nat.le_of_ble_eq_true rfl⟩ rfl rfl (Nat.le_of_ble_eq_true rfl) dX6_can_22 (fun H locs hh => ?_)
    refine W.eq (g2 := F0 m 25 ls [.int (F_X6_isBelow x2 4320)]) rfl ?_
    refine lv_if_eq (tgt := 38) hx hb dX6_can_25 (by decide) (fun c_25 => ?_) (fun c_25 => ?_)
    · replace hF := hF.trans (if_pos c_25)
      refine lv_bipush (v := (-3)) hx hb dX6_can_38 (by decide) ?_
      exact RT _ _ _ _ _ _ hh (rfl) (Or.inl ⟨_, rfl, by rw [hF], dX6_can_40, Or.inl rfl⟩)
    · replace hF := hF.trans (if_neg c_25)
      obtain ⟨k0_25, k1_25⟩ : (0 : Int) ≤ x2.toInt ∧ x2.toInt < 4320 := X6_isBelow_in c_25
      refine lv_iload_n hx hb dX6_can_28 rfl (lv_at hl 4 rfl) ?_
      refine lv_sipush (v := 720) hx hb dX6_can_29 (by decide) ?_
      refine g_callS (As := [.int x3, .int 720]) (rest := []) KX rfl ⟨Nat.le_of_ble_eq_true rfl, Nat.le_of_ble_eq_true rfl⟩ hh hl (c_X6_isBelow l D cI cZ cC cH  x3 720 ) JN.no 2 gX6_can_X6_isBelow rfl (by decide +kernel) ⟨Nat.le_of_ble_eq_true rfl, Nat.le_of_ble_eq_true rfl⟩ rfl rfl (Nat.le_of_ble_eq_true rfl) dX6_can_32 (fun H locs hh => ?_)
      refine W.eq (g2 := F0 m 35 ls [.int (F_X6_isBelow x3 720)]) rfl ?_
      refine lv_if_ne (tgt := 41) hx hb dX6_can_35 (by decide) (fun c_35 => ?_) (fun c_35 => ?_)
      · replace hF := hF.trans (if_neg c_35)
        obtain ⟨k0_35, k1_35⟩ : (0 : Int) ≤ x3.toInt ∧ x3.toInt < 720 := X6_isBelow_in c_35
        refine lv_aload hx hb dX6_can_41 (lv_at hl 0 rfl) ?_
        refine lv_iload_n hx hb dX6_can_43 rfl (lv_at hl 3 rfl) ?_
        refine lv_iload_n hx hb dX6_can_44 rfl (lv_at hl 4 rfl) ?_
        refine g_callV (As := [.int x2, .int x3]) (rest := []) KX rfl ⟨Nat.le_of_ble_eq_true rfl, Nat.le_of_ble_eq_true rfl⟩ hh hl (c_X0_canShow l D cI cZ cC cH (p_c x1.toNatClampNeg) (p_ck x1.toNatClampNeg 0) (p_ck x1.toNatClampNeg 1) (p_ck x1.toNatClampNeg 2) (p_ck x1.toNatClampNeg 3) (p_ck x1.toNatClampNeg 4) (p_ck x1.toNatClampNeg 5) x2 x3 ) (JN.ro [6 + x1.toNatClampNeg] (by first | (simp only [List.map_cons, List.map_nil, clk_W6_p (tn_lt (k := x1) (n := 8) (by omega) (by omega))]; done) | (simp only [List.map_cons, List.map_nil, clk_W6_p (tn_lt (k := x1) (n := 8) (by omega) (by omega))]; rfl)) rfl) 2 gX6_can_X0_canShow rfl (by decide +kernel) ⟨Nat.le_of_ble_eq_true rfl, Nat.le_of_ble_eq_true rfl⟩ (6 + x1.toNatClampNeg) 0 rfl rfl (clk_W6_p (tn_lt (k := x1) (n := 8) (by omega) (by omega))) rfl rfl (Nat.le_of_ble_eq_true rfl) dX6_can_45 (fun H locs hh => ?_)
        refine W.eq (g2 := F0 m 48 ls [.int (F_X0_canShow (p_ck x1.toNatClampNeg 0) (p_ck x1.toNatClampNeg 1) (p_ck x1.toNatClampNeg 2) (p_ck x1.toNatClampNeg 3) (p_ck x1.toNatClampNeg 4) x2 x3)]) rfl ?_
        refine lv_if_eq (tgt := 55) hx hb dX6_can_48 (by decide) (fun c_48 => ?_) (fun c_48 => ?_)
        · replace hF := hF.trans (if_pos c_48)
          refine lv_iconst (v := 0) hx hb dX6_can_55 (by decide) ?_
          exact RT _ _ _ _ _ _ hh (rfl) (Or.inl ⟨_, rfl, by rw [hF], dX6_can_56, Or.inl rfl⟩)
        · replace hF := hF.trans (if_neg c_48)
          refine lv_iconst (v := 1) hx hb dX6_can_51 (by decide) ?_
          refine lv_goto (tgt := 56) hx hb dX6_can_52 (by decide) ?_
          exact RT _ _ _ _ _ _ hh (rfl) (Or.inl ⟨_, rfl, by rw [hF], dX6_can_56, Or.inl rfl⟩)
      · replace hF := hF.trans (if_pos c_35)
        refine lv_bipush (v := (-3)) hx hb dX6_can_38 (by decide) ?_
        exact RT _ _ _ _ _ _ hh (rfl) (Or.inl ⟨_, rfl, by rw [hF], dX6_can_40, Or.inl rfl⟩)
def F_X6_fits (p_ck : Nat → Nat → Int32) (x1 : Int32) : Int32 := (if (F_X6_isBelow x1 4320) = 0 then (-3) else (F_X1_readBits p_ck) &&& ((F_X1_misfitsAt p_ck x1) ^^^ (-1)))
theorem in_X6_fits_X6 : ∀ x ∈ u_ws RX6 TX6 9, x ∈ wsX6_fits := by decide +kernel
set_option maxHeartbeats 2000000 in
set_option maxRecDepth 100000 in
theorem c_X6_fits (l : Launch) (D : va_G) (cI cZ cC cH : ClassId) (o t_o t_a_bytes t_a_rows p_o p_a_clocks p_n_o p_n_a_clocks p_n_a_minutes p_n_a_dials a_kept a_o a_a_clocks a_n_o a_n_a_clocks a_n_a_minutes a_n_a_dials b_o b_a_clocks b_n_o b_n_a_clocks b_n_a_minutes b_n_a_dials y_o r_o q_o q_a_clocks q_a_rates q_a_least a_misfits a_shown : Nat) (p_c : Nat → Nat) (a_c : Nat → Nat) (b_c : Nat → Nat) (sifted : Int32) (t_length : Int32) (t_lineCount : Int32) (t_start : Int32) (t_end : Int32) (t_bytes : Nat → Int32) (t_rows : Nat → Int32) (p_filled : Int32) (p_ck : Nat → Nat → Int32) (p_n_many : Int32) (p_n_clocks : Nat → Int32) (p_n_minutes : Nat → Int32) (p_n_dials : Nat → Int32) (a_filled : Int32) (a_ck : Nat → Nat → Int32) (a_n_many : Int32) (a_n_clocks : Nat → Int32) (a_n_minutes : Nat → Int32) (a_n_dials : Nat → Int32) (b_filled : Int32) (b_ck : Nat → Nat → Int32) (b_n_many : Int32) (b_n_clocks : Nat → Int32) (b_n_minutes : Nat → Int32) (b_n_dials : Nat → Int32) (y_many : Int32) (y_first : Int32) (y_last : Int32) (y_runs : Int32) (r_kind : Int32) (r_set : Int32) (r_dial : Int32) (r_low : Int32) (r_high : Int32) (r_read : Int32) (q_many : Int32) (q_clocks : Nat → Int32) (q_rates : Nat → Int32) (q_least : Nat → Int32) (misfits : Nat → Int32) (shown : Nat → Int32) (x1 : Int32)  : MC l D (TY cI cZ cC cH) yX6_fits wsX6_fits 4 95 [.ref o, .int x1] (W6 cI cZ cC cH o t_o t_a_bytes t_a_rows p_o p_a_clocks p_n_o p_n_a_clocks p_n_a_minutes p_n_a_dials a_kept a_o a_a_clocks a_n_o a_n_a_clocks a_n_a_minutes a_n_a_dials b_o b_a_clocks b_n_o b_n_a_clocks b_n_a_minutes b_n_a_dials y_o r_o q_o q_a_clocks q_a_rates q_a_least a_misfits a_shown p_c a_c b_c sifted t_length t_lineCount t_start t_end t_bytes t_rows p_filled p_ck p_n_many p_n_clocks p_n_minutes p_n_dials a_filled a_ck a_n_many a_n_clocks a_n_minutes a_n_dials b_filled b_ck b_n_many b_n_clocks b_n_minutes b_n_dials y_many y_first y_last y_runs r_kind r_set r_dial r_low r_high r_read q_many q_clocks q_rates q_least misfits shown) (some (.int (F_X6_fits p_ck x1))) (W6 cI cZ cC cH o t_o t_a_bytes t_a_rows p_o p_a_clocks p_n_o p_n_a_clocks p_n_a_minutes p_n_a_dials a_kept a_o a_a_clocks a_n_o a_n_a_clocks a_n_a_minutes a_n_a_dials b_o b_a_clocks b_n_o b_n_a_clocks b_n_a_minutes b_n_a_dials y_o r_o q_o q_a_clocks q_a_rates q_a_least a_misfits a_shown p_c a_c b_c sifted t_length t_lineCount t_start t_end t_bytes t_rows p_filled p_ck p_n_many p_n_clocks p_n_minutes p_n_dials a_filled a_ck a_n_many a_n_clocks a_n_minutes a_n_dials b_filled b_ck b_n_many b_n_clocks b_n_minutes b_n_dials y_many y_first y_last y_runs r_kind r_set r_dial r_low r_high r_read q_many q_clocks q_rates q_least misfits shown) := by
  obtain ⟨R, hF⟩ : ∃ R, R = F_X6_fits p_ck x1 := ⟨_, rfl⟩
  rw [← hF]
  refine MC.of (cc := cX6_fits) (maxL := 2) (ret := (some .int)) RX6 rfl (by decide +kernel) rfl (Nat.le_of_ble_eq_true rfl) ?_
  intro p e s m args below meth c A Q KX RT hh ls hl
  have z0 : (0 : Int32).toInt = 0 := rfl
  have z1 : (1 : Int32).toInt = 1 := rfl
  have zm : (-1 : Int32).toInt = -1 := rfl
  have hx := KX.1
  have hb := KX.2.1
  have hl : lv_has ls 2 [(0, .ref o), (1, .int x1)] := hl
  unfold F_X6_fits at hF
  refine lv_iload_n hx hb dX6_fits_0 rfl (lv_at hl 1 rfl) ?_
  refine lv_sipush (v := 4320) hx hb dX6_fits_1 (by decide) ?_
  refine g_callS (As := [.int x1, .int 4320]) (rest := []) KX rfl ⟨Nat.le_of_ble_eq_true rfl, Nat.le_of_ble_eq_true rfl⟩ hh hl (c_X6_isBelow l D cI cZ cC cH  x1 4320 ) JN.no 2 gX6_fits_X6_isBelow rfl (by decide +kernel) ⟨Nat.le_of_ble_eq_true rfl, Nat.le_of_ble_eq_true rfl⟩ rfl rfl (Nat.le_of_ble_eq_true rfl) dX6_fits_4 (fun H locs hh => ?_)
  refine W.eq (g2 := F0 m 7 ls [.int (F_X6_isBelow x1 4320)]) rfl ?_
  refine lv_if_ne (tgt := 13) hx hb dX6_fits_7 (by decide) (fun c_7 => ?_) (fun c_7 => ?_)
  · replace hF := hF.trans (if_neg c_7)
    obtain ⟨k0_7, k1_7⟩ : (0 : Int) ≤ x1.toInt ∧ x1.toInt < 4320 := X6_isBelow_in c_7
    refine lv_aload_n hx hb dX6_fits_13 rfl (lv_at hl 0 rfl) ?_
    refine g_get KX hh in_X6_fits_X6 0 rfl rfl 1 (by decide) rfl (List.mem_of_getElem? (i := 1) rfl) dX6_fits_14 ?_
    refine g_callV (As := []) (rest := []) KX rfl ⟨Nat.le_of_ble_eq_true rfl, Nat.le_of_ble_eq_true rfl⟩ hh hl (c_X1_readBits l D cI cZ cC cH p_o p_a_clocks p_n_o p_n_a_clocks p_n_a_minutes p_n_a_dials p_c p_filled p_ck p_n_many p_n_clocks p_n_minutes p_n_dials  ) (JN.ro [4, 5, 6, 7, 8, 9, 10, 11, 12, 13, 14, 15, 16, 17] rfl (by decide +kernel)) 0 gX6_fits_X1_readBits rfl (by decide +kernel) ⟨Nat.le_of_ble_eq_true rfl, Nat.le_of_ble_eq_true rfl⟩ 4 1 rfl rfl rfl rfl rfl (Nat.le_of_ble_eq_true rfl) dX6_fits_17 (fun H locs hh => ?_)
    refine W.eq (g2 := F0 m 20 ls [.int (F_X1_readBits p_ck)]) rfl ?_
    refine lv_aload_n hx hb dX6_fits_20 rfl (lv_at hl 0 rfl) ?_
    refine g_get KX hh in_X6_fits_X6 0 rfl rfl 1 (by decide) rfl (List.mem_of_getElem? (i := 1) rfl) dX6_fits_21 ?_
    refine lv_iload_n hx hb dX6_fits_24 rfl (lv_at hl 1 rfl) ?_
    refine g_callV (As := [.int x1]) (rest := [.int (F_X1_readBits p_ck)]) KX rfl ⟨Nat.le_of_ble_eq_true rfl, Nat.le_of_ble_eq_true rfl⟩ hh hl (c_X1_misfitsAt l D cI cZ cC cH p_o p_a_clocks p_n_o p_n_a_clocks p_n_a_minutes p_n_a_dials p_c p_filled p_ck p_n_many p_n_clocks p_n_minutes p_n_dials x1 ) (JN.ro [4, 5, 6, 7, 8, 9, 10, 11, 12, 13, 14, 15, 16, 17] rfl (by decide +kernel)) 1 gX6_fits_X1_misfitsAt rfl (by decide +kernel) ⟨Nat.le_of_ble_eq_true rfl, Nat.le_of_ble_eq_true rfl⟩ 4 1 rfl rfl rfl rfl rfl (Nat.le_of_ble_eq_true rfl) dX6_fits_25 (fun H locs hh => ?_)
    refine W.eq (g2 := F0 m 28 ls [.int (F_X1_misfitsAt p_ck x1), .int (F_X1_readBits p_ck)]) rfl ?_
    refine lv_iconst (v := (-1)) hx hb dX6_fits_28 (by decide) ?_
    refine lv_ixor hx hb dX6_fits_29 ?_
    refine lv_iand hx hb dX6_fits_30 ?_
    exact RT _ _ _ _ _ _ hh (rfl) (Or.inl ⟨_, rfl, by rw [hF], dX6_fits_31, Or.inl rfl⟩)
  · replace hF := hF.trans (if_pos c_7)
    refine lv_bipush (v := (-3)) hx hb dX6_fits_10 (by decide) ?_
    exact RT _ _ _ _ _ _ hh (rfl) (Or.inl ⟨_, rfl, by rw [hF], dX6_fits_12, Or.inl rfl⟩)
def F_X6_sift_10 (p_ck : Nat → Nat → Int32) : Nat → Int32 → (Nat → Int32) → Int32 × (Nat → Int32)
  | 0, _, _ => default
  | n + 1, x1_1, w_misfits_2 => (if 4320 ≤ x1_1 then (1, w_misfits_2) else ((F_X6_sift_10 p_ck n) (x1_1 + 1) (upd w_misfits_2 x1_1.toNatClampNeg (F_X1_misfitsAt p_ck x1_1))))
def F_X6_sift (sifted : Int32) (p_ck : Nat → Nat → Int32) (misfits : Nat → Int32) : Int32 × (Nat → Int32) := (if sifted = 0 then (F_X6_sift_10 p_ck 4321 0 misfits) else (sifted, misfits))
theorem in_X6_sift_X6 : ∀ x ∈ u_ws RX6 TX6 9, x ∈ wsX6_sift := by decide +kernel
set_option maxHeartbeats 2000000 in
set_option maxRecDepth 100000 in
theorem c_X6_sift (l : Launch) (D : va_G) (cI cZ cC cH : ClassId) (o t_o t_a_bytes t_a_rows p_o p_a_clocks p_n_o p_n_a_clocks p_n_a_minutes p_n_a_dials a_kept a_o a_a_clocks a_n_o a_n_a_clocks a_n_a_minutes a_n_a_dials b_o b_a_clocks b_n_o b_n_a_clocks b_n_a_minutes b_n_a_dials y_o r_o q_o q_a_clocks q_a_rates q_a_least a_misfits a_shown : Nat) (p_c : Nat → Nat) (a_c : Nat → Nat) (b_c : Nat → Nat) (sifted : Int32) (t_length : Int32) (t_lineCount : Int32) (t_start : Int32) (t_end : Int32) (t_bytes : Nat → Int32) (t_rows : Nat → Int32) (p_filled : Int32) (p_ck : Nat → Nat → Int32) (p_n_many : Int32) (p_n_clocks : Nat → Int32) (p_n_minutes : Nat → Int32) (p_n_dials : Nat → Int32) (a_filled : Int32) (a_ck : Nat → Nat → Int32) (a_n_many : Int32) (a_n_clocks : Nat → Int32) (a_n_minutes : Nat → Int32) (a_n_dials : Nat → Int32) (b_filled : Int32) (b_ck : Nat → Nat → Int32) (b_n_many : Int32) (b_n_clocks : Nat → Int32) (b_n_minutes : Nat → Int32) (b_n_dials : Nat → Int32) (y_many : Int32) (y_first : Int32) (y_last : Int32) (y_runs : Int32) (r_kind : Int32) (r_set : Int32) (r_dial : Int32) (r_low : Int32) (r_high : Int32) (r_read : Int32) (q_many : Int32) (q_clocks : Nat → Int32) (q_rates : Nat → Int32) (q_least : Nat → Int32) (misfits : Nat → Int32) (shown : Nat → Int32)   : MC l D (TY cI cZ cC cH) yX6_sift wsX6_sift 4 95 [.ref o] (W6 cI cZ cC cH o t_o t_a_bytes t_a_rows p_o p_a_clocks p_n_o p_n_a_clocks p_n_a_minutes p_n_a_dials a_kept a_o a_a_clocks a_n_o a_n_a_clocks a_n_a_minutes a_n_a_dials b_o b_a_clocks b_n_o b_n_a_clocks b_n_a_minutes b_n_a_dials y_o r_o q_o q_a_clocks q_a_rates q_a_least a_misfits a_shown p_c a_c b_c sifted t_length t_lineCount t_start t_end t_bytes t_rows p_filled p_ck p_n_many p_n_clocks p_n_minutes p_n_dials a_filled a_ck a_n_many a_n_clocks a_n_minutes a_n_dials b_filled b_ck b_n_many b_n_clocks b_n_minutes b_n_dials y_many y_first y_last y_runs r_kind r_set r_dial r_low r_high r_read q_many q_clocks q_rates q_least misfits shown) (none) (W6 cI cZ cC cH o t_o t_a_bytes t_a_rows p_o p_a_clocks p_n_o p_n_a_clocks p_n_a_minutes p_n_a_dials a_kept a_o a_a_clocks a_n_o a_n_a_clocks a_n_a_minutes a_n_a_dials b_o b_a_clocks b_n_o b_n_a_clocks b_n_a_minutes b_n_a_dials y_o r_o q_o q_a_clocks q_a_rates q_a_least a_misfits a_shown p_c a_c b_c (F_X6_sift sifted p_ck misfits).1 t_length t_lineCount t_start t_end t_bytes t_rows p_filled p_ck p_n_many p_n_clocks p_n_minutes p_n_dials a_filled a_ck a_n_many a_n_clocks a_n_minutes a_n_dials b_filled b_ck b_n_many b_n_clocks b_n_minutes b_n_dials y_many y_first y_last y_runs r_kind r_set r_dial r_low r_high r_read q_many q_clocks q_rates q_least (F_X6_sift sifted p_ck misfits).2 shown) := by
  obtain ⟨R, hF⟩ : ∃ R, R = F_X6_sift sifted p_ck misfits := ⟨_, rfl⟩
  rw [← hF]
  refine MC.of (cc := cX6_sift) (maxL := 2) (ret := none) RX6 rfl (by decide +kernel) rfl (Nat.le_of_ble_eq_true rfl) ?_
  intro p e s m args below meth c A Q KX RT hh ls hl
  have z0 : (0 : Int32).toInt = 0 := rfl
  have z1 : (1 : Int32).toInt = 1 := rfl
  have zm : (-1 : Int32).toInt = -1 := rfl
  have hx := KX.1
  have hb := KX.2.1
  have hl : lv_has ls 2 [(0, .ref o)] := hl
  unfold F_X6_sift at hF
  refine lv_aload_n hx hb dX6_sift_0 rfl (lv_at hl 0 rfl) ?_
  refine g_get KX hh in_X6_sift_X6 0 rfl rfl 7 (by decide) rfl (List.mem_of_getElem? (i := 1) rfl) dX6_sift_1 ?_
  refine lv_if_eq (tgt := 8) hx hb dX6_sift_4 (by decide) (fun c_4 => ?_) (fun c_4 => ?_)
  · replace hF := hF.trans (if_pos c_4)
    have i_4 : sifted.toInt = 0 := congrArg Int32.toInt c_4
    refine lv_iconst (v := 0) hx hb dX6_sift_8 (by decide) ?_
    refine lv_istore_n (lv' := [(1, .int 0), (0, .ref o)]) hx hb dX6_sift_9 rfl hl (Nat.le_of_ble_eq_true rfl) rfl (fun ls hl => ?_)
    have L_10 : ∀ (n_10 : Nat) (x1_1 : Int32) (w_misfits_2 : Nat → Int32) (i0_10 : 0 ≤ x1_1.toInt) (i1_10 : x1_1.toInt ≤ 4320) (_ : (4320 - x1_1.toInt).toNat < n_10) (_ : R = (F_X6_sift_10 p_ck) n_10 x1_1 w_misfits_2) (ls : Array Slot) (H : Heap) (locs : List Loc) (_ : HS D A s.heap (W6 cI cZ cC cH o t_o t_a_bytes t_a_rows p_o p_a_clocks p_n_o p_n_a_clocks p_n_a_minutes p_n_a_dials a_kept a_o a_a_clocks a_n_o a_n_a_clocks a_n_a_minutes a_n_a_dials b_o b_a_clocks b_n_o b_n_a_clocks b_n_a_minutes b_n_a_dials y_o r_o q_o q_a_clocks q_a_rates q_a_least a_misfits a_shown p_c a_c b_c sifted t_length t_lineCount t_start t_end t_bytes t_rows p_filled p_ck p_n_many p_n_clocks p_n_minutes p_n_dials a_filled a_ck a_n_many a_n_clocks a_n_minutes a_n_dials b_filled b_ck b_n_many b_n_clocks b_n_minutes b_n_dials y_many y_first y_last y_runs r_kind r_set r_dial r_low r_high r_read q_many q_clocks q_rates q_least w_misfits_2 shown) H locs) (_ : lv_has ls 2 [(1, .int x1_1), (0, .ref o)]), W p l e { frames := 4, cells := 0, slots := 0, locals := 95 } s m args below meth c H locs 0 0 Q (F0 m 10 ls []) := by
      intro n_10
      induction n_10 with
      | zero => intro x1_1 w_misfits_2 i0_10 i1_10 hm; exact absurd hm (Nat.not_lt_zero _)
      | succ n_10 ih_10 =>
        intro x1_1 w_misfits_2 i0_10 i1_10 hm_10 hF ls H locs hh hl
        rw [F_X6_sift_10.eq_2] at hF
        refine lv_iload_n hx hb dX6_sift_10 rfl (lv_at hl 0 rfl) ?_
        refine lv_sipush (v := 4320) hx hb dX6_sift_11 (by decide) ?_
        refine lv_icmp_ge (tgt := 37) hx hb dX6_sift_14 (by decide) (fun c_14 => ?_) (fun c_14 => ?_)
        · replace hF := hF.trans (if_pos c_14)
          have i_14 : 4320 ≤ x1_1.toInt := ti_le.mp c_14
          refine lv_aload_n hx hb dX6_sift_37 rfl (lv_at hl 1 rfl) ?_
          refine lv_iconst (v := 1) hx hb dX6_sift_38 (by decide) ?_
          refine g_put KX hh in_X6_sift_X6 tyX6 tyX6_ok nmX6 0 rfl rfl 7 (by decide) rfl rfl rfl (Nat.le_of_ble_eq_true rfl) (List.mem_of_getElem? (i := 1) rfl) (w' := (W6 cI cZ cC cH o t_o t_a_bytes t_a_rows p_o p_a_clocks p_n_o p_n_a_clocks p_n_a_minutes p_n_a_dials a_kept a_o a_a_clocks a_n_o a_n_a_clocks a_n_a_minutes a_n_a_dials b_o b_a_clocks b_n_o b_n_a_clocks b_n_a_minutes b_n_a_dials y_o r_o q_o q_a_clocks q_a_rates q_a_least a_misfits a_shown p_c a_c b_c 1 t_length t_lineCount t_start t_end t_bytes t_rows p_filled p_ck p_n_many p_n_clocks p_n_minutes p_n_dials a_filled a_ck a_n_many a_n_clocks a_n_minutes a_n_dials b_filled b_ck b_n_many b_n_clocks b_n_minutes b_n_dials y_many y_first y_last y_runs r_kind r_set r_dial r_low r_high r_read q_many q_clocks q_rates q_least w_misfits_2 shown)) rfl rfl dX6_sift_39 (fun H locs hh => ?_)
          exact RT _ _ _ _ _ _ hh (by rw [hF]) (Or.inr (Or.inr (Or.inl ⟨rfl, rfl, dX6_sift_42, rfl⟩)))
        · replace hF := hF.trans (if_neg c_14)
          have i_14 : x1_1.toInt < 4320 := ti_nle c_14
          refine lv_aload_n hx hb dX6_sift_17 rfl (lv_at hl 1 rfl) ?_
          refine g_get KX hh in_X6_sift_X6 0 rfl rfl 6 (by decide) rfl (List.mem_of_getElem? (i := 2) rfl) dX6_sift_18 ?_
          refine lv_iload_n hx hb dX6_sift_21 rfl (lv_at hl 0 rfl) ?_
          refine lv_aload_n hx hb dX6_sift_22 rfl (lv_at hl 1 rfl) ?_
          refine g_get KX hh in_X6_sift_X6 0 rfl rfl 1 (by decide) rfl (List.mem_of_getElem? (i := 3) rfl) dX6_sift_23 ?_
          refine lv_iload_n hx hb dX6_sift_26 rfl (lv_at hl 0 rfl) ?_
          refine g_callV (As := [.int x1_1]) (rest := [.int x1_1, .ref a_misfits]) KX rfl ⟨Nat.le_of_ble_eq_true rfl, Nat.le_of_ble_eq_true rfl⟩ hh hl (c_X1_misfitsAt l D cI cZ cC cH p_o p_a_clocks p_n_o p_n_a_clocks p_n_a_minutes p_n_a_dials p_c p_filled p_ck p_n_many p_n_clocks p_n_minutes p_n_dials x1_1 ) (JN.ro [4, 5, 6, 7, 8, 9, 10, 11, 12, 13, 14, 15, 16, 17] rfl (by decide +kernel)) 1 gX6_sift_X1_misfitsAt rfl (by decide +kernel) ⟨Nat.le_of_ble_eq_true rfl, Nat.le_of_ble_eq_true rfl⟩ 4 1 rfl rfl rfl rfl rfl (Nat.le_of_ble_eq_true rfl) dX6_sift_27 (fun H locs hh => ?_)
          refine W.eq (g2 := F0 m 30 ls [.int (F_X1_misfitsAt p_ck x1_1), .int x1_1, .ref a_misfits]) rfl ?_
          refine g_iast KX hh 53 0 rfl rfl (vp_in_iff.mpr (by omega)) (w' := (W6 cI cZ cC cH o t_o t_a_bytes t_a_rows p_o p_a_clocks p_n_o p_n_a_clocks p_n_a_minutes p_n_a_dials a_kept a_o a_a_clocks a_n_o a_n_a_clocks a_n_a_minutes a_n_a_dials b_o b_a_clocks b_n_o b_n_a_clocks b_n_a_minutes b_n_a_dials y_o r_o q_o q_a_clocks q_a_rates q_a_least a_misfits a_shown p_c a_c b_c sifted t_length t_lineCount t_start t_end t_bytes t_rows p_filled p_ck p_n_many p_n_clocks p_n_minutes p_n_dials a_filled a_ck a_n_many a_n_clocks a_n_minutes a_n_dials b_filled b_ck b_n_many b_n_clocks b_n_minutes b_n_dials y_many y_first y_last y_runs r_kind r_set r_dial r_low r_high r_read q_many q_clocks q_rates q_least (upd w_misfits_2 x1_1.toNatClampNeg (F_X1_misfitsAt p_ck x1_1)) shown)) rfl dX6_sift_30 (fun H locs hh => ?_)
          refine lv_iinc (v := x1_1 + 1) (lv' := [(1, .int (x1_1 + 1)), (0, .ref o)]) hx hb dX6_sift_31 hl (k := 0) rfl rfl (Nat.le_of_ble_eq_true rfl) rfl (fun ls hl => ?_)
          refine lv_goto (tgt := 10) hx hb dX6_sift_34 (by decide) ?_
          have e_inc : (x1_1 + 1).toInt = x1_1.toInt + 1 := ti_inc (by omega)
          exact ih_10 (x1_1 + 1) (upd w_misfits_2 x1_1.toNatClampNeg (F_X1_misfitsAt p_ck x1_1)) (by first | with_reducible assumption | omega | decide) (by first | with_reducible assumption | omega | decide) (by omega) hF _ _ _ hh (lv_sub hl [0, 1] rfl)
    exact L_10 4321 0 misfits (by first | with_reducible assumption | omega | decide) (by first | with_reducible assumption | omega | decide) (by first | omega | decide | (simp; done)) hF _ _ _ hh (lv_sub hl [0, 1] rfl)
  · replace hF := hF.trans (if_neg c_4)
    have i_4 : ¬ sifted.toInt = 0 := ti_ne c_4
    exact RT _ _ _ _ _ _ hh (by rw [hF]) (Or.inr (Or.inr (Or.inl ⟨rfl, rfl, dX6_sift_7, rfl⟩)))
def F_X6_times_c45 (x2_3 : Int32) (k_24 : Int32 → Int32 → Int32 → Int32 → Int32 → Int32 × Int32 × Int32 × Int32 × Int32 × Int32 × (Nat → Int32)) (r45_8 : Int32 × Int32 × Int32 × Int32) : Int32 × Int32 × Int32 × Int32 × Int32 × Int32 × (Nat → Int32) := (k_24 (x2_3 + 1) r45_8.1 r45_8.2.1 r45_8.2.2.1 r45_8.2.2.2)
def F_X6_times_24 (x1 : Int32) (r12_1 : Int32 × (Nat → Int32)) : Nat → Int32 → Int32 → Int32 → Int32 → Int32 → Int32 × Int32 × Int32 × Int32 × Int32 × Int32 × (Nat → Int32)
  | 0, _, _, _, _, _ => default
  | n + 1, x2_3, w_y_many_4, w_y_first_5, w_y_last_6, w_y_runs_7 => (if 4320 ≤ x2_3 then (F_X4_tell w_y_many_4 w_y_first_5 w_y_last_6 w_y_runs_7 x1, r12_1.1, w_y_many_4, w_y_first_5, w_y_last_6, w_y_runs_7, r12_1.2) else (if (r12_1.2 x2_3.toNatClampNeg) = 0 then (F_X6_times_c45 x2_3 (F_X6_times_24 x1 r12_1 n) (F_X4_add w_y_many_4 w_y_first_5 w_y_last_6 w_y_runs_7 x2_3)) else ((F_X6_times_24 x1 r12_1 n) (x2_3 + 1) w_y_many_4 w_y_first_5 w_y_last_6 w_y_runs_7)))
def F_X6_times_c19 (x1 : Int32) (r12_1 : Int32 × (Nat → Int32)) (r19_2 : Int32 × Int32 × Int32 × Int32) : Int32 × Int32 × Int32 × Int32 × Int32 × Int32 × (Nat → Int32) := (F_X6_times_24 x1 r12_1 4321 0 r19_2.1 r19_2.2.1 r19_2.2.2.1 r19_2.2.2.2)
def F_X6_times_c12 (x1 : Int32) (r12_1 : Int32 × (Nat → Int32)) : Int32 × Int32 × Int32 × Int32 × Int32 × Int32 × (Nat → Int32) := (F_X6_times_c19 x1 r12_1 (F_X4_clear))
def F_X6_times (sifted : Int32) (p_ck : Nat → Nat → Int32) (y_many : Int32) (y_first : Int32) (y_last : Int32) (y_runs : Int32) (misfits : Nat → Int32) (x1 : Int32) : Int32 × Int32 × Int32 × Int32 × Int32 × Int32 × (Nat → Int32) := (if (F_X6_isBelow x1 4) = 0 then ((-3), sifted, y_many, y_first, y_last, y_runs, misfits) else (F_X6_times_c12 x1 (F_X6_sift sifted p_ck misfits)))
theorem in_X6_times_X6 : ∀ x ∈ u_ws RX6 TX6 9, x ∈ wsX6_times := by decide +kernel
set_option maxHeartbeats 2000000 in
set_option maxRecDepth 100000 in
theorem c_X6_times (l : Launch) (D : va_G) (cI cZ cC cH : ClassId) (o t_o t_a_bytes t_a_rows p_o p_a_clocks p_n_o p_n_a_clocks p_n_a_minutes p_n_a_dials a_kept a_o a_a_clocks a_n_o a_n_a_clocks a_n_a_minutes a_n_a_dials b_o b_a_clocks b_n_o b_n_a_clocks b_n_a_minutes b_n_a_dials y_o r_o q_o q_a_clocks q_a_rates q_a_least a_misfits a_shown : Nat) (p_c : Nat → Nat) (a_c : Nat → Nat) (b_c : Nat → Nat) (sifted : Int32) (t_length : Int32) (t_lineCount : Int32) (t_start : Int32) (t_end : Int32) (t_bytes : Nat → Int32) (t_rows : Nat → Int32) (p_filled : Int32) (p_ck : Nat → Nat → Int32) (p_n_many : Int32) (p_n_clocks : Nat → Int32) (p_n_minutes : Nat → Int32) (p_n_dials : Nat → Int32) (a_filled : Int32) (a_ck : Nat → Nat → Int32) (a_n_many : Int32) (a_n_clocks : Nat → Int32) (a_n_minutes : Nat → Int32) (a_n_dials : Nat → Int32) (b_filled : Int32) (b_ck : Nat → Nat → Int32) (b_n_many : Int32) (b_n_clocks : Nat → Int32) (b_n_minutes : Nat → Int32) (b_n_dials : Nat → Int32) (y_many : Int32) (y_first : Int32) (y_last : Int32) (y_runs : Int32) (r_kind : Int32) (r_set : Int32) (r_dial : Int32) (r_low : Int32) (r_high : Int32) (r_read : Int32) (q_many : Int32) (q_clocks : Nat → Int32) (q_rates : Nat → Int32) (q_least : Nat → Int32) (misfits : Nat → Int32) (shown : Nat → Int32) (x1 : Int32)  : MC l D (TY cI cZ cC cH) yX6_times wsX6_times 5 116 [.ref o, .int x1] (W6 cI cZ cC cH o t_o t_a_bytes t_a_rows p_o p_a_clocks p_n_o p_n_a_clocks p_n_a_minutes p_n_a_dials a_kept a_o a_a_clocks a_n_o a_n_a_clocks a_n_a_minutes a_n_a_dials b_o b_a_clocks b_n_o b_n_a_clocks b_n_a_minutes b_n_a_dials y_o r_o q_o q_a_clocks q_a_rates q_a_least a_misfits a_shown p_c a_c b_c sifted t_length t_lineCount t_start t_end t_bytes t_rows p_filled p_ck p_n_many p_n_clocks p_n_minutes p_n_dials a_filled a_ck a_n_many a_n_clocks a_n_minutes a_n_dials b_filled b_ck b_n_many b_n_clocks b_n_minutes b_n_dials y_many y_first y_last y_runs r_kind r_set r_dial r_low r_high r_read q_many q_clocks q_rates q_least misfits shown) (some (.int ((F_X6_times sifted p_ck y_many y_first y_last y_runs misfits x1).1))) (W6 cI cZ cC cH o t_o t_a_bytes t_a_rows p_o p_a_clocks p_n_o p_n_a_clocks p_n_a_minutes p_n_a_dials a_kept a_o a_a_clocks a_n_o a_n_a_clocks a_n_a_minutes a_n_a_dials b_o b_a_clocks b_n_o b_n_a_clocks b_n_a_minutes b_n_a_dials y_o r_o q_o q_a_clocks q_a_rates q_a_least a_misfits a_shown p_c a_c b_c (F_X6_times sifted p_ck y_many y_first y_last y_runs misfits x1).2.1 t_length t_lineCount t_start t_end t_bytes t_rows p_filled p_ck p_n_many p_n_clocks p_n_minutes p_n_dials a_filled a_ck a_n_many a_n_clocks a_n_minutes a_n_dials b_filled b_ck b_n_many b_n_clocks b_n_minutes b_n_dials (F_X6_times sifted p_ck y_many y_first y_last y_runs misfits x1).2.2.1 (F_X6_times sifted p_ck y_many y_first y_last y_runs misfits x1).2.2.2.1 (F_X6_times sifted p_ck y_many y_first y_last y_runs misfits x1).2.2.2.2.1 (F_X6_times sifted p_ck y_many y_first y_last y_runs misfits x1).2.2.2.2.2.1 r_kind r_set r_dial r_low r_high r_read q_many q_clocks q_rates q_least (F_X6_times sifted p_ck y_many y_first y_last y_runs misfits x1).2.2.2.2.2.2 shown) := by
  obtain ⟨R, hF⟩ : ∃ R, R = F_X6_times sifted p_ck y_many y_first y_last y_runs misfits x1 := ⟨_, rfl⟩
  rw [← hF]
  refine MC.of (cc := cX6_times) (maxL := 3) (ret := (some .int)) RX6 rfl (by decide +kernel) rfl (Nat.le_of_ble_eq_true rfl) ?_
  intro p e s m args below meth c A Q KX RT hh ls hl
  have z0 : (0 : Int32).toInt = 0 := rfl
  have z1 : (1 : Int32).toInt = 1 := rfl
  have zm : (-1 : Int32).toInt = -1 := rfl
  have hx := KX.1
  have hb := KX.2.1
  have hl : lv_has ls 3 [(0, .ref o), (1, .int x1)] := hl
  unfold F_X6_times at hF
  refine lv_iload_n hx hb dX6_times_0 rfl (lv_at hl 1 rfl) ?_
  refine lv_iconst (v := 4) hx hb dX6_times_1 (by decide) ?_
  refine g_callS (As := [.int x1, .int 4]) (rest := []) KX rfl ⟨Nat.le_of_ble_eq_true rfl, Nat.le_of_ble_eq_true rfl⟩ hh hl (c_X6_isBelow l D cI cZ cC cH  x1 4 ) JN.no 2 gX6_times_X6_isBelow rfl (by decide +kernel) ⟨Nat.le_of_ble_eq_true rfl, Nat.le_of_ble_eq_true rfl⟩ rfl rfl (Nat.le_of_ble_eq_true rfl) dX6_times_2 (fun H locs hh => ?_)
  refine W.eq (g2 := F0 m 5 ls [.int (F_X6_isBelow x1 4)]) rfl ?_
  refine lv_if_ne (tgt := 11) hx hb dX6_times_5 (by decide) (fun c_5 => ?_) (fun c_5 => ?_)
  · replace hF := hF.trans (if_neg c_5)
    obtain ⟨k0_5, k1_5⟩ : (0 : Int) ≤ x1.toInt ∧ x1.toInt < 4 := X6_isBelow_in c_5
    refine lv_aload_n hx hb dX6_times_11 rfl (lv_at hl 0 rfl) ?_
    refine g_callV (As := []) (rest := []) KX rfl ⟨Nat.le_of_ble_eq_true rfl, Nat.le_of_ble_eq_true rfl⟩ hh hl (c_X6_sift l D cI cZ cC cH o t_o t_a_bytes t_a_rows p_o p_a_clocks p_n_o p_n_a_clocks p_n_a_minutes p_n_a_dials a_kept a_o a_a_clocks a_n_o a_n_a_clocks a_n_a_minutes a_n_a_dials b_o b_a_clocks b_n_o b_n_a_clocks b_n_a_minutes b_n_a_dials y_o r_o q_o q_a_clocks q_a_rates q_a_least a_misfits a_shown p_c a_c b_c sifted t_length t_lineCount t_start t_end t_bytes t_rows p_filled p_ck p_n_many p_n_clocks p_n_minutes p_n_dials a_filled a_ck a_n_many a_n_clocks a_n_minutes a_n_dials b_filled b_ck b_n_many b_n_clocks b_n_minutes b_n_dials y_many y_first y_last y_runs r_kind r_set r_dial r_low r_high r_read q_many q_clocks q_rates q_least misfits shown  ) JN.all 0 gX6_times_X6_sift rfl (by decide +kernel) ⟨Nat.le_of_ble_eq_true rfl, Nat.le_of_ble_eq_true rfl⟩ 0 6 rfl rfl rfl rfl rfl (Nat.le_of_ble_eq_true rfl) dX6_times_12 (fun H locs hh => ?_)
    refine W.eq (g2 := F0 m 15 ls []) rfl ?_
    generalize q_12 : F_X6_sift sifted p_ck misfits = r12_1 at hh hF ⊢
    unfold F_X6_times_c12 at hF
    refine lv_aload_n hx hb dX6_times_15 rfl (lv_at hl 0 rfl) ?_
    refine g_get KX hh in_X6_times_X6 0 rfl rfl 3 (by decide) rfl (List.mem_of_getElem? (i := 1) rfl) dX6_times_16 ?_
    refine g_callV (As := []) (rest := []) KX rfl ⟨Nat.le_of_ble_eq_true rfl, Nat.le_of_ble_eq_true rfl⟩ hh hl (c_X4_clear l D cI cZ cC cH y_o y_many y_first y_last y_runs  ) (JN.up (ws1 := (W6 cI cZ cC cH o t_o t_a_bytes t_a_rows p_o p_a_clocks p_n_o p_n_a_clocks p_n_a_minutes p_n_a_dials a_kept a_o a_a_clocks a_n_o a_n_a_clocks a_n_a_minutes a_n_a_dials b_o b_a_clocks b_n_o b_n_a_clocks b_n_a_minutes b_n_a_dials y_o r_o q_o q_a_clocks q_a_rates q_a_least a_misfits a_shown p_c a_c b_c r12_1.1 t_length t_lineCount t_start t_end t_bytes t_rows p_filled p_ck p_n_many p_n_clocks p_n_minutes p_n_dials a_filled a_ck a_n_many a_n_clocks a_n_minutes a_n_dials b_filled b_ck b_n_many b_n_clocks b_n_minutes b_n_dials ((F_X4_clear).1) ((F_X4_clear).2.1) ((F_X4_clear).2.2.1) ((F_X4_clear).2.2.2) r_kind r_set r_dial r_low r_high r_read q_many q_clocks q_rates q_least r12_1.2 shown)) [47] rfl rfl rfl rfl rfl) 0 gX6_times_X4_clear rfl (by decide +kernel) ⟨Nat.le_of_ble_eq_true rfl, Nat.le_of_ble_eq_true rfl⟩ 47 4 rfl rfl rfl rfl rfl (Nat.le_of_ble_eq_true rfl) dX6_times_19 (fun H locs hh => ?_)
    refine W.eq (g2 := F0 m 22 ls []) rfl ?_
    generalize q_19 : F_X4_clear = r19_2 at hh hF ⊢
    unfold F_X6_times_c19 at hF
    refine lv_iconst (v := 0) hx hb dX6_times_22 (by decide) ?_
    refine lv_istore_n (lv' := [(2, .int 0), (0, .ref o), (1, .int x1)]) hx hb dX6_times_23 rfl hl (Nat.le_of_ble_eq_true rfl) rfl (fun ls hl => ?_)
    have L_24 : ∀ (n_24 : Nat) (x2_3 : Int32) (w_y_many_4 : Int32) (w_y_first_5 : Int32) (w_y_last_6 : Int32) (w_y_runs_7 : Int32) (i0_24 : 0 ≤ x2_3.toInt) (i1_24 : x2_3.toInt ≤ 4320) (_ : (4320 - x2_3.toInt).toNat < n_24) (_ : R = (F_X6_times_24 x1 r12_1) n_24 x2_3 w_y_many_4 w_y_first_5 w_y_last_6 w_y_runs_7) (ls : Array Slot) (H : Heap) (locs : List Loc) (_ : HS D A s.heap (W6 cI cZ cC cH o t_o t_a_bytes t_a_rows p_o p_a_clocks p_n_o p_n_a_clocks p_n_a_minutes p_n_a_dials a_kept a_o a_a_clocks a_n_o a_n_a_clocks a_n_a_minutes a_n_a_dials b_o b_a_clocks b_n_o b_n_a_clocks b_n_a_minutes b_n_a_dials y_o r_o q_o q_a_clocks q_a_rates q_a_least a_misfits a_shown p_c a_c b_c r12_1.1 t_length t_lineCount t_start t_end t_bytes t_rows p_filled p_ck p_n_many p_n_clocks p_n_minutes p_n_dials a_filled a_ck a_n_many a_n_clocks a_n_minutes a_n_dials b_filled b_ck b_n_many b_n_clocks b_n_minutes b_n_dials w_y_many_4 w_y_first_5 w_y_last_6 w_y_runs_7 r_kind r_set r_dial r_low r_high r_read q_many q_clocks q_rates q_least r12_1.2 shown) H locs) (_ : lv_has ls 3 [(2, .int x2_3), (0, .ref o), (1, .int x1)]), W p l e { frames := 5, cells := 0, slots := 0, locals := 116 } s m args below meth c H locs 0 0 Q (F0 m 24 ls []) := by
      intro n_24
      induction n_24 with
      | zero => intro x2_3 w_y_many_4 w_y_first_5 w_y_last_6 w_y_runs_7 i0_24 i1_24 hm; exact absurd hm (Nat.not_lt_zero _)
      | succ n_24 ih_24 =>
        intro x2_3 w_y_many_4 w_y_first_5 w_y_last_6 w_y_runs_7 i0_24 i1_24 hm_24 hF ls H locs hh hl
        rw [F_X6_times_24.eq_2] at hF
        refine lv_iload_n hx hb dX6_times_24 rfl (lv_at hl 0 rfl) ?_
        refine lv_sipush (v := 4320) hx hb dX6_times_25 (by decide) ?_
        refine lv_icmp_ge (tgt := 54) hx hb dX6_times_28 (by decide) (fun c_28 => ?_) (fun c_28 => ?_)
        · replace hF := hF.trans (if_pos c_28)
          have i_28 : 4320 ≤ x2_3.toInt := ti_le.mp c_28
          refine lv_aload_n hx hb dX6_times_54 rfl (lv_at hl 1 rfl) ?_
          refine g_get KX hh in_X6_times_X6 0 rfl rfl 3 (by decide) rfl (List.mem_of_getElem? (i := 1) rfl) dX6_times_55 ?_
          refine lv_iload_n hx hb dX6_times_58 rfl (lv_at hl 2 rfl) ?_
          refine g_callV (As := [.int x1]) (rest := []) KX rfl ⟨Nat.le_of_ble_eq_true rfl, Nat.le_of_ble_eq_true rfl⟩ hh hl (c_X4_tell l D cI cZ cC cH y_o w_y_many_4 w_y_first_5 w_y_last_6 w_y_runs_7 x1 ) (JN.ro [47] rfl rfl) 1 gX6_times_X4_tell rfl (by decide +kernel) ⟨Nat.le_of_ble_eq_true rfl, Nat.le_of_ble_eq_true rfl⟩ 47 4 rfl rfl rfl rfl rfl (Nat.le_of_ble_eq_true rfl) dX6_times_59 (fun H locs hh => ?_)
          refine W.eq (g2 := F0 m 62 ls [.int (F_X4_tell w_y_many_4 w_y_first_5 w_y_last_6 w_y_runs_7 x1)]) rfl ?_
          exact RT _ _ _ _ _ _ hh (by rw [hF]) (Or.inl ⟨_, rfl, by rw [hF], dX6_times_62, Or.inl rfl⟩)
        · replace hF := hF.trans (if_neg c_28)
          have i_28 : x2_3.toInt < 4320 := ti_nle c_28
          refine lv_aload_n hx hb dX6_times_31 rfl (lv_at hl 1 rfl) ?_
          refine g_get KX hh in_X6_times_X6 0 rfl rfl 6 (by decide) rfl (List.mem_of_getElem? (i := 2) rfl) dX6_times_32 ?_
          refine lv_iload_n hx hb dX6_times_35 rfl (lv_at hl 0 rfl) ?_
          refine g_iald KX hh 53 0 rfl rfl (vp_in_iff.mpr (by omega)) dX6_times_36 ?_
          refine lv_if_ne (tgt := 48) hx hb dX6_times_37 (by decide) (fun c_37 => ?_) (fun c_37 => ?_)
          · replace hF := hF.trans (if_neg c_37)
            refine lv_iinc (v := x2_3 + 1) (lv' := [(2, .int (x2_3 + 1)), (0, .ref o), (1, .int x1)]) hx hb dX6_times_48 hl (k := 0) rfl rfl (Nat.le_of_ble_eq_true rfl) rfl (fun ls hl => ?_)
            refine lv_goto (tgt := 24) hx hb dX6_times_51 (by decide) ?_
            have e_inc : (x2_3 + 1).toInt = x2_3.toInt + 1 := ti_inc (by omega)
            exact ih_24 (x2_3 + 1) w_y_many_4 w_y_first_5 w_y_last_6 w_y_runs_7 (by first | with_reducible assumption | omega | decide) (by first | with_reducible assumption | omega | decide) (by omega) hF _ _ _ hh (lv_sub hl [0, 1, 2] rfl)
          · replace hF := hF.trans (if_pos c_37)
            refine lv_aload_n hx hb dX6_times_40 rfl (lv_at hl 1 rfl) ?_
            refine g_get KX hh in_X6_times_X6 0 rfl rfl 3 (by decide) rfl (List.mem_of_getElem? (i := 1) rfl) dX6_times_41 ?_
            refine lv_iload_n hx hb dX6_times_44 rfl (lv_at hl 0 rfl) ?_
            refine g_callV (As := [.int x2_3]) (rest := []) KX rfl ⟨Nat.le_of_ble_eq_true rfl, Nat.le_of_ble_eq_true rfl⟩ hh hl (c_X4_add l D cI cZ cC cH y_o w_y_many_4 w_y_first_5 w_y_last_6 w_y_runs_7 x2_3 ) (JN.up (ws1 := (W6 cI cZ cC cH o t_o t_a_bytes t_a_rows p_o p_a_clocks p_n_o p_n_a_clocks p_n_a_minutes p_n_a_dials a_kept a_o a_a_clocks a_n_o a_n_a_clocks a_n_a_minutes a_n_a_dials b_o b_a_clocks b_n_o b_n_a_clocks b_n_a_minutes b_n_a_dials y_o r_o q_o q_a_clocks q_a_rates q_a_least a_misfits a_shown p_c a_c b_c r12_1.1 t_length t_lineCount t_start t_end t_bytes t_rows p_filled p_ck p_n_many p_n_clocks p_n_minutes p_n_dials a_filled a_ck a_n_many a_n_clocks a_n_minutes a_n_dials b_filled b_ck b_n_many b_n_clocks b_n_minutes b_n_dials ((F_X4_add w_y_many_4 w_y_first_5 w_y_last_6 w_y_runs_7 x2_3).1) ((F_X4_add w_y_many_4 w_y_first_5 w_y_last_6 w_y_runs_7 x2_3).2.1) ((F_X4_add w_y_many_4 w_y_first_5 w_y_last_6 w_y_runs_7 x2_3).2.2.1) ((F_X4_add w_y_many_4 w_y_first_5 w_y_last_6 w_y_runs_7 x2_3).2.2.2) r_kind r_set r_dial r_low r_high r_read q_many q_clocks q_rates q_least r12_1.2 shown)) [47] rfl rfl rfl rfl rfl) 1 gX6_times_X4_add rfl (by decide +kernel) ⟨Nat.le_of_ble_eq_true rfl, Nat.le_of_ble_eq_true rfl⟩ 47 4 rfl rfl rfl rfl rfl (Nat.le_of_ble_eq_true rfl) dX6_times_45 (fun H locs hh => ?_)
            refine W.eq (g2 := F0 m 48 ls []) rfl ?_
            generalize q_45 : F_X4_add w_y_many_4 w_y_first_5 w_y_last_6 w_y_runs_7 x2_3 = r45_8 at hh hF ⊢
            unfold F_X6_times_c45 at hF
            refine lv_iinc (v := x2_3 + 1) (lv' := [(2, .int (x2_3 + 1)), (0, .ref o), (1, .int x1)]) hx hb dX6_times_48 hl (k := 0) rfl rfl (Nat.le_of_ble_eq_true rfl) rfl (fun ls hl => ?_)
            refine lv_goto (tgt := 24) hx hb dX6_times_51 (by decide) ?_
            have e_inc : (x2_3 + 1).toInt = x2_3.toInt + 1 := ti_inc (by omega)
            exact ih_24 (x2_3 + 1) r45_8.1 r45_8.2.1 r45_8.2.2.1 r45_8.2.2.2 (by first | with_reducible assumption | omega | decide) (by first | with_reducible assumption | omega | decide) (by omega) hF _ _ _ hh (lv_sub hl [0, 1, 2] rfl)
    exact L_24 4321 0 r19_2.1 r19_2.2.1 r19_2.2.2.1 r19_2.2.2.2 (by first | with_reducible assumption | omega | decide) (by first | with_reducible assumption | omega | decide) (by first | omega | decide | (simp; done)) hF _ _ _ hh (lv_sub hl [0, 1, 2] rfl)
  · replace hF := hF.trans (if_pos c_5)
    refine lv_bipush (v := (-3)) hx hb dX6_times_8 (by decide) ?_
    exact RT _ _ _ _ _ _ hh (by rw [hF]) (Or.inl ⟨_, rfl, by rw [hF], dX6_times_10, Or.inl rfl⟩)
def F_X6_isLess (x0 : Int32) (x1 : Int32) : Int32 := (if ((F_J6_bitCount_0f7a4 x0) - (F_J6_bitCount_0f7a4 x1)) < 0 then 1 else (if ((F_J6_bitCount_0f7a4 x0) - (F_J6_bitCount_0f7a4 x1)) = 0 then (if x1 ≤ x0 then 0 else 1) else 0))
set_option maxHeartbeats 2000000 in
set_option maxRecDepth 100000 in
theorem c_X6_isLess (l : Launch) (D : va_G) (cI cZ cC cH : ClassId)  (x0 : Int32) (x1 : Int32)  : MC l D (TY cI cZ cC cH) yX6_isLess wsX6_isLess 1 20 [.int x0, .int x1] [] (some (.int (F_X6_isLess x0 x1))) [] := by
  obtain ⟨R, hF⟩ : ∃ R, R = F_X6_isLess x0 x1 := ⟨_, rfl⟩
  rw [← hF]
  refine MC.of (cc := cX6_isLess) (maxL := 3) (ret := (some .boolean)) RX6 rfl (by decide +kernel) rfl (Nat.le_of_ble_eq_true rfl) ?_
  intro p e s m args below meth c A Q KX RT hh ls hl
  have z0 : (0 : Int32).toInt = 0 := rfl
  have z1 : (1 : Int32).toInt = 1 := rfl
  have zm : (-1 : Int32).toInt = -1 := rfl
  have hx := KX.1
  have hb := KX.2.1
  have hl : lv_has ls 3 [(0, .int x0), (1, .int x1)] := hl
  unfold F_X6_isLess at hF
  refine lv_iload_n hx hb dX6_isLess_0 rfl (lv_at hl 0 rfl) ?_
  refine g_callS (As := [.int x0]) (rest := []) KX rfl ⟨Nat.le_of_ble_eq_true rfl, Nat.le_of_ble_eq_true rfl⟩ hh hl (c_J6_bitCount_0f7a4 l D cI cZ cC cH  x0 ) JN.no 1 gX6_isLess_J6_bitCount_0f7a4 rfl (by decide +kernel) ⟨Nat.le_of_ble_eq_true rfl, Nat.le_of_ble_eq_true rfl⟩ rfl rfl (Nat.le_of_ble_eq_true rfl) dX6_isLess_1 (fun H locs hh => ?_)
  refine W.eq (g2 := F0 m 4 ls [.int (F_J6_bitCount_0f7a4 x0)]) rfl ?_
  refine lv_iload_n hx hb dX6_isLess_4 rfl (lv_at hl 1 rfl) ?_
  refine g_callS (As := [.int x1]) (rest := [.int (F_J6_bitCount_0f7a4 x0)]) KX rfl ⟨Nat.le_of_ble_eq_true rfl, Nat.le_of_ble_eq_true rfl⟩ hh hl (c_J6_bitCount_0f7a4 l D cI cZ cC cH  x1 ) JN.no 1 gX6_isLess_J6_bitCount_0f7a4 rfl (by decide +kernel) ⟨Nat.le_of_ble_eq_true rfl, Nat.le_of_ble_eq_true rfl⟩ rfl rfl (Nat.le_of_ble_eq_true rfl) dX6_isLess_5 (fun H locs hh => ?_)
  refine W.eq (g2 := F0 m 8 ls [.int (F_J6_bitCount_0f7a4 x1), .int (F_J6_bitCount_0f7a4 x0)]) rfl ?_
  refine lv_isub hx hb dX6_isLess_8 ?_
  refine lv_istore_n (lv' := [(2, .int ((F_J6_bitCount_0f7a4 x0) - (F_J6_bitCount_0f7a4 x1))), (0, .int x0), (1, .int x1)]) hx hb dX6_isLess_9 rfl hl (Nat.le_of_ble_eq_true rfl) rfl (fun ls hl => ?_)
  refine lv_iload_n hx hb dX6_isLess_10 rfl (lv_at hl 0 rfl) ?_
  refine lv_if_lt (tgt := 23) hx hb dX6_isLess_11 (by decide) (fun c_11 => ?_) (fun c_11 => ?_)
  · replace hF := hF.trans (if_pos c_11)
    refine lv_iconst (v := 1) hx hb dX6_isLess_23 (by decide) ?_
    refine lv_goto (tgt := 28) hx hb dX6_isLess_24 (by decide) ?_
    exact RT _ _ _ _ _ _ hh (rfl) (Or.inl ⟨_, rfl, by rw [hF], dX6_isLess_28, Or.inr (Or.inl ⟨rfl, Or.inr rfl⟩)⟩)
  · replace hF := hF.trans (if_neg c_11)
    refine lv_iload_n hx hb dX6_isLess_14 rfl (lv_at hl 0 rfl) ?_
    refine lv_if_ne (tgt := 27) hx hb dX6_isLess_15 (by decide) (fun c_15 => ?_) (fun c_15 => ?_)
    · replace hF := hF.trans (if_neg c_15)
      refine lv_iconst (v := 0) hx hb dX6_isLess_27 (by decide) ?_
      exact RT _ _ _ _ _ _ hh (rfl) (Or.inl ⟨_, rfl, by rw [hF], dX6_isLess_28, Or.inr (Or.inl ⟨rfl, Or.inl rfl⟩)⟩)
    · replace hF := hF.trans (if_pos c_15)
      refine lv_iload_n hx hb dX6_isLess_18 rfl (lv_at hl 1 rfl) ?_
      refine lv_iload_n hx hb dX6_isLess_19 rfl (lv_at hl 2 rfl) ?_
      refine lv_icmp_ge (tgt := 27) hx hb dX6_isLess_20 (by decide) (fun c_20 => ?_) (fun c_20 => ?_)
      · replace hF := hF.trans (if_pos c_20)
        have i_20 : x1.toInt ≤ x0.toInt := ti_le.mp c_20
        refine lv_iconst (v := 0) hx hb dX6_isLess_27 (by decide) ?_
        exact RT _ _ _ _ _ _ hh (rfl) (Or.inl ⟨_, rfl, by rw [hF], dX6_isLess_28, Or.inr (Or.inl ⟨rfl, Or.inl rfl⟩)⟩)
      · replace hF := hF.trans (if_neg c_20)
        have i_20 : x0.toInt < x1.toInt := ti_nle c_20
        refine lv_iconst (v := 1) hx hb dX6_isLess_23 (by decide) ?_
        refine lv_goto (tgt := 28) hx hb dX6_isLess_24 (by decide) ?_
        exact RT _ _ _ _ _ _ hh (rfl) (Or.inl ⟨_, rfl, by rw [hF], dX6_isLess_28, Or.inr (Or.inl ⟨rfl, Or.inr rfl⟩)⟩)
theorem z_X6_isLess (x0 : Int32) (x1 : Int32) : (F_X6_isLess x0 x1) = 0 ∨ (F_X6_isLess x0 x1) = 1 := by
  unfold F_X6_isLess
  split
  · exact Or.inr rfl
  · split
    · split
      · exact Or.inl rfl
      · exact Or.inr rfl
    · exact Or.inl rfl
def F_X6_liars_19 (x1 : Int32) (r12_1 : Int32 × (Nat → Int32)) : Nat → Int32 → Int32 → Int32 × Int32 × (Nat → Int32)
  | 0, _, _ => default
  | n + 1, x3_2, x2_3 => (if 4320 ≤ x3_2 then (if x1 = 0 then (F_J6_bitCount_0f7a4 (r12_1.2 x2_3.toNatClampNeg), r12_1.1, r12_1.2) else if x1 = 1 then (r12_1.2 x2_3.toNatClampNeg, r12_1.1, r12_1.2) else (x2_3, r12_1.1, r12_1.2)) else (if (F_X6_isLess (r12_1.2 x3_2.toNatClampNeg) (r12_1.2 x2_3.toNatClampNeg)) = 0 then ((F_X6_liars_19 x1 r12_1 n) (x3_2 + 1) x2_3) else ((F_X6_liars_19 x1 r12_1 n) (x3_2 + 1) x3_2)))
def F_X6_liars_c12 (x1 : Int32) (r12_1 : Int32 × (Nat → Int32)) : Int32 × Int32 × (Nat → Int32) := (F_X6_liars_19 x1 r12_1 4321 1 0)
def F_X6_liars (sifted : Int32) (p_ck : Nat → Nat → Int32) (misfits : Nat → Int32) (x1 : Int32) : Int32 × Int32 × (Nat → Int32) := (if (F_X6_isBelow x1 3) = 0 then ((-3), sifted, misfits) else (F_X6_liars_c12 x1 (F_X6_sift sifted p_ck misfits)))
theorem in_X6_liars_X6 : ∀ x ∈ u_ws RX6 TX6 9, x ∈ wsX6_liars := by decide +kernel
set_option maxHeartbeats 2000000 in
set_option maxRecDepth 100000 in
theorem c_X6_liars (l : Launch) (D : va_G) (cI cZ cC cH : ClassId) (o t_o t_a_bytes t_a_rows p_o p_a_clocks p_n_o p_n_a_clocks p_n_a_minutes p_n_a_dials a_kept a_o a_a_clocks a_n_o a_n_a_clocks a_n_a_minutes a_n_a_dials b_o b_a_clocks b_n_o b_n_a_clocks b_n_a_minutes b_n_a_dials y_o r_o q_o q_a_clocks q_a_rates q_a_least a_misfits a_shown : Nat) (p_c : Nat → Nat) (a_c : Nat → Nat) (b_c : Nat → Nat) (sifted : Int32) (t_length : Int32) (t_lineCount : Int32) (t_start : Int32) (t_end : Int32) (t_bytes : Nat → Int32) (t_rows : Nat → Int32) (p_filled : Int32) (p_ck : Nat → Nat → Int32) (p_n_many : Int32) (p_n_clocks : Nat → Int32) (p_n_minutes : Nat → Int32) (p_n_dials : Nat → Int32) (a_filled : Int32) (a_ck : Nat → Nat → Int32) (a_n_many : Int32) (a_n_clocks : Nat → Int32) (a_n_minutes : Nat → Int32) (a_n_dials : Nat → Int32) (b_filled : Int32) (b_ck : Nat → Nat → Int32) (b_n_many : Int32) (b_n_clocks : Nat → Int32) (b_n_minutes : Nat → Int32) (b_n_dials : Nat → Int32) (y_many : Int32) (y_first : Int32) (y_last : Int32) (y_runs : Int32) (r_kind : Int32) (r_set : Int32) (r_dial : Int32) (r_low : Int32) (r_high : Int32) (r_read : Int32) (q_many : Int32) (q_clocks : Nat → Int32) (q_rates : Nat → Int32) (q_least : Nat → Int32) (misfits : Nat → Int32) (shown : Nat → Int32) (x1 : Int32)  : MC l D (TY cI cZ cC cH) yX6_liars wsX6_liars 5 116 [.ref o, .int x1] (W6 cI cZ cC cH o t_o t_a_bytes t_a_rows p_o p_a_clocks p_n_o p_n_a_clocks p_n_a_minutes p_n_a_dials a_kept a_o a_a_clocks a_n_o a_n_a_clocks a_n_a_minutes a_n_a_dials b_o b_a_clocks b_n_o b_n_a_clocks b_n_a_minutes b_n_a_dials y_o r_o q_o q_a_clocks q_a_rates q_a_least a_misfits a_shown p_c a_c b_c sifted t_length t_lineCount t_start t_end t_bytes t_rows p_filled p_ck p_n_many p_n_clocks p_n_minutes p_n_dials a_filled a_ck a_n_many a_n_clocks a_n_minutes a_n_dials b_filled b_ck b_n_many b_n_clocks b_n_minutes b_n_dials y_many y_first y_last y_runs r_kind r_set r_dial r_low r_high r_read q_many q_clocks q_rates q_least misfits shown) (some (.int ((F_X6_liars sifted p_ck misfits x1).1))) (W6 cI cZ cC cH o t_o t_a_bytes t_a_rows p_o p_a_clocks p_n_o p_n_a_clocks p_n_a_minutes p_n_a_dials a_kept a_o a_a_clocks a_n_o a_n_a_clocks a_n_a_minutes a_n_a_dials b_o b_a_clocks b_n_o b_n_a_clocks b_n_a_minutes b_n_a_dials y_o r_o q_o q_a_clocks q_a_rates q_a_least a_misfits a_shown p_c a_c b_c (F_X6_liars sifted p_ck misfits x1).2.1 t_length t_lineCount t_start t_end t_bytes t_rows p_filled p_ck p_n_many p_n_clocks p_n_minutes p_n_dials a_filled a_ck a_n_many a_n_clocks a_n_minutes a_n_dials b_filled b_ck b_n_many b_n_clocks b_n_minutes b_n_dials y_many y_first y_last y_runs r_kind r_set r_dial r_low r_high r_read q_many q_clocks q_rates q_least (F_X6_liars sifted p_ck misfits x1).2.2 shown) := by
  obtain ⟨R, hF⟩ : ∃ R, R = F_X6_liars sifted p_ck misfits x1 := ⟨_, rfl⟩
  rw [← hF]
  refine MC.of (cc := cX6_liars) (maxL := 4) (ret := (some .int)) RX6 rfl (by decide +kernel) rfl (Nat.le_of_ble_eq_true rfl) ?_
  intro p e s m args below meth c A Q KX RT hh ls hl
  have z0 : (0 : Int32).toInt = 0 := rfl
  have z1 : (1 : Int32).toInt = 1 := rfl
  have zm : (-1 : Int32).toInt = -1 := rfl
  have hx := KX.1
  have hb := KX.2.1
  have hl : lv_has ls 4 [(0, .ref o), (1, .int x1)] := hl
  unfold F_X6_liars at hF
  refine lv_iload_n hx hb dX6_liars_0 rfl (lv_at hl 1 rfl) ?_
  refine lv_iconst (v := 3) hx hb dX6_liars_1 (by decide) ?_
  refine g_callS (As := [.int x1, .int 3]) (rest := []) KX rfl ⟨Nat.le_of_ble_eq_true rfl, Nat.le_of_ble_eq_true rfl⟩ hh hl (c_X6_isBelow l D cI cZ cC cH  x1 3 ) JN.no 2 gX6_liars_X6_isBelow rfl (by decide +kernel) ⟨Nat.le_of_ble_eq_true rfl, Nat.le_of_ble_eq_true rfl⟩ rfl rfl (Nat.le_of_ble_eq_true rfl) dX6_liars_2 (fun H locs hh => ?_)
  refine W.eq (g2 := F0 m 5 ls [.int (F_X6_isBelow x1 3)]) rfl ?_
  refine lv_if_ne (tgt := 11) hx hb dX6_liars_5 (by decide) (fun c_5 => ?_) (fun c_5 => ?_)
  · replace hF := hF.trans (if_neg c_5)
    obtain ⟨k0_5, k1_5⟩ : (0 : Int) ≤ x1.toInt ∧ x1.toInt < 3 := X6_isBelow_in c_5
    refine lv_aload_n hx hb dX6_liars_11 rfl (lv_at hl 0 rfl) ?_
    refine g_callV (As := []) (rest := []) KX rfl ⟨Nat.le_of_ble_eq_true rfl, Nat.le_of_ble_eq_true rfl⟩ hh hl (c_X6_sift l D cI cZ cC cH o t_o t_a_bytes t_a_rows p_o p_a_clocks p_n_o p_n_a_clocks p_n_a_minutes p_n_a_dials a_kept a_o a_a_clocks a_n_o a_n_a_clocks a_n_a_minutes a_n_a_dials b_o b_a_clocks b_n_o b_n_a_clocks b_n_a_minutes b_n_a_dials y_o r_o q_o q_a_clocks q_a_rates q_a_least a_misfits a_shown p_c a_c b_c sifted t_length t_lineCount t_start t_end t_bytes t_rows p_filled p_ck p_n_many p_n_clocks p_n_minutes p_n_dials a_filled a_ck a_n_many a_n_clocks a_n_minutes a_n_dials b_filled b_ck b_n_many b_n_clocks b_n_minutes b_n_dials y_many y_first y_last y_runs r_kind r_set r_dial r_low r_high r_read q_many q_clocks q_rates q_least misfits shown  ) JN.all 0 gX6_liars_X6_sift rfl (by decide +kernel) ⟨Nat.le_of_ble_eq_true rfl, Nat.le_of_ble_eq_true rfl⟩ 0 6 rfl rfl rfl rfl rfl (Nat.le_of_ble_eq_true rfl) dX6_liars_12 (fun H locs hh => ?_)
    refine W.eq (g2 := F0 m 15 ls []) rfl ?_
    generalize q_12 : F_X6_sift sifted p_ck misfits = r12_1 at hh hF ⊢
    unfold F_X6_liars_c12 at hF
    refine lv_iconst (v := 0) hx hb dX6_liars_15 (by decide) ?_
    refine lv_istore_n (lv' := [(2, .int 0), (0, .ref o), (1, .int x1)]) hx hb dX6_liars_16 rfl hl (Nat.le_of_ble_eq_true rfl) rfl (fun ls hl => ?_)
    refine lv_iconst (v := 1) hx hb dX6_liars_17 (by decide) ?_
    refine lv_istore_n (lv' := [(3, .int 1), (2, .int 0), (0, .ref o), (1, .int x1)]) hx hb dX6_liars_18 rfl hl (Nat.le_of_ble_eq_true rfl) rfl (fun ls hl => ?_)
    have L_19 : ∀ (n_19 : Nat) (x3_2 : Int32) (x2_3 : Int32) (i0_19 : 0 ≤ x3_2.toInt) (i1_19 : x3_2.toInt ≤ 4320) (f0_19 : 0 ≤ x2_3.toInt) (f1_19 : x2_3.toInt < 4320) (_ : (4320 - x3_2.toInt).toNat < n_19) (_ : R = (F_X6_liars_19 x1 r12_1) n_19 x3_2 x2_3) (ls : Array Slot) (H : Heap) (locs : List Loc) (_ : HS D A s.heap (W6 cI cZ cC cH o t_o t_a_bytes t_a_rows p_o p_a_clocks p_n_o p_n_a_clocks p_n_a_minutes p_n_a_dials a_kept a_o a_a_clocks a_n_o a_n_a_clocks a_n_a_minutes a_n_a_dials b_o b_a_clocks b_n_o b_n_a_clocks b_n_a_minutes b_n_a_dials y_o r_o q_o q_a_clocks q_a_rates q_a_least a_misfits a_shown p_c a_c b_c r12_1.1 t_length t_lineCount t_start t_end t_bytes t_rows p_filled p_ck p_n_many p_n_clocks p_n_minutes p_n_dials a_filled a_ck a_n_many a_n_clocks a_n_minutes a_n_dials b_filled b_ck b_n_many b_n_clocks b_n_minutes b_n_dials y_many y_first y_last y_runs r_kind r_set r_dial r_low r_high r_read q_many q_clocks q_rates q_least r12_1.2 shown) H locs) (_ : lv_has ls 4 [(3, .int x3_2), (2, .int x2_3), (0, .ref o), (1, .int x1)]), W p l e { frames := 5, cells := 0, slots := 0, locals := 116 } s m args below meth c H locs 0 0 Q (F0 m 19 ls []) := by
      intro n_19
      induction n_19 with
      | zero => intro x3_2 x2_3 i0_19 i1_19 f0_19 f1_19 hm; exact absurd hm (Nat.not_lt_zero _)
      | succ n_19 ih_19 =>
        intro x3_2 x2_3 i0_19 i1_19 f0_19 f1_19 hm_19 hF ls H locs hh hl
        rw [F_X6_liars_19.eq_2] at hF
        refine lv_iload_n hx hb dX6_liars_19 rfl (lv_at hl 0 rfl) ?_
        refine lv_sipush (v := 4320) hx hb dX6_liars_20 (by decide) ?_
        refine lv_icmp_ge (tgt := 52) hx hb dX6_liars_23 (by decide) (fun c_23 => ?_) (fun c_23 => ?_)
        · replace hF := hF.trans (if_pos c_23)
          have i_23 : 4320 ≤ x3_2.toInt := ti_le.mp c_23
          refine lv_iload_n hx hb dX6_liars_52 rfl (lv_at hl 3 rfl) ?_
          by_cases c_53_0 : x1 = 0
          · replace hF := hF.trans (if_pos c_53_0)
            have i_53_0 : x1.toInt = 0 := congrArg Int32.toInt c_53_0
            refine W.eq (g2 := F0 m 53 ls (.int 0 :: [])) (by rw [c_53_0]) ?_
            refine lv_lookup (tgt := 80) (off := 27) hx hb dX6_liars_53 rfl rfl (by decide) ?_
            refine lv_aload_n hx hb dX6_liars_80 rfl (lv_at hl 2 rfl) ?_
            refine g_get KX hh in_X6_liars_X6 0 rfl rfl 6 (by decide) rfl (List.mem_of_getElem? (i := 1) rfl) dX6_liars_81 ?_
            refine lv_iload_n hx hb dX6_liars_84 rfl (lv_at hl 1 rfl) ?_
            refine g_iald KX hh 53 0 rfl rfl (vp_in_iff.mpr (by omega)) dX6_liars_85 ?_
            refine g_callS (As := [.int (r12_1.2 x2_3.toNatClampNeg)]) (rest := []) KX rfl ⟨Nat.le_of_ble_eq_true rfl, Nat.le_of_ble_eq_true rfl⟩ hh hl (c_J6_bitCount_0f7a4 l D cI cZ cC cH  (r12_1.2 x2_3.toNatClampNeg) ) JN.no 1 gX6_liars_J6_bitCount_0f7a4 rfl (by decide +kernel) ⟨Nat.le_of_ble_eq_true rfl, Nat.le_of_ble_eq_true rfl⟩ rfl rfl (Nat.le_of_ble_eq_true rfl) dX6_liars_86 (fun H locs hh => ?_)
            refine W.eq (g2 := F0 m 89 ls [.int (F_J6_bitCount_0f7a4 (r12_1.2 x2_3.toNatClampNeg))]) rfl ?_
            exact RT _ _ _ _ _ _ hh (by rw [hF]) (Or.inl ⟨_, rfl, by rw [hF], dX6_liars_89, Or.inl rfl⟩)
          replace hF := hF.trans (if_neg c_53_0)
          by_cases c_53_1 : x1 = 1
          · replace hF := hF.trans (if_pos c_53_1)
            have i_53_1 : x1.toInt = 1 := congrArg Int32.toInt c_53_1
            refine W.eq (g2 := F0 m 53 ls (.int 1 :: [])) (by rw [c_53_1]) ?_
            refine lv_lookup (tgt := 90) (off := 37) hx hb dX6_liars_53 rfl rfl (by decide) ?_
            refine lv_aload_n hx hb dX6_liars_90 rfl (lv_at hl 2 rfl) ?_
            refine g_get KX hh in_X6_liars_X6 0 rfl rfl 6 (by decide) rfl (List.mem_of_getElem? (i := 1) rfl) dX6_liars_91 ?_
            refine lv_iload_n hx hb dX6_liars_94 rfl (lv_at hl 1 rfl) ?_
            refine g_iald KX hh 53 0 rfl rfl (vp_in_iff.mpr (by omega)) dX6_liars_95 ?_
            exact RT _ _ _ _ _ _ hh (by rw [hF]) (Or.inl ⟨_, rfl, by rw [hF], dX6_liars_96, Or.inl rfl⟩)
          replace hF := hF.trans (if_neg c_53_1)
          refine lv_lookup (tgt := 97) (off := 44) hx hb dX6_liars_53 rfl (by have h1 := sw_ne (y := 0) (k := 0) c_53_0 rfl; have h2 := sw_ne (y := 1) (k := 1) c_53_1 rfl; simp [Op.lookupswitch.offset, h1, Ne.symm h1, h2, Ne.symm h2]) (by decide) ?_
          refine lv_iload_n hx hb dX6_liars_97 rfl (lv_at hl 1 rfl) ?_
          exact RT _ _ _ _ _ _ hh (by rw [hF]) (Or.inl ⟨_, rfl, by rw [hF], dX6_liars_98, Or.inl rfl⟩)
        · replace hF := hF.trans (if_neg c_23)
          have i_23 : x3_2.toInt < 4320 := ti_nle c_23
          refine lv_aload_n hx hb dX6_liars_26 rfl (lv_at hl 2 rfl) ?_
          refine g_get KX hh in_X6_liars_X6 0 rfl rfl 6 (by decide) rfl (List.mem_of_getElem? (i := 1) rfl) dX6_liars_27 ?_
          refine lv_iload_n hx hb dX6_liars_30 rfl (lv_at hl 0 rfl) ?_
          refine g_iald KX hh 53 0 rfl rfl (vp_in_iff.mpr (by omega)) dX6_liars_31 ?_
          refine lv_aload_n hx hb dX6_liars_32 rfl (lv_at hl 2 rfl) ?_
          refine g_get KX hh in_X6_liars_X6 0 rfl rfl 6 (by decide) rfl (List.mem_of_getElem? (i := 1) rfl) dX6_liars_33 ?_
          refine lv_iload_n hx hb dX6_liars_36 rfl (lv_at hl 1 rfl) ?_
          refine g_iald KX hh 53 0 rfl rfl (vp_in_iff.mpr (by omega)) dX6_liars_37 ?_
          refine g_callS (As := [.int (r12_1.2 x3_2.toNatClampNeg), .int (r12_1.2 x2_3.toNatClampNeg)]) (rest := []) KX rfl ⟨Nat.le_of_ble_eq_true rfl, Nat.le_of_ble_eq_true rfl⟩ hh hl (c_X6_isLess l D cI cZ cC cH  (r12_1.2 x3_2.toNatClampNeg) (r12_1.2 x2_3.toNatClampNeg) ) JN.no 2 gX6_liars_X6_isLess rfl (by decide +kernel) ⟨Nat.le_of_ble_eq_true rfl, Nat.le_of_ble_eq_true rfl⟩ rfl rfl (Nat.le_of_ble_eq_true rfl) dX6_liars_38 (fun H locs hh => ?_)
          refine W.eq (g2 := F0 m 41 ls [.int (F_X6_isLess (r12_1.2 x3_2.toNatClampNeg) (r12_1.2 x2_3.toNatClampNeg))]) rfl ?_
          refine lv_if_eq (tgt := 46) hx hb dX6_liars_41 (by decide) (fun c_41 => ?_) (fun c_41 => ?_)
          · replace hF := hF.trans (if_pos c_41)
            refine lv_iinc (v := x3_2 + 1) (lv' := [(3, .int (x3_2 + 1)), (2, .int x2_3), (0, .ref o), (1, .int x1)]) hx hb dX6_liars_46 hl (k := 0) rfl rfl (Nat.le_of_ble_eq_true rfl) rfl (fun ls hl => ?_)
            refine lv_goto (tgt := 19) hx hb dX6_liars_49 (by decide) ?_
            have e_inc : (x3_2 + 1).toInt = x3_2.toInt + 1 := ti_inc (by omega)
            exact ih_19 (x3_2 + 1) x2_3 (by first | with_reducible assumption | omega | decide) (by first | with_reducible assumption | omega | decide) (by first | with_reducible assumption | omega | decide) (by first | with_reducible assumption | omega | decide) (by omega) hF _ _ _ hh (lv_sub hl [0, 1, 2, 3] rfl)
          · replace hF := hF.trans (if_neg c_41)
            refine lv_iload_n hx hb dX6_liars_44 rfl (lv_at hl 0 rfl) ?_
            refine lv_istore_n (lv' := [(2, .int x3_2), (3, .int x3_2), (0, .ref o), (1, .int x1)]) hx hb dX6_liars_45 rfl hl (Nat.le_of_ble_eq_true rfl) rfl (fun ls hl => ?_)
            refine lv_iinc (v := x3_2 + 1) (lv' := [(3, .int (x3_2 + 1)), (2, .int x3_2), (0, .ref o), (1, .int x1)]) hx hb dX6_liars_46 hl (k := 1) rfl rfl (Nat.le_of_ble_eq_true rfl) rfl (fun ls hl => ?_)
            refine lv_goto (tgt := 19) hx hb dX6_liars_49 (by decide) ?_
            have e_inc : (x3_2 + 1).toInt = x3_2.toInt + 1 := ti_inc (by omega)
            exact ih_19 (x3_2 + 1) x3_2 (by first | with_reducible assumption | omega | decide) (by first | with_reducible assumption | omega | decide) (by first | with_reducible assumption | omega | decide) (by first | with_reducible assumption | omega | decide) (by omega) hF _ _ _ hh (lv_sub hl [0, 1, 2, 3] rfl)
    exact L_19 4321 1 0 (by first | with_reducible assumption | omega | decide) (by first | with_reducible assumption | omega | decide) (by first | with_reducible assumption | omega | decide) (by first | with_reducible assumption | omega | decide) (by first | omega | decide | (simp; done)) hF _ _ _ hh (lv_sub hl [0, 1, 2, 3] rfl)
  · replace hF := hF.trans (if_pos c_5)
    refine lv_bipush (v := (-3)) hx hb dX6_liars_8 (by decide) ?_
    exact RT _ _ _ _ _ _ hh (by rw [hF]) (Or.inl ⟨_, rfl, by rw [hF], dX6_liars_10, Or.inl rfl⟩)
