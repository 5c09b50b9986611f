def F_X6_leastOff_118 (x3 : Int64) (x11_1 : Int64) (x9_2 : Int64) (x7_3 : Int64) (x5_4 : Int64) (x16_5 : Int32) (k_55 : Int32 → Int32 → Int64 → Int64) (x15_8 : Int32) : Nat → Int32 → Int64 → Int64
  | 0, _, _ => default
  | n + 1, x19_9, x13_10 => (if (x15_8 + 1) < x19_9 then (k_55 (x16_5 + 1) x15_8 x13_10) else (if 240 ≤ x19_9 then (k_55 (x16_5 + 1) x15_8 x13_10) else (if (lg_cmp ((x11_1 + (((x19_9 * 1440).toInt64) * x5_4)) - (x9_2 + (((x16_5 * 1440).toInt64) * x7_3))) 0) ≤ 0 then ((F_X6_leastOff_118 x3 x11_1 x9_2 x7_3 x5_4 x16_5 k_55 x15_8 n) (x19_9 + 1) x13_10) else (if (lg_cmp x13_10 (-1)) = 0 then ((F_X6_leastOff_118 x3 x11_1 x9_2 x7_3 x5_4 x16_5 k_55 x15_8 n) (x19_9 + 1) (F_J9_abs_067f4 (((x11_1 + (((x19_9 * 1440).toInt64) * x5_4)) - (x9_2 + (((x16_5 * 1440).toInt64) * x7_3))) - x3))) else (if 0 ≤ (lg_cmp (F_J9_abs_067f4 (((x11_1 + (((x19_9 * 1440).toInt64) * x5_4)) - (x9_2 + (((x16_5 * 1440).toInt64) * x7_3))) - x3)) x13_10) then ((F_X6_leastOff_118 x3 x11_1 x9_2 x7_3 x5_4 x16_5 k_55 x15_8 n) (x19_9 + 1) x13_10) else ((F_X6_leastOff_118 x3 x11_1 x9_2 x7_3 x5_4 x16_5 k_55 x15_8 n) (x19_9 + 1) (F_J9_abs_067f4 (((x11_1 + (((x19_9 * 1440).toInt64) * x5_4)) - (x9_2 + (((x16_5 * 1440).toInt64) * x7_3))) - x3))))))))
def F_X6_leastOff_118_12 (x3 : Int64) (x11_1 : Int64) (x9_2 : Int64) (x7_3 : Int64) (x5_4 : Int64) (x16_5 : Int32) (k_55 : Int32 → Int32 → Int64 → Int64) (x15_8 : Int32) : Nat → Int32 → Int64 → Int64
  | 0, _, _ => default
  | n + 1, x19_11, x13_12 => (if (x15_8 + 1) < x19_11 then (k_55 (x16_5 + 1) x15_8 x13_12) else (if 240 ≤ x19_11 then (k_55 (x16_5 + 1) x15_8 x13_12) else (if (lg_cmp ((x11_1 + (((x19_11 * 1440).toInt64) * x5_4)) - (x9_2 + (((x16_5 * 1440).toInt64) * x7_3))) 0) ≤ 0 then ((F_X6_leastOff_118_12 x3 x11_1 x9_2 x7_3 x5_4 x16_5 k_55 x15_8 n) (x19_11 + 1) x13_12) else (if (lg_cmp x13_12 (-1)) = 0 then ((F_X6_leastOff_118_12 x3 x11_1 x9_2 x7_3 x5_4 x16_5 k_55 x15_8 n) (x19_11 + 1) (F_J9_abs_067f4 (((x11_1 + (((x19_11 * 1440).toInt64) * x5_4)) - (x9_2 + (((x16_5 * 1440).toInt64) * x7_3))) - x3))) else (if 0 ≤ (lg_cmp (F_J9_abs_067f4 (((x11_1 + (((x19_11 * 1440).toInt64) * x5_4)) - (x9_2 + (((x16_5 * 1440).toInt64) * x7_3))) - x3)) x13_12) then ((F_X6_leastOff_118_12 x3 x11_1 x9_2 x7_3 x5_4 x16_5 k_55 x15_8 n) (x19_11 + 1) x13_12) else ((F_X6_leastOff_118_12 x3 x11_1 x9_2 x7_3 x5_4 x16_5 k_55 x15_8 n) (x19_11 + 1) (F_J9_abs_067f4 (((x11_1 + (((x19_11 * 1440).toInt64) * x5_4)) - (x9_2 + (((x16_5 * 1440).toInt64) * x7_3))) - x3))))))))
def F_X6_leastOff_77 (x3 : Int64) (x11_1 : Int64) (x9_2 : Int64) (x7_3 : Int64) (x5_4 : Int64) (x16_5 : Int32) (x13_7 : Int64) (k_55 : Int32 → Int32 → Int64 → Int64) : Nat → Int32 → Int64
  | 0, _ => default
  | n + 1, x15_8 => (if 239 ≤ x15_8 then (F_X6_leastOff_118 x3 x11_1 x9_2 x7_3 x5_4 x16_5 k_55 x15_8 241 x15_8 x13_7) else (if 0 < (lg_cmp (x11_1 + ((((x15_8 + 1) * 1440).toInt64) * x5_4)) ((x9_2 + (((x16_5 * 1440).toInt64) * x7_3)) + x3)) then (F_X6_leastOff_118_12 x3 x11_1 x9_2 x7_3 x5_4 x16_5 k_55 x15_8 241 x15_8 x13_7) else ((F_X6_leastOff_77 x3 x11_1 x9_2 x7_3 x5_4 x16_5 x13_7 k_55 n) (x15_8 + 1))))
def F_X6_leastOff_55 (x3 : Int64) (x11_1 : Int64) (x9_2 : Int64) (x7_3 : Int64) (x5_4 : Int64) : Nat → Int32 → Int32 → Int64 → Int64
  | 0, _, _, _ => default
  | n + 1, x16_5, x15_6, x13_7 => (if 60 ≤ x16_5 then x13_7 else (F_X6_leastOff_77 x3 x11_1 x9_2 x7_3 x5_4 x16_5 x13_7 (F_X6_leastOff_55 x3 x11_1 x9_2 x7_3 x5_4 n) 240 x15_6))
def F_X6_leastOff_49 (x3 : Int64) (x11_1 : Int64) (x9_2 : Int64) (x7_3 : Int64) (x5_4 : Int64) : Int64 := (F_X6_leastOff_55 x3 x11_1 x9_2 x7_3 x5_4 61 0 0 (-1))
def F_X6_leastOff (p_ck : Nat → Nat → Int32) (j1 : Nat) (j2 : Nat) (x2 : Int32) (x3 : Int64) : Int64 := (F_X6_leastOff_49 x3 (((F_X0_partsToWholeMinute (p_ck j2 1) (p_ck j2 3) x2).toInt64) * ((1440 + (p_ck j1 3)).toInt64)) (((F_X0_partsToWholeMinute (p_ck j1 1) (p_ck j1 3) x2).toInt64) * ((1440 + (p_ck j2 3)).toInt64)) ((1440 + (p_ck j2 3)).toInt64) ((1440 + (p_ck j1 3)).toInt64))
theorem gm_X6_leastOff_J9_abs_067f4_230 : GoodIn wsX6_leastOff (va_wsS RX6 230 yJ9_abs_067f4 wsJ9_abs_067f4) := goodIn_of _ (by decide +kernel)
theorem in_X6_leastOff_X0 : ∀ x ∈ u_ws RX0 TX0 6, x ∈ wsX6_leastOff := by decide +kernel
set_option maxHeartbeats 2000000 in
set_option maxRecDepth 100000 in
theorem c_X6_leastOff (l : Launch) (D : va_G) (cI cZ cC cH : ClassId) (o t_o t_a_bytes t_a_rows p_o p_a_clocks p_n_o p_n_a_clocks p_n_a_minutes p_n_a_dials a_kept a_o a_a_clocks a_n_o a_n_a_clocks a_n_a_minutes a_n_a_dials b_o b_a_clocks b_n_o b_n_a_clocks b_n_a_minutes b_n_a_dials y_o r_o q_o q_a_clocks q_a_rates q_a_least a_misfits a_shown : Nat) (p_c : Nat → Nat) (a_c : Nat → Nat) (b_c : Nat → Nat) (sifted : Int32) (t_length : Int32) (t_lineCount : Int32) (t_start : Int32) (t_end : Int32) (t_bytes : Nat → Int32) (t_rows : Nat → Int32) (p_filled : Int32) (p_ck : Nat → Nat → Int32) (p_n_many : Int32) (p_n_clocks : Nat → Int32) (p_n_minutes : Nat → Int32) (p_n_dials : Nat → Int32) (a_filled : Int32) (a_ck : Nat → Nat → Int32) (a_n_many : Int32) (a_n_clocks : Nat → Int32) (a_n_minutes : Nat → Int32) (a_n_dials : Nat → Int32) (b_filled : Int32) (b_ck : Nat → Nat → Int32) (b_n_many : Int32) (b_n_clocks : Nat → Int32) (b_n_minutes : Nat → Int32) (b_n_dials : Nat → Int32) (y_many : Int32) (y_first : Int32) (y_last : Int32) (y_runs : Int32) (r_kind : Int32) (r_set : Int32) (r_dial : Int32) (r_low : Int32) (r_high : Int32) (r_read : Int32) (q_many : Int32) (q_clocks : Nat → Int32) (q_rates : Nat → Int32) (q_least : Nat → Int32) (misfits : Nat → Int32) (shown : Nat → Int32) (j1 : Nat) (j2 : Nat) (x2 : Int32) (x3 : Int64) (hj1 : j1 < 8) (hj2 : j2 < 8) : MC l D (TY cI cZ cC cH) yX6_leastOff wsX6_leastOff 2 43 [.ref (p_c j1), .ref (p_c j2), .int x2, .long x3] (W6 cI cZ cC cH o t_o t_a_bytes t_a_rows p_o p_a_clocks p_n_o p_n_a_clocks p_n_a_minutes p_n_a_dials a_kept a_o a_a_clocks a_n_o a_n_a_clocks a_n_a_minutes a_n_a_dials b_o b_a_clocks b_n_o b_n_a_clocks b_n_a_minutes b_n_a_dials y_o r_o q_o q_a_clocks q_a_rates q_a_least a_misfits a_shown p_c a_c b_c sifted t_length t_lineCount t_start t_end t_bytes t_rows p_filled p_ck p_n_many p_n_clocks p_n_minutes p_n_dials a_filled a_ck a_n_many a_n_clocks a_n_minutes a_n_dials b_filled b_ck b_n_many b_n_clocks b_n_minutes b_n_dials y_many y_first y_last y_runs r_kind r_set r_dial r_low r_high r_read q_many q_clocks q_rates q_least misfits shown) (some (.long (F_X6_leastOff p_ck j1 j2 x2 x3))) (W6 cI cZ cC cH o t_o t_a_bytes t_a_rows p_o p_a_clocks p_n_o p_n_a_clocks p_n_a_minutes p_n_a_dials a_kept a_o a_a_clocks a_n_o a_n_a_clocks a_n_a_minutes a_n_a_dials b_o b_a_clocks b_n_o b_n_a_clocks b_n_a_minutes b_n_a_dials y_o r_o q_o q_a_clocks q_a_rates q_a_least a_misfits a_shown p_c a_c b_c sifted t_length t_lineCount t_start t_end t_bytes t_rows p_filled p_ck p_n_many p_n_clocks p_n_minutes p_n_dials a_filled a_ck a_n_many a_n_clocks a_n_minutes a_n_dials b_filled b_ck b_n_many b_n_clocks b_n_minutes b_n_dials y_many y_first y_last y_runs r_kind r_set r_dial r_low r_high r_read q_many q_clocks q_rates q_least misfits shown) := by
  obtain ⟨R, hF⟩ : ∃ R, R = F_X6_leastOff p_ck j1 j2 x2 x3 := ⟨_, rfl⟩
  rw [← hF]
  refine MC.of (cc := cX6_leastOff) (maxL := 24) (ret := (some .long)) RX6 rfl (by decide +kernel) rfl (Nat.le_of_ble_eq_true rfl) ?_
  intro p e s m args below meth c A Q KX RT hh ls hl
  have z0 : (0 : Int32).toInt = 0 := rfl
  have z1 : (1 : Int32).toInt = 1 := rfl
  have zm : (-1 : Int32).toInt = -1 := rfl
  have hx := KX.1
  have hb := KX.2.1
  have hl : lv_has ls 24 [(0, .ref (p_c j1)), (1, .ref (p_c j2)), (2, .int x2), (3, .long x3)] := hl
  unfold F_X6_leastOff at hF
  refine lv_sipush (v := 1440) hx hb dX6_leastOff_0 (by decide) ?_
  refine lv_aload_n hx hb dX6_leastOff_3 rfl (lv_at hl 0 rfl) ?_
  refine g_get KX hh in_X6_leastOff_X0 (6 + j1) (clk_W6_p hj1) rfl 3 (by decide) rfl (List.mem_of_getElem? (i := 1) rfl) dX6_leastOff_4 ?_
  refine lv_iadd hx hb dX6_leastOff_7 ?_
  refine lv_i2l hx hb dX6_leastOff_8 rfl ?_
  refine lv_lstore (lv' := [(5, .long ((1440 + (p_ck j1 3)).toInt64)), (0, .ref (p_c j1)), (1, .ref (p_c j2)), (2, .int x2), (3, .long x3)]) hx hb dX6_leastOff_9 hl (Nat.le_of_ble_eq_true rfl) rfl (fun ls hl => ?_)
  refine lv_sipush (v := 1440) hx hb dX6_leastOff_11 (by decide) ?_
  refine lv_aload_n hx hb dX6_leastOff_14 rfl (lv_at hl 2 rfl) ?_
  refine g_get KX hh in_X6_leastOff_X0 (6 + j2) (clk_W6_p hj2) rfl 3 (by decide) rfl (List.mem_of_getElem? (i := 1) rfl) dX6_leastOff_15 ?_
  refine lv_iadd hx hb dX6_leastOff_18 ?_
  refine lv_i2l hx hb dX6_leastOff_19 rfl ?_
  refine lv_lstore (lv' := [(7, .long ((1440 + (p_ck j2 3)).toInt64)), (5, .long ((1440 + (p_ck j1 3)).toInt64)), (0, .ref (p_c j1)), (1, .ref (p_c j2)), (2, .int x2), (3, .long x3)]) hx hb dX6_leastOff_20 hl (Nat.le_of_ble_eq_true rfl) rfl (fun ls hl => ?_)
  refine lv_aload_n hx hb dX6_leastOff_22 rfl (lv_at hl 2 rfl) ?_
  refine lv_iload_n hx hb dX6_leastOff_23 rfl (lv_at hl 4 rfl) ?_
  refine g_callV (As := [.int x2]) (rest := []) KX rfl ⟨Nat.le_of_ble_eq_true rfl, Nat.le_of_ble_eq_true rfl⟩ hh hl (c_X0_partsToWholeMinute l D cI cZ cC cH (p_c j1) (p_ck j1 0) (p_ck j1 1) (p_ck j1 2) (p_ck j1 3) (p_ck j1 4) (p_ck j1 5) x2 ) (JN.ro [6 + j1] (by first | (simp only [List.map_cons, List.map_nil, clk_W6_p hj1]; done) | (simp only [List.map_cons, List.map_nil, clk_W6_p hj1]; rfl)) rfl) 1 gX6_leastOff_X0_partsToWholeMinute rfl (by decide +kernel) ⟨Nat.le_of_ble_eq_true rfl, Nat.le_of_ble_eq_true rfl⟩ (6 + j1) 0 rfl rfl (clk_W6_p hj1) rfl rfl (Nat.le_of_ble_eq_true rfl) dX6_leastOff_24 (fun H locs hh => ?_)
  refine W.eq (g2 := F0 m 27 ls [.int (F_X0_partsToWholeMinute (p_ck j1 1) (p_ck j1 3) x2)]) rfl ?_
  refine lv_i2l hx hb dX6_leastOff_27 rfl ?_
  refine lv_lload hx hb dX6_leastOff_28 (lv_at hl 0 rfl) ?_
  refine lv_lmul hx hb dX6_leastOff_30 ?_
  refine lv_lstore (lv' := [(9, .long (((F_X0_partsToWholeMinute (p_ck j1 1) (p_ck j1 3) x2).toInt64) * ((1440 + (p_ck j2 3)).toInt64))), (7, .long ((1440 + (p_ck j2 3)).toInt64)), (5, .long ((1440 + (p_ck j1 3)).toInt64)), (0, .ref (p_c j1)), (1, .ref (p_c j2)), (2, .int x2), (3, .long x3)]) hx hb dX6_leastOff_31 hl (Nat.le_of_ble_eq_true rfl) rfl (fun ls hl => ?_)
  refine lv_aload_n hx hb dX6_leastOff_33 rfl (lv_at hl 4 rfl) ?_
  refine lv_iload_n hx hb dX6_leastOff_34 rfl (lv_at hl 5 rfl) ?_
  refine g_callV (As := [.int x2]) (rest := []) KX rfl ⟨Nat.le_of_ble_eq_true rfl, Nat.le_of_ble_eq_true rfl⟩ hh hl (c_X0_partsToWholeMinute l D cI cZ cC cH (p_c j2) (p_ck j2 0) (p_ck j2 1) (p_ck j2 2) (p_ck j2 3) (p_ck j2 4) (p_ck j2 5) x2 ) (JN.ro [6 + j2] (by first | (simp only [List.map_cons, List.map_nil, clk_W6_p hj2]; done) | (simp only [List.map_cons, List.map_nil, clk_W6_p hj2]; rfl)) rfl) 1 gX6_leastOff_X0_partsToWholeMinute rfl (by decide +kernel) ⟨Nat.le_of_ble_eq_true rfl, Nat.le_of_ble_eq_true rfl⟩ (6 + j2) 0 rfl rfl (clk_W6_p hj2) rfl rfl (Nat.le_of_ble_eq_true rfl) dX6_leastOff_35 (fun H locs hh => ?_)
  refine W.eq (g2 := F0 m 38 ls [.int (F_X0_partsToWholeMinute (p_ck j2 1) (p_ck j2 3) x2)]) rfl ?_
  refine lv_i2l hx hb dX6_leastOff_38 rfl ?_
  refine lv_lload hx hb dX6_leastOff_39 (lv_at hl 2 rfl) ?_
  refine lv_lmul hx hb dX6_leastOff_41 ?_
  refine lv_lstore (lv' := [(11, .long (((F_X0_partsToWholeMinute (p_ck j2 1) (p_ck j2 3) x2).toInt64) * ((1440 + (p_ck j1 3)).toInt64))), (9, .long (((F_X0_partsToWholeMinute (p_ck j1 1) (p_ck j1 3) x2).toInt64) * ((1440 + (p_ck j2 3)).toInt64))), (7, .long ((1440 + (p_ck j2 3)).toInt64)), (5, .long ((1440 + (p_ck j1 3)).toInt64)), (0, .ref (p_c j1)), (1, .ref (p_c j2)), (2, .int x2), (3, .long x3)]) hx hb dX6_leastOff_42 hl (Nat.le_of_ble_eq_true rfl) rfl (fun ls hl => ?_)
  refine lv_ldc2 (v := (-1)) hx hb KX.2.2.2.1 (KX.2.2.2.2.1 _ (List.mem_of_getElem? (i := 2) rfl)) dX6_leastOff_44 ?_
  refine lv_lstore (lv' := [(13, .long (-1)), (11, .long (((F_X0_partsToWholeMinute (p_ck j2 1) (p_ck j2 3) x2).toInt64) * ((1440 + (p_ck j1 3)).toInt64))), (9, .long (((F_X0_partsToWholeMinute (p_ck j1 1) (p_ck j1 3) x2).toInt64) * ((1440 + (p_ck j2 3)).toInt64))), (7, .long ((1440 + (p_ck j2 3)).toInt64)), (5, .long ((1440 + (p_ck j1 3)).toInt64)), (0, .ref (p_c j1)), (1, .ref (p_c j2)), (2, .int x2), (3, .long x3)]) hx hb dX6_leastOff_47 hl (Nat.le_of_ble_eq_true rfl) rfl (fun ls hl => ?_)
  have K_49 : ∀ (x11_1 : Int64) (x9_2 : Int64) (x7_3 : Int64) (x5_4 : Int64) (_ : R = (F_X6_leastOff_49 x3) x11_1 x9_2 x7_3 x5_4) (ls : Array Slot) (H : Heap) (locs : List Loc) (_ : HS D A s.heap (W6 cI cZ cC cH o t_o t_a_bytes t_a_rows p_o p_a_clocks p_n_o p_n_a_clocks p_n_a_minutes p_n_a_dials a_kept a_o a_a_clocks a_n_o a_n_a_clocks a_n_a_minutes a_n_a_dials b_o b_a_clocks b_n_o b_n_a_clocks b_n_a_minutes b_n_a_dials y_o r_o q_o q_a_clocks q_a_rates q_a_least a_misfits a_shown p_c a_c b_c sifted t_length t_lineCount t_start t_end t_bytes t_rows p_filled p_ck p_n_many p_n_clocks p_n_minutes p_n_dials a_filled a_ck a_n_many a_n_clocks a_n_minutes a_n_dials b_filled b_ck b_n_many b_n_clocks b_n_minutes b_n_dials y_many y_first y_last y_runs r_kind r_set r_dial r_low r_high r_read q_many q_clocks q_rates q_least misfits shown) H locs) (_ : lv_has ls 24 [(13, .long (-1)), (11, .long x11_1), (9, .long x9_2), (7, .long x7_3), (5, .long x5_4), (0, .ref (p_c j1)), (1, .ref (p_c j2)), (2, .int x2), (3, .long x3)]), W p l e { frames := 2, cells := 0, slots := 0, locals := 43 } s m args below meth c H locs 0 0 Q (F0 m 49 ls []) := by
    intro x11_1 x9_2 x7_3 x5_4 hF ls H locs hh hl
    unfold F_X6_leastOff_49 at hF
    refine lv_iconst (v := 0) hx hb dX6_leastOff_49 (by decide) ?_
    refine lv_istore (lv' := [(15, .int 0), (13, .long (-1)), (11, .long x11_1), (9, .long x9_2), (7, .long x7_3), (5, .long x5_4), (0, .ref (p_c j1)), (1, .ref (p_c j2)), (2, .int x2), (3, .long x3)]) hx hb dX6_leastOff_50 hl (Nat.le_of_ble_eq_true rfl) rfl (fun ls hl => ?_)
    refine lv_iconst (v := 0) hx hb dX6_leastOff_52 (by decide) ?_
    refine lv_istore (lv' := [(16, .int 0), (15, .int 0), (13, .long (-1)), (11, .long x11_1), (9, .long x9_2), (7, .long x7_3), (5, .long x5_4), (0, .ref (p_c j1)), (1, .ref (p_c j2)), (2, .int x2), (3, .long x3)]) hx hb dX6_leastOff_53 hl (Nat.le_of_ble_eq_true rfl) rfl (fun ls hl => ?_)
    have L_55 : ∀ (n_55 : Nat) (x16_5 : Int32) (x15_6 : Int32) (x13_7 : Int64) (i0_55 : 0 ≤ x16_5.toInt) (i1_55 : x16_5.toInt ≤ 60) (e0_55 : 0 ≤ x15_6.toInt) (e1_55 : x15_6.toInt ≤ 239) (_ : (60 - x16_5.toInt).toNat < n_55) (_ : R = (F_X6_leastOff_55 x3 x11_1 x9_2 x7_3 x5_4) n_55 x16_5 x15_6 x13_7) (ls : Array Slot) (H : Heap) (locs : List Loc) (_ : HS D A s.heap (W6 cI cZ cC cH o t_o t_a_bytes t_a_rows p_o p_a_clocks p_n_o p_n_a_clocks p_n_a_minutes p_n_a_dials a_kept a_o a_a_clocks a_n_o a_n_a_clocks a_n_a_minutes a_n_a_dials b_o b_a_clocks b_n_o b_n_a_clocks b_n_a_minutes b_n_a_dials y_o r_o q_o q_a_clocks q_a_rates q_a_least a_misfits a_shown p_c a_c b_c sifted t_length t_lineCount t_start t_end t_bytes t_rows p_filled p_ck p_n_many p_n_clocks p_n_minutes p_n_dials a_filled a_ck a_n_many a_n_clocks a_n_minutes a_n_dials b_filled b_ck b_n_many b_n_clocks b_n_minutes b_n_dials y_many y_first y_last y_runs r_kind r_set r_dial r_low r_high r_read q_many q_clocks q_rates q_least misfits shown) H locs) (_ : lv_has ls 24 [(16, .int x16_5), (15, .int x15_6), (13, .long x13_7), (11, .long x11_1), (9, .long x9_2), (7, .long x7_3), (5, .long x5_4), (0, .ref (p_c j1)), (1, .ref (p_c j2)), (2, .int x2), (3, .long x3)]), W p l e { frames := 2, cells := 0, slots := 0, locals := 43 } s m args below meth c H locs 0 0 Q (F0 m 55 ls []) := by
      intro n_55
      induction n_55 with
      | zero => intro x16_5 x15_6 x13_7 i0_55 i1_55 e0_55 e1_55 hm; exact absurd hm (Nat.not_lt_zero _)
      | succ n_55 ih_55 =>
        intro x16_5 x15_6 x13_7 i0_55 i1_55 e0_55 e1_55 hm_55 hF ls H locs hh hl
        rw [F_X6_leastOff_55.eq_2] at hF
        refine lv_iload hx hb dX6_leastOff_55 (lv_at hl 0 rfl) ?_
        refine lv_bipush (v := 60) hx hb dX6_leastOff_57 (by decide) ?_
        refine lv_icmp_ge (tgt := 202) hx hb dX6_leastOff_59 (by decide) (fun c_59 => ?_) (fun c_59 => ?_)
        · replace hF := hF.trans (if_pos c_59)
          have i_59 : 60 ≤ x16_5.toInt := ti_le.mp c_59
          refine lv_lload hx hb dX6_leastOff_202 (lv_at hl 2 rfl) ?_
          exact RT _ _ _ _ _ _ hh (rfl) (Or.inr (Or.inl ⟨_, rfl, by rw [hF], dX6_leastOff_204, rfl⟩))
        · replace hF := hF.trans (if_neg c_59)
          have i_59 : x16_5.toInt < 60 := ti_nle c_59
          refine lv_lload hx hb dX6_leastOff_62 (lv_at hl 4 rfl) ?_
          refine lv_iload hx hb dX6_leastOff_64 (lv_at hl 0 rfl) ?_
          refine lv_sipush (v := 1440) hx hb dX6_leastOff_66 (by decide) ?_
          refine lv_imul hx hb dX6_leastOff_69 ?_
          refine lv_i2l hx hb dX6_leastOff_70 rfl ?_
          refine lv_lload hx hb dX6_leastOff_71 (lv_at hl 5 rfl) ?_
          refine lv_lmul hx hb dX6_leastOff_73 ?_
          refine lv_ladd hx hb dX6_leastOff_74 ?_
          refine lv_lstore (lv' := [(17, .long (x9_2 + (((x16_5 * 1440).toInt64) * x7_3))), (16, .int x16_5), (15, .int x15_6), (13, .long x13_7), (11, .long x11_1), (9, .long x9_2), (7, .long x7_3), (5, .long x5_4), (0, .ref (p_c j1)), (1, .ref (p_c j2)), (2, .int x2), (3, .long x3)]) hx hb dX6_leastOff_75 hl (Nat.le_of_ble_eq_true rfl) rfl (fun ls hl => ?_)
          have L_77 : ∀ (n_77 : Nat) (x15_8 : Int32) (e0_77 : 0 ≤ x15_8.toInt) (e1_77 : x15_8.toInt ≤ 239) (_ : (239 - x15_8.toInt).toNat < n_77) (_ : R = (F_X6_leastOff_77 x3 x11_1 x9_2 x7_3 x5_4 x16_5 x13_7 ((F_X6_leastOff_55 x3 x11_1 x9_2 x7_3 x5_4) n_55)) n_77 x15_8) (ls : Array Slot) (H : Heap) (locs : List Loc) (_ : HS D A s.heap (W6 cI cZ cC cH o t_o t_a_bytes t_a_rows p_o p_a_clocks p_n_o p_n_a_clocks p_n_a_minutes p_n_a_dials a_kept a_o a_a_clocks a_n_o a_n_a_clocks a_n_a_minutes a_n_a_dials b_o b_a_clocks b_n_o b_n_a_clocks b_n_a_minutes b_n_a_dials y_o r_o q_o q_a_clocks q_a_rates q_a_least a_misfits a_shown p_c a_c b_c sifted t_length t_lineCount t_start t_end t_bytes t_rows p_filled p_ck p_n_many p_n_clocks p_n_minutes p_n_dials a_filled a_ck a_n_many a_n_clocks a_n_minutes a_n_dials b_filled b_ck b_n_many b_n_clocks b_n_minutes b_n_dials y_many y_first y_last y_runs r_kind r_set r_dial r_low r_high r_read q_many q_clocks q_rates q_least misfits shown) H locs) (_ : lv_has ls 24 [(17, .long (x9_2 + (((x16_5 * 1440).toInt64) * x7_3))), (16, .int x16_5), (15, .int x15_8), (13, .long x13_7), (11, .long x11_1), (9, .long x9_2), (7, .long x7_3), (5, .long x5_4), (0, .ref (p_c j1)), (1, .ref (p_c j2)), (2, .int x2), (3, .long x3)]), W p l e { frames := 2, cells := 0, slots := 0, locals := 43 } s m args below meth c H locs 0 0 Q (F0 m 77 ls []) := by
            intro n_77
            induction n_77 with
            | zero => intro x15_8 e0_77 e1_77 hm; exact absurd hm (Nat.not_lt_zero _)
            | succ n_77 ih_77 =>
              intro x15_8 e0_77 e1_77 hm_77 hF ls H locs hh hl
              rw [F_X6_leastOff_77.eq_2] at hF
              refine lv_iload hx hb dX6_leastOff_77 (lv_at hl 2 rfl) ?_
              refine lv_sipush (v := 239) hx hb dX6_leastOff_79 (by decide) ?_
              refine lv_icmp_ge (tgt := 114) hx hb dX6_leastOff_82 (by decide) (fun c_82 => ?_) (fun c_82 => ?_)
              · replace hF := hF.trans (if_pos c_82)
                have i_82 : 239 ≤ x15_8.toInt := ti_le.mp c_82
                refine lv_iload hx hb dX6_leastOff_114 (lv_at hl 2 rfl) ?_
                refine lv_istore (lv' := [(19, .int x15_8), (17, .long (x9_2 + (((x16_5 * 1440).toInt64) * x7_3))), (16, .int x16_5), (15, .int x15_8), (13, .long x13_7), (11, .long x11_1), (9, .long x9_2), (7, .long x7_3), (5, .long x5_4), (0, .ref (p_c j1)), (1, .ref (p_c j2)), (2, .int x2), (3, .long x3)]) hx hb dX6_leastOff_116 hl (Nat.le_of_ble_eq_true rfl) rfl (fun ls hl => ?_)
                have L_118 : ∀ (n_118 : Nat) (x19_9 : Int32) (x13_10 : Int64) (j0_118 : 0 ≤ x19_9.toInt) (_ : (240 - x19_9.toInt).toNat < n_118) (_ : R = (F_X6_leastOff_118 x3 x11_1 x9_2 x7_3 x5_4 x16_5 ((F_X6_leastOff_55 x3 x11_1 x9_2 x7_3 x5_4) n_55) x15_8) n_118 x19_9 x13_10) (ls : Array Slot) (H : Heap) (locs : List Loc) (_ : HS D A s.heap (W6 cI cZ cC cH o t_o t_a_bytes t_a_rows p_o p_a_clocks p_n_o p_n_a_clocks p_n_a_minutes p_n_a_dials a_kept a_o a_a_clocks a_n_o a_n_a_clocks a_n_a_minutes a_n_a_dials b_o b_a_clocks b_n_o b_n_a_clocks b_n_a_minutes b_n_a_dials y_o r_o q_o q_a_clocks q_a_rates q_a_least a_misfits a_shown p_c a_c b_c sifted t_length t_lineCount t_start t_end t_bytes t_rows p_filled p_ck p_n_many p_n_clocks p_n_minutes p_n_dials a_filled a_ck a_n_many a_n_clocks a_n_minutes a_n_dials b_filled b_ck b_n_many b_n_clocks b_n_minutes b_n_dials y_many y_first y_last y_runs r_kind r_set r_dial r_low r_high r_read q_many q_clocks q_rates q_least misfits shown) H locs) (_ : lv_has ls 24 [(19, .int x19_9), (17, .long (x9_2 + (((x16_5 * 1440).toInt64) * x7_3))), (16, .int x16_5), (15, .int x15_8), (13, .long x13_10), (11, .long x11_1), (9, .long x9_2), (7, .long x7_3), (5, .long x5_4), (0, .ref (p_c j1)), (1, .ref (p_c j2)), (2, .int x2), (3, .long x3)]), W p l e { frames := 2, cells := 0, slots := 0, locals := 43 } s m args below meth c H locs 0 0 Q (F0 m 118 ls []) := by
                  intro n_118
                  induction n_118 with
                  | zero => intro x19_9 x13_10 j0_118 hm; exact absurd hm (Nat.not_lt_zero _)
                  | succ n_118 ih_118 =>
                    intro x19_9 x13_10 j0_118 hm_118 hF ls H locs hh hl
                    rw [F_X6_leastOff_118.eq_2] at hF
                    refine lv_iload hx hb dX6_leastOff_118 (lv_at hl 0 rfl) ?_
                    refine lv_iload hx hb dX6_leastOff_120 (lv_at hl 3 rfl) ?_
                    refine lv_iconst (v := 1) hx hb dX6_leastOff_122 (by decide) ?_
                    refine lv_iadd hx hb dX6_leastOff_123 ?_
                    refine lv_icmp_gt (tgt := 196) hx hb dX6_leastOff_124 (by decide) (fun c_124 => ?_) (fun c_124 => ?_)
                    · replace hF := hF.trans (if_pos c_124)
                      have i_124 : (x15_8 + 1).toInt < x19_9.toInt := ti_lt.mp c_124
                      refine lv_iinc (v := x16_5 + 1) (lv' := [(16, .int (x16_5 + 1)), (19, .int x19_9), (17, .long (x9_2 + (((x16_5 * 1440).toInt64) * x7_3))), (15, .int x15_8), (13, .long x13_10), (11, .long x11_1), (9, .long x9_2), (7, .long x7_3), (5, .long x5_4), (0, .ref (p_c j1)), (1, .ref (p_c j2)), (2, .int x2), (3, .long x3)]) hx hb dX6_leastOff_196 hl (k := 2) rfl rfl (Nat.le_of_ble_eq_true rfl) rfl (fun ls hl => ?_)
                      refine lv_goto (tgt := 55) hx hb dX6_leastOff_199 (by decide) ?_
                      have e_inc : (x16_5 + 1).toInt = x16_5.toInt + 1 := ti_inc (by omega)
                      exact ih_55 (x16_5 + 1) x15_8 x13_10 (by first | with_reducible assumption | omega | decide) (by first | with_reducible assumption | omega | decide) (by first | with_reducible assumption | (rw [ti_inc] <;> omega) | omega | decide) (by first | with_reducible assumption | (rw [ti_inc] <;> omega) | omega | decide) (by omega) hF _ _ _ hh (lv_sub hl [0, 3, 4, 5, 6, 7, 8, 9, 10, 11, 12] rfl)
                    · replace hF := hF.trans (if_neg c_124)
                      have i_124 : x19_9.toInt ≤ (x15_8 + 1).toInt := ti_nlt c_124
                      refine lv_iload hx hb dX6_leastOff_127 (lv_at hl 0 rfl) ?_
                      refine lv_sipush (v := 240) hx hb dX6_leastOff_129 (by decide) ?_
                      refine lv_icmp_ge (tgt := 196) hx hb dX6_leastOff_132 (by decide) (fun c_132 => ?_) (fun c_132 => ?_)
                      · replace hF := hF.trans (if_pos c_132)
                        have i_132 : 240 ≤ x19_9.toInt := ti_le.mp c_132
                        refine lv_iinc (v := x16_5 + 1) (lv' := [(16, .int (x16_5 + 1)), (19, .int x19_9), (17, .long (x9_2 + (((x16_5 * 1440).toInt64) * x7_3))), (15, .int x15_8), (13, .long x13_10), (11, .long x11_1), (9, .long x9_2), (7, .long x7_3), (5, .long x5_4), (0, .ref (p_c j1)), (1, .ref (p_c j2)), (2, .int x2), (3, .long x3)]) hx hb dX6_leastOff_196 hl (k := 2) rfl rfl (Nat.le_of_ble_eq_true rfl) rfl (fun ls hl => ?_)
                        refine lv_goto (tgt := 55) hx hb dX6_leastOff_199 (by decide) ?_
                        have e_inc : (x16_5 + 1).toInt = x16_5.toInt + 1 := ti_inc (by omega)
                        exact ih_55 (x16_5 + 1) x15_8 x13_10 (by first | with_reducible assumption | omega | decide) (by first | with_reducible assumption | omega | decide) (by first | with_reducible assumption | (rw [ti_inc] <;> omega) | omega | decide) (by first | with_reducible assumption | (rw [ti_inc] <;> omega) | omega | decide) (by omega) hF _ _ _ hh (lv_sub hl [0, 3, 4, 5, 6, 7, 8, 9, 10, 11, 12] rfl)
                      · replace hF := hF.trans (if_neg c_132)
                        have i_132 : x19_9.toInt < 240 := ti_nle c_132
                        refine lv_lload hx hb dX6_leastOff_135 (lv_at hl 5 rfl) ?_
                        refine lv_iload hx hb dX6_leastOff_137 (lv_at hl 0 rfl) ?_
                        refine lv_sipush (v := 1440) hx hb dX6_leastOff_139 (by decide) ?_
                        refine lv_imul hx hb dX6_leastOff_142 ?_
                        refine lv_i2l hx hb dX6_leastOff_143 rfl ?_
                        refine lv_lload hx hb dX6_leastOff_144 (lv_at hl 8 rfl) ?_
                        refine lv_lmul hx hb dX6_leastOff_146 ?_
                        refine lv_ladd hx hb dX6_leastOff_147 ?_
                        refine lv_lload hx hb dX6_leastOff_148 (lv_at hl 1 rfl) ?_
                        refine lv_lsub hx hb dX6_leastOff_150 ?_
                        refine lv_lstore (lv' := [(20, .long ((x11_1 + (((x19_9 * 1440).toInt64) * x5_4)) - (x9_2 + (((x16_5 * 1440).toInt64) * x7_3)))), (19, .int x19_9), (17, .long (x9_2 + (((x16_5 * 1440).toInt64) * x7_3))), (16, .int x16_5), (15, .int x15_8), (13, .long x13_10), (11, .long x11_1), (9, .long x9_2), (7, .long x7_3), (5, .long x5_4), (0, .ref (p_c j1)), (1, .ref (p_c j2)), (2, .int x2), (3, .long x3)]) hx hb dX6_leastOff_151 hl (Nat.le_of_ble_eq_true rfl) rfl (fun ls hl => ?_)
                        refine lv_lload hx hb dX6_leastOff_153 (lv_at hl 0 rfl) ?_
                        refine lv_lload_n hx hb dX6_leastOff_155 rfl (lv_at hl 13 rfl) ?_
                        refine lv_lsub hx hb dX6_leastOff_156 ?_
                        refine g_callS (As := [.long (((x11_1 + (((x19_9 * 1440).toInt64) * x5_4)) - (x9_2 + (((x16_5 * 1440).toInt64) * x7_3))) - x3)]) (rest := []) KX rfl ⟨Nat.le_of_ble_eq_true rfl, Nat.le_of_ble_eq_true rfl⟩ hh hl (c_J9_abs_067f4 l D cI cZ cC cH  (((x11_1 + (((x19_9 * 1440).toInt64) * x5_4)) - (x9_2 + (((x16_5 * 1440).toInt64) * x7_3))) - x3) ) JN.no 1 gm_X6_leastOff_J9_abs_067f4_230 rfl (by decide +kernel) ⟨Nat.le_of_ble_eq_true rfl, Nat.le_of_ble_eq_true rfl⟩ rfl rfl (Nat.le_of_ble_eq_true rfl) dX6_leastOff_157 (fun H locs hh => ?_)
                        refine W.eq (g2 := F0 m 160 ls [.long (F_J9_abs_067f4 (((x11_1 + (((x19_9 * 1440).toInt64) * x5_4)) - (x9_2 + (((x16_5 * 1440).toInt64) * x7_3))) - x3))]) rfl ?_
                        refine lv_lstore (lv' := [(22, .long (F_J9_abs_067f4 (((x11_1 + (((x19_9 * 1440).toInt64) * x5_4)) - (x9_2 + (((x16_5 * 1440).toInt64) * x7_3))) - x3))), (20, .long ((x11_1 + (((x19_9 * 1440).toInt64) * x5_4)) - (x9_2 + (((x16_5 * 1440).toInt64) * x7_3)))), (19, .int x19_9), (17, .long (x9_2 + (((x16_5 * 1440).toInt64) * x7_3))), (16, .int x16_5), (15, .int x15_8), (13, .long x13_10), (11, .long x11_1), (9, .long x9_2), (7, .long x7_3), (5, .long x5_4), (0, .ref (p_c j1)), (1, .ref (p_c j2)), (2, .int x2), (3, .long x3)]) hx hb dX6_leastOff_160 hl (Nat.le_of_ble_eq_true rfl) rfl (fun ls hl => ?_)
                        refine lv_lload hx hb dX6_leastOff_162 (lv_at hl 1 rfl) ?_
                        refine lv_lconst (v := 0) hx hb dX6_leastOff_164 (by decide) ?_
                        refine W.lcmp hx hb dX6_leastOff_165 ?_
                        refine lv_if_le (tgt := 190) hx hb dX6_leastOff_166 (by decide) (fun c_166 => ?_) (fun c_166 => ?_)
                        · replace hF := hF.trans (if_pos c_166)
                          refine lv_iinc (v := x19_9 + 1) (lv' := [(19, .int (x19_9 + 1)), (22, .long (F_J9_abs_067f4 (((x11_1 + (((x19_9 * 1440).toInt64) * x5_4)) - (x9_2 + (((x16_5 * 1440).toInt64) * x7_3))) - x3))), (20, .long ((x11_1 + (((x19_9 * 1440).toInt64) * x5_4)) - (x9_2 + (((x16_5 * 1440).toInt64) * x7_3)))), (17, .long (x9_2 + (((x16_5 * 1440).toInt64) * x7_3))), (16, .int x16_5), (15, .int x15_8), (13, .long x13_10), (11, .long x11_1), (9, .long x9_2), (7, .long x7_3), (5, .long x5_4), (0, .ref (p_c j1)), (1, .ref (p_c j2)), (2, .int x2), (3, .long x3)]) hx hb dX6_leastOff_190 hl (k := 2) rfl rfl (Nat.le_of_ble_eq_true rfl) rfl (fun ls hl => ?_)
                          refine lv_goto (tgt := 118) hx hb dX6_leastOff_193 (by decide) ?_
                          exact ih_118 (x19_9 + 1) x13_10 (by first | with_reducible assumption | (rw [ti_inc] <;> omega) | omega | decide) (by rw [ti_inc] <;> omega) hF _ _ _ hh (lv_sub hl [0, 3, 4, 5, 6, 7, 8, 9, 10, 11, 12, 13, 14] rfl)
                        · replace hF := hF.trans (if_neg c_166)
                          refine lv_lload hx hb dX6_leastOff_169 (lv_at hl 6 rfl) ?_
                          refine lv_ldc2 (v := (-1)) hx hb KX.2.2.2.1 (KX.2.2.2.2.1 _ (List.mem_of_getElem? (i := 2) rfl)) dX6_leastOff_171 ?_
                          refine W.lcmp hx hb dX6_leastOff_174 ?_
                          refine lv_if_eq (tgt := 186) hx hb dX6_leastOff_175 (by decide) (fun c_175 => ?_) (fun c_175 => ?_)
                          · replace hF := hF.trans (if_pos c_175)
                            refine lv_lload hx hb dX6_leastOff_186 (lv_at hl 0 rfl) ?_
                            refine lv_lstore (lv' := [(13, .long (F_J9_abs_067f4 (((x11_1 + (((x19_9 * 1440).toInt64) * x5_4)) - (x9_2 + (((x16_5 * 1440).toInt64) * x7_3))) - x3))), (22, .long (F_J9_abs_067f4 (((x11_1 + (((x19_9 * 1440).toInt64) * x5_4)) - (x9_2 + (((x16_5 * 1440).toInt64) * x7_3))) - x3))), (20, .long ((x11_1 + (((x19_9 * 1440).toInt64) * x5_4)) - (x9_2 + (((x16_5 * 1440).toInt64) * x7_3)))), (19, .int x19_9), (17, .long (x9_2 + (((x16_5 * 1440).toInt64) * x7_3))), (16, .int x16_5), (15, .int x15_8), (11, .long x11_1), (9, .long x9_2), (7, .long x7_3), (5, .long x5_4), (0, .ref (p_c j1)), (1, .ref (p_c j2)), (2, .int x2), (3, .long x3)]) hx hb dX6_leastOff_188 hl (Nat.le_of_ble_eq_true rfl) rfl (fun ls hl => ?_)
                            refine lv_iinc (v := x19_9 + 1) (lv' := [(19, .int (x19_9 + 1)), (13, .long (F_J9_abs_067f4 (((x11_1 + (((x19_9 * 1440).toInt64) * x5_4)) - (x9_2 + (((x16_5 * 1440).toInt64) * x7_3))) - x3))), (22, .long (F_J9_abs_067f4 (((x11_1 + (((x19_9 * 1440).toInt64) * x5_4)) - (x9_2 + (((x16_5 * 1440).toInt64) * x7_3))) - x3))), (20, .long ((x11_1 + (((x19_9 * 1440).toInt64) * x5_4)) - (x9_2 + (((x16_5 * 1440).toInt64) * x7_3)))), (17, .long (x9_2 + (((x16_5 * 1440).toInt64) * x7_3))), (16, .int x16_5), (15, .int x15_8), (11, .long x11_1), (9, .long x9_2), (7, .long x7_3), (5, .long x5_4), (0, .ref (p_c j1)), (1, .ref (p_c j2)), (2, .int x2), (3, .long x3)]) hx hb dX6_leastOff_190 hl (k := 3) rfl rfl (Nat.le_of_ble_eq_true rfl) rfl (fun ls hl => ?_)
                            refine lv_goto (tgt := 118) hx hb dX6_leastOff_193 (by decide) ?_
                            exact ih_118 (x19_9 + 1) (F_J9_abs_067f4 (((x11_1 + (((x19_9 * 1440).toInt64) * x5_4)) - (x9_2 + (((x16_5 * 1440).toInt64) * x7_3))) - x3)) (by first | with_reducible assumption | (rw [ti_inc] <;> omega) | omega | decide) (by rw [ti_inc] <;> omega) hF _ _ _ hh (lv_sub hl [0, 4, 5, 6, 1, 7, 8, 9, 10, 11, 12, 13, 14] rfl)
                          · replace hF := hF.trans (if_neg c_175)
                            refine lv_lload hx hb dX6_leastOff_178 (lv_at hl 0 rfl) ?_
                            refine lv_lload hx hb dX6_leastOff_180 (lv_at hl 6 rfl) ?_
                            refine W.lcmp hx hb dX6_leastOff_182 ?_
                            refine lv_if_ge (tgt := 190) hx hb dX6_leastOff_183 (by decide) (fun c_183 => ?_) (fun c_183 => ?_)
                            · replace hF := hF.trans (if_pos c_183)
                              refine lv_iinc (v := x19_9 + 1) (lv' := [(19, .int (x19_9 + 1)), (22, .long (F_J9_abs_067f4 (((x11_1 + (((x19_9 * 1440).toInt64) * x5_4)) - (x9_2 + (((x16_5 * 1440).toInt64) * x7_3))) - x3))), (20, .long ((x11_1 + (((x19_9 * 1440).toInt64) * x5_4)) - (x9_2 + (((x16_5 * 1440).toInt64) * x7_3)))), (17, .long (x9_2 + (((x16_5 * 1440).toInt64) * x7_3))), (16, .int x16_5), (15, .int x15_8), (13, .long x13_10), (11, .long x11_1), (9, .long x9_2), (7, .long x7_3), (5, .long x5_4), (0, .ref (p_c j1)), (1, .ref (p_c j2)), (2, .int x2), (3, .long x3)]) hx hb dX6_leastOff_190 hl (k := 2) rfl rfl (Nat.le_of_ble_eq_true rfl) rfl (fun ls hl => ?_)
                              refine lv_goto (tgt := 118) hx hb dX6_leastOff_193 (by decide) ?_
                              exact ih_118 (x19_9 + 1) x13_10 (by first | with_reducible assumption | (rw [ti_inc] <;> omega) | omega | decide) (by rw [ti_inc] <;> omega) hF _ _ _ hh (lv_sub hl [0, 3, 4, 5, 6, 7, 8, 9, 10, 11, 12, 13, 14] rfl)
                            · replace hF := hF.trans (if_neg c_183)
                              refine lv_lload hx hb dX6_leastOff_186 (lv_at hl 0 rfl) ?_
                              refine lv_lstore (lv' := [(13, .long (F_J9_abs_067f4 (((x11_1 + (((x19_9 * 1440).toInt64) * x5_4)) - (x9_2 + (((x16_5 * 1440).toInt64) * x7_3))) - x3))), (22, .long (F_J9_abs_067f4 (((x11_1 + (((x19_9 * 1440).toInt64) * x5_4)) - (x9_2 + (((x16_5 * 1440).toInt64) * x7_3))) - x3))), (20, .long ((x11_1 + (((x19_9 * 1440).toInt64) * x5_4)) - (x9_2 + (((x16_5 * 1440).toInt64) * x7_3)))), (19, .int x19_9), (17, .long (x9_2 + (((x16_5 * 1440).toInt64) * x7_3))), (16, .int x16_5), (15, .int x15_8), (11, .long x11_1), (9, .long x9_2), (7, .long x7_3), (5, .long x5_4), (0, .ref (p_c j1)), (1, .ref (p_c j2)), (2, .int x2), (3, .long x3)]) hx hb dX6_leastOff_188 hl (Nat.le_of_ble_eq_true rfl) rfl (fun ls hl => ?_)
                              refine lv_iinc (v := x19_9 + 1) (lv' := [(19, .int (x19_9 + 1)), (13, .long (F_J9_abs_067f4 (((x11_1 + (((x19_9 * 1440).toInt64) * x5_4)) - (x9_2 + (((x16_5 * 1440).toInt64) * x7_3))) - x3))), (22, .long (F_J9_abs_067f4 (((x11_1 + (((x19_9 * 1440).toInt64) * x5_4)) - (x9_2 + (((x16_5 * 1440).toInt64) * x7_3))) - x3))), (20, .long ((x11_1 + (((x19_9 * 1440).toInt64) * x5_4)) - (x9_2 + (((x16_5 * 1440).toInt64) * x7_3)))), (17, .long (x9_2 + (((x16_5 * 1440).toInt64) * x7_3))), (16, .int x16_5), (15, .int x15_8), (11, .long x11_1), (9, .long x9_2), (7, .long x7_3), (5, .long x5_4), (0, .ref (p_c j1)), (1, .ref (p_c j2)), (2, .int x2), (3, .long x3)]) hx hb dX6_leastOff_190 hl (k := 3) rfl rfl (Nat.le_of_ble_eq_true rfl) rfl (fun ls hl => ?_)
                              refine lv_goto (tgt := 118) hx hb dX6_leastOff_193 (by decide) ?_
                              exact ih_118 (x19_9 + 1) (F_J9_abs_067f4 (((x11_1 + (((x19_9 * 1440).toInt64) * x5_4)) - (x9_2 + (((x16_5 * 1440).toInt64) * x7_3))) - x3)) (by first | with_reducible assumption | (rw [ti_inc] <;> omega) | omega | decide) (by rw [ti_inc] <;> omega) hF _ _ _ hh (lv_sub hl [0, 4, 5, 6, 1, 7, 8, 9, 10, 11, 12, 13, 14] rfl)
                exact L_118 241 x15_8 x13_7 (by first | with_reducible assumption | (rw [ti_inc] <;> omega) | omega | decide) (by omega) hF _ _ _ hh (lv_sub hl [0, 1, 2, 3, 4, 5, 6, 7, 8, 9, 10, 11, 12] rfl)
              · replace hF := hF.trans (if_neg c_82)
                have i_82 : x15_8.toInt < 239 := ti_nle c_82
                refine lv_lload hx hb dX6_leastOff_85 (lv_at hl 4 rfl) ?_
                refine lv_iload hx hb dX6_leastOff_87 (lv_at hl 2 rfl) ?_
                refine lv_iconst (v := 1) hx hb dX6_leastOff_89 (by decide) ?_
                refine lv_iadd hx hb dX6_leastOff_90 ?_
                refine lv_sipush (v := 1440) hx hb dX6_leastOff_91 (by decide) ?_
                refine lv_imul hx hb dX6_leastOff_94 ?_
                refine lv_i2l hx hb dX6_leastOff_95 rfl ?_
                refine lv_lload hx hb dX6_leastOff_96 (lv_at hl 7 rfl) ?_
                refine lv_lmul hx hb dX6_leastOff_98 ?_
                refine lv_ladd hx hb dX6_leastOff_99 ?_
                refine lv_lload hx hb dX6_leastOff_100 (lv_at hl 0 rfl) ?_
                refine lv_lload_n hx hb dX6_leastOff_102 rfl (lv_at hl 11 rfl) ?_
                refine lv_ladd hx hb dX6_leastOff_103 ?_
                refine W.lcmp hx hb dX6_leastOff_104 ?_
                refine lv_if_gt (tgt := 114) hx hb dX6_leastOff_105 (by decide) (fun c_105 => ?_) (fun c_105 => ?_)
                · replace hF := hF.trans (if_pos c_105)
                  refine lv_iload hx hb dX6_leastOff_114 (lv_at hl 2 rfl) ?_
                  refine lv_istore (lv' := [(19, .int x15_8), (17, .long (x9_2 + (((x16_5 * 1440).toInt64) * x7_3))), (16, .int x16_5), (15, .int x15_8), (13, .long x13_7), (11, .long x11_1), (9, .long x9_2), (7, .long x7_3), (5, .long x5_4), (0, .ref (p_c j1)), (1, .ref (p_c j2)), (2, .int x2), (3, .long x3)]) hx hb dX6_leastOff_116 hl (Nat.le_of_ble_eq_true rfl) rfl (fun ls hl => ?_)
                  have L_118 : ∀ (n_118 : Nat) (x19_11 : Int32) (x13_12 : Int64) (j0_118 : 0 ≤ x19_11.toInt) (_ : (240 - x19_11.toInt).toNat < n_118) (_ : R = (F_X6_leastOff_118_12 x3 x11_1 x9_2 x7_3 x5_4 x16_5 ((F_X6_leastOff_55 x3 x11_1 x9_2 x7_3 x5_4) n_55) x15_8) n_118 x19_11 x13_12) (ls : Array Slot) (H : Heap) (locs : List Loc) (_ : HS D A s.heap (W6 cI cZ cC cH o t_o t_a_bytes t_a_rows p_o p_a_clocks p_n_o p_n_a_clocks p_n_a_minutes p_n_a_dials a_kept a_o a_a_clocks a_n_o a_n_a_clocks a_n_a_minutes a_n_a_dials b_o b_a_clocks b_n_o b_n_a_clocks b_n_a_minutes b_n_a_dials y_o r_o q_o q_a_clocks q_a_rates q_a_least a_misfits a_shown p_c a_c b_c sifted t_length t_lineCount t_start t_end t_bytes t_rows p_filled p_ck p_n_many p_n_clocks p_n_minutes p_n_dials a_filled a_ck a_n_many a_n_clocks a_n_minutes a_n_dials b_filled b_ck b_n_many b_n_clocks b_n_minutes b_n_dials y_many y_first y_last y_runs r_kind r_set r_dial r_low r_high r_read q_many q_clocks q_rates q_least misfits shown) H locs) (_ : lv_has ls 24 [(19, .int x19_11), (17, .long (x9_2 + (((x16_5 * 1440).toInt64) * x7_3))), (16, .int x16_5), (15, .int x15_8), (13, .long x13_12), (11, .long x11_1), (9, .long x9_2), (7, .long x7_3), (5, .long x5_4), (0, .ref (p_c j1)), (1, .ref (p_c j2)), (2, .int x2), (3, .long x3)]), W p l e { frames := 2, cells := 0, slots := 0, locals := 43 } s m args below meth c H locs 0 0 Q (F0 m 118 ls []) := by
                    intro n_118
                    induction n_118 with
                    | zero => intro x19_11 x13_12 j0_118 hm; exact absurd hm (Nat.not_lt_zero _)
                    | succ n_118 ih_118 =>
                      intro x19_11 x13_12 j0_118 hm_118 hF ls H locs hh hl
                      rw [F_X6_leastOff_118_12.eq_2] at hF
                      refine lv_iload hx hb dX6_leastOff_118 (lv_at hl 0 rfl) ?_
                      refine lv_iload hx hb dX6_leastOff_120 (lv_at hl 3 rfl) ?_
                      refine lv_iconst (v := 1) hx hb dX6_leastOff_122 (by decide) ?_
                      refine lv_iadd hx hb dX6_leastOff_123 ?_
                      refine lv_icmp_gt (tgt := 196) hx hb dX6_leastOff_124 (by decide) (fun c_124 => ?_) (fun c_124 => ?_)
                      · replace hF := hF.trans (if_pos c_124)
                        have i_124 : (x15_8 + 1).toInt < x19_11.toInt := ti_lt.mp c_124
                        refine lv_iinc (v := x16_5 + 1) (lv' := [(16, .int (x16_5 + 1)), (19, .int x19_11), (17, .long (x9_2 + (((x16_5 * 1440).toInt64) * x7_3))), (15, .int x15_8), (13, .long x13_12), (11, .long x11_1), (9, .long x9_2), (7, .long x7_3), (5, .long x5_4), (0, .ref (p_c j1)), (1, .ref (p_c j2)), (2, .int x2), (3, .long x3)]) hx hb dX6_leastOff_196 hl (k := 2) rfl rfl (Nat.le_of_ble_eq_true rfl) rfl (fun ls hl => ?_)
                        refine lv_goto (tgt := 55) hx hb dX6_leastOff_199 (by decide) ?_
                        have e_inc : (x16_5 + 1).toInt = x16_5.toInt + 1 := ti_inc (by omega)
                        exact ih_55 (x16_5 + 1) x15_8 x13_12 (by first | with_reducible assumption | omega | decide) (by first | with_reducible assumption | omega | decide) (by first | with_reducible assumption | (rw [ti_inc] <;> omega) | omega | decide) (by first | with_reducible assumption | (rw [ti_inc] <;> omega) | omega | decide) (by omega) hF _ _ _ hh (lv_sub hl [0, 3, 4, 5, 6, 7, 8, 9, 10, 11, 12] rfl)
                      · replace hF := hF.trans (if_neg c_124)
                        have i_124 : x19_11.toInt ≤ (x15_8 + 1).toInt := ti_nlt c_124
                        refine lv_iload hx hb dX6_leastOff_127 (lv_at hl 0 rfl) ?_
                        refine lv_sipush (v := 240) hx hb dX6_leastOff_129 (by decide) ?_
                        refine lv_icmp_ge (tgt := 196) hx hb dX6_leastOff_132 (by decide) (fun c_132 => ?_) (fun c_132 => ?_)
                        · replace hF := hF.trans (if_pos c_132)
                          have i_132 : 240 ≤ x19_11.toInt := ti_le.mp c_132
                          refine lv_iinc (v := x16_5 + 1) (lv' := [(16, .int (x16_5 + 1)), (19, .int x19_11), (17, .long (x9_2 + (((x16_5 * 1440).toInt64) * x7_3))), (15, .int x15_8), (13, .long x13_12), (11, .long x11_1), (9, .long x9_2), (7, .long x7_3), (5, .long x5_4), (0, .ref (p_c j1)), (1, .ref (p_c j2)), (2, .int x2), (3, .long x3)]) hx hb dX6_leastOff_196 hl (k := 2) rfl rfl (Nat.le_of_ble_eq_true rfl) rfl (fun ls hl => ?_)
                          refine lv_goto (tgt := 55) hx hb dX6_leastOff_199 (by decide) ?_
                          have e_inc : (x16_5 + 1).toInt = x16_5.toInt + 1 := ti_inc (by omega)
                          exact ih_55 (x16_5 + 1) x15_8 x13_12 (by first | with_reducible assumption | omega | decide) (by first | with_reducible assumption | omega | decide) (by first | with_reducible assumption | (rw [ti_inc] <;> omega) | omega | decide) (by first | with_reducible assumption | (rw [ti_inc] <;> omega) | omega | decide) (by omega) hF _ _ _ hh (lv_sub hl [0, 3, 4, 5, 6, 7, 8, 9, 10, 11, 12] rfl)
                        · replace hF := hF.trans (if_neg c_132)
                          have i_132 : x19_11.toInt < 240 := ti_nle c_132
                          refine lv_lload hx hb dX6_leastOff_135 (lv_at hl 5 rfl) ?_
                          refine lv_iload hx hb dX6_leastOff_137 (lv_at hl 0 rfl) ?_
                          refine lv_sipush (v := 1440) hx hb dX6_leastOff_139 (by decide) ?_
                          refine lv_imul hx hb dX6_leastOff_142 ?_
                          refine lv_i2l hx hb dX6_leastOff_143 rfl ?_
                          refine lv_lload hx hb dX6_leastOff_144 (lv_at hl 8 rfl) ?_
                          refine lv_lmul hx hb dX6_leastOff_146 ?_
                          refine lv_ladd hx hb dX6_leastOff_147 ?_
                          refine lv_lload hx hb dX6_leastOff_148 (lv_at hl 1 rfl) ?_
                          refine lv_lsub hx hb dX6_leastOff_150 ?_
                          refine lv_lstore (lv' := [(20, .long ((x11_1 + (((x19_11 * 1440).toInt64) * x5_4)) - (x9_2 + (((x16_5 * 1440).toInt64) * x7_3)))), (19, .int x19_11), (17, .long (x9_2 + (((x16_5 * 1440).toInt64) * x7_3))), (16, .int x16_5), (15, .int x15_8), (13, .long x13_12), (11, .long x11_1), (9, .long x9_2), (7, .long x7_3), (5, .long x5_4), (0, .ref (p_c j1)), (1, .ref (p_c j2)), (2, .int x2), (3, .long x3)]) hx hb dX6_leastOff_151 hl (Nat.le_of_ble_eq_true rfl) rfl (fun ls hl => ?_)
                          refine lv_lload hx hb dX6_leastOff_153 (lv_at hl 0 rfl) ?_
                          refine lv_lload_n hx hb dX6_leastOff_155 rfl (lv_at hl 13 rfl) ?_
                          refine lv_lsub hx hb dX6_leastOff_156 ?_
                          refine g_callS (As := [.long (((x11_1 + (((x19_11 * 1440).toInt64) * x5_4)) - (x9_2 + (((x16_5 * 1440).toInt64) * x7_3))) - x3)]) (rest := []) KX rfl ⟨Nat.le_of_ble_eq_true rfl, Nat.le_of_ble_eq_true rfl⟩ hh hl (c_J9_abs_067f4 l D cI cZ cC cH  (((x11_1 + (((x19_11 * 1440).toInt64) * x5_4)) - (x9_2 + (((x16_5 * 1440).toInt64) * x7_3))) - x3) ) JN.no 1 gm_X6_leastOff_J9_abs_067f4_230 rfl (by decide +kernel) ⟨Nat.le_of_ble_eq_true rfl, Nat.le_of_ble_eq_true rfl⟩ rfl rfl (Nat.le_of_ble_eq_true rfl) dX6_leastOff_157 (fun H locs hh => ?_)
                          refine W.eq (g2 := F0 m 160 ls [.long (F_J9_abs_067f4 (((x11_1 + (((x19_11 * 1440).toInt64) * x5_4)) - (x9_2 + (((x16_5 * 1440).toInt64) * x7_3))) - x3))]) rfl ?_
                          refine lv_lstore (lv' := [(22, .long (F_J9_abs_067f4 (((x11_1 + (((x19_11 * 1440).toInt64) * x5_4)) - (x9_2 + (((x16_5 * 1440).toInt64) * x7_3))) - x3))), (20, .long ((x11_1 + (((x19_11 * 1440).toInt64) * x5_4)) - (x9_2 + (((x16_5 * 1440).toInt64) * x7_3)))), (19, .int x19_11), (17, .long (x9_2 + (((x16_5 * 1440).toInt64) * x7_3))), (16, .int x16_5), (15, .int x15_8), (13, .long x13_12), (11, .long x11_1), (9, .long x9_2), (7, .long x7_3), (5, .long x5_4), (0, .ref (p_c j1)), (1, .ref (p_c j2)), (2, .int x2), (3, .long x3)]) hx hb dX6_leastOff_160 hl (Nat.le_of_ble_eq_true rfl) rfl (fun ls hl => ?_)
                          refine lv_lload hx hb dX6_leastOff_162 (lv_at hl 1 rfl) ?_
                          refine lv_lconst (v := 0) hx hb dX6_leastOff_164 (by decide) ?_
                          refine W.lcmp hx hb dX6_leastOff_165 ?_
                          refine lv_if_le (tgt := 190) hx hb dX6_leastOff_166 (by decide) (fun c_166 => ?_) (fun c_166 => ?_)
                          · replace hF := hF.trans (if_pos c_166)
                            refine lv_iinc (v := x19_11 + 1) (lv' := [(19, .int (x19_11 + 1)), (22, .long (F_J9_abs_067f4 (((x11_1 + (((x19_11 * 1440).toInt64) * x5_4)) - (x9_2 + (((x16_5 * 1440).toInt64) * x7_3))) - x3))), (20, .long ((x11_1 + (((x19_11 * 1440).toInt64) * x5_4)) - (x9_2 + (((x16_5 * 1440).toInt64) * x7_3)))), (17, .long (x9_2 + (((x16_5 * 1440).toInt64) * x7_3))), (16, .int x16_5), (15, .int x15_8), (13, .long x13_12), (11, .long x11_1), (9, .long x9_2), (7, .long x7_3), (5, .long x5_4), (0, .ref (p_c j1)), (1, .ref (p_c j2)), (2, .int x2), (3, .long x3)]) hx hb dX6_leastOff_190 hl (k := 2) rfl rfl (Nat.le_of_ble_eq_true rfl) rfl (fun ls hl => ?_)
                            refine lv_goto (tgt := 118) hx hb dX6_leastOff_193 (by decide) ?_
                            exact ih_118 (x19_11 + 1) x13_12 (by first | with_reducible assumption | (rw [ti_inc] <;> omega) | omega | decide) (by rw [ti_inc] <;> omega) hF _ _ _ hh (lv_sub hl [0, 3, 4, 5, 6, 7, 8, 9, 10, 11, 12, 13, 14] rfl)
                          · replace hF := hF.trans (if_neg c_166)
                            refine lv_lload hx hb dX6_leastOff_169 (lv_at hl 6 rfl) ?_
                            refine lv_ldc2 (v := (-1)) hx hb KX.2.2.2.1 (KX.2.2.2.2.1 _ (List.mem_of_getElem? (i := 2) rfl)) dX6_leastOff_171 ?_
                            refine W.lcmp hx hb dX6_leastOff_174 ?_
                            refine lv_if_eq (tgt := 186) hx hb dX6_leastOff_175 (by decide) (fun c_175 => ?_) (fun c_175 => ?_)
                            · replace hF := hF.trans (if_pos c_175)
                              refine lv_lload hx hb dX6_leastOff_186 (lv_at hl 0 rfl) ?_
                              refine lv_lstore (lv' := [(13, .long (F_J9_abs_067f4 (((x11_1 + (((x19_11 * 1440).toInt64) * x5_4)) - (x9_2 + (((x16_5 * 1440).toInt64) * x7_3))) - x3))), (22, .long (F_J9_abs_067f4 (((x11_1 + (((x19_11 * 1440).toInt64) * x5_4)) - (x9_2 + (((x16_5 * 1440).toInt64) * x7_3))) - x3))), (20, .long ((x11_1 + (((x19_11 * 1440).toInt64) * x5_4)) - (x9_2 + (((x16_5 * 1440).toInt64) * x7_3)))), (19, .int x19_11), (17, .long (x9_2 + (((x16_5 * 1440).toInt64) * x7_3))), (16, .int x16_5), (15, .int x15_8), (11, .long x11_1), (9, .long x9_2), (7, .long x7_3), (5, .long x5_4), (0, .ref (p_c j1)), (1, .ref (p_c j2)), (2, .int x2), (3, .long x3)]) hx hb dX6_leastOff_188 hl (Nat.le_of_ble_eq_true rfl) rfl (fun ls hl => ?_)
                              refine lv_iinc (v := x19_11 + 1) (lv' := [(19, .int (x19_11 + 1)), (13, .long (F_J9_abs_067f4 (((x11_1 + (((x19_11 * 1440).toInt64) * x5_4)) - (x9_2 + (((x16_5 * 1440).toInt64) * x7_3))) - x3))), (22, .long (F_J9_abs_067f4 (((x11_1 + (((x19_11 * 1440).toInt64) * x5_4)) - (x9_2 + (((x16_5 * 1440).toInt64) * x7_3))) - x3))), (20, .long ((x11_1 + (((x19_11 * 1440).toInt64) * x5_4)) - (x9_2 + (((x16_5 * 1440).toInt64) * x7_3)))), (17, .long (x9_2 + (((x16_5 * 1440).toInt64) * x7_3))), (16, .int x16_5), (15, .int x15_8), (11, .long x11_1), (9, .long x9_2), (7, .long x7_3), (5, .long x5_4), (0, .ref (p_c j1)), (1, .ref (p_c j2)), (2, .int x2), (3, .long x3)]) hx hb dX6_leastOff_190 hl (k := 3) rfl rfl (Nat.le_of_ble_eq_true rfl) rfl (fun ls hl => ?_)
                              refine lv_goto (tgt := 118) hx hb dX6_leastOff_193 (by decide) ?_
                              exact ih_118 (x19_11 + 1) (F_J9_abs_067f4 (((x11_1 + (((x19_11 * 1440).toInt64) * x5_4)) - (x9_2 + (((x16_5 * 1440).toInt64) * x7_3))) - x3)) (by first | with_reducible assumption | (rw [ti_inc] <;> omega) | omega | decide) (by rw [ti_inc] <;> omega) hF _ _ _ hh (lv_sub hl [0, 4, 5, 6, 1, 7, 8, 9, 10, 11, 12, 13, 14] rfl)
                            · replace hF := hF.trans (if_neg c_175)
                              refine lv_lload hx hb dX6_leastOff_178 (lv_at hl 0 rfl) ?_
                              refine lv_lload hx hb dX6_leastOff_180 (lv_at hl 6 rfl) ?_
                              refine W.lcmp hx hb dX6_leastOff_182 ?_
                              refine lv_if_ge (tgt := 190) hx hb dX6_leastOff_183 (by decide) (fun c_183 => ?_) (fun c_183 => ?_)
                              · replace hF := hF.trans (if_pos c_183)
                                refine lv_iinc (v := x19_11 + 1) (lv' := [(19, .int (x19_11 + 1)), (22, .long (F_J9_abs_067f4 (((x11_1 + (((x19_11 * 1440).toInt64) * x5_4)) - (x9_2 + (((x16_5 * 1440).toInt64) * x7_3))) - x3))), (20, .long ((x11_1 + (((x19_11 * 1440).toInt64) * x5_4)) - (x9_2 + (((x16_5 * 1440).toInt64) * x7_3)))), (17, .long (x9_2 + (((x16_5 * 1440).toInt64) * x7_3))), (16, .int x16_5), (15, .int x15_8), (13, .long x13_12), (11, .long x11_1), (9, .long x9_2), (7, .long x7_3), (5, .long x5_4), (0, .ref (p_c j1)), (1, .ref (p_c j2)), (2, .int x2), (3, .long x3)]) hx hb dX6_leastOff_190 hl (k := 2) rfl rfl (Nat.le_of_ble_eq_true rfl) rfl (fun ls hl => ?_)
                                refine lv_goto (tgt := 118) hx hb dX6_leastOff_193 (by decide) ?_
                                exact ih_118 (x19_11 + 1) x13_12 (by first | with_reducible assumption | (rw [ti_inc] <;> omega) | omega | decide) (by rw [ti_inc] <;> omega) hF _ _ _ hh (lv_sub hl [0, 3, 4, 5, 6, 7, 8, 9, 10, 11, 12, 13, 14] rfl)
                              · replace hF := hF.trans (if_neg c_183)
                                refine lv_lload hx hb dX6_leastOff_186 (lv_at hl 0 rfl) ?_
                                refine lv_lstore (lv' := [(13, .long (F_J9_abs_067f4 (((x11_1 + (((x19_11 * 1440).toInt64) * x5_4)) - (x9_2 + (((x16_5 * 1440).toInt64) * x7_3))) - x3))), (22, .long (F_J9_abs_067f4 (((x11_1 + (((x19_11 * 1440).toInt64) * x5_4)) - (x9_2 + (((x16_5 * 1440).toInt64) * x7_3))) - x3))), (20, .long ((x11_1 + (((x19_11 * 1440).toInt64) * x5_4)) - (x9_2 + (((x16_5 * 1440).toInt64) * x7_3)))), (19, .int x19_11), (17, .long (x9_2 + (((x16_5 * 1440).toInt64) * x7_3))), (16, .int x16_5), (15, .int x15_8), (11, .long x11_1), (9, .long x9_2), (7, .long x7_3), (5, .long x5_4), (0, .ref (p_c j1)), (1, .ref (p_c j2)), (2, .int x2), (3, .long x3)]) hx hb dX6_leastOff_188 hl (Nat.le_of_ble_eq_true rfl) rfl (fun ls hl => ?_)
                                refine lv_iinc (v := x19_11 + 1) (lv' := [(19, .int (x19_11 + 1)), (13, .long (F_J9_abs_067f4 (((x11_1 + (((x19_11 * 1440).toInt64) * x5_4)) - (x9_2 + (((x16_5 * 1440).toInt64) * x7_3))) - x3))), (22, .long (F_J9_abs_067f4 (((x11_1 + (((x19_11 * 1440).toInt64) * x5_4)) - (x9_2 + (((x16_5 * 1440).toInt64) * x7_3))) - x3))), (20, .long ((x11_1 + (((x19_11 * 1440).toInt64) * x5_4)) - (x9_2 + (((x16_5 * 1440).toInt64) * x7_3)))), (17, .long (x9_2 + (((x16_5 * 1440).toInt64) * x7_3))), (16, .int x16_5), (15, .int x15_8), (11, .long x11_1), (9, .long x9_2), (7, .long x7_3), (5, .long x5_4), (0, .ref (p_c j1)), (1, .ref (p_c j2)), (2, .int x2), (3, .long x3)]) hx hb dX6_leastOff_190 hl (k := 3) rfl rfl (Nat.le_of_ble_eq_true rfl) rfl (fun ls hl => ?_)
                                refine lv_goto (tgt := 118) hx hb dX6_leastOff_193 (by decide) ?_
                                exact ih_118 (x19_11 + 1) (F_J9_abs_067f4 (((x11_1 + (((x19_11 * 1440).toInt64) * x5_4)) - (x9_2 + (((x16_5 * 1440).toInt64) * x7_3))) - x3)) (by first | with_reducible assumption | (rw [ti_inc] <;> omega) | omega | decide) (by rw [ti_inc] <;> omega) hF _ _ _ hh (lv_sub hl [0, 4, 5, 6, 1, 7, 8, 9, 10, 11, 12, 13, 14] rfl)
                  exact L_118 241 x15_8 x13_7 (by first | with_reducible assumption | (rw [ti_inc] <;> omega) | omega | decide) (by omega) hF _ _ _ hh (lv_sub hl [0, 1, 2, 3, 4, 5, 6, 7, 8, 9, 10, 11, 12] rfl)
                · replace hF := hF.trans (if_neg c_105)
                  refine lv_iinc (v := x15_8 + 1) (lv' := [(15, .int (x15_8 + 1)), (17, .long (x9_2 + (((x16_5 * 1440).toInt64) * x7_3))), (16, .int x16_5), (13, .long x13_7), (11, .long x11_1), (9, .long x9_2), (7, .long x7_3), (5, .long x5_4), (0, .ref (p_c j1)), (1, .ref (p_c j2)), (2, .int x2), (3, .long x3)]) hx hb dX6_leastOff_108 hl (k := 2) rfl rfl (Nat.le_of_ble_eq_true rfl) rfl (fun ls hl => ?_)
                  refine lv_goto (tgt := 77) hx hb dX6_leastOff_111 (by decide) ?_
                  exact ih_77 (x15_8 + 1) (by first | with_reducible assumption | (rw [ti_inc] <;> omega) | omega | decide) (by first | with_reducible assumption | (rw [ti_inc] <;> omega) | omega | decide) (by rw [ti_inc] <;> omega) hF _ _ _ hh (lv_sub hl [1, 2, 0, 3, 4, 5, 6, 7, 8, 9, 10, 11] rfl)
          exact L_77 240 x15_6 (by first | with_reducible assumption | (rw [ti_inc] <;> omega) | omega | decide) (by first | with_reducible assumption | (rw [ti_inc] <;> omega) | omega | decide) (by omega) hF _ _ _ hh (lv_sub hl [0, 1, 2, 3, 4, 5, 6, 7, 8, 9, 10, 11] rfl)
    exact L_55 61 0 0 (-1) (by first | with_reducible assumption | omega | decide) (by first | with_reducible assumption | omega | decide) (by first | with_reducible assumption | (rw [ti_inc] <;> omega) | omega | decide) (by first | with_reducible assumption | (rw [ti_inc] <;> omega) | omega | decide) (by first | omega | decide | (simp; done)) hF _ _ _ hh (lv_sub hl [0, 1, 2, 3, 4, 5, 6, 7, 8, 9, 10] rfl)
  exact K_49 (((F_X0_partsToWholeMinute (p_ck j2 1) (p_ck j2 3) x2).toInt64) * ((1440 + (p_ck j1 3)).toInt64)) (((F_X0_partsToWholeMinute (p_ck j1 1) (p_ck j1 3) x2).toInt64) * ((1440 + (p_ck j2 3)).toInt64)) ((1440 + (p_ck j2 3)).toInt64) ((1440 + (p_ck j1 3)).toInt64)  hF _ _ _ hh (lv_sub hl [0, 1, 2, 3, 4, 5, 6, 7, 8] rfl)
def F_X6_egg_142 (x5 : Int32) (x12_1 : Int64) (x10_2 : Int64) (x8_3 : Int64) : Int64 := (if x5 = 0 then x10_2 / x12_1 else x8_3 / x12_1)
def F_X6_egg (p_ck : Nat → Nat → Int32) (x1 : Int32) (x2 : Int32) (x3 : Int32) (x4 : Int32) (x5 : Int32) : Int64 := (if tld p_ck x1 = 0 then (if tld p_ck x2 = 0 then (-2) else (-2)) else (if tld p_ck x2 = 0 then (-2) else (if (F_X6_isBelow x3 4320) = 0 then (-3) else (if x4 < 1 then (-3) else (if 60 < x4 then (-3) else (if (F_X6_isBelow x5 2) = 0 then (-3) else (if (F_X0_runsByOneRate (p_ck x1.toNatClampNeg 0) (p_ck x1.toNatClampNeg 3) (p_ck x1.toNatClampNeg 4)) = 0 then (-4) else (if (F_X0_runsByOneRate (p_ck x2.toNatClampNeg 0) (p_ck x2.toNatClampNeg 3) (p_ck x2.toNatClampNeg 4)) = 0 then (-4) else (F_X6_egg_142 x5 (F_J9_max_f86c9 1 (F_X6_commonDivisor (F_X6_leastOff p_ck x1.toNatClampNeg x2.toNatClampNeg x3 (x4.toInt64 * (((1440 + (p_ck x1.toNatClampNeg 3)).toInt64) * ((1440 + (p_ck x2.toNatClampNeg 3)).toInt64)))) (((1440 + (p_ck x1.toNatClampNeg 3)).toInt64) * ((1440 + (p_ck x2.toNatClampNeg 3)).toInt64)))) (F_X6_leastOff p_ck x1.toNatClampNeg x2.toNatClampNeg x3 (x4.toInt64 * (((1440 + (p_ck x1.toNatClampNeg 3)).toInt64) * ((1440 + (p_ck x2.toNatClampNeg 3)).toInt64)))) (((1440 + (p_ck x1.toNatClampNeg 3)).toInt64) * ((1440 + (p_ck x2.toNatClampNeg 3)).toInt64)))))))))))
theorem gm_X6_egg_J9_max_f86c9_194 : GoodIn wsX6_egg (va_wsS RX6 194 yJ9_max_f86c9 wsJ9_max_f86c9) := goodIn_of _ (by decide +kernel)
theorem in_X6_egg_X6 : ∀ x ∈ u_ws RX6 TX6 9, x ∈ wsX6_egg := by decide +kernel
theorem in_X6_egg_X0 : ∀ x ∈ u_ws RX0 TX0 6, x ∈ wsX6_egg := by decide +kernel
set_option maxHeartbeats 2000000 in
set_option maxRecDepth 100000 in
theorem c_X6_egg (l : Launch) (D : va_G) (cI cZ cC cH : ClassId) (o t_o t_a_bytes t_a_rows p_o p_a_clocks p_n_o p_n_a_clocks p_n_a_minutes p_n_a_dials a_kept a_o a_a_clocks a_n_o a_n_a_clocks a_n_a_minutes a_n_a_dials b_o b_a_clocks b_n_o b_n_a_clocks b_n_a_minutes b_n_a_dials y_o r_o q_o q_a_clocks q_a_rates q_a_least a_misfits a_shown : Nat) (p_c : Nat → Nat) (a_c : Nat → Nat) (b_c : Nat → Nat) (sifted : Int32) (t_length : Int32) (t_lineCount : Int32) (t_start : Int32) (t_end : Int32) (t_bytes : Nat → Int32) (t_rows : Nat → Int32) (p_filled : Int32) (p_ck : Nat → Nat → Int32) (p_n_many : Int32) (p_n_clocks : Nat → Int32) (p_n_minutes : Nat → Int32) (p_n_dials : Nat → Int32) (a_filled : Int32) (a_ck : Nat → Nat → Int32) (a_n_many : Int32) (a_n_clocks : Nat → Int32) (a_n_minutes : Nat → Int32) (a_n_dials : Nat → Int32) (b_filled : Int32) (b_ck : Nat → Nat → Int32) (b_n_many : Int32) (b_n_clocks : Nat → Int32) (b_n_minutes : Nat → Int32) (b_n_dials : Nat → Int32) (y_many : Int32) (y_first : Int32) (y_last : Int32) (y_runs : Int32) (r_kind : Int32) (r_set : Int32) (r_dial : Int32) (r_low : Int32) (r_high : Int32) (r_read : Int32) (q_many : Int32) (q_clocks : Nat → Int32) (q_rates : Nat → Int32) (q_least : Nat → Int32) (misfits : Nat → Int32) (shown : Nat → Int32) (x1 : Int32) (x2 : Int32) (x3 : Int32) (x4 : Int32) (x5 : Int32)  : MC l D (TY cI cZ cC cH) yX6_egg wsX6_egg 3 86 [.ref o, .int x1, .int x2, .int x3, .int x4, .int x5] (W6 cI cZ cC cH o t_o t_a_bytes t_a_rows p_o p_a_clocks p_n_o p_n_a_clocks p_n_a_minutes p_n_a_dials a_kept a_o a_a_clocks a_n_o a_n_a_clocks a_n_a_minutes a_n_a_dials b_o b_a_clocks b_n_o b_n_a_clocks b_n_a_minutes b_n_a_dials y_o r_o q_o q_a_clocks q_a_rates q_a_least a_misfits a_shown p_c a_c b_c sifted t_length t_lineCount t_start t_end t_bytes t_rows p_filled p_ck p_n_many p_n_clocks p_n_minutes p_n_dials a_filled a_ck a_n_many a_n_clocks a_n_minutes a_n_dials b_filled b_ck b_n_many b_n_clocks b_n_minutes b_n_dials y_many y_first y_last y_runs r_kind r_set r_dial r_low r_high r_read q_many q_clocks q_rates q_least misfits shown) (some (.long (F_X6_egg p_ck x1 x2 x3 x4 x5))) (W6 cI cZ cC cH o t_o t_a_bytes t_a_rows p_o p_a_clocks p_n_o p_n_a_clocks p_n_a_minutes p_n_a_dials a_kept a_o a_a_clocks a_n_o a_n_a_clocks a_n_a_minutes a_n_a_dials b_o b_a_clocks b_n_o b_n_a_clocks b_n_a_minutes b_n_a_dials y_o r_o q_o q_a_clocks q_a_rates q_a_least a_misfits a_shown p_c a_c b_c sifted t_length t_lineCount t_start t_end t_bytes t_rows p_filled p_ck p_n_many p_n_clocks p_n_minutes p_n_dials a_filled a_ck a_n_many a_n_clocks a_n_minutes a_n_dials b_filled b_ck b_n_many b_n_clocks b_n_minutes b_n_dials y_many y_first y_last y_runs r_kind r_set r_dial r_low r_high r_read q_many q_clocks q_rates q_least misfits shown) := by
  obtain ⟨R, hF⟩ : ∃ R, R = F_X6_egg p_ck x1 x2 x3 x4 x5 := ⟨_, rfl⟩
  rw [← hF]
  refine MC.of (cc := cX6_egg) (maxL := 14) (ret := (some .long)) RX6 rfl (by decide +kernel) rfl (Nat.le_of_ble_eq_true rfl) ?_
  intro p e s m args below meth c A Q KX RT hh ls hl
  have z0 : (0 : Int32).toInt = 0 := rfl
  have z1 : (1 : Int32).toInt = 1 := rfl
  have zm : (-1 : Int32).toInt = -1 := rfl
  have hx := KX.1
  have hb := KX.2.1
  have hl : lv_has ls 14 [(0, .ref o), (1, .int x1), (2, .int x2), (3, .int x3), (4, .int x4), (5, .int x5)] := hl
  unfold F_X6_egg at hF
  refine lv_aload_n hx hb dX6_egg_0 rfl (lv_at hl 0 rfl) ?_
  refine g_get KX hh in_X6_egg_X6 0 rfl rfl 1 (by decide) rfl (List.mem_of_getElem? (i := 1) rfl) dX6_egg_1 ?_
  refine lv_iload_n hx hb dX6_egg_4 rfl (lv_at hl 1 rfl) ?_
  refine g_callV (As := [.int x1]) (rest := []) KX rfl ⟨Nat.le_of_ble_eq_true rfl, Nat.le_of_ble_eq_true rfl⟩ hh hl (c_X1_toldClock l D cI cZ cC cH p_o p_a_clocks p_n_o p_n_a_clocks p_n_a_minutes p_n_a_dials p_c p_filled p_ck p_n_many p_n_clocks p_n_minutes p_n_dials x1 ) (JN.ro [4, 5, 6, 7, 8, 9, 10, 11, 12, 13, 14, 15, 16, 17] rfl (by decide +kernel)) 1 gX6_egg_X1_toldClock rfl (by decide +kernel) ⟨Nat.le_of_ble_eq_true rfl, Nat.le_of_ble_eq_true rfl⟩ 4 1 rfl rfl rfl rfl rfl (Nat.le_of_ble_eq_true rfl) dX6_egg_5 (fun H locs hh => ?_)
  rcases told_cases p_ck p_c x1 with ⟨c_5, e_5⟩ | ⟨c_5, e_5⟩
  · refine W.eq (g2 := F0 m 8 ls [.null]) (by rw [e_5]; rfl) ?_
    replace hF := hF.trans (if_pos c_5)
    refine lv_astoreN (lv' := [(6, .null), (0, .ref o), (1, .int x1), (2, .int x2), (3, .int x3), (4, .int x4), (5, .int x5)]) hx hb dX6_egg_8 hl (Nat.le_of_ble_eq_true rfl) rfl (fun ls hl => ?_)
    refine lv_aload_n hx hb dX6_egg_10 rfl (lv_at hl 1 rfl) ?_
    refine g_get KX hh in_X6_egg_X6 0 rfl rfl 1 (by decide) rfl (List.mem_of_getElem? (i := 1) rfl) dX6_egg_11 ?_
    refine lv_iload_n hx hb dX6_egg_14 rfl (lv_at hl 3 rfl) ?_
    refine g_callV (As := [.int x2]) (rest := []) KX rfl ⟨Nat.le_of_ble_eq_true rfl, Nat.le_of_ble_eq_true rfl⟩ hh hl (c_X1_toldClock l D cI cZ cC cH p_o p_a_clocks p_n_o p_n_a_clocks p_n_a_minutes p_n_a_dials p_c p_filled p_ck p_n_many p_n_clocks p_n_minutes p_n_dials x2 ) (JN.ro [4, 5, 6, 7, 8, 9, 10, 11, 12, 13, 14, 15, 16, 17] rfl (by decide +kernel)) 1 gX6_egg_X1_toldClock rfl (by decide +kernel) ⟨Nat.le_of_ble_eq_true rfl, Nat.le_of_ble_eq_true rfl⟩ 4 1 rfl rfl rfl rfl rfl (Nat.le_of_ble_eq_true rfl) dX6_egg_15 (fun H locs hh => ?_)
    rcases told_cases p_ck p_c x2 with ⟨c_15, e_15⟩ | ⟨c_15, e_15⟩
    · refine W.eq (g2 := F0 m 18 ls [.null]) (by rw [e_15]; rfl) ?_
      replace hF := hF.trans (if_pos c_15)
      refine lv_astoreN (lv' := [(7, .null), (6, .null), (0, .ref o), (1, .int x1), (2, .int x2), (3, .int x3), (4, .int x4), (5, .int x5)]) hx hb dX6_egg_18 hl (Nat.le_of_ble_eq_true rfl) rfl (fun ls hl => ?_)
      refine lv_aloadN hx hb dX6_egg_20 (lv_at hl 1 rfl) ?_
      refine lv_ifnullN (tgt := 30) hx hb dX6_egg_22 (by decide) ?_
      refine lv_ldc2 (v := (-2)) hx hb KX.2.2.2.1 (KX.2.2.2.2.1 _ (List.mem_of_getElem? (i := 2) rfl)) dX6_egg_30 ?_
      exact RT _ _ _ _ _ _ hh (rfl) (Or.inr (Or.inl ⟨_, rfl, by rw [hF], dX6_egg_33, rfl⟩))
    · refine W.eq (g2 := F0 m 18 ls [.ref (p_c x2.toNatClampNeg)]) (by rw [e_15]; rfl) ?_
      replace hF := hF.trans (if_neg c_15)
      obtain ⟨k0_15, k1_15⟩ := tld_in c_15
      refine lv_astore (lv' := [(7, .ref (p_c x2.toNatClampNeg)), (6, .null), (0, .ref o), (1, .int x1), (2, .int x2), (3, .int x3), (4, .int x4), (5, .int x5)]) hx hb dX6_egg_18 hl (Nat.le_of_ble_eq_true rfl) rfl (fun ls hl => ?_)
      refine lv_aloadN hx hb dX6_egg_20 (lv_at hl 1 rfl) ?_
      refine lv_ifnullN (tgt := 30) hx hb dX6_egg_22 (by decide) ?_
      refine lv_ldc2 (v := (-2)) hx hb KX.2.2.2.1 (KX.2.2.2.2.1 _ (List.mem_of_getElem? (i := 2) rfl)) dX6_egg_30 ?_
      exact RT _ _ _ _ _ _ hh (rfl) (Or.inr (Or.inl ⟨_, rfl, by rw [hF], dX6_egg_33, rfl⟩))
  · refine W.eq (g2 := F0 m 8 ls [.ref (p_c x1.toNatClampNeg)]) (by rw [e_5]; rfl) ?_
    replace hF := hF.trans (if_neg c_5)
    obtain ⟨k0_5, k1_5⟩ := tld_in c_5
    refine lv_astore (lv' := [(6, .ref (p_c x1.toNatClampNeg)), (0, .ref o), (1, .int x1), (2, .int x2), (3, .int x3), (4, .int x4), (5, .int x5)]) hx hb dX6_egg_8 hl (Nat.le_of_ble_eq_true rfl) rfl (fun ls hl => ?_)
    refine lv_aload_n hx hb dX6_egg_10 rfl (lv_at hl 1 rfl) ?_
    refine g_get KX hh in_X6_egg_X6 0 rfl rfl 1 (by decide) rfl (List.mem_of_getElem? (i := 1) rfl) dX6_egg_11 ?_
    refine lv_iload_n hx hb dX6_egg_14 rfl (lv_at hl 3 rfl) ?_
    refine g_callV (As := [.int x2]) (rest := []) KX rfl ⟨Nat.le_of_ble_eq_true rfl, Nat.le_of_ble_eq_true rfl⟩ hh hl (c_X1_toldClock l D cI cZ cC cH p_o p_a_clocks p_n_o p_n_a_clocks p_n_a_minutes p_n_a_dials p_c p_filled p_ck p_n_many p_n_clocks p_n_minutes p_n_dials x2 ) (JN.ro [4, 5, 6, 7, 8, 9, 10, 11, 12, 13, 14, 15, 16, 17] rfl (by decide +kernel)) 1 gX6_egg_X1_toldClock rfl (by decide +kernel) ⟨Nat.le_of_ble_eq_true rfl, Nat.le_of_ble_eq_true rfl⟩ 4 1 rfl rfl rfl rfl rfl (Nat.le_of_ble_eq_true rfl) dX6_egg_15 (fun H locs hh => ?_)
    rcases told_cases p_ck p_c x2 with ⟨c_15, e_15⟩ | ⟨c_15, e_15⟩
    · refine W.eq (g2 := F0 m 18 ls [.null]) (by rw [e_15]; rfl) ?_
      replace hF := hF.trans (if_pos c_15)
      refine lv_astoreN (lv' := [(7, .null), (6, .ref (p_c x1.toNatClampNeg)), (0, .ref o), (1, .int x1), (2, .int x2), (3, .int x3), (4, .int x4), (5, .int x5)]) hx hb dX6_egg_18 hl (Nat.le_of_ble_eq_true rfl) rfl (fun ls hl => ?_)
      refine lv_aload hx hb dX6_egg_20 (lv_at hl 1 rfl) ?_
      refine lv_ifnull hx hb dX6_egg_22 ?_
      refine lv_aloadN hx hb dX6_egg_25 (lv_at hl 0 rfl) ?_
      refine lv_ifnonnullN hx hb dX6_egg_27 ?_
      refine lv_ldc2 (v := (-2)) hx hb KX.2.2.2.1 (KX.2.2.2.2.1 _ (List.mem_of_getElem? (i := 2) rfl)) dX6_egg_30 ?_
      exact RT _ _ _ _ _ _ hh (rfl) (Or.inr (Or.inl ⟨_, rfl, by rw [hF], dX6_egg_33, rfl⟩))
    · refine W.eq (g2 := F0 m 18 ls [.ref (p_c x2.toNatClampNeg)]) (by rw [e_15]; rfl) ?_
      replace hF := hF.trans (if_neg c_15)
      obtain ⟨k0_15, k1_15⟩ := tld_in c_15
      refine lv_astore (lv' := [(7, .ref (p_c x2.toNatClampNeg)), (6, .ref (p_c x1.toNatClampNeg)), (0, .ref o), (1, .int x1), (2, .int x2), (3, .int x3), (4, .int x4), (5, .int x5)]) hx hb dX6_egg_18 hl (Nat.le_of_ble_eq_true rfl) rfl (fun ls hl => ?_)
      refine lv_aload hx hb dX6_egg_20 (lv_at hl 1 rfl) ?_
      refine lv_ifnull hx hb dX6_egg_22 ?_
      refine lv_aload hx hb dX6_egg_25 (lv_at hl 0 rfl) ?_
      refine lv_ifnonnull (tgt := 34) hx hb dX6_egg_27 (by decide) ?_
      refine lv_iload_n hx hb dX6_egg_34 rfl (lv_at hl 5 rfl) ?_
      refine lv_sipush (v := 4320) hx hb dX6_egg_35 (by decide) ?_
      refine g_callS (As := [.int x3, .int 4320]) (rest := []) KX rfl ⟨Nat.le_of_ble_eq_true rfl, Nat.le_of_ble_eq_true rfl⟩ hh hl (c_X6_isBelow l D cI cZ cC cH  x3 4320 ) JN.no 2 gX6_egg_X6_isBelow rfl (by decide +kernel) ⟨Nat.le_of_ble_eq_true rfl, Nat.le_of_ble_eq_true rfl⟩ rfl rfl (Nat.le_of_ble_eq_true rfl) dX6_egg_38 (fun H locs hh => ?_)
      refine W.eq (g2 := F0 m 41 ls [.int (F_X6_isBelow x3 4320)]) rfl ?_
      refine lv_if_eq (tgt := 66) hx hb dX6_egg_41 (by decide) (fun c_41 => ?_) (fun c_41 => ?_)
      · replace hF := hF.trans (if_pos c_41)
        refine lv_ldc2 (v := (-3)) hx hb KX.2.2.2.1 (KX.2.2.2.2.1 _ (List.mem_of_getElem? (i := 3) rfl)) dX6_egg_66 ?_
        exact RT _ _ _ _ _ _ hh (rfl) (Or.inr (Or.inl ⟨_, rfl, by rw [hF], dX6_egg_69, rfl⟩))
      · replace hF := hF.trans (if_neg c_41)
        obtain ⟨k0_41, k1_41⟩ : (0 : Int) ≤ x3.toInt ∧ x3.toInt < 4320 := X6_isBelow_in c_41
        refine lv_iload hx hb dX6_egg_44 (lv_at hl 6 rfl) ?_
        refine lv_iconst (v := 1) hx hb dX6_egg_46 (by decide) ?_
        refine lv_icmp_lt (tgt := 66) hx hb dX6_egg_47 (by decide) (fun c_47 => ?_) (fun c_47 => ?_)
        · replace hF := hF.trans (if_pos c_47)
          have i_47 : x4.toInt < 1 := ti_lt.mp c_47
          refine lv_ldc2 (v := (-3)) hx hb KX.2.2.2.1 (KX.2.2.2.2.1 _ (List.mem_of_getElem? (i := 3) rfl)) dX6_egg_66 ?_
          exact RT _ _ _ _ _ _ hh (rfl) (Or.inr (Or.inl ⟨_, rfl, by rw [hF], dX6_egg_69, rfl⟩))
        · replace hF := hF.trans (if_neg c_47)
          have i_47 : 1 ≤ x4.toInt := ti_nlt c_47
          refine lv_iload hx hb dX6_egg_50 (lv_at hl 6 rfl) ?_
          refine lv_bipush (v := 60) hx hb dX6_egg_52 (by decide) ?_
          refine lv_icmp_gt (tgt := 66) hx hb dX6_egg_54 (by decide) (fun c_54 => ?_) (fun c_54 => ?_)
          · replace hF := hF.trans (if_pos c_54)
            have i_54 : 60 < x4.toInt := ti_lt.mp c_54
            refine lv_ldc2 (v := (-3)) hx hb KX.2.2.2.1 (KX.2.2.2.2.1 _ (List.mem_of_getElem? (i := 3) rfl)) dX6_egg_66 ?_
            exact RT _ _ _ _ _ _ hh (rfl) (Or.inr (Or.inl ⟨_, rfl, by rw [hF], dX6_egg_69, rfl⟩))
          · replace hF := hF.trans (if_neg c_54)
            have i_54 : x4.toInt ≤ 60 := ti_nlt c_54
            refine lv_iload hx hb dX6_egg_57 (lv_at hl 7 rfl) ?_
            refine lv_iconst (v := 2) hx hb dX6_egg_59 (by decide) ?_
            refine g_callS (As := [.int x5, .int 2]) (rest := []) KX rfl ⟨Nat.le_of_ble_eq_true rfl, Nat.le_of_ble_eq_true rfl⟩ hh hl (c_X6_isBelow l D cI cZ cC cH  x5 2 ) JN.no 2 gX6_egg_X6_isBelow rfl (by decide +kernel) ⟨Nat.le_of_ble_eq_true rfl, Nat.le_of_ble_eq_true rfl⟩ rfl rfl (Nat.le_of_ble_eq_true rfl) dX6_egg_60 (fun H locs hh => ?_)
            refine W.eq (g2 := F0 m 63 ls [.int (F_X6_isBelow x5 2)]) rfl ?_
            refine lv_if_ne (tgt := 70) hx hb dX6_egg_63 (by decide) (fun c_63 => ?_) (fun c_63 => ?_)
            · replace hF := hF.trans (if_neg c_63)
              obtain ⟨k0_63, k1_63⟩ : (0 : Int) ≤ x5.toInt ∧ x5.toInt < 2 := X6_isBelow_in c_63
              refine lv_aload hx hb dX6_egg_70 (lv_at hl 1 rfl) ?_
              refine g_callV (As := []) (rest := []) KX rfl ⟨Nat.le_of_ble_eq_true rfl, Nat.le_of_ble_eq_true rfl⟩ hh hl (c_X0_runsByOneRate l D cI cZ cC cH (p_c x1.toNatClampNeg) (p_ck x1.toNatClampNeg 0) (p_ck x1.toNatClampNeg 1) (p_ck x1.toNatClampNeg 2) (p_ck x1.toNatClampNeg 3) (p_ck x1.toNatClampNeg 4) (p_ck x1.toNatClampNeg 5)  ) (JN.ro [6 + x1.toNatClampNeg] (by first | (simp only [List.map_cons, List.map_nil, clk_W6_p (tn_lt (k := x1) (n := 8) (by omega) (by omega))]; done) | (simp only [List.map_cons, List.map_nil, clk_W6_p (tn_lt (k := x1) (n := 8) (by omega) (by omega))]; rfl)) rfl) 0 gX6_egg_X0_runsByOneRate rfl (by decide +kernel) ⟨Nat.le_of_ble_eq_true rfl, Nat.le_of_ble_eq_true rfl⟩ (6 + x1.toNatClampNeg) 0 rfl rfl (clk_W6_p (tn_lt (k := x1) (n := 8) (by omega) (by omega))) rfl rfl (Nat.le_of_ble_eq_true rfl) dX6_egg_72 (fun H locs hh => ?_)
              refine W.eq (g2 := F0 m 75 ls [.int (F_X0_runsByOneRate (p_ck x1.toNatClampNeg 0) (p_ck x1.toNatClampNeg 3) (p_ck x1.toNatClampNeg 4))]) rfl ?_
              refine lv_if_eq (tgt := 86) hx hb dX6_egg_75 (by decide) (fun c_75 => ?_) (fun c_75 => ?_)
              · replace hF := hF.trans (if_pos c_75)
                refine lv_ldc2 (v := (-4)) hx hb KX.2.2.2.1 (KX.2.2.2.2.1 _ (List.mem_of_getElem? (i := 4) rfl)) dX6_egg_86 ?_
                exact RT _ _ _ _ _ _ hh (rfl) (Or.inr (Or.inl ⟨_, rfl, by rw [hF], dX6_egg_89, rfl⟩))
              · replace hF := hF.trans (if_neg c_75)
                refine lv_aload hx hb dX6_egg_78 (lv_at hl 0 rfl) ?_
                refine g_callV (As := []) (rest := []) KX rfl ⟨Nat.le_of_ble_eq_true rfl, Nat.le_of_ble_eq_true rfl⟩ hh hl (c_X0_runsByOneRate l D cI cZ cC cH (p_c x2.toNatClampNeg) (p_ck x2.toNatClampNeg 0) (p_ck x2.toNatClampNeg 1) (p_ck x2.toNatClampNeg 2) (p_ck x2.toNatClampNeg 3) (p_ck x2.toNatClampNeg 4) (p_ck x2.toNatClampNeg 5)  ) (JN.ro [6 + x2.toNatClampNeg] (by first | (simp only [List.map_cons, List.map_nil, clk_W6_p (tn_lt (k := x2) (n := 8) (by omega) (by omega))]; done) | (simp only [List.map_cons, List.map_nil, clk_W6_p (tn_lt (k := x2) (n := 8) (by omega) (by omega))]; rfl)) rfl) 0 gX6_egg_X0_runsByOneRate rfl (by decide +kernel) ⟨Nat.le_of_ble_eq_true rfl, Nat.le_of_ble_eq_true rfl⟩ (6 + x2.toNatClampNeg) 0 rfl rfl (clk_W6_p (tn_lt (k := x2) (n := 8) (by omega) (by omega))) rfl rfl (Nat.le_of_ble_eq_true rfl) dX6_egg_80 (fun H locs hh => ?_)
                refine W.eq (g2 := F0 m 83 ls [.int (F_X0_runsByOneRate (p_ck x2.toNatClampNeg 0) (p_ck x2.toNatClampNeg 3) (p_ck x2.toNatClampNeg 4))]) rfl ?_
                refine lv_if_ne (tgt := 90) hx hb dX6_egg_83 (by decide) (fun c_83 => ?_) (fun c_83 => ?_)
                · replace hF := hF.trans (if_neg c_83)
                  refine lv_sipush (v := 1440) hx hb dX6_egg_90 (by decide) ?_
                  refine lv_aload hx hb dX6_egg_93 (lv_at hl 1 rfl) ?_
                  refine g_get KX hh in_X6_egg_X0 (6 + x1.toNatClampNeg) (clk_W6_p (tn_lt (k := x1) (n := 8) (by omega) (by omega))) rfl 3 (by decide) rfl (List.mem_of_getElem? (i := 5) rfl) dX6_egg_95 ?_
                  refine lv_iadd hx hb dX6_egg_98 ?_
                  refine lv_i2l hx hb dX6_egg_99 rfl ?_
                  refine lv_sipush (v := 1440) hx hb dX6_egg_100 (by decide) ?_
                  refine lv_aload hx hb dX6_egg_103 (lv_at hl 0 rfl) ?_
                  refine g_get KX hh in_X6_egg_X0 (6 + x2.toNatClampNeg) (clk_W6_p (tn_lt (k := x2) (n := 8) (by omega) (by omega))) rfl 3 (by decide) rfl (List.mem_of_getElem? (i := 5) rfl) dX6_egg_105 ?_
                  refine lv_iadd hx hb dX6_egg_108 ?_
                  refine lv_i2l hx hb dX6_egg_109 rfl ?_
                  refine lv_lmul hx hb dX6_egg_110 ?_
                  refine lv_lstore (lv' := [(8, .long (((1440 + (p_ck x1.toNatClampNeg 3)).toInt64) * ((1440 + (p_ck x2.toNatClampNeg 3)).toInt64))), (7, .ref (p_c x2.toNatClampNeg)), (6, .ref (p_c x1.toNatClampNeg)), (0, .ref o), (1, .int x1), (2, .int x2), (3, .int x3), (4, .int x4), (5, .int x5)]) hx hb dX6_egg_111 hl (Nat.le_of_ble_eq_true rfl) rfl (fun ls hl => ?_)
                  refine lv_aload hx hb dX6_egg_113 (lv_at hl 2 rfl) ?_
                  refine lv_aload hx hb dX6_egg_115 (lv_at hl 1 rfl) ?_
                  refine lv_iload_n hx hb dX6_egg_117 rfl (lv_at hl 6 rfl) ?_
                  refine lv_iload hx hb dX6_egg_118 (lv_at hl 7 rfl) ?_
                  refine lv_i2l hx hb dX6_egg_120 rfl ?_
                  refine lv_lload hx hb dX6_egg_121 (lv_at hl 0 rfl) ?_
                  refine lv_lmul hx hb dX6_egg_123 ?_
                  refine g_callS (As := [.ref (p_c x1.toNatClampNeg), .ref (p_c x2.toNatClampNeg), .int x3, .long (x4.toInt64 * (((1440 + (p_ck x1.toNatClampNeg 3)).toInt64) * ((1440 + (p_ck x2.toNatClampNeg 3)).toInt64)))]) (rest := []) KX rfl ⟨Nat.le_of_ble_eq_true rfl, Nat.le_of_ble_eq_true rfl⟩ hh hl (c_X6_leastOff l D cI cZ cC cH o t_o t_a_bytes t_a_rows p_o p_a_clocks p_n_o p_n_a_clocks p_n_a_minutes p_n_a_dials a_kept a_o a_a_clocks a_n_o a_n_a_clocks a_n_a_minutes a_n_a_dials b_o b_a_clocks b_n_o b_n_a_clocks b_n_a_minutes b_n_a_dials y_o r_o q_o q_a_clocks q_a_rates q_a_least a_misfits a_shown p_c a_c b_c sifted t_length t_lineCount t_start t_end t_bytes t_rows p_filled p_ck p_n_many p_n_clocks p_n_minutes p_n_dials a_filled a_ck a_n_many a_n_clocks a_n_minutes a_n_dials b_filled b_ck b_n_many b_n_clocks b_n_minutes b_n_dials y_many y_first y_last y_runs r_kind r_set r_dial r_low r_high r_read q_many q_clocks q_rates q_least misfits shown x1.toNatClampNeg x2.toNatClampNeg x3 (x4.toInt64 * (((1440 + (p_ck x1.toNatClampNeg 3)).toInt64) * ((1440 + (p_ck x2.toNatClampNeg 3)).toInt64))) (by first | with_reducible assumption | omega | decide | exact tn_lt (n := 8) (by omega) (by omega)) (by first | with_reducible assumption | omega | decide | exact tn_lt (n := 8) (by omega) (by omega))) JN.all 4 gX6_egg_X6_leastOff rfl (by decide +kernel) ⟨Nat.le_of_ble_eq_true rfl, Nat.le_of_ble_eq_true rfl⟩ rfl rfl (Nat.le_of_ble_eq_true rfl) dX6_egg_124 (fun H locs hh => ?_)
                  refine W.eq (g2 := F0 m 127 ls [.long (F_X6_leastOff p_ck x1.toNatClampNeg x2.toNatClampNeg x3 (x4.toInt64 * (((1440 + (p_ck x1.toNatClampNeg 3)).toInt64) * ((1440 + (p_ck x2.toNatClampNeg 3)).toInt64))))]) rfl ?_
                  refine lv_lstore (lv' := [(10, .long (F_X6_leastOff p_ck x1.toNatClampNeg x2.toNatClampNeg x3 (x4.toInt64 * (((1440 + (p_ck x1.toNatClampNeg 3)).toInt64) * ((1440 + (p_ck x2.toNatClampNeg 3)).toInt64))))), (8, .long (((1440 + (p_ck x1.toNatClampNeg 3)).toInt64) * ((1440 + (p_ck x2.toNatClampNeg 3)).toInt64))), (7, .ref (p_c x2.toNatClampNeg)), (6, .ref (p_c x1.toNatClampNeg)), (0, .ref o), (1, .int x1), (2, .int x2), (3, .int x3), (4, .int x4), (5, .int x5)]) hx hb dX6_egg_127 hl (Nat.le_of_ble_eq_true rfl) rfl (fun ls hl => ?_)
                  refine lv_lconst (v := 1) hx hb dX6_egg_129 (by decide) ?_
                  refine lv_lload hx hb dX6_egg_130 (lv_at hl 0 rfl) ?_
                  refine lv_lload hx hb dX6_egg_132 (lv_at hl 1 rfl) ?_
                  refine g_callS (As := [.long (F_X6_leastOff p_ck x1.toNatClampNeg x2.toNatClampNeg x3 (x4.toInt64 * (((1440 + (p_ck x1.toNatClampNeg 3)).toInt64) * ((1440 + (p_ck x2.toNatClampNeg 3)).toInt64)))), .long (((1440 + (p_ck x1.toNatClampNeg 3)).toInt64) * ((1440 + (p_ck x2.toNatClampNeg 3)).toInt64))]) (rest := [.long 1]) KX rfl ⟨Nat.le_of_ble_eq_true rfl, Nat.le_of_ble_eq_true rfl⟩ hh hl (c_X6_commonDivisor l D cI cZ cC cH  (F_X6_leastOff p_ck x1.toNatClampNeg x2.toNatClampNeg x3 (x4.toInt64 * (((1440 + (p_ck x1.toNatClampNeg 3)).toInt64) * ((1440 + (p_ck x2.toNatClampNeg 3)).toInt64)))) (((1440 + (p_ck x1.toNatClampNeg 3)).toInt64) * ((1440 + (p_ck x2.toNatClampNeg 3)).toInt64)) ) JN.no 2 gX6_egg_X6_commonDivisor rfl (by decide +kernel) ⟨Nat.le_of_ble_eq_true rfl, Nat.le_of_ble_eq_true rfl⟩ rfl rfl (Nat.le_of_ble_eq_true rfl) dX6_egg_134 (fun H locs hh => ?_)
                  refine W.eq (g2 := F0 m 137 ls [.long (F_X6_commonDivisor (F_X6_leastOff p_ck x1.toNatClampNeg x2.toNatClampNeg x3 (x4.toInt64 * (((1440 + (p_ck x1.toNatClampNeg 3)).toInt64) * ((1440 + (p_ck x2.toNatClampNeg 3)).toInt64)))) (((1440 + (p_ck x1.toNatClampNeg 3)).toInt64) * ((1440 + (p_ck x2.toNatClampNeg 3)).toInt64))), .long 1]) rfl ?_
                  refine g_callS (As := [.long 1, .long (F_X6_commonDivisor (F_X6_leastOff p_ck x1.toNatClampNeg x2.toNatClampNeg x3 (x4.toInt64 * (((1440 + (p_ck x1.toNatClampNeg 3)).toInt64) * ((1440 + (p_ck x2.toNatClampNeg 3)).toInt64)))) (((1440 + (p_ck x1.toNatClampNeg 3)).toInt64) * ((1440 + (p_ck x2.toNatClampNeg 3)).toInt64)))]) (rest := []) KX rfl ⟨Nat.le_of_ble_eq_true rfl, Nat.le_of_ble_eq_true rfl⟩ hh hl (c_J9_max_f86c9 l D cI cZ cC cH  1 (F_X6_commonDivisor (F_X6_leastOff p_ck x1.toNatClampNeg x2.toNatClampNeg x3 (x4.toInt64 * (((1440 + (p_ck x1.toNatClampNeg 3)).toInt64) * ((1440 + (p_ck x2.toNatClampNeg 3)).toInt64)))) (((1440 + (p_ck x1.toNatClampNeg 3)).toInt64) * ((1440 + (p_ck x2.toNatClampNeg 3)).toInt64))) ) JN.no 2 gm_X6_egg_J9_max_f86c9_194 rfl (by decide +kernel) ⟨Nat.le_of_ble_eq_true rfl, Nat.le_of_ble_eq_true rfl⟩ rfl rfl (Nat.le_of_ble_eq_true rfl) dX6_egg_137 (fun H locs hh => ?_)
                  refine W.eq (g2 := F0 m 140 ls [.long (F_J9_max_f86c9 1 (F_X6_commonDivisor (F_X6_leastOff p_ck x1.toNatClampNeg x2.toNatClampNeg x3 (x4.toInt64 * (((1440 + (p_ck x1.toNatClampNeg 3)).toInt64) * ((1440 + (p_ck x2.toNatClampNeg 3)).toInt64)))) (((1440 + (p_ck x1.toNatClampNeg 3)).toInt64) * ((1440 + (p_ck x2.toNatClampNeg 3)).toInt64))))]) rfl ?_
                  refine lv_lstore (lv' := [(12, .long (F_J9_max_f86c9 1 (F_X6_commonDivisor (F_X6_leastOff p_ck x1.toNatClampNeg x2.toNatClampNeg x3 (x4.toInt64 * (((1440 + (p_ck x1.toNatClampNeg 3)).toInt64) * ((1440 + (p_ck x2.toNatClampNeg 3)).toInt64)))) (((1440 + (p_ck x1.toNatClampNeg 3)).toInt64) * ((1440 + (p_ck x2.toNatClampNeg 3)).toInt64))))), (10, .long (F_X6_leastOff p_ck x1.toNatClampNeg x2.toNatClampNeg x3 (x4.toInt64 * (((1440 + (p_ck x1.toNatClampNeg 3)).toInt64) * ((1440 + (p_ck x2.toNatClampNeg 3)).toInt64))))), (8, .long (((1440 + (p_ck x1.toNatClampNeg 3)).toInt64) * ((1440 + (p_ck x2.toNatClampNeg 3)).toInt64))), (7, .ref (p_c x2.toNatClampNeg)), (6, .ref (p_c x1.toNatClampNeg)), (0, .ref o), (1, .int x1), (2, .int x2), (3, .int x3), (4, .int x4), (5, .int x5)]) hx hb dX6_egg_140 hl (Nat.le_of_ble_eq_true rfl) rfl (fun ls hl => ?_)
                  have K_142 : ∀ (x12_1 : Int64) (x10_2 : Int64) (x8_3 : Int64) (hsh : ¬ x12_1 = 0) (_ : R = (F_X6_egg_142 x5) x12_1 x10_2 x8_3) (ls : Array Slot) (H : Heap) (locs : List Loc) (_ : HS D A s.heap (W6 cI cZ cC cH o t_o t_a_bytes t_a_rows p_o p_a_clocks p_n_o p_n_a_clocks p_n_a_minutes p_n_a_dials a_kept a_o a_a_clocks a_n_o a_n_a_clocks a_n_a_minutes a_n_a_dials b_o b_a_clocks b_n_o b_n_a_clocks b_n_a_minutes b_n_a_dials y_o r_o q_o q_a_clocks q_a_rates q_a_least a_misfits a_shown p_c a_c b_c sifted t_length t_lineCount t_start t_end t_bytes t_rows p_filled p_ck p_n_many p_n_clocks p_n_minutes p_n_dials a_filled a_ck a_n_many a_n_clocks a_n_minutes a_n_dials b_filled b_ck b_n_many b_n_clocks b_n_minutes b_n_dials y_many y_first y_last y_runs r_kind r_set r_dial r_low r_high r_read q_many q_clocks q_rates q_least misfits shown) H locs) (_ : lv_has ls 14 [(12, .long x12_1), (10, .long x10_2), (8, .long x8_3), (7, .ref (p_c x2.toNatClampNeg)), (6, .ref (p_c x1.toNatClampNeg)), (0, .ref o), (1, .int x1), (2, .int x2), (3, .int x3), (4, .int x4), (5, .int x5)]), W p l e { frames := 3, cells := 0, slots := 0, locals := 86 } s m args below meth c H locs 0 0 Q (F0 m 142 ls []) := by
                    intro x12_1 x10_2 x8_3 hsh hF ls H locs hh hl
                    unfold F_X6_egg_142 at hF
                    refine lv_iload hx hb dX6_egg_142 (lv_at hl 10 rfl) ?_
                    refine lv_if_ne (tgt := 152) hx hb dX6_egg_144 (by decide) (fun c_144 => ?_) (fun c_144 => ?_)
                    · replace hF := hF.trans (if_neg c_144)
                      have i_144 : ¬ x5.toInt = 0 := ti_ne c_144
                      refine lv_lload hx hb dX6_egg_152 (lv_at hl 2 rfl) ?_
                      refine lv_lload hx hb dX6_egg_154 (lv_at hl 0 rfl) ?_
                      refine lv_ldiv hx hb dX6_egg_156 (hsh) ?_
                      exact RT _ _ _ _ _ _ hh (rfl) (Or.inr (Or.inl ⟨_, rfl, by rw [hF], dX6_egg_157, rfl⟩))
                    · replace hF := hF.trans (if_pos c_144)
                      have i_144 : x5.toInt = 0 := congrArg Int32.toInt c_144
                      refine lv_lload hx hb dX6_egg_147 (lv_at hl 1 rfl) ?_
                      refine lv_goto (tgt := 154) hx hb dX6_egg_149 (by decide) ?_
                      refine lv_lload hx hb dX6_egg_154 (lv_at hl 0 rfl) ?_
                      refine lv_ldiv hx hb dX6_egg_156 (hsh) ?_
                      exact RT _ _ _ _ _ _ hh (rfl) (Or.inr (Or.inl ⟨_, rfl, by rw [hF], dX6_egg_157, rfl⟩))
                  exact K_142 (F_J9_max_f86c9 1 (F_X6_commonDivisor (F_X6_leastOff p_ck x1.toNatClampNeg x2.toNatClampNeg x3 (x4.toInt64 * (((1440 + (p_ck x1.toNatClampNeg 3)).toInt64) * ((1440 + (p_ck x2.toNatClampNeg 3)).toInt64)))) (((1440 + (p_ck x1.toNatClampNeg 3)).toInt64) * ((1440 + (p_ck x2.toNatClampNeg 3)).toInt64)))) (F_X6_leastOff p_ck x1.toNatClampNeg x2.toNatClampNeg x3 (x4.toInt64 * (((1440 + (p_ck x1.toNatClampNeg 3)).toInt64) * ((1440 + (p_ck x2.toNatClampNeg 3)).toInt64)))) (((1440 + (p_ck x1.toNatClampNeg 3)).toInt64) * ((1440 + (p_ck x2.toNatClampNeg 3)).toInt64)) (max1_ne) hF _ _ _ hh (lv_sub hl [0, 1, 2, 3, 4, 5, 6, 7, 8, 9, 10] rfl)
                · replace hF := hF.trans (if_pos c_83)
                  refine lv_ldc2 (v := (-4)) hx hb KX.2.2.2.1 (KX.2.2.2.2.1 _ (List.mem_of_getElem? (i := 4) rfl)) dX6_egg_86 ?_
                  exact RT _ _ _ _ _ _ hh (rfl) (Or.inr (Or.inl ⟨_, rfl, by rw [hF], dX6_egg_89, rfl⟩))
            · replace hF := hF.trans (if_pos c_63)
              refine lv_ldc2 (v := (-3)) hx hb KX.2.2.2.1 (KX.2.2.2.2.1 _ (List.mem_of_getElem? (i := 3) rfl)) dX6_egg_66 ?_
              exact RT _ _ _ _ _ _ hh (rfl) (Or.inr (Or.inl ⟨_, rfl, by rw [hF], dX6_egg_69, rfl⟩))
