def F_X6_stopped_c104 (x6_2 : Int32) (k_75 : Int32 → Int32 → Int32 → Int32 → Int32 → Int32 × Int32 × Int32 × Int32 × Int32) (r104_7 : Int32 × Int32 × Int32 × Int32) : Int32 × Int32 × Int32 × Int32 × Int32 := (k_75 (x6_2 + 1) r104_7.1 r104_7.2.1 r104_7.2.2.1 r104_7.2.2.2)
def F_X6_stopped_75 (p_ck : Nat → Nat → Int32) (x1 : Int32) (x2 : Int32) (x3 : Int32) : Nat → Int32 → Int32 → Int32 → Int32 → Int32 → Int32 × Int32 × Int32 × Int32 × Int32
  | 0, _, _, _, _, _ => default
  | n + 1, x6_2, w_y_many_3, w_y_first_4, w_y_last_5, w_y_runs_6 => (if 4320 ≤ x6_2 then (F_X4_tell w_y_many_3 w_y_first_4 w_y_last_5 w_y_runs_6 x3, w_y_many_3, w_y_first_4, w_y_last_5, w_y_runs_6) else (if (F_X0_canShow (p_ck x2.toNatClampNeg 0) (p_ck x2.toNatClampNeg 1) (p_ck x2.toNatClampNeg 2) (p_ck x2.toNatClampNeg 3) (p_ck x2.toNatClampNeg 4) x6_2 (p_ck x1.toNatClampNeg 2)) = 0 then ((F_X6_stopped_75 p_ck x1 x2 x3 n) (x6_2 + 1) w_y_many_3 w_y_first_4 w_y_last_5 w_y_runs_6) else (F_X6_stopped_c104 x6_2 (F_X6_stopped_75 p_ck x1 x2 x3 n) (F_X4_add w_y_many_3 w_y_first_4 w_y_last_5 w_y_runs_6 x6_2))))
def F_X6_stopped_c69 (p_ck : Nat → Nat → Int32) (x1 : Int32) (x2 : Int32) (x3 : Int32) (r69_1 : Int32 × Int32 × Int32 × Int32) : Int32 × Int32 × Int32 × Int32 × Int32 := (F_X6_stopped_75 p_ck x1 x2 x3 4321 0 r69_1.1 r69_1.2.1 r69_1.2.2.1 r69_1.2.2.2)
def F_X6_stopped (p_ck : Nat → Nat → Int32) (y_many : Int32) (y_first : Int32) (y_last : Int32) (y_runs : Int32) (x1 : Int32) (x2 : Int32) (x3 : Int32) : Int32 × Int32 × Int32 × Int32 × Int32 := (if tld p_ck x1 = 0 then (if tld p_ck x2 = 0 then ((-2), y_many, y_first, y_last, y_runs) else ((-2), y_many, y_first, y_last, y_runs)) else (if tld p_ck x2 = 0 then ((-2), y_many, y_first, y_last, y_runs) else (if (F_X6_isBelow x3 3) = 0 then ((-3), y_many, y_first, y_last, y_runs) else (if (p_ck x1.toNatClampNeg 0) = 2 then (if (p_ck x2.toNatClampNeg 0) = 2 then ((-4), y_many, y_first, y_last, y_runs) else (F_X6_stopped_c69 p_ck x1 x2 x3 (F_X4_clear))) else ((-4), y_many, y_first, y_last, y_runs)))))
theorem in_X6_stopped_X6 : ∀ x ∈ u_ws RX6 TX6 9, x ∈ wsX6_stopped := by decide +kernel
theorem in_X6_stopped_X0 : ∀ x ∈ u_ws RX0 TX0 6, x ∈ wsX6_stopped := by decide +kernel
set_option maxHeartbeats 2000000 in
set_option maxRecDepth 100000 in
theorem c_X6_stopped (l : Launch) (D : va_G) (cI cZ cC cH : ClassId) (o t_o t_a_bytes t_a_rows p_o p_a_clocks p_n_o p_n_a_clocks p_n_a_minutes p_n_a_dials a_kept a_o a_a_clocks a_n_o a_n_a_clocks a_n_a_minutes a_n_a_dials b_o b_a_clocks b_n_o b_n_a_clocks b_n_a_minutes b_n_a_dials y_o r_o q_o q_a_clocks q_a_rates q_a_least a_misfits a_shown : Nat) (p_c : Nat → Nat) (a_c : Nat → Nat) (b_c : Nat → Nat) (sifted : Int32) (t_length : Int32) (t_lineCount : Int32) (t_start : Int32) (t_end : Int32) (t_bytes : Nat → Int32) (t_rows : Nat → Int32) (p_filled : Int32) (p_ck : Nat → Nat → Int32) (p_n_many : Int32) (p_n_clocks : Nat → Int32) (p_n_minutes : Nat → Int32) (p_n_dials : Nat → Int32) (a_filled : Int32) (a_ck : Nat → Nat → Int32) (a_n_many : Int32) (a_n_clocks : Nat → Int32) (a_n_minutes : Nat → Int32) (a_n_dials : Nat → Int32) (b_filled : Int32) (b_ck : Nat → Nat → Int32) (b_n_many : Int32) (b_n_clocks : Nat → Int32) (b_n_minutes : Nat → Int32) (b_n_dials : Nat → Int32) (y_many : Int32) (y_first : Int32) (y_last : Int32) (y_runs : Int32) (r_kind : Int32) (r_set : Int32) (r_dial : Int32) (r_low : Int32) (r_high : Int32) (r_read : Int32) (q_many : Int32) (q_clocks : Nat → Int32) (q_rates : Nat → Int32) (q_least : Nat → Int32) (misfits : Nat → Int32) (shown : Nat → Int32) (x1 : Int32) (x2 : Int32) (x3 : Int32)  : MC l D (TY cI cZ cC cH) yX6_stopped wsX6_stopped 3 71 [.ref o, .int x1, .int x2, .int x3] (W6 cI cZ cC cH o t_o t_a_bytes t_a_rows p_o p_a_clocks p_n_o p_n_a_clocks p_n_a_minutes p_n_a_dials a_kept a_o a_a_clocks a_n_o a_n_a_clocks a_n_a_minutes a_n_a_dials b_o b_a_clocks b_n_o b_n_a_clocks b_n_a_minutes b_n_a_dials y_o r_o q_o q_a_clocks q_a_rates q_a_least a_misfits a_shown p_c a_c b_c sifted t_length t_lineCount t_start t_end t_bytes t_rows p_filled p_ck p_n_many p_n_clocks p_n_minutes p_n_dials a_filled a_ck a_n_many a_n_clocks a_n_minutes a_n_dials b_filled b_ck b_n_many b_n_clocks b_n_minutes b_n_dials y_many y_first y_last y_runs r_kind r_set r_dial r_low r_high r_read q_many q_clocks q_rates q_least misfits shown) (some (.int ((F_X6_stopped p_ck y_many y_first y_last y_runs x1 x2 x3).1))) (W6 cI cZ cC cH o t_o t_a_bytes t_a_rows p_o p_a_clocks p_n_o p_n_a_clocks p_n_a_minutes p_n_a_dials a_kept a_o a_a_clocks a_n_o a_n_a_clocks a_n_a_minutes a_n_a_dials b_o b_a_clocks b_n_o b_n_a_clocks b_n_a_minutes b_n_a_dials y_o r_o q_o q_a_clocks q_a_rates q_a_least a_misfits a_shown p_c a_c b_c sifted t_length t_lineCount t_start t_end t_bytes t_rows p_filled p_ck p_n_many p_n_clocks p_n_minutes p_n_dials a_filled a_ck a_n_many a_n_clocks a_n_minutes a_n_dials b_filled b_ck b_n_many b_n_clocks b_n_minutes b_n_dials (F_X6_stopped p_ck y_many y_first y_last y_runs x1 x2 x3).2.1 (F_X6_stopped p_ck y_many y_first y_last y_runs x1 x2 x3).2.2.1 (F_X6_stopped p_ck y_many y_first y_last y_runs x1 x2 x3).2.2.2.1 (F_X6_stopped p_ck y_many y_first y_last y_runs x1 x2 x3).2.2.2.2 r_kind r_set r_dial r_low r_high r_read q_many q_clocks q_rates q_least misfits shown) := by
  obtain ⟨R, hF⟩ : ∃ R, R = F_X6_stopped p_ck y_many y_first y_last y_runs x1 x2 x3 := ⟨_, rfl⟩
  rw [← hF]
  refine MC.of (cc := cX6_stopped) (maxL := 7) (ret := (some .int)) RX6 rfl (by decide +kernel) rfl (Nat.le_of_ble_eq_true rfl) ?_
  intro p e s m args below meth c A Q KX RT hh ls hl
  have z0 : (0 : Int32).toInt = 0 := rfl
  have z1 : (1 : Int32).toInt = 1 := rfl
  have zm : (-1 : Int32).toInt = -1 := rfl
  have hx := KX.1
  have hb := KX.2.1
  have hl : lv_has ls 7 [(0, .ref o), (1, .int x1), (2, .int x2), (3, .int x3)] := hl
  unfold F_X6_stopped at hF
  refine lv_aload_n hx hb dX6_stopped_0 rfl (lv_at hl 0 rfl) ?_
  refine g_get KX hh in_X6_stopped_X6 0 rfl rfl 1 (by decide) rfl (List.mem_of_getElem? (i := 1) rfl) dX6_stopped_1 ?_
  refine lv_iload_n hx hb dX6_stopped_4 rfl (lv_at hl 1 rfl) ?_
  refine g_callV (As := [.int x1]) (rest := []) KX rfl ⟨Nat.le_of_ble_eq_true rfl, Nat.le_of_ble_eq_true rfl⟩ hh hl (c_X1_toldClock l D cI cZ cC cH p_o p_a_clocks p_n_o p_n_a_clocks p_n_a_minutes p_n_a_dials p_c p_filled p_ck p_n_many p_n_clocks p_n_minutes p_n_dials x1 ) (JN.ro [4, 5, 6, 7, 8, 9, 10, 11, 12, 13, 14, 15, 16, 17] rfl (by decide +kernel)) 1 gX6_stopped_X1_toldClock rfl (by decide +kernel) ⟨Nat.le_of_ble_eq_true rfl, Nat.le_of_ble_eq_true rfl⟩ 4 1 rfl rfl rfl rfl rfl (Nat.le_of_ble_eq_true rfl) dX6_stopped_5 (fun H locs hh => ?_)
  rcases told_cases p_ck p_c x1 with ⟨c_5, e_5⟩ | ⟨c_5, e_5⟩
  · refine W.eq (g2 := F0 m 8 ls [.null]) (by rw [e_5]; rfl) ?_
    replace hF := hF.trans (if_pos c_5)
    refine lv_astoreN (lv' := [(4, .null), (0, .ref o), (1, .int x1), (2, .int x2), (3, .int x3)]) hx hb dX6_stopped_8 hl (Nat.le_of_ble_eq_true rfl) rfl (fun ls hl => ?_)
    refine lv_aload_n hx hb dX6_stopped_10 rfl (lv_at hl 1 rfl) ?_
    refine g_get KX hh in_X6_stopped_X6 0 rfl rfl 1 (by decide) rfl (List.mem_of_getElem? (i := 1) rfl) dX6_stopped_11 ?_
    refine lv_iload_n hx hb dX6_stopped_14 rfl (lv_at hl 3 rfl) ?_
    refine g_callV (As := [.int x2]) (rest := []) KX rfl ⟨Nat.le_of_ble_eq_true rfl, Nat.le_of_ble_eq_true rfl⟩ hh hl (c_X1_toldClock l D cI cZ cC cH p_o p_a_clocks p_n_o p_n_a_clocks p_n_a_minutes p_n_a_dials p_c p_filled p_ck p_n_many p_n_clocks p_n_minutes p_n_dials x2 ) (JN.ro [4, 5, 6, 7, 8, 9, 10, 11, 12, 13, 14, 15, 16, 17] rfl (by decide +kernel)) 1 gX6_stopped_X1_toldClock rfl (by decide +kernel) ⟨Nat.le_of_ble_eq_true rfl, Nat.le_of_ble_eq_true rfl⟩ 4 1 rfl rfl rfl rfl rfl (Nat.le_of_ble_eq_true rfl) dX6_stopped_15 (fun H locs hh => ?_)
    rcases told_cases p_ck p_c x2 with ⟨c_15, e_15⟩ | ⟨c_15, e_15⟩
    · refine W.eq (g2 := F0 m 18 ls [.null]) (by rw [e_15]; rfl) ?_
      replace hF := hF.trans (if_pos c_15)
      refine lv_astoreN (lv' := [(5, .null), (4, .null), (0, .ref o), (1, .int x1), (2, .int x2), (3, .int x3)]) hx hb dX6_stopped_18 hl (Nat.le_of_ble_eq_true rfl) rfl (fun ls hl => ?_)
      refine lv_aloadN hx hb dX6_stopped_20 (lv_at hl 1 rfl) ?_
      refine lv_ifnullN (tgt := 30) hx hb dX6_stopped_22 (by decide) ?_
      refine lv_bipush (v := (-2)) hx hb dX6_stopped_30 (by decide) ?_
      exact RT _ _ _ _ _ _ hh (by rw [hF]) (Or.inl ⟨_, rfl, by rw [hF], dX6_stopped_32, Or.inl rfl⟩)
    · refine W.eq (g2 := F0 m 18 ls [.ref (p_c x2.toNatClampNeg)]) (by rw [e_15]; rfl) ?_
      replace hF := hF.trans (if_neg c_15)
      obtain ⟨k0_15, k1_15⟩ := tld_in c_15
      refine lv_astore (lv' := [(5, .ref (p_c x2.toNatClampNeg)), (4, .null), (0, .ref o), (1, .int x1), (2, .int x2), (3, .int x3)]) hx hb dX6_stopped_18 hl (Nat.le_of_ble_eq_true rfl) rfl (fun ls hl => ?_)
      refine lv_aloadN hx hb dX6_stopped_20 (lv_at hl 1 rfl) ?_
      refine lv_ifnullN (tgt := 30) hx hb dX6_stopped_22 (by decide) ?_
      refine lv_bipush (v := (-2)) hx hb dX6_stopped_30 (by decide) ?_
      exact RT _ _ _ _ _ _ hh (by rw [hF]) (Or.inl ⟨_, rfl, by rw [hF], dX6_stopped_32, Or.inl rfl⟩)
  · refine W.eq (g2 := F0 m 8 ls [.ref (p_c x1.toNatClampNeg)]) (by rw [e_5]; rfl) ?_
    replace hF := hF.trans (if_neg c_5)
    obtain ⟨k0_5, k1_5⟩ := tld_in c_5
    refine lv_astore (lv' := [(4, .ref (p_c x1.toNatClampNeg)), (0, .ref o), (1, .int x1), (2, .int x2), (3, .int x3)]) hx hb dX6_stopped_8 hl (Nat.le_of_ble_eq_true rfl) rfl (fun ls hl => ?_)
    refine lv_aload_n hx hb dX6_stopped_10 rfl (lv_at hl 1 rfl) ?_
    refine g_get KX hh in_X6_stopped_X6 0 rfl rfl 1 (by decide) rfl (List.mem_of_getElem? (i := 1) rfl) dX6_stopped_11 ?_
    refine lv_iload_n hx hb dX6_stopped_14 rfl (lv_at hl 3 rfl) ?_
    refine g_callV (As := [.int x2]) (rest := []) KX rfl ⟨Nat.le_of_ble_eq_true rfl, Nat.le_of_ble_eq_true rfl⟩ hh hl (c_X1_toldClock l D cI cZ cC cH p_o p_a_clocks p_n_o p_n_a_clocks p_n_a_minutes p_n_a_dials p_c p_filled p_ck p_n_many p_n_clocks p_n_minutes p_n_dials x2 ) (JN.ro [4, 5, 6, 7, 8, 9, 10, 11, 12, 13, 14, 15, 16, 17] rfl (by decide +kernel)) 1 gX6_stopped_X1_toldClock rfl (by decide +kernel) ⟨Nat.le_of_ble_eq_true rfl, Nat.le_of_ble_eq_true rfl⟩ 4 1 rfl rfl rfl rfl rfl (Nat.le_of_ble_eq_true rfl) dX6_stopped_15 (fun H locs hh => ?_)
    rcases told_cases p_ck p_c x2 with ⟨c_15, e_15⟩ | ⟨c_15, e_15⟩
    · refine W.eq (g2 := F0 m 18 ls [.null]) (by rw [e_15]; rfl) ?_
      replace hF := hF.trans (if_pos c_15)
      refine lv_astoreN (lv' := [(5, .null), (4, .ref (p_c x1.toNatClampNeg)), (0, .ref o), (1, .int x1), (2, .int x2), (3, .int x3)]) hx hb dX6_stopped_18 hl (Nat.le_of_ble_eq_true rfl) rfl (fun ls hl => ?_)
      refine lv_aload hx hb dX6_stopped_20 (lv_at hl 1 rfl) ?_
      refine lv_ifnull hx hb dX6_stopped_22 ?_
      refine lv_aloadN hx hb dX6_stopped_25 (lv_at hl 0 rfl) ?_
      refine lv_ifnonnullN hx hb dX6_stopped_27 ?_
      refine lv_bipush (v := (-2)) hx hb dX6_stopped_30 (by decide) ?_
      exact RT _ _ _ _ _ _ hh (by rw [hF]) (Or.inl ⟨_, rfl, by rw [hF], dX6_stopped_32, Or.inl rfl⟩)
    · refine W.eq (g2 := F0 m 18 ls [.ref (p_c x2.toNatClampNeg)]) (by rw [e_15]; rfl) ?_
      replace hF := hF.trans (if_neg c_15)
      obtain ⟨k0_15, k1_15⟩ := tld_in c_15
      refine lv_astore (lv' := [(5, .ref (p_c x2.toNatClampNeg)), (4, .ref (p_c x1.toNatClampNeg)), (0, .ref o), (1, .int x1), (2, .int x2), (3, .int x3)]) hx hb dX6_stopped_18 hl (Nat.le_of_ble_eq_true rfl) rfl (fun ls hl => ?_)
      refine lv_aload hx hb dX6_stopped_20 (lv_at hl 1 rfl) ?_
      refine lv_ifnull hx hb dX6_stopped_22 ?_
      refine lv_aload hx hb dX6_stopped_25 (lv_at hl 0 rfl) ?_
      refine lv_ifnonnull (tgt := 33) hx hb dX6_stopped_27 (by decide) ?_
      refine lv_iload_n hx hb dX6_stopped_33 rfl (lv_at hl 5 rfl) ?_
      refine lv_iconst (v := 3) hx hb dX6_stopped_34 (by decide) ?_
      refine g_callS (As := [.int x3, .int 3]) (rest := []) KX rfl ⟨Nat.le_of_ble_eq_true rfl, Nat.le_of_ble_eq_true rfl⟩ hh hl (c_X6_isBelow l D cI cZ cC cH  x3 3 ) JN.no 2 gX6_stopped_X6_isBelow rfl (by decide +kernel) ⟨Nat.le_of_ble_eq_true rfl, Nat.le_of_ble_eq_true rfl⟩ rfl rfl (Nat.le_of_ble_eq_true rfl) dX6_stopped_35 (fun H locs hh => ?_)
      refine W.eq (g2 := F0 m 38 ls [.int (F_X6_isBelow x3 3)]) rfl ?_
      refine lv_if_ne (tgt := 44) hx hb dX6_stopped_38 (by decide) (fun c_38 => ?_) (fun c_38 => ?_)
      · replace hF := hF.trans (if_neg c_38)
        obtain ⟨k0_38, k1_38⟩ : (0 : Int) ≤ x3.toInt ∧ x3.toInt < 3 := X6_isBelow_in c_38
        refine lv_aload hx hb dX6_stopped_44 (lv_at hl 1 rfl) ?_
        refine g_get KX hh in_X6_stopped_X0 (6 + x1.toNatClampNeg) (clk_W6_p (tn_lt (k := x1) (n := 8) (by omega) (by omega))) rfl 0 (by decide) rfl (List.mem_of_getElem? (i := 2) rfl) dX6_stopped_46 ?_
        refine lv_iconst (v := 2) hx hb dX6_stopped_49 (by decide) ?_
        refine lv_icmp_ne (tgt := 62) hx hb dX6_stopped_50 (by decide) (fun c_50 => ?_) (fun c_50 => ?_)
        · replace hF := hF.trans (if_neg c_50)
          refine lv_bipush (v := (-4)) hx hb dX6_stopped_62 (by decide) ?_
          exact RT _ _ _ _ _ _ hh (by rw [hF]) (Or.inl ⟨_, rfl, by rw [hF], dX6_stopped_64, Or.inl rfl⟩)
        · replace hF := hF.trans (if_pos c_50)
          refine lv_aload hx hb dX6_stopped_53 (lv_at hl 0 rfl) ?_
          refine g_get KX hh in_X6_stopped_X0 (6 + x2.toNatClampNeg) (clk_W6_p (tn_lt (k := x2) (n := 8) (by omega) (by omega))) rfl 0 (by decide) rfl (List.mem_of_getElem? (i := 2) rfl) dX6_stopped_55 ?_
          refine lv_iconst (v := 2) hx hb dX6_stopped_58 (by decide) ?_
          refine lv_icmp_ne (tgt := 65) hx hb dX6_stopped_59 (by decide) (fun c_59 => ?_) (fun c_59 => ?_)
          · replace hF := hF.trans (if_neg c_59)
            refine lv_aload_n hx hb dX6_stopped_65 rfl (lv_at hl 2 rfl) ?_
            refine g_get KX hh in_X6_stopped_X6 0 rfl rfl 3 (by decide) rfl (List.mem_of_getElem? (i := 3) rfl) dX6_stopped_66 ?_
            refine g_callV (As := []) (rest := []) KX rfl ⟨Nat.le_of_ble_eq_true rfl, Nat.le_of_ble_eq_true rfl⟩ hh hl (c_X4_clear l D cI cZ cC cH y_o y_many y_first y_last y_runs  ) (JN.up (ws1 := (W6 cI cZ cC cH o t_o t_a_bytes t_a_rows p_o p_a_clocks p_n_o p_n_a_clocks p_n_a_minutes p_n_a_dials a_kept a_o a_a_clocks a_n_o a_n_a_clocks a_n_a_minutes a_n_a_dials b_o b_a_clocks b_n_o b_n_a_clocks b_n_a_minutes b_n_a_dials y_o r_o q_o q_a_clocks q_a_rates q_a_least a_misfits a_shown p_c a_c b_c sifted t_length t_lineCount t_start t_end t_bytes t_rows p_filled p_ck p_n_many p_n_clocks p_n_minutes p_n_dials a_filled a_ck a_n_many a_n_clocks a_n_minutes a_n_dials b_filled b_ck b_n_many b_n_clocks b_n_minutes b_n_dials ((F_X4_clear).1) ((F_X4_clear).2.1) ((F_X4_clear).2.2.1) ((F_X4_clear).2.2.2) r_kind r_set r_dial r_low r_high r_read q_many q_clocks q_rates q_least misfits shown)) [47] rfl rfl rfl rfl rfl) 0 gX6_stopped_X4_clear rfl (by decide +kernel) ⟨Nat.le_of_ble_eq_true rfl, Nat.le_of_ble_eq_true rfl⟩ 47 4 rfl rfl rfl rfl rfl (Nat.le_of_ble_eq_true rfl) dX6_stopped_69 (fun H locs hh => ?_)
            refine W.eq (g2 := F0 m 72 ls []) rfl ?_
            generalize q_69 : F_X4_clear = r69_1 at hh hF ⊢
            unfold F_X6_stopped_c69 at hF
            refine lv_iconst (v := 0) hx hb dX6_stopped_72 (by decide) ?_
            refine lv_istore (lv' := [(6, .int 0), (5, .ref (p_c x2.toNatClampNeg)), (4, .ref (p_c x1.toNatClampNeg)), (0, .ref o), (1, .int x1), (2, .int x2), (3, .int x3)]) hx hb dX6_stopped_73 hl (Nat.le_of_ble_eq_true rfl) rfl (fun ls hl => ?_)
            have L_75 : ∀ (n_75 : Nat) (x6_2 : Int32) (w_y_many_3 : Int32) (w_y_first_4 : Int32) (w_y_last_5 : Int32) (w_y_runs_6 : Int32) (i0_75 : 0 ≤ x6_2.toInt) (i1_75 : x6_2.toInt ≤ 4320) (_ : (4320 - x6_2.toInt).toNat < n_75) (_ : R = (F_X6_stopped_75 p_ck x1 x2 x3) n_75 x6_2 w_y_many_3 w_y_first_4 w_y_last_5 w_y_runs_6) (ls : Array Slot) (H : Heap) (locs : List Loc) (_ : HS D A s.heap (W6 cI cZ cC cH o t_o t_a_bytes t_a_rows p_o p_a_clocks p_n_o p_n_a_clocks p_n_a_minutes p_n_a_dials a_kept a_o a_a_clocks a_n_o a_n_a_clocks a_n_a_minutes a_n_a_dials b_o b_a_clocks b_n_o b_n_a_clocks b_n_a_minutes b_n_a_dials y_o r_o q_o q_a_clocks q_a_rates q_a_least a_misfits a_shown p_c a_c b_c sifted t_length t_lineCount t_start t_end t_bytes t_rows p_filled p_ck p_n_many p_n_clocks p_n_minutes p_n_dials a_filled a_ck a_n_many a_n_clocks a_n_minutes a_n_dials b_filled b_ck b_n_many b_n_clocks b_n_minutes b_n_dials w_y_many_3 w_y_first_4 w_y_last_5 w_y_runs_6 r_kind r_set r_dial r_low r_high r_read q_many q_clocks q_rates q_least misfits shown) H locs) (_ : lv_has ls 7 [(6, .int x6_2), (5, .ref (p_c x2.toNatClampNeg)), (4, .ref (p_c x1.toNatClampNeg)), (0, .ref o), (1, .int x1), (2, .int x2), (3, .int x3)]), W p l e { frames := 3, cells := 0, slots := 0, locals := 71 } s m args below meth c H locs 0 0 Q (F0 m 75 ls []) := by
              intro n_75
              induction n_75 with
              | zero => intro x6_2 w_y_many_3 w_y_first_4 w_y_last_5 w_y_runs_6 i0_75 i1_75 hm; exact absurd hm (Nat.not_lt_zero _)
              | succ n_75 ih_75 =>
                intro x6_2 w_y_many_3 w_y_first_4 w_y_last_5 w_y_runs_6 i0_75 i1_75 hm_75 hF ls H locs hh hl
                rw [F_X6_stopped_75.eq_2] at hF
                refine lv_iload hx hb dX6_stopped_75 (lv_at hl 0 rfl) ?_
                refine lv_sipush (v := 4320) hx hb dX6_stopped_77 (by decide) ?_
                refine lv_icmp_ge (tgt := 113) hx hb dX6_stopped_80 (by decide) (fun c_80 => ?_) (fun c_80 => ?_)
                · replace hF := hF.trans (if_pos c_80)
                  have i_80 : 4320 ≤ x6_2.toInt := ti_le.mp c_80
                  refine lv_aload_n hx hb dX6_stopped_113 rfl (lv_at hl 3 rfl) ?_
                  refine g_get KX hh in_X6_stopped_X6 0 rfl rfl 3 (by decide) rfl (List.mem_of_getElem? (i := 3) rfl) dX6_stopped_114 ?_
                  refine lv_iload_n hx hb dX6_stopped_117 rfl (lv_at hl 6 rfl) ?_
                  refine g_callV (As := [.int x3]) (rest := []) KX rfl ⟨Nat.le_of_ble_eq_true rfl, Nat.le_of_ble_eq_true rfl⟩ hh hl (c_X4_tell l D cI cZ cC cH y_o w_y_many_3 w_y_first_4 w_y_last_5 w_y_runs_6 x3 ) (JN.ro [47] rfl rfl) 1 gX6_stopped_X4_tell rfl (by decide +kernel) ⟨Nat.le_of_ble_eq_true rfl, Nat.le_of_ble_eq_true rfl⟩ 47 4 rfl rfl rfl rfl rfl (Nat.le_of_ble_eq_true rfl) dX6_stopped_118 (fun H locs hh => ?_)
                  refine W.eq (g2 := F0 m 121 ls [.int (F_X4_tell w_y_many_3 w_y_first_4 w_y_last_5 w_y_runs_6 x3)]) rfl ?_
                  exact RT _ _ _ _ _ _ hh (by rw [hF]) (Or.inl ⟨_, rfl, by rw [hF], dX6_stopped_121, Or.inl rfl⟩)
                · replace hF := hF.trans (if_neg c_80)
                  have i_80 : x6_2.toInt < 4320 := ti_nle c_80
                  refine lv_aload hx hb dX6_stopped_83 (lv_at hl 1 rfl) ?_
                  refine lv_iload hx hb dX6_stopped_85 (lv_at hl 0 rfl) ?_
                  refine lv_aload hx hb dX6_stopped_87 (lv_at hl 2 rfl) ?_
                  refine g_get KX hh in_X6_stopped_X0 (6 + x1.toNatClampNeg) (clk_W6_p (tn_lt (k := x1) (n := 8) (by omega) (by omega))) rfl 2 (by decide) rfl (List.mem_of_getElem? (i := 4) rfl) dX6_stopped_89 ?_
                  refine g_callV (As := [.int x6_2, .int (p_ck x1.toNatClampNeg 2)]) (rest := []) KX rfl ⟨Nat.le_of_ble_eq_true rfl, Nat.le_of_ble_eq_true rfl⟩ hh hl (c_X0_canShow l D cI cZ cC cH (p_c x2.toNatClampNeg) (p_ck x2.toNatClampNeg 0) (p_ck x2.toNatClampNeg 1) (p_ck x2.toNatClampNeg 2) (p_ck x2.toNatClampNeg 3) (p_ck x2.toNatClampNeg 4) (p_ck x2.toNatClampNeg 5) x6_2 (p_ck x1.toNatClampNeg 2) ) (JN.ro [6 + x2.toNatClampNeg] (by first | (simp only [List.map_cons, List.map_nil, clk_W6_p (tn_lt (k := x2) (n := 8) (by omega) (by omega))]; done) | (simp only [List.map_cons, List.map_nil, clk_W6_p (tn_lt (k := x2) (n := 8) (by omega) (by omega))]; rfl)) rfl) 2 gX6_stopped_X0_canShow rfl (by decide +kernel) ⟨Nat.le_of_ble_eq_true rfl, Nat.le_of_ble_eq_true rfl⟩ (6 + x2.toNatClampNeg) 0 rfl rfl (clk_W6_p (tn_lt (k := x2) (n := 8) (by omega) (by omega))) rfl rfl (Nat.le_of_ble_eq_true rfl) dX6_stopped_92 (fun H locs hh => ?_)
                  refine W.eq (g2 := F0 m 95 ls [.int (F_X0_canShow (p_ck x2.toNatClampNeg 0) (p_ck x2.toNatClampNeg 1) (p_ck x2.toNatClampNeg 2) (p_ck x2.toNatClampNeg 3) (p_ck x2.toNatClampNeg 4) x6_2 (p_ck x1.toNatClampNeg 2))]) rfl ?_
                  refine lv_if_eq (tgt := 107) hx hb dX6_stopped_95 (by decide) (fun c_95 => ?_) (fun c_95 => ?_)
                  · replace hF := hF.trans (if_pos c_95)
                    refine lv_iinc (v := x6_2 + 1) (lv' := [(6, .int (x6_2 + 1)), (5, .ref (p_c x2.toNatClampNeg)), (4, .ref (p_c x1.toNatClampNeg)), (0, .ref o), (1, .int x1), (2, .int x2), (3, .int x3)]) hx hb dX6_stopped_107 hl (k := 0) rfl rfl (Nat.le_of_ble_eq_true rfl) rfl (fun ls hl => ?_)
                    refine lv_goto (tgt := 75) hx hb dX6_stopped_110 (by decide) ?_
                    have e_inc : (x6_2 + 1).toInt = x6_2.toInt + 1 := ti_inc (by omega)
                    exact ih_75 (x6_2 + 1) w_y_many_3 w_y_first_4 w_y_last_5 w_y_runs_6 (by first | with_reducible assumption | omega | decide) (by first | with_reducible assumption | omega | decide) (by omega) hF _ _ _ hh (lv_sub hl [0, 1, 2, 3, 4, 5, 6] rfl)
                  · replace hF := hF.trans (if_neg c_95)
                    refine lv_aload_n hx hb dX6_stopped_98 rfl (lv_at hl 3 rfl) ?_
                    refine g_get KX hh in_X6_stopped_X6 0 rfl rfl 3 (by decide) rfl (List.mem_of_getElem? (i := 3) rfl) dX6_stopped_99 ?_
                    refine lv_iload hx hb dX6_stopped_102 (lv_at hl 0 rfl) ?_
                    refine g_callV (As := [.int x6_2]) (rest := []) KX rfl ⟨Nat.le_of_ble_eq_true rfl, Nat.le_of_ble_eq_true rfl⟩ hh hl (c_X4_add l D cI cZ cC cH y_o w_y_many_3 w_y_first_4 w_y_last_5 w_y_runs_6 x6_2 ) (JN.up (ws1 := (W6 cI cZ cC cH o t_o t_a_bytes t_a_rows p_o p_a_clocks p_n_o p_n_a_clocks p_n_a_minutes p_n_a_dials a_kept a_o a_a_clocks a_n_o a_n_a_clocks a_n_a_minutes a_n_a_dials b_o b_a_clocks b_n_o b_n_a_clocks b_n_a_minutes b_n_a_dials y_o r_o q_o q_a_clocks q_a_rates q_a_least a_misfits a_shown p_c a_c b_c sifted t_length t_lineCount t_start t_end t_bytes t_rows p_filled p_ck p_n_many p_n_clocks p_n_minutes p_n_dials a_filled a_ck a_n_many a_n_clocks a_n_minutes a_n_dials b_filled b_ck b_n_many b_n_clocks b_n_minutes b_n_dials ((F_X4_add w_y_many_3 w_y_first_4 w_y_last_5 w_y_runs_6 x6_2).1) ((F_X4_add w_y_many_3 w_y_first_4 w_y_last_5 w_y_runs_6 x6_2).2.1) ((F_X4_add w_y_many_3 w_y_first_4 w_y_last_5 w_y_runs_6 x6_2).2.2.1) ((F_X4_add w_y_many_3 w_y_first_4 w_y_last_5 w_y_runs_6 x6_2).2.2.2) r_kind r_set r_dial r_low r_high r_read q_many q_clocks q_rates q_least misfits shown)) [47] rfl rfl rfl rfl rfl) 1 gX6_stopped_X4_add rfl (by decide +kernel) ⟨Nat.le_of_ble_eq_true rfl, Nat.le_of_ble_eq_true rfl⟩ 47 4 rfl rfl rfl rfl rfl (Nat.le_of_ble_eq_true rfl) dX6_stopped_104 (fun H locs hh => ?_)
                    refine W.eq (g2 := F0 m 107 ls []) rfl ?_
                    generalize q_104 : F_X4_add w_y_many_3 w_y_first_4 w_y_last_5 w_y_runs_6 x6_2 = r104_7 at hh hF ⊢
                    unfold F_X6_stopped_c104 at hF
                    refine lv_iinc (v := x6_2 + 1) (lv' := [(6, .int (x6_2 + 1)), (5, .ref (p_c x2.toNatClampNeg)), (4, .ref (p_c x1.toNatClampNeg)), (0, .ref o), (1, .int x1), (2, .int x2), (3, .int x3)]) hx hb dX6_stopped_107 hl (k := 0) rfl rfl (Nat.le_of_ble_eq_true rfl) rfl (fun ls hl => ?_)
                    refine lv_goto (tgt := 75) hx hb dX6_stopped_110 (by decide) ?_
                    have e_inc : (x6_2 + 1).toInt = x6_2.toInt + 1 := ti_inc (by omega)
                    exact ih_75 (x6_2 + 1) r104_7.1 r104_7.2.1 r104_7.2.2.1 r104_7.2.2.2 (by first | with_reducible assumption | omega | decide) (by first | with_reducible assumption | omega | decide) (by omega) hF _ _ _ hh (lv_sub hl [0, 1, 2, 3, 4, 5, 6] rfl)
            exact L_75 4321 0 r69_1.1 r69_1.2.1 r69_1.2.2.1 r69_1.2.2.2 (by first | with_reducible assumption | omega | decide) (by first | with_reducible assumption | omega | decide) (by first | omega | decide | (simp; done)) hF _ _ _ hh (lv_sub hl [0, 1, 2, 3, 4, 5, 6] rfl)
          · replace hF := hF.trans (if_pos c_59)
            refine lv_bipush (v := (-4)) hx hb dX6_stopped_62 (by decide) ?_
            exact RT _ _ _ _ _ _ hh (by rw [hF]) (Or.inl ⟨_, rfl, by rw [hF], dX6_stopped_64, Or.inl rfl⟩)
      · replace hF := hF.trans (if_pos c_38)
        refine lv_bipush (v := (-3)) hx hb dX6_stopped_41 (by decide) ?_
        exact RT _ _ _ _ _ _ hh (by rw [hF]) (Or.inl ⟨_, rfl, by rw [hF], dX6_stopped_43, Or.inl rfl⟩)
def F_X6_setBy_c187 (p_ck : Nat → Nat → Int32) (x2 : Int32) (x7_3 : Int32) (k_107 : Int32 → Int32 → Int32 → Int32 → Int32 → Int32 → Int32 → Int32 × Int32 × Int32 × Int32 × Int32 × Int32 × Int32 × Int32 × Int32 × Int32 × Int32) (r187_10 : Int32 × Int32 × Int32 × Int32) : Int32 × Int32 × Int32 × Int32 × Int32 × Int32 × Int32 × Int32 × Int32 × Int32 × Int32 := (k_107 (x7_3 + 1) r187_10.1 r187_10.2.1 r187_10.2.2.1 r187_10.2.2.2 x7_3 ((F_J9_floorMod_7cf53 (F_X0_handAt (p_ck x2.toNatClampNeg 0) (p_ck x2.toNatClampNeg 1) (p_ck x2.toNatClampNeg 2) x7_3 (p_ck x2.toNatClampNeg 3)) 1036800) / 1440))
def F_X6_setBy_107 (p_ck : Nat → Nat → Int32) (x1 : Int32) (x2 : Int32) (x3 : Int32) (x4 : Int32) (r94_1 : Int32 × Int32 × Int32 × Int32 × Int32 × Int32) : Nat → Int32 → Int32 → Int32 → Int32 → Int32 → Int32 → Int32 → Int32 × Int32 × Int32 × Int32 × Int32 × Int32 × Int32 × Int32 × Int32 × Int32 × Int32
  | 0, _, _, _, _, _, _, _ => default
  | n + 1, x7_3, w_y_many_4, w_y_first_5, w_y_last_6, w_y_runs_7, w_r_set_8, w_r_dial_9 => (if x3 < x7_3 then (F_X4_tell w_y_many_4 w_y_first_5 w_y_last_6 w_y_runs_7 x4, w_y_many_4, w_y_first_5, w_y_last_6, w_y_runs_7, r94_1.1, w_r_set_8, w_r_dial_9, r94_1.2.2.2.1, r94_1.2.2.2.2.1, r94_1.2.2.2.2.2) else (if ((F_J9_floorMod_7cf53 (F_X0_handAt (p_ck x2.toNatClampNeg 0) (p_ck x2.toNatClampNeg 1) (p_ck x2.toNatClampNeg 2) x7_3 (p_ck x2.toNatClampNeg 3)) 1036800) - (F_J9_floorMod_7cf53 (F_X0_handAt (p_ck x2.toNatClampNeg 0) (p_ck x2.toNatClampNeg 1) (p_ck x2.toNatClampNeg 2) x7_3 (p_ck x2.toNatClampNeg 3)) 1036800) / 86400 * 86400) = 0 then (if (F_X0_canShow r94_1.1 x7_3 ((F_J9_floorMod_7cf53 (F_X0_handAt (p_ck x2.toNatClampNeg 0) (p_ck x2.toNatClampNeg 1) (p_ck x2.toNatClampNeg 2) x7_3 (p_ck x2.toNatClampNeg 3)) 1036800) / 1440) r94_1.2.2.2.1 r94_1.2.2.2.2.1 x3 (p_ck x1.toNatClampNeg 5)) = 0 then ((F_X6_setBy_107 p_ck x1 x2 x3 x4 r94_1 n) (x7_3 + 1) w_y_many_4 w_y_first_5 w_y_last_6 w_y_runs_7 x7_3 ((F_J9_floorMod_7cf53 (F_X0_handAt (p_ck x2.toNatClampNeg 0) (p_ck x2.toNatClampNeg 1) (p_ck x2.toNatClampNeg 2) x7_3 (p_ck x2.toNatClampNeg 3)) 1036800) / 1440)) else (F_X6_setBy_c187 p_ck x2 x7_3 (F_X6_setBy_107 p_ck x1 x2 x3 x4 r94_1 n) (F_X4_add w_y_many_4 w_y_first_5 w_y_last_6 w_y_runs_7 x7_3))) else ((F_X6_setBy_107 p_ck x1 x2 x3 x4 r94_1 n) (x7_3 + 1) w_y_many_4 w_y_first_5 w_y_last_6 w_y_runs_7 w_r_set_8 w_r_dial_9)))
def F_X6_setBy_c101 (p_ck : Nat → Nat → Int32) (x1 : Int32) (x2 : Int32) (x3 : Int32) (x4 : Int32) (r94_1 : Int32 × Int32 × Int32 × Int32 × Int32 × Int32) (r101_2 : Int32 × Int32 × Int32 × Int32) : Int32 × Int32 × Int32 × Int32 × Int32 × Int32 × Int32 × Int32 × Int32 × Int32 × Int32 := (F_X6_setBy_107 p_ck x1 x2 x3 x4 r94_1 4321 0 r101_2.1 r101_2.2.1 r101_2.2.2.1 r101_2.2.2.2 r94_1.2.1 r94_1.2.2.1)
def F_X6_setBy_c94 (p_ck : Nat → Nat → Int32) (x1 : Int32) (x2 : Int32) (x3 : Int32) (x4 : Int32) (r94_1 : Int32 × Int32 × Int32 × Int32 × Int32 × Int32) : Int32 × Int32 × Int32 × Int32 × Int32 × Int32 × Int32 × Int32 × Int32 × Int32 × Int32 := (F_X6_setBy_c101 p_ck x1 x2 x3 x4 r94_1 (F_X4_clear))
def F_X6_setBy (p_ck : Nat → Nat → Int32) (y_many : Int32) (y_first : Int32) (y_last : Int32) (y_runs : Int32) (r_kind : Int32) (r_set : Int32) (r_dial : Int32) (r_low : Int32) (r_high : Int32) (r_read : Int32) (x1 : Int32) (x2 : Int32) (x3 : Int32) (x4 : Int32) : Int32 × Int32 × Int32 × Int32 × Int32 × Int32 × Int32 × Int32 × Int32 × Int32 × Int32 := (if tld p_ck x1 = 0 then (if tld p_ck x2 = 0 then ((-2), y_many, y_first, y_last, y_runs, r_kind, r_set, r_dial, r_low, r_high, r_read) else ((-2), y_many, y_first, y_last, y_runs, r_kind, r_set, r_dial, r_low, r_high, r_read)) else (if tld p_ck x2 = 0 then ((-2), y_many, y_first, y_last, y_runs, r_kind, r_set, r_dial, r_low, r_high, r_read) else (if x1 = x2 then ((-3), y_many, y_first, y_last, y_runs, r_kind, r_set, r_dial, r_low, r_high, r_read) else (if (F_X6_isBelow x3 4320) = 0 then ((-3), y_many, y_first, y_last, y_runs, r_kind, r_set, r_dial, r_low, r_high, r_read) else (if (F_X6_isBelow x4 2) = 0 then ((-3), y_many, y_first, y_last, y_runs, r_kind, r_set, r_dial, r_low, r_high, r_read) else (if (p_ck x1.toNatClampNeg 0) = 0 then (if (p_ck x1.toNatClampNeg 5) = (-1) then ((-4), y_many, y_first, y_last, y_runs, r_kind, r_set, r_dial, r_low, r_high, r_read) else (if (F_X0_runsByOneRate (p_ck x2.toNatClampNeg 0) (p_ck x2.toNatClampNeg 3) (p_ck x2.toNatClampNeg 4)) = 0 then ((-4), y_many, y_first, y_last, y_runs, r_kind, r_set, r_dial, r_low, r_high, r_read) else (F_X6_setBy_c94 p_ck x1 x2 x3 x4 (F_X0_copy (p_ck x1.toNatClampNeg 0) (p_ck x1.toNatClampNeg 1) (p_ck x1.toNatClampNeg 2) (p_ck x1.toNatClampNeg 3) (p_ck x1.toNatClampNeg 4) (p_ck x1.toNatClampNeg 5))))) else ((-4), y_many, y_first, y_last, y_runs, r_kind, r_set, r_dial, r_low, r_high, r_read)))))))
theorem in_X6_setBy_X6 : ∀ x ∈ u_ws RX6 TX6 9, x ∈ wsX6_setBy := by decide +kernel
theorem in_X6_setBy_X0 : ∀ x ∈ u_ws RX0 TX0 6, x ∈ wsX6_setBy := by decide +kernel
set_option maxHeartbeats 2000000 in
set_option maxRecDepth 100000 in
theorem c_X6_setBy (l : Launch) (D : va_G) (cI cZ cC cH : ClassId) (o t_o t_a_bytes t_a_rows p_o p_a_clocks p_n_o p_n_a_clocks p_n_a_minutes p_n_a_dials a_kept a_o a_a_clocks a_n_o a_n_a_clocks a_n_a_minutes a_n_a_dials b_o b_a_clocks b_n_o b_n_a_clocks b_n_a_minutes b_n_a_dials y_o r_o q_o q_a_clocks q_a_rates q_a_least a_misfits a_shown : Nat) (p_c : Nat → Nat) (a_c : Nat → Nat) (b_c : Nat → Nat) (sifted : Int32) (t_length : Int32) (t_lineCount : Int32) (t_start : Int32) (t_end : Int32) (t_bytes : Nat → Int32) (t_rows : Nat → Int32) (p_filled : Int32) (p_ck : Nat → Nat → Int32) (p_n_many : Int32) (p_n_clocks : Nat → Int32) (p_n_minutes : Nat → Int32) (p_n_dials : Nat → Int32) (a_filled : Int32) (a_ck : Nat → Nat → Int32) (a_n_many : Int32) (a_n_clocks : Nat → Int32) (a_n_minutes : Nat → Int32) (a_n_dials : Nat → Int32) (b_filled : Int32) (b_ck : Nat → Nat → Int32) (b_n_many : Int32) (b_n_clocks : Nat → Int32) (b_n_minutes : Nat → Int32) (b_n_dials : Nat → Int32) (y_many : Int32) (y_first : Int32) (y_last : Int32) (y_runs : Int32) (r_kind : Int32) (r_set : Int32) (r_dial : Int32) (r_low : Int32) (r_high : Int32) (r_read : Int32) (q_many : Int32) (q_clocks : Nat → Int32) (q_rates : Nat → Int32) (q_least : Nat → Int32) (misfits : Nat → Int32) (shown : Nat → Int32) (x1 : Int32) (x2 : Int32) (x3 : Int32) (x4 : Int32)  : MC l D (TY cI cZ cC cH) yX6_setBy wsX6_setBy 3 71 [.ref o, .int x1, .int x2, .int x3, .int x4] (W6 cI cZ cC cH o t_o t_a_bytes t_a_rows p_o p_a_clocks p_n_o p_n_a_clocks p_n_a_minutes p_n_a_dials a_kept a_o a_a_clocks a_n_o a_n_a_clocks a_n_a_minutes a_n_a_dials b_o b_a_clocks b_n_o b_n_a_clocks b_n_a_minutes b_n_a_dials y_o r_o q_o q_a_clocks q_a_rates q_a_least a_misfits a_shown p_c a_c b_c sifted t_length t_lineCount t_start t_end t_bytes t_rows p_filled p_ck p_n_many p_n_clocks p_n_minutes p_n_dials a_filled a_ck a_n_many a_n_clocks a_n_minutes a_n_dials b_filled b_ck b_n_many b_n_clocks b_n_minutes b_n_dials y_many y_first y_last y_runs r_kind r_set r_dial r_low r_high r_read q_many q_clocks q_rates q_least misfits shown) (some (.int ((F_X6_setBy p_ck y_many y_first y_last y_runs r_kind r_set r_dial r_low r_high r_read x1 x2 x3 x4).1))) (W6 cI cZ cC cH o t_o t_a_bytes t_a_rows p_o p_a_clocks p_n_o p_n_a_clocks p_n_a_minutes p_n_a_dials a_kept a_o a_a_clocks a_n_o a_n_a_clocks a_n_a_minutes a_n_a_dials b_o b_a_clocks b_n_o b_n_a_clocks b_n_a_minutes b_n_a_dials y_o r_o q_o q_a_clocks q_a_rates q_a_least a_misfits a_shown p_c a_c b_c sifted t_length t_lineCount t_start t_end t_bytes t_rows p_filled p_ck p_n_many p_n_clocks p_n_minutes p_n_dials a_filled a_ck a_n_many a_n_clocks a_n_minutes a_n_dials b_filled b_ck b_n_many b_n_clocks b_n_minutes b_n_dials (F_X6_setBy p_ck y_many y_first y_last y_runs r_kind r_set r_dial r_low r_high r_read x1 x2 x3 x4).2.1 (F_X6_setBy p_ck y_many y_first y_last y_runs r_kind r_set r_dial r_low r_high r_read x1 x2 x3 x4).2.2.1 (F_X6_setBy p_ck y_many y_first y_last y_runs r_kind r_set r_dial r_low r_high r_read x1 x2 x3 x4).2.2.2.1 (F_X6_setBy p_ck y_many y_first y_last y_runs r_kind r_set r_dial r_low r_high r_read x1 x2 x3 x4).2.2.2.2.1 (F_X6_setBy p_ck y_many y_first y_last y_runs r_kind r_set r_dial r_low r_high r_read x1 x2 x3 x4).2.2.2.2.2.1 (F_X6_setBy p_ck y_many y_first y_last y_runs r_kind r_set r_dial r_low r_high r_read x1 x2 x3 x4).2.2.2.2.2.2.1 (F_X6_setBy p_ck y_many y_first y_last y_runs r_kind r_set r_dial r_low r_high r_read x1 x2 x3 x4).2.2.2.2.2.2.2.1 (F_X6_setBy p_ck y_many y_first y_last y_runs r_kind r_set r_dial r_low r_high r_read x1 x2 x3 x4).2.2.2.2.2.2.2.2.1 (F_X6_setBy p_ck y_many y_first y_last y_runs r_kind r_set r_dial r_low r_high r_read x1 x2 x3 x4).2.2.2.2.2.2.2.2.2.1 (F_X6_setBy p_ck y_many y_first y_last y_runs r_kind r_set r_dial r_low r_high r_read x1 x2 x3 x4).2.2.2.2.2.2.2.2.2.2 q_many q_clocks q_rates q_least misfits shown) := by
  obtain ⟨R, hF⟩ : ∃ R, R = F_X6_setBy p_ck y_many y_first y_last y_runs r_kind r_set r_dial r_low r_high r_read x1 x2 x3 x4 := ⟨_, rfl⟩
  rw [← hF]
  refine MC.of (cc := cX6_setBy) (maxL := 9) (ret := (some .int)) RX6 rfl (by decide +kernel) rfl (Nat.le_of_ble_eq_true rfl) ?_
  intro p e s m args below meth c A Q KX RT hh ls hl
  have z0 : (0 : Int32).toInt = 0 := rfl
  have z1 : (1 : Int32).toInt = 1 := rfl
  have zm : (-1 : Int32).toInt = -1 := rfl
  have hx := KX.1
  have hb := KX.2.1
  have hl : lv_has ls 9 [(0, .ref o), (1, .int x1), (2, .int x2), (3, .int x3), (4, .int x4)] := hl
  unfold F_X6_setBy at hF
  refine lv_aload_n hx hb dX6_setBy_0 rfl (lv_at hl 0 rfl) ?_
  refine g_get KX hh in_X6_setBy_X6 0 rfl rfl 1 (by decide) rfl (List.mem_of_getElem? (i := 1) rfl) dX6_setBy_1 ?_
  refine lv_iload_n hx hb dX6_setBy_4 rfl (lv_at hl 1 rfl) ?_
  refine g_callV (As := [.int x1]) (rest := []) KX rfl ⟨Nat.le_of_ble_eq_true rfl, Nat.le_of_ble_eq_true rfl⟩ hh hl (c_X1_toldClock l D cI cZ cC cH p_o p_a_clocks p_n_o p_n_a_clocks p_n_a_minutes p_n_a_dials p_c p_filled p_ck p_n_many p_n_clocks p_n_minutes p_n_dials x1 ) (JN.ro [4, 5, 6, 7, 8, 9, 10, 11, 12, 13, 14, 15, 16, 17] rfl (by decide +kernel)) 1 gX6_setBy_X1_toldClock rfl (by decide +kernel) ⟨Nat.le_of_ble_eq_true rfl, Nat.le_of_ble_eq_true rfl⟩ 4 1 rfl rfl rfl rfl rfl (Nat.le_of_ble_eq_true rfl) dX6_setBy_5 (fun H locs hh => ?_)
  rcases told_cases p_ck p_c x1 with ⟨c_5, e_5⟩ | ⟨c_5, e_5⟩
  · refine W.eq (g2 := F0 m 8 ls [.null]) (by rw [e_5]; rfl) ?_
    replace hF := hF.trans (if_pos c_5)
    refine lv_astoreN (lv' := [(5, .null), (0, .ref o), (1, .int x1), (2, .int x2), (3, .int x3), (4, .int x4)]) hx hb dX6_setBy_8 hl (Nat.le_of_ble_eq_true rfl) rfl (fun ls hl => ?_)
    refine lv_aload_n hx hb dX6_setBy_10 rfl (lv_at hl 1 rfl) ?_
    refine g_get KX hh in_X6_setBy_X6 0 rfl rfl 1 (by decide) rfl (List.mem_of_getElem? (i := 1) rfl) dX6_setBy_11 ?_
    refine lv_iload_n hx hb dX6_setBy_14 rfl (lv_at hl 3 rfl) ?_
    refine g_callV (As := [.int x2]) (rest := []) KX rfl ⟨Nat.le_of_ble_eq_true rfl, Nat.le_of_ble_eq_true rfl⟩ hh hl (c_X1_toldClock l D cI cZ cC cH p_o p_a_clocks p_n_o p_n_a_clocks p_n_a_minutes p_n_a_dials p_c p_filled p_ck p_n_many p_n_clocks p_n_minutes p_n_dials x2 ) (JN.ro [4, 5, 6, 7, 8, 9, 10, 11, 12, 13, 14, 15, 16, 17] rfl (by decide +kernel)) 1 gX6_setBy_X1_toldClock rfl (by decide +kernel) ⟨Nat.le_of_ble_eq_true rfl, Nat.le_of_ble_eq_true rfl⟩ 4 1 rfl rfl rfl rfl rfl (Nat.le_of_ble_eq_true rfl) dX6_setBy_15 (fun H locs hh => ?_)
    rcases told_cases p_ck p_c x2 with ⟨c_15, e_15⟩ | ⟨c_15, e_15⟩
    · refine W.eq (g2 := F0 m 18 ls [.null]) (by rw [e_15]; rfl) ?_
      replace hF := hF.trans (if_pos c_15)
      refine lv_astoreN (lv' := [(6, .null), (5, .null), (0, .ref o), (1, .int x1), (2, .int x2), (3, .int x3), (4, .int x4)]) hx hb dX6_setBy_18 hl (Nat.le_of_ble_eq_true rfl) rfl (fun ls hl => ?_)
      refine lv_aloadN hx hb dX6_setBy_20 (lv_at hl 1 rfl) ?_
      refine lv_ifnullN (tgt := 30) hx hb dX6_setBy_22 (by decide) ?_
      refine lv_bipush (v := (-2)) hx hb dX6_setBy_30 (by decide) ?_
      exact RT _ _ _ _ _ _ hh (by rw [hF]) (Or.inl ⟨_, rfl, by rw [hF], dX6_setBy_32, Or.inl rfl⟩)
    · refine W.eq (g2 := F0 m 18 ls [.ref (p_c x2.toNatClampNeg)]) (by rw [e_15]; rfl) ?_
      replace hF := hF.trans (if_neg c_15)
      obtain ⟨k0_15, k1_15⟩ := tld_in c_15
      refine lv_astore (lv' := [(6, .ref (p_c x2.toNatClampNeg)), (5, .null), (0, .ref o), (1, .int x1), (2, .int x2), (3, .int x3), (4, .int x4)]) hx hb dX6_setBy_18 hl (Nat.le_of_ble_eq_true rfl) rfl (fun ls hl => ?_)
      refine lv_aloadN hx hb dX6_setBy_20 (lv_at hl 1 rfl) ?_
      refine lv_ifnullN (tgt := 30) hx hb dX6_setBy_22 (by decide) ?_
      refine lv_bipush (v := (-2)) hx hb dX6_setBy_30 (by decide) ?_
      exact RT _ _ _ _ _ _ hh (by rw [hF]) (Or.inl ⟨_, rfl, by rw [hF], dX6_setBy_32, Or.inl rfl⟩)
  · refine W.eq (g2 := F0 m 8 ls [.ref (p_c x1.toNatClampNeg)]) (by rw [e_5]; rfl) ?_
    replace hF := hF.trans (if_neg c_5)
    obtain ⟨k0_5, k1_5⟩ := tld_in c_5
    refine lv_astore (lv' := [(5, .ref (p_c x1.toNatClampNeg)), (0, .ref o), (1, .int x1), (2, .int x2), (3, .int x3), (4, .int x4)]) hx hb dX6_setBy_8 hl (Nat.le_of_ble_eq_true rfl) rfl (fun ls hl => ?_)
    refine lv_aload_n hx hb dX6_setBy_10 rfl (lv_at hl 1 rfl) ?_
    refine g_get KX hh in_X6_setBy_X6 0 rfl rfl 1 (by decide) rfl (List.mem_of_getElem? (i := 1) rfl) dX6_setBy_11 ?_
    refine lv_iload_n hx hb dX6_setBy_14 rfl (lv_at hl 3 rfl) ?_
    refine g_callV (As := [.int x2]) (rest := []) KX rfl ⟨Nat.le_of_ble_eq_true rfl, Nat.le_of_ble_eq_true rfl⟩ hh hl (c_X1_toldClock l D cI cZ cC cH p_o p_a_clocks p_n_o p_n_a_clocks p_n_a_minutes p_n_a_dials p_c p_filled p_ck p_n_many p_n_clocks p_n_minutes p_n_dials x2 ) (JN.ro [4, 5, 6, 7, 8, 9, 10, 11, 12, 13, 14, 15, 16, 17] rfl (by decide +kernel)) 1 gX6_setBy_X1_toldClock rfl (by decide +kernel) ⟨Nat.le_of_ble_eq_true rfl, Nat.le_of_ble_eq_true rfl⟩ 4 1 rfl rfl rfl rfl rfl (Nat.le_of_ble_eq_true rfl) dX6_setBy_15 (fun H locs hh => ?_)
    rcases told_cases p_ck p_c x2 with ⟨c_15, e_15⟩ | ⟨c_15, e_15⟩
    · refine W.eq (g2 := F0 m 18 ls [.null]) (by rw [e_15]; rfl) ?_
      replace hF := hF.trans (if_pos c_15)
      refine lv_astoreN (lv' := [(6, .null), (5, .ref (p_c x1.toNatClampNeg)), (0, .ref o), (1, .int x1), (2, .int x2), (3, .int x3), (4, .int x4)]) hx hb dX6_setBy_18 hl (Nat.le_of_ble_eq_true rfl) rfl (fun ls hl => ?_)
      refine lv_aload hx hb dX6_setBy_20 (lv_at hl 1 rfl) ?_
      refine lv_ifnull hx hb dX6_setBy_22 ?_
      refine lv_aloadN hx hb dX6_setBy_25 (lv_at hl 0 rfl) ?_
      refine lv_ifnonnullN hx hb dX6_setBy_27 ?_
      refine lv_bipush (v := (-2)) hx hb dX6_setBy_30 (by decide) ?_
      exact RT _ _ _ _ _ _ hh (by rw [hF]) (Or.inl ⟨_, rfl, by rw [hF], dX6_setBy_32, Or.inl rfl⟩)
    · refine W.eq (g2 := F0 m 18 ls [.ref (p_c x2.toNatClampNeg)]) (by rw [e_15]; rfl) ?_
      replace hF := hF.trans (if_neg c_15)
      obtain ⟨k0_15, k1_15⟩ := tld_in c_15
      refine lv_astore (lv' := [(6, .ref (p_c x2.toNatClampNeg)), (5, .ref (p_c x1.toNatClampNeg)), (0, .ref o), (1, .int x1), (2, .int x2), (3, .int x3), (4, .int x4)]) hx hb dX6_setBy_18 hl (Nat.le_of_ble_eq_true rfl) rfl (fun ls hl => ?_)
      refine lv_aload hx hb dX6_setBy_20 (lv_at hl 1 rfl) ?_
      refine lv_ifnull hx hb dX6_setBy_22 ?_
      refine lv_aload hx hb dX6_setBy_25 (lv_at hl 0 rfl) ?_
      refine lv_ifnonnull (tgt := 33) hx hb dX6_setBy_27 (by decide) ?_
      refine lv_iload_n hx hb dX6_setBy_33 rfl (lv_at hl 3 rfl) ?_
      refine lv_iload_n hx hb dX6_setBy_34 rfl (lv_at hl 4 rfl) ?_
      refine lv_icmp_eq (tgt := 57) hx hb dX6_setBy_35 (by decide) (fun c_35 => ?_) (fun c_35 => ?_)
      · replace hF := hF.trans (if_pos c_35)
        have i_35 : x1.toInt = x2.toInt := congrArg Int32.toInt c_35
        refine lv_bipush (v := (-3)) hx hb dX6_setBy_57 (by decide) ?_
        exact RT _ _ _ _ _ _ hh (by rw [hF]) (Or.inl ⟨_, rfl, by rw [hF], dX6_setBy_59, Or.inl rfl⟩)
      · replace hF := hF.trans (if_neg c_35)
        have i_35 : ¬ x1.toInt = x2.toInt := ti_ne c_35
        refine lv_iload_n hx hb dX6_setBy_38 rfl (lv_at hl 5 rfl) ?_
        refine lv_sipush (v := 4320) hx hb dX6_setBy_39 (by decide) ?_
        refine g_callS (As := [.int x3, .int 4320]) (rest := []) KX rfl ⟨Nat.le_of_ble_eq_true rfl, Nat.le_of_ble_eq_true rfl⟩ hh hl (c_X6_isBelow l D cI cZ cC cH  x3 4320 ) JN.no 2 gX6_setBy_X6_isBelow rfl (by decide +kernel) ⟨Nat.le_of_ble_eq_true rfl, Nat.le_of_ble_eq_true rfl⟩ rfl rfl (Nat.le_of_ble_eq_true rfl) dX6_setBy_42 (fun H locs hh => ?_)
        refine W.eq (g2 := F0 m 45 ls [.int (F_X6_isBelow x3 4320)]) rfl ?_
        refine lv_if_eq (tgt := 57) hx hb dX6_setBy_45 (by decide) (fun c_45 => ?_) (fun c_45 => ?_)
        · replace hF := hF.trans (if_pos c_45)
          refine lv_bipush (v := (-3)) hx hb dX6_setBy_57 (by decide) ?_
          exact RT _ _ _ _ _ _ hh (by rw [hF]) (Or.inl ⟨_, rfl, by rw [hF], dX6_setBy_59, Or.inl rfl⟩)
        · replace hF := hF.trans (if_neg c_45)
          obtain ⟨k0_45, k1_45⟩ : (0 : Int) ≤ x3.toInt ∧ x3.toInt < 4320 := X6_isBelow_in c_45
          refine lv_iload hx hb dX6_setBy_48 (lv_at hl 6 rfl) ?_
          refine lv_iconst (v := 2) hx hb dX6_setBy_50 (by decide) ?_
          refine g_callS (As := [.int x4, .int 2]) (rest := []) KX rfl ⟨Nat.le_of_ble_eq_true rfl, Nat.le_of_ble_eq_true rfl⟩ hh hl (c_X6_isBelow l D cI cZ cC cH  x4 2 ) JN.no 2 gX6_setBy_X6_isBelow rfl (by decide +kernel) ⟨Nat.le_of_ble_eq_true rfl, Nat.le_of_ble_eq_true rfl⟩ rfl rfl (Nat.le_of_ble_eq_true rfl) dX6_setBy_51 (fun H locs hh => ?_)
          refine W.eq (g2 := F0 m 54 ls [.int (F_X6_isBelow x4 2)]) rfl ?_
          refine lv_if_ne (tgt := 60) hx hb dX6_setBy_54 (by decide) (fun c_54 => ?_) (fun c_54 => ?_)
          · replace hF := hF.trans (if_neg c_54)
            obtain ⟨k0_54, k1_54⟩ : (0 : Int) ≤ x4.toInt ∧ x4.toInt < 2 := X6_isBelow_in c_54
            refine lv_aload hx hb dX6_setBy_60 (lv_at hl 1 rfl) ?_
            refine g_get KX hh in_X6_setBy_X0 (6 + x1.toNatClampNeg) (clk_W6_p (tn_lt (k := x1) (n := 8) (by omega) (by omega))) rfl 0 (by decide) rfl (List.mem_of_getElem? (i := 2) rfl) dX6_setBy_62 ?_
            refine lv_if_ne (tgt := 85) hx hb dX6_setBy_65 (by decide) (fun c_65 => ?_) (fun c_65 => ?_)
            · replace hF := hF.trans (if_neg c_65)
              refine lv_bipush (v := (-4)) hx hb dX6_setBy_85 (by decide) ?_
              exact RT _ _ _ _ _ _ hh (by rw [hF]) (Or.inl ⟨_, rfl, by rw [hF], dX6_setBy_87, Or.inl rfl⟩)
            · replace hF := hF.trans (if_pos c_65)
              refine lv_aload hx hb dX6_setBy_68 (lv_at hl 1 rfl) ?_
              refine g_get KX hh in_X6_setBy_X0 (6 + x1.toNatClampNeg) (clk_W6_p (tn_lt (k := x1) (n := 8) (by omega) (by omega))) rfl 5 (by decide) rfl (List.mem_of_getElem? (i := 3) rfl) dX6_setBy_70 ?_
              refine lv_iconst (v := (-1)) hx hb dX6_setBy_73 (by decide) ?_
              refine lv_icmp_eq (tgt := 85) hx hb dX6_setBy_74 (by decide) (fun c_74 => ?_) (fun c_74 => ?_)
              · replace hF := hF.trans (if_pos c_74)
                refine lv_bipush (v := (-4)) hx hb dX6_setBy_85 (by decide) ?_
                exact RT _ _ _ _ _ _ hh (by rw [hF]) (Or.inl ⟨_, rfl, by rw [hF], dX6_setBy_87, Or.inl rfl⟩)
              · replace hF := hF.trans (if_neg c_74)
                refine lv_aload hx hb dX6_setBy_77 (lv_at hl 0 rfl) ?_
                refine g_callV (As := []) (rest := []) KX rfl ⟨Nat.le_of_ble_eq_true rfl, Nat.le_of_ble_eq_true rfl⟩ hh hl (c_X0_runsByOneRate l D cI cZ cC cH (p_c x2.toNatClampNeg) (p_ck x2.toNatClampNeg 0) (p_ck x2.toNatClampNeg 1) (p_ck x2.toNatClampNeg 2) (p_ck x2.toNatClampNeg 3) (p_ck x2.toNatClampNeg 4) (p_ck x2.toNatClampNeg 5)  ) (JN.ro [6 + x2.toNatClampNeg] (by first | (simp only [List.map_cons, List.map_nil, clk_W6_p (tn_lt (k := x2) (n := 8) (by omega) (by omega))]; done) | (simp only [List.map_cons, List.map_nil, clk_W6_p (tn_lt (k := x2) (n := 8) (by omega) (by omega))]; rfl)) rfl) 0 gX6_setBy_X0_runsByOneRate rfl (by decide +kernel) ⟨Nat.le_of_ble_eq_true rfl, Nat.le_of_ble_eq_true rfl⟩ (6 + x2.toNatClampNeg) 0 rfl rfl (clk_W6_p (tn_lt (k := x2) (n := 8) (by omega) (by omega))) rfl rfl (Nat.le_of_ble_eq_true rfl) dX6_setBy_79 (fun H locs hh => ?_)
                refine W.eq (g2 := F0 m 82 ls [.int (F_X0_runsByOneRate (p_ck x2.toNatClampNeg 0) (p_ck x2.toNatClampNeg 3) (p_ck x2.toNatClampNeg 4))]) rfl ?_
                refine lv_if_ne (tgt := 88) hx hb dX6_setBy_82 (by decide) (fun c_82 => ?_) (fun c_82 => ?_)
                · replace hF := hF.trans (if_neg c_82)
                  refine lv_aload_n hx hb dX6_setBy_88 rfl (lv_at hl 2 rfl) ?_
                  refine g_get KX hh in_X6_setBy_X6 0 rfl rfl 4 (by decide) rfl (List.mem_of_getElem? (i := 4) rfl) dX6_setBy_89 ?_
                  refine lv_aload hx hb dX6_setBy_92 (lv_at hl 1 rfl) ?_
                  refine g_callV (As := [.ref (p_c x1.toNatClampNeg)]) (rest := []) KX rfl ⟨Nat.le_of_ble_eq_true rfl, Nat.le_of_ble_eq_true rfl⟩ hh hl (c_X0_copy l D cI cZ cC cH r_o (p_c x1.toNatClampNeg) r_kind r_set r_dial r_low r_high r_read (p_ck x1.toNatClampNeg 0) (p_ck x1.toNatClampNeg 1) (p_ck x1.toNatClampNeg 2) (p_ck x1.toNatClampNeg 3) (p_ck x1.toNatClampNeg 4) (p_ck x1.toNatClampNeg 5)  ) (JN.upf (ws1 := (W6 cI cZ cC cH o t_o t_a_bytes t_a_rows p_o p_a_clocks p_n_o p_n_a_clocks p_n_a_minutes p_n_a_dials a_kept a_o a_a_clocks a_n_o a_n_a_clocks a_n_a_minutes a_n_a_dials b_o b_a_clocks b_n_o b_n_a_clocks b_n_a_minutes b_n_a_dials y_o r_o q_o q_a_clocks q_a_rates q_a_least a_misfits a_shown p_c a_c b_c sifted t_length t_lineCount t_start t_end t_bytes t_rows p_filled p_ck p_n_many p_n_clocks p_n_minutes p_n_dials a_filled a_ck a_n_many a_n_clocks a_n_minutes a_n_dials b_filled b_ck b_n_many b_n_clocks b_n_minutes b_n_dials y_many y_first y_last y_runs ((F_X0_copy (p_ck x1.toNatClampNeg 0) (p_ck x1.toNatClampNeg 1) (p_ck x1.toNatClampNeg 2) (p_ck x1.toNatClampNeg 3) (p_ck x1.toNatClampNeg 4) (p_ck x1.toNatClampNeg 5)).1) ((F_X0_copy (p_ck x1.toNatClampNeg 0) (p_ck x1.toNatClampNeg 1) (p_ck x1.toNatClampNeg 2) (p_ck x1.toNatClampNeg 3) (p_ck x1.toNatClampNeg 4) (p_ck x1.toNatClampNeg 5)).2.1) ((F_X0_copy (p_ck x1.toNatClampNeg 0) (p_ck x1.toNatClampNeg 1) (p_ck x1.toNatClampNeg 2) (p_ck x1.toNatClampNeg 3) (p_ck x1.toNatClampNeg 4) (p_ck x1.toNatClampNeg 5)).2.2.1) ((F_X0_copy (p_ck x1.toNatClampNeg 0) (p_ck x1.toNatClampNeg 1) (p_ck x1.toNatClampNeg 2) (p_ck x1.toNatClampNeg 3) (p_ck x1.toNatClampNeg 4) (p_ck x1.toNatClampNeg 5)).2.2.2.1) ((F_X0_copy (p_ck x1.toNatClampNeg 0) (p_ck x1.toNatClampNeg 1) (p_ck x1.toNatClampNeg 2) (p_ck x1.toNatClampNeg 3) (p_ck x1.toNatClampNeg 4) (p_ck x1.toNatClampNeg 5)).2.2.2.2.1) ((F_X0_copy (p_ck x1.toNatClampNeg 0) (p_ck x1.toNatClampNeg 1) (p_ck x1.toNatClampNeg 2) (p_ck x1.toNatClampNeg 3) (p_ck x1.toNatClampNeg 4) (p_ck x1.toNatClampNeg 5)).2.2.2.2.2) q_many q_clocks q_rates q_least misfits shown)) (k0 := 48) (x0 := (r_o, .inr (0, [.int ((F_X0_copy (p_ck x1.toNatClampNeg 0) (p_ck x1.toNatClampNeg 1) (p_ck x1.toNatClampNeg 2) (p_ck x1.toNatClampNeg 3) (p_ck x1.toNatClampNeg 4) (p_ck x1.toNatClampNeg 5)).1), .int ((F_X0_copy (p_ck x1.toNatClampNeg 0) (p_ck x1.toNatClampNeg 1) (p_ck x1.toNatClampNeg 2) (p_ck x1.toNatClampNeg 3) (p_ck x1.toNatClampNeg 4) (p_ck x1.toNatClampNeg 5)).2.1), .int ((F_X0_copy (p_ck x1.toNatClampNeg 0) (p_ck x1.toNatClampNeg 1) (p_ck x1.toNatClampNeg 2) (p_ck x1.toNatClampNeg 3) (p_ck x1.toNatClampNeg 4) (p_ck x1.toNatClampNeg 5)).2.2.1), .int ((F_X0_copy (p_ck x1.toNatClampNeg 0) (p_ck x1.toNatClampNeg 1) (p_ck x1.toNatClampNeg 2) (p_ck x1.toNatClampNeg 3) (p_ck x1.toNatClampNeg 4) (p_ck x1.toNatClampNeg 5)).2.2.2.1), .int ((F_X0_copy (p_ck x1.toNatClampNeg 0) (p_ck x1.toNatClampNeg 1) (p_ck x1.toNatClampNeg 2) (p_ck x1.toNatClampNeg 3) (p_ck x1.toNatClampNeg 4) (p_ck x1.toNatClampNeg 5)).2.2.2.2.1), .int ((F_X0_copy (p_ck x1.toNatClampNeg 0) (p_ck x1.toNatClampNeg 1) (p_ck x1.toNatClampNeg 2) (p_ck x1.toNatClampNeg 3) (p_ck x1.toNatClampNeg 4) (p_ck x1.toNatClampNeg 5)).2.2.2.2.2)]))) [48, 6 + x1.toNatClampNeg] (by first | (simp only [List.map_cons, List.map_nil, clk_W6_p (tn_lt (k := x1) (n := 8) (by omega) (by omega))]; done) | (simp only [List.map_cons, List.map_nil, clk_W6_p (tn_lt (k := x1) (n := 8) (by omega) (by omega))]; rfl)) (by have hq := (tn_lt (k := x1) (n := 8) (by omega) (by omega)); simp [va_nd]; try omega) rfl (by first | (simp only [List.map_cons, List.map_nil, clk_W6_p (tn_lt (k := x1) (n := 8) (by omega) (by omega))]; done) | (simp only [List.map_cons, List.map_nil, clk_W6_p (tn_lt (k := x1) (n := 8) (by omega) (by omega))]; rfl)) rfl (by simp)) 1 gX6_setBy_X0_copy rfl (by decide +kernel) ⟨Nat.le_of_ble_eq_true rfl, Nat.le_of_ble_eq_true rfl⟩ 48 0 rfl rfl rfl rfl rfl (Nat.le_of_ble_eq_true rfl) dX6_setBy_94 (fun H locs hh => ?_)
                  refine W.eq (g2 := F0 m 97 ls []) rfl ?_
                  generalize q_94 : F_X0_copy (p_ck x1.toNatClampNeg 0) (p_ck x1.toNatClampNeg 1) (p_ck x1.toNatClampNeg 2) (p_ck x1.toNatClampNeg 3) (p_ck x1.toNatClampNeg 4) (p_ck x1.toNatClampNeg 5) = r94_1 at hh hF ⊢
                  unfold F_X6_setBy_c94 at hF
                  refine lv_aload_n hx hb dX6_setBy_97 rfl (lv_at hl 2 rfl) ?_
                  refine g_get KX hh in_X6_setBy_X6 0 rfl rfl 3 (by decide) rfl (List.mem_of_getElem? (i := 5) rfl) dX6_setBy_98 ?_
                  refine g_callV (As := []) (rest := []) KX rfl ⟨Nat.le_of_ble_eq_true rfl, Nat.le_of_ble_eq_true rfl⟩ hh hl (c_X4_clear l D cI cZ cC cH y_o y_many y_first y_last y_runs  ) (JN.up (ws1 := (W6 cI cZ cC cH o t_o t_a_bytes t_a_rows p_o p_a_clocks p_n_o p_n_a_clocks p_n_a_minutes p_n_a_dials a_kept a_o a_a_clocks a_n_o a_n_a_clocks a_n_a_minutes a_n_a_dials b_o b_a_clocks b_n_o b_n_a_clocks b_n_a_minutes b_n_a_dials y_o r_o q_o q_a_clocks q_a_rates q_a_least a_misfits a_shown p_c a_c b_c sifted t_length t_lineCount t_start t_end t_bytes t_rows p_filled p_ck p_n_many p_n_clocks p_n_minutes p_n_dials a_filled a_ck a_n_many a_n_clocks a_n_minutes a_n_dials b_filled b_ck b_n_many b_n_clocks b_n_minutes b_n_dials ((F_X4_clear).1) ((F_X4_clear).2.1) ((F_X4_clear).2.2.1) ((F_X4_clear).2.2.2) r94_1.1 r94_1.2.1 r94_1.2.2.1 r94_1.2.2.2.1 r94_1.2.2.2.2.1 r94_1.2.2.2.2.2 q_many q_clocks q_rates q_least misfits shown)) [47] rfl rfl rfl rfl rfl) 0 gX6_setBy_X4_clear rfl (by decide +kernel) ⟨Nat.le_of_ble_eq_true rfl, Nat.le_of_ble_eq_true rfl⟩ 47 4 rfl rfl rfl rfl rfl (Nat.le_of_ble_eq_true rfl) dX6_setBy_101 (fun H locs hh => ?_)
                  refine W.eq (g2 := F0 m 104 ls []) rfl ?_
                  generalize q_101 : F_X4_clear = r101_2 at hh hF ⊢
                  unfold F_X6_setBy_c101 at hF
                  refine lv_iconst (v := 0) hx hb dX6_setBy_104 (by decide) ?_
                  refine lv_istore (lv' := [(7, .int 0), (6, .ref (p_c x2.toNatClampNeg)), (5, .ref (p_c x1.toNatClampNeg)), (0, .ref o), (1, .int x1), (2, .int x2), (3, .int x3), (4, .int x4)]) hx hb dX6_setBy_105 hl (Nat.le_of_ble_eq_true rfl) rfl (fun ls hl => ?_)
                  have L_107 : ∀ (n_107 : Nat) (x7_3 : Int32) (w_y_many_4 : Int32) (w_y_first_5 : Int32) (w_y_last_6 : Int32) (w_y_runs_7 : Int32) (w_r_set_8 : Int32) (w_r_dial_9 : Int32) (i0_107 : 0 ≤ x7_3.toInt) (i1_107 : x7_3.toInt ≤ x3.toInt + 1) (_ : (x3.toInt + 1 - x7_3.toInt).toNat < n_107) (_ : R = (F_X6_setBy_107 p_ck x1 x2 x3 x4 r94_1) n_107 x7_3 w_y_many_4 w_y_first_5 w_y_last_6 w_y_runs_7 w_r_set_8 w_r_dial_9) (ls : Array Slot) (H : Heap) (locs : List Loc) (_ : HS D A s.heap (W6 cI cZ cC cH o t_o t_a_bytes t_a_rows p_o p_a_clocks p_n_o p_n_a_clocks p_n_a_minutes p_n_a_dials a_kept a_o a_a_clocks a_n_o a_n_a_clocks a_n_a_minutes a_n_a_dials b_o b_a_clocks b_n_o b_n_a_clocks b_n_a_minutes b_n_a_dials y_o r_o q_o q_a_clocks q_a_rates q_a_least a_misfits a_shown p_c a_c b_c sifted t_length t_lineCount t_start t_end t_bytes t_rows p_filled p_ck p_n_many p_n_clocks p_n_minutes p_n_dials a_filled a_ck a_n_many a_n_clocks a_n_minutes a_n_dials b_filled b_ck b_n_many b_n_clocks b_n_minutes b_n_dials w_y_many_4 w_y_first_5 w_y_last_6 w_y_runs_7 r94_1.1 w_r_set_8 w_r_dial_9 r94_1.2.2.2.1 r94_1.2.2.2.2.1 r94_1.2.2.2.2.2 q_many q_clocks q_rates q_least misfits shown) H locs) (_ : lv_has ls 9 [(7, .int x7_3), (6, .ref (p_c x2.toNatClampNeg)), (5, .ref (p_c x1.toNatClampNeg)), (0, .ref o), (1, .int x1), (2, .int x2), (3, .int x3), (4, .int x4)]), W p l e { frames := 3, cells := 0, slots := 0, locals := 71 } s m args below meth c H locs 0 0 Q (F0 m 107 ls []) := by
                    intro n_107
                    induction n_107 with
                    | zero => intro x7_3 w_y_many_4 w_y_first_5 w_y_last_6 w_y_runs_7 w_r_set_8 w_r_dial_9 i0_107 i1_107 hm; exact absurd hm (Nat.not_lt_zero _)
                    | succ n_107 ih_107 =>
                      intro x7_3 w_y_many_4 w_y_first_5 w_y_last_6 w_y_runs_7 w_r_set_8 w_r_dial_9 i0_107 i1_107 hm_107 hF ls H locs hh hl
                      rw [F_X6_setBy_107.eq_2] at hF
                      refine lv_iload hx hb dX6_setBy_107 (lv_at hl 0 rfl) ?_
                      refine lv_iload_n hx hb dX6_setBy_109 rfl (lv_at hl 6 rfl) ?_
                      refine lv_icmp_gt (tgt := 196) hx hb dX6_setBy_110 (by decide) (fun c_110 => ?_) (fun c_110 => ?_)
                      · replace hF := hF.trans (if_pos c_110)
                        have i_110 : x3.toInt < x7_3.toInt := ti_lt.mp c_110
                        refine lv_aload_n hx hb dX6_setBy_196 rfl (lv_at hl 3 rfl) ?_
                        refine g_get KX hh in_X6_setBy_X6 0 rfl rfl 3 (by decide) rfl (List.mem_of_getElem? (i := 5) rfl) dX6_setBy_197 ?_
                        refine lv_iload hx hb dX6_setBy_200 (lv_at hl 7 rfl) ?_
                        refine g_callV (As := [.int x4]) (rest := []) KX rfl ⟨Nat.le_of_ble_eq_true rfl, Nat.le_of_ble_eq_true rfl⟩ hh hl (c_X4_tell l D cI cZ cC cH y_o w_y_many_4 w_y_first_5 w_y_last_6 w_y_runs_7 x4 ) (JN.ro [47] rfl rfl) 1 gX6_setBy_X4_tell rfl (by decide +kernel) ⟨Nat.le_of_ble_eq_true rfl, Nat.le_of_ble_eq_true rfl⟩ 47 4 rfl rfl rfl rfl rfl (Nat.le_of_ble_eq_true rfl) dX6_setBy_202 (fun H locs hh => ?_)
                        refine W.eq (g2 := F0 m 205 ls [.int (F_X4_tell w_y_many_4 w_y_first_5 w_y_last_6 w_y_runs_7 x4)]) rfl ?_
                        exact RT _ _ _ _ _ _ hh (by rw [hF]) (Or.inl ⟨_, rfl, by rw [hF], dX6_setBy_205, Or.inl rfl⟩)
                      · replace hF := hF.trans (if_neg c_110)
                        have i_110 : x7_3.toInt ≤ x3.toInt := ti_nlt c_110
                        refine lv_aload hx hb dX6_setBy_113 (lv_at hl 1 rfl) ?_
                        refine lv_iload hx hb dX6_setBy_115 (lv_at hl 0 rfl) ?_
                        refine lv_aload hx hb dX6_setBy_117 (lv_at hl 1 rfl) ?_
                        refine g_get KX hh in_X6_setBy_X0 (6 + x2.toNatClampNeg) (clk_W6_p (tn_lt (k := x2) (n := 8) (by omega) (by omega))) rfl 3 (by decide) rfl (List.mem_of_getElem? (i := 6) rfl) dX6_setBy_119 ?_
                        refine g_callV (As := [.int x7_3, .int (p_ck x2.toNatClampNeg 3)]) (rest := []) KX rfl ⟨Nat.le_of_ble_eq_true rfl, Nat.le_of_ble_eq_true rfl⟩ hh hl (c_X0_handAt l D cI cZ cC cH (p_c x2.toNatClampNeg) (p_ck x2.toNatClampNeg 0) (p_ck x2.toNatClampNeg 1) (p_ck x2.toNatClampNeg 2) (p_ck x2.toNatClampNeg 3) (p_ck x2.toNatClampNeg 4) (p_ck x2.toNatClampNeg 5) x7_3 (p_ck x2.toNatClampNeg 3) ) (JN.ro [6 + x2.toNatClampNeg] (by first | (simp only [List.map_cons, List.map_nil, clk_W6_p (tn_lt (k := x2) (n := 8) (by omega) (by omega))]; done) | (simp only [List.map_cons, List.map_nil, clk_W6_p (tn_lt (k := x2) (n := 8) (by omega) (by omega))]; rfl)) rfl) 2 gX6_setBy_X0_handAt rfl (by decide +kernel) ⟨Nat.le_of_ble_eq_true rfl, Nat.le_of_ble_eq_true rfl⟩ (6 + x2.toNatClampNeg) 0 rfl rfl (clk_W6_p (tn_lt (k := x2) (n := 8) (by omega) (by omega))) rfl rfl (Nat.le_of_ble_eq_true rfl) dX6_setBy_122 (fun H locs hh => ?_)
                        refine W.eq (g2 := F0 m 125 ls [.int (F_X0_handAt (p_ck x2.toNatClampNeg 0) (p_ck x2.toNatClampNeg 1) (p_ck x2.toNatClampNeg 2) x7_3 (p_ck x2.toNatClampNeg 3))]) rfl ?_
                        refine lv_ldc (v := 1036800) hx hb KX.2.2.2.1 (KX.2.2.2.2.1 _ (List.mem_of_getElem? (i := 7) rfl)) dX6_setBy_125 ?_
                        refine g_callS (As := [.int (F_X0_handAt (p_ck x2.toNatClampNeg 0) (p_ck x2.toNatClampNeg 1) (p_ck x2.toNatClampNeg 2) x7_3 (p_ck x2.toNatClampNeg 3)), .int 1036800]) (rest := []) KX rfl ⟨Nat.le_of_ble_eq_true rfl, Nat.le_of_ble_eq_true rfl⟩ hh hl (c_J9_floorMod_7cf53 l D cI cZ cC cH  (F_X0_handAt (p_ck x2.toNatClampNeg 0) (p_ck x2.toNatClampNeg 1) (p_ck x2.toNatClampNeg 2) x7_3 (p_ck x2.toNatClampNeg 3)) 1036800 (by first | with_reducible assumption | omega | decide | exact tn_lt (n := 8) (by omega) (by omega))) JN.no 2 gX6_setBy_J9_floorMod_7cf53 rfl (by decide +kernel) ⟨Nat.le_of_ble_eq_true rfl, Nat.le_of_ble_eq_true rfl⟩ rfl rfl (Nat.le_of_ble_eq_true rfl) dX6_setBy_127 (fun H locs hh => ?_)
                        refine W.eq (g2 := F0 m 130 ls [.int (F_J9_floorMod_7cf53 (F_X0_handAt (p_ck x2.toNatClampNeg 0) (p_ck x2.toNatClampNeg 1) (p_ck x2.toNatClampNeg 2) x7_3 (p_ck x2.toNatClampNeg 3)) 1036800)]) rfl ?_
                        refine lv_istore (lv' := [(8, .int (F_J9_floorMod_7cf53 (F_X0_handAt (p_ck x2.toNatClampNeg 0) (p_ck x2.toNatClampNeg 1) (p_ck x2.toNatClampNeg 2) x7_3 (p_ck x2.toNatClampNeg 3)) 1036800)), (7, .int x7_3), (6, .ref (p_c x2.toNatClampNeg)), (5, .ref (p_c x1.toNatClampNeg)), (0, .ref o), (1, .int x1), (2, .int x2), (3, .int x3), (4, .int x4)]) hx hb dX6_setBy_130 hl (Nat.le_of_ble_eq_true rfl) rfl (fun ls hl => ?_)
                        refine lv_iload hx hb dX6_setBy_132 (lv_at hl 0 rfl) ?_
                        refine lv_ldc (v := 86400) hx hb KX.2.2.2.1 (KX.2.2.2.2.1 _ (List.mem_of_getElem? (i := 8) rfl)) dX6_setBy_134 ?_
                        refine lv_irem hx hb dX6_setBy_136 (by decide) ?_
                        refine lv_if_eq (tgt := 143) hx hb dX6_setBy_137 (by decide) (fun c_137 => ?_) (fun c_137 => ?_)
                        · replace hF := hF.trans (if_pos c_137)
                          refine lv_aload_n hx hb dX6_setBy_143 rfl (lv_at hl 4 rfl) ?_
                          refine g_get KX hh in_X6_setBy_X6 0 rfl rfl 4 (by decide) rfl (List.mem_of_getElem? (i := 4) rfl) dX6_setBy_144 ?_
                          refine lv_iload hx hb dX6_setBy_147 (lv_at hl 1 rfl) ?_
                          refine g_put KX hh in_X6_setBy_X0 tyX0 tyX0_ok nmX0 48 rfl rfl 1 (by decide) rfl rfl rfl (Nat.le_of_ble_eq_true rfl) (List.mem_of_getElem? (i := 9) rfl) (w' := (W6 cI cZ cC cH o t_o t_a_bytes t_a_rows p_o p_a_clocks p_n_o p_n_a_clocks p_n_a_minutes p_n_a_dials a_kept a_o a_a_clocks a_n_o a_n_a_clocks a_n_a_minutes a_n_a_dials b_o b_a_clocks b_n_o b_n_a_clocks b_n_a_minutes b_n_a_dials y_o r_o q_o q_a_clocks q_a_rates q_a_least a_misfits a_shown p_c a_c b_c sifted t_length t_lineCount t_start t_end t_bytes t_rows p_filled p_ck p_n_many p_n_clocks p_n_minutes p_n_dials a_filled a_ck a_n_many a_n_clocks a_n_minutes a_n_dials b_filled b_ck b_n_many b_n_clocks b_n_minutes b_n_dials w_y_many_4 w_y_first_5 w_y_last_6 w_y_runs_7 r94_1.1 x7_3 w_r_dial_9 r94_1.2.2.2.1 r94_1.2.2.2.2.1 r94_1.2.2.2.2.2 q_many q_clocks q_rates q_least misfits shown)) rfl rfl dX6_setBy_149 (fun H locs hh => ?_)
                          refine lv_aload_n hx hb dX6_setBy_152 rfl (lv_at hl 4 rfl) ?_
                          refine g_get KX hh in_X6_setBy_X6 0 rfl rfl 4 (by decide) rfl (List.mem_of_getElem? (i := 4) rfl) dX6_setBy_153 ?_
                          refine lv_iload hx hb dX6_setBy_156 (lv_at hl 0 rfl) ?_
                          refine lv_sipush (v := 1440) hx hb dX6_setBy_158 (by decide) ?_
                          refine lv_idiv hx hb dX6_setBy_161 (by decide) ?_
                          refine g_put KX hh in_X6_setBy_X0 tyX0 tyX0_ok nmX0 48 rfl rfl 2 (by decide) rfl rfl rfl (Nat.le_of_ble_eq_true rfl) (List.mem_of_getElem? (i := 10) rfl) (w' := (W6 cI cZ cC cH o t_o t_a_bytes t_a_rows p_o p_a_clocks p_n_o p_n_a_clocks p_n_a_minutes p_n_a_dials a_kept a_o a_a_clocks a_n_o a_n_a_clocks a_n_a_minutes a_n_a_dials b_o b_a_clocks b_n_o b_n_a_clocks b_n_a_minutes b_n_a_dials y_o r_o q_o q_a_clocks q_a_rates q_a_least a_misfits a_shown p_c a_c b_c sifted t_length t_lineCount t_start t_end t_bytes t_rows p_filled p_ck p_n_many p_n_clocks p_n_minutes p_n_dials a_filled a_ck a_n_many a_n_clocks a_n_minutes a_n_dials b_filled b_ck b_n_many b_n_clocks b_n_minutes b_n_dials w_y_many_4 w_y_first_5 w_y_last_6 w_y_runs_7 r94_1.1 x7_3 ((F_J9_floorMod_7cf53 (F_X0_handAt (p_ck x2.toNatClampNeg 0) (p_ck x2.toNatClampNeg 1) (p_ck x2.toNatClampNeg 2) x7_3 (p_ck x2.toNatClampNeg 3)) 1036800) / 1440) r94_1.2.2.2.1 r94_1.2.2.2.2.1 r94_1.2.2.2.2.2 q_many q_clocks q_rates q_least misfits shown)) rfl rfl dX6_setBy_162 (fun H locs hh => ?_)
                          refine lv_aload_n hx hb dX6_setBy_165 rfl (lv_at hl 4 rfl) ?_
                          refine g_get KX hh in_X6_setBy_X6 0 rfl rfl 4 (by decide) rfl (List.mem_of_getElem? (i := 4) rfl) dX6_setBy_166 ?_
                          refine lv_iload_n hx hb dX6_setBy_169 rfl (lv_at hl 7 rfl) ?_
                          refine lv_aload hx hb dX6_setBy_170 (lv_at hl 3 rfl) ?_
                          refine g_get KX hh in_X6_setBy_X0 (6 + x1.toNatClampNeg) (clk_W6_p (tn_lt (k := x1) (n := 8) (by omega) (by omega))) rfl 5 (by decide) rfl (List.mem_of_getElem? (i := 3) rfl) dX6_setBy_172 ?_
                          refine g_callV (As := [.int x3, .int (p_ck x1.toNatClampNeg 5)]) (rest := []) KX rfl ⟨Nat.le_of_ble_eq_true rfl, Nat.le_of_ble_eq_true rfl⟩ hh hl (c_X0_canShow l D cI cZ cC cH r_o r94_1.1 x7_3 ((F_J9_floorMod_7cf53 (F_X0_handAt (p_ck x2.toNatClampNeg 0) (p_ck x2.toNatClampNeg 1) (p_ck x2.toNatClampNeg 2) x7_3 (p_ck x2.toNatClampNeg 3)) 1036800) / 1440) r94_1.2.2.2.1 r94_1.2.2.2.2.1 r94_1.2.2.2.2.2 x3 (p_ck x1.toNatClampNeg 5) ) (JN.ro [48] rfl rfl) 2 gX6_setBy_X0_canShow rfl (by decide +kernel) ⟨Nat.le_of_ble_eq_true rfl, Nat.le_of_ble_eq_true rfl⟩ 48 0 rfl rfl rfl rfl rfl (Nat.le_of_ble_eq_true rfl) dX6_setBy_175 (fun H locs hh => ?_)
                          refine W.eq (g2 := F0 m 178 ls [.int (F_X0_canShow r94_1.1 x7_3 ((F_J9_floorMod_7cf53 (F_X0_handAt (p_ck x2.toNatClampNeg 0) (p_ck x2.toNatClampNeg 1) (p_ck x2.toNatClampNeg 2) x7_3 (p_ck x2.toNatClampNeg 3)) 1036800) / 1440) r94_1.2.2.2.1 r94_1.2.2.2.2.1 x3 (p_ck x1.toNatClampNeg 5))]) rfl ?_
                          refine lv_if_eq (tgt := 190) hx hb dX6_setBy_178 (by decide) (fun c_178 => ?_) (fun c_178 => ?_)
                          · replace hF := hF.trans (if_pos c_178)
                            refine lv_iinc (v := x7_3 + 1) (lv' := [(7, .int (x7_3 + 1)), (8, .int (F_J9_floorMod_7cf53 (F_X0_handAt (p_ck x2.toNatClampNeg 0) (p_ck x2.toNatClampNeg 1) (p_ck x2.toNatClampNeg 2) x7_3 (p_ck x2.toNatClampNeg 3)) 1036800)), (6, .ref (p_c x2.toNatClampNeg)), (5, .ref (p_c x1.toNatClampNeg)), (0, .ref o), (1, .int x1), (2, .int x2), (3, .int x3), (4, .int x4)]) hx hb dX6_setBy_190 hl (k := 1) rfl rfl (Nat.le_of_ble_eq_true rfl) rfl (fun ls hl => ?_)
                            refine lv_goto (tgt := 107) hx hb dX6_setBy_193 (by decide) ?_
                            exact ih_107 (x7_3 + 1) w_y_many_4 w_y_first_5 w_y_last_6 w_y_runs_7 x7_3 ((F_J9_floorMod_7cf53 (F_X0_handAt (p_ck x2.toNatClampNeg 0) (p_ck x2.toNatClampNeg 1) (p_ck x2.toNatClampNeg 2) x7_3 (p_ck x2.toNatClampNeg 3)) 1036800) / 1440) (by first | (rw [ti_inc] <;> omega) | omega | decide) (by first | (rw [ti_inc] <;> omega) | omega) (by rw [ti_inc] <;> omega) hF _ _ _ hh (lv_sub hl [0, 2, 3, 4, 5, 6, 7, 8] rfl)
                          · replace hF := hF.trans (if_neg c_178)
                            refine lv_aload_n hx hb dX6_setBy_181 rfl (lv_at hl 4 rfl) ?_
                            refine g_get KX hh in_X6_setBy_X6 0 rfl rfl 3 (by decide) rfl (List.mem_of_getElem? (i := 5) rfl) dX6_setBy_182 ?_
                            refine lv_iload hx hb dX6_setBy_185 (lv_at hl 1 rfl) ?_
                            refine g_callV (As := [.int x7_3]) (rest := []) KX rfl ⟨Nat.le_of_ble_eq_true rfl, Nat.le_of_ble_eq_true rfl⟩ hh hl (c_X4_add l D cI cZ cC cH y_o w_y_many_4 w_y_first_5 w_y_last_6 w_y_runs_7 x7_3 ) (JN.up (ws1 := (W6 cI cZ cC cH o t_o t_a_bytes t_a_rows p_o p_a_clocks p_n_o p_n_a_clocks p_n_a_minutes p_n_a_dials a_kept a_o a_a_clocks a_n_o a_n_a_clocks a_n_a_minutes a_n_a_dials b_o b_a_clocks b_n_o b_n_a_clocks b_n_a_minutes b_n_a_dials y_o r_o q_o q_a_clocks q_a_rates q_a_least a_misfits a_shown p_c a_c b_c sifted t_length t_lineCount t_start t_end t_bytes t_rows p_filled p_ck p_n_many p_n_clocks p_n_minutes p_n_dials a_filled a_ck a_n_many a_n_clocks a_n_minutes a_n_dials b_filled b_ck b_n_many b_n_clocks b_n_minutes b_n_dials ((F_X4_add w_y_many_4 w_y_first_5 w_y_last_6 w_y_runs_7 x7_3).1) ((F_X4_add w_y_many_4 w_y_first_5 w_y_last_6 w_y_runs_7 x7_3).2.1) ((F_X4_add w_y_many_4 w_y_first_5 w_y_last_6 w_y_runs_7 x7_3).2.2.1) ((F_X4_add w_y_many_4 w_y_first_5 w_y_last_6 w_y_runs_7 x7_3).2.2.2) r94_1.1 x7_3 ((F_J9_floorMod_7cf53 (F_X0_handAt (p_ck x2.toNatClampNeg 0) (p_ck x2.toNatClampNeg 1) (p_ck x2.toNatClampNeg 2) x7_3 (p_ck x2.toNatClampNeg 3)) 1036800) / 1440) r94_1.2.2.2.1 r94_1.2.2.2.2.1 r94_1.2.2.2.2.2 q_many q_clocks q_rates q_least misfits shown)) [47] rfl rfl rfl rfl rfl) 1 gX6_setBy_X4_add rfl (by decide +kernel) ⟨Nat.le_of_ble_eq_true rfl, Nat.le_of_ble_eq_true rfl⟩ 47 4 rfl rfl rfl rfl rfl (Nat.le_of_ble_eq_true rfl) dX6_setBy_187 (fun H locs hh => ?_)
                            refine W.eq (g2 := F0 m 190 ls []) rfl ?_
                            generalize q_187 : F_X4_add w_y_many_4 w_y_first_5 w_y_last_6 w_y_runs_7 x7_3 = r187_10 at hh hF ⊢
                            unfold F_X6_setBy_c187 at hF
                            refine lv_iinc (v := x7_3 + 1) (lv' := [(7, .int (x7_3 + 1)), (8, .int (F_J9_floorMod_7cf53 (F_X0_handAt (p_ck x2.toNatClampNeg 0) (p_ck x2.toNatClampNeg 1) (p_ck x2.toNatClampNeg 2) x7_3 (p_ck x2.toNatClampNeg 3)) 1036800)), (6, .ref (p_c x2.toNatClampNeg)), (5, .ref (p_c x1.toNatClampNeg)), (0, .ref o), (1, .int x1), (2, .int x2), (3, .int x3), (4, .int x4)]) hx hb dX6_setBy_190 hl (k := 1) rfl rfl (Nat.le_of_ble_eq_true rfl) rfl (fun ls hl => ?_)
                            refine lv_goto (tgt := 107) hx hb dX6_setBy_193 (by decide) ?_
                            exact ih_107 (x7_3 + 1) r187_10.1 r187_10.2.1 r187_10.2.2.1 r187_10.2.2.2 x7_3 ((F_J9_floorMod_7cf53 (F_X0_handAt (p_ck x2.toNatClampNeg 0) (p_ck x2.toNatClampNeg 1) (p_ck x2.toNatClampNeg 2) x7_3 (p_ck x2.toNatClampNeg 3)) 1036800) / 1440) (by first | (rw [ti_inc] <;> omega) | omega | decide) (by first | (rw [ti_inc] <;> omega) | omega) (by rw [ti_inc] <;> omega) hF _ _ _ hh (lv_sub hl [0, 2, 3, 4, 5, 6, 7, 8] rfl)
                        · replace hF := hF.trans (if_neg c_137)
                          refine lv_goto (tgt := 190) hx hb dX6_setBy_140 (by decide) ?_
                          refine lv_iinc (v := x7_3 + 1) (lv' := [(7, .int (x7_3 + 1)), (8, .int (F_J9_floorMod_7cf53 (F_X0_handAt (p_ck x2.toNatClampNeg 0) (p_ck x2.toNatClampNeg 1) (p_ck x2.toNatClampNeg 2) x7_3 (p_ck x2.toNatClampNeg 3)) 1036800)), (6, .ref (p_c x2.toNatClampNeg)), (5, .ref (p_c x1.toNatClampNeg)), (0, .ref o), (1, .int x1), (2, .int x2), (3, .int x3), (4, .int x4)]) hx hb dX6_setBy_190 hl (k := 1) rfl rfl (Nat.le_of_ble_eq_true rfl) rfl (fun ls hl => ?_)
                          refine lv_goto (tgt := 107) hx hb dX6_setBy_193 (by decide) ?_
                          exact ih_107 (x7_3 + 1) w_y_many_4 w_y_first_5 w_y_last_6 w_y_runs_7 w_r_set_8 w_r_dial_9 (by first | (rw [ti_inc] <;> omega) | omega | decide) (by first | (rw [ti_inc] <;> omega) | omega) (by rw [ti_inc] <;> omega) hF _ _ _ hh (lv_sub hl [0, 2, 3, 4, 5, 6, 7, 8] rfl)
                  exact L_107 4321 0 r101_2.1 r101_2.2.1 r101_2.2.2.1 r101_2.2.2.2 r94_1.2.1 r94_1.2.2.1 (by first | (rw [ti_inc] <;> omega) | omega | decide) (by first | (rw [ti_inc] <;> omega) | omega) (by omega) hF _ _ _ hh (lv_sub hl [0, 1, 2, 3, 4, 5, 6, 7] rfl)
                · replace hF := hF.trans (if_pos c_82)
                  refine lv_bipush (v := (-4)) hx hb dX6_setBy_85 (by decide) ?_
                  exact RT _ _ _ _ _ _ hh (by rw [hF]) (Or.inl ⟨_, rfl, by rw [hF], dX6_setBy_87, Or.inl rfl⟩)
          · replace hF := hF.trans (if_pos c_54)
            refine lv_bipush (v := (-3)) hx hb dX6_setBy_57 (by decide) ?_
            exact RT _ _ _ _ _ _ hh (by rw [hF]) (Or.inl ⟨_, rfl, by rw [hF], dX6_setBy_59, Or.inl rfl⟩)
