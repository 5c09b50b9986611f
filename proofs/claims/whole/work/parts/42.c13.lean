def F_X6_again_32 (p_ck : Nat → Nat → Int32) (x1 : Int32) (x2 : Int32) : Nat → Int32 → Int64 → Int64 → Option Nat → Int32
  | 0, _, _, _, _ => default
  | n + 1, x8_1, x6_2, x4_3, none => (if 8 ≤ x8_1 then x2 + ((F_J9_floorMod_f86c9 (x4_3 - x2.toInt64) (F_J9_max_f86c9 1 x6_2)).toInt32) else (if tld p_ck x8_1 = 0 then (if ((x1 >>> (x8_1 &&& 31)) &&& 1) = 0 then ((F_X6_again_32 p_ck x1 x2 n) (x8_1 + 1) x6_2 x4_3 none) else ((F_X6_again_32 p_ck x1 x2 n) (x8_1 + 1) x6_2 x4_3 none)) else (if ((x1 >>> (x8_1 &&& 31)) &&& 1) = 0 then ((F_X6_again_32 p_ck x1 x2 n) (x8_1 + 1) x6_2 x4_3 none) else ((F_X6_again_32 p_ck x1 x2 n) (x8_1 + 1) x6_2 x4_3 (some x8_1.toNatClampNeg)))))
  | n + 1, x8_1, x6_2, x4_3, some x3_4j => (if 8 ≤ x8_1 then x2 + ((F_J9_floorMod_f86c9 (x4_3 - x2.toInt64) (F_J9_max_f86c9 1 x6_2)).toInt32) else (if tld p_ck x8_1 = 0 then (if ((x1 >>> (x8_1 &&& 31)) &&& 1) = 0 then ((F_X6_again_32 p_ck x1 x2 n) (x8_1 + 1) x6_2 x4_3 (some x3_4j)) else ((F_X6_again_32 p_ck x1 x2 n) (x8_1 + 1) x6_2 x4_3 (some x3_4j))) else (if ((x1 >>> (x8_1 &&& 31)) &&& 1) = 0 then ((F_X6_again_32 p_ck x1 x2 n) (x8_1 + 1) x6_2 x4_3 (some x3_4j)) else (if (lg_cmp (F_X6_leastFactor ((((p_ck x8_1.toNatClampNeg 3) - (p_ck x3_4j 3)).toInt64) * x6_2) ((((F_X0_handAt (p_ck x3_4j 0) (p_ck x3_4j 1) (p_ck x3_4j 2) 0 (p_ck x3_4j 3)) - (F_X0_handAt (p_ck x8_1.toNatClampNeg 0) (p_ck x8_1.toNatClampNeg 1) (p_ck x8_1.toNatClampNeg 2) 0 (p_ck x8_1.toNatClampNeg 3))).toInt64) - ((((p_ck x8_1.toNatClampNeg 3) - (p_ck x3_4j 3)).toInt64) * x4_3))) (-1)) = 0 then (-1) else ((F_X6_again_32 p_ck x1 x2 n) (x8_1 + 1) (x6_2 * (1036800 / (F_X6_sharedWithRound ((((p_ck x8_1.toNatClampNeg 3) - (p_ck x3_4j 3)).toInt64) * x6_2)))) (x4_3 + ((F_X6_leastFactor ((((p_ck x8_1.toNatClampNeg 3) - (p_ck x3_4j 3)).toInt64) * x6_2) ((((F_X0_handAt (p_ck x3_4j 0) (p_ck x3_4j 1) (p_ck x3_4j 2) 0 (p_ck x3_4j 3)) - (F_X0_handAt (p_ck x8_1.toNatClampNeg 0) (p_ck x8_1.toNatClampNeg 1) (p_ck x8_1.toNatClampNeg 2) 0 (p_ck x8_1.toNatClampNeg 3))).toInt64) - ((((p_ck x8_1.toNatClampNeg 3) - (p_ck x3_4j 3)).toInt64) * x4_3))) * x6_2)) (some x3_4j))))))
def F_X6_again (p_ck : Nat → Nat → Int32) (x1 : Int32) (x2 : Int32) : Int32 := (if (F_X6_canMeet p_ck x1) = 0 then (-3) else (if x2 < 0 then (-3) else (if x2 ≤ 9999999 then (F_X6_again_32 p_ck x1 x2 9 0 1 0 none) else (-3))))
theorem gm_X6_again_J9_max_f86c9_194 : GoodIn wsX6_again (va_wsS RX6 194 yJ9_max_f86c9 wsJ9_max_f86c9) := goodIn_of _ (by decide +kernel)
theorem in_X6_again_X6 : ∀ x ∈ u_ws RX6 TX6 9, x ∈ wsX6_again := by decide +kernel
theorem in_X6_again_X0 : ∀ x ∈ u_ws RX0 TX0 6, x ∈ wsX6_again := by decide +kernel
set_option maxHeartbeats 2000000 in
set_option maxRecDepth 100000 in
theorem c_X6_again (l : Launch) (D : va_G) (cI cZ cC cH : ClassId) (o t_o t_a_bytes t_a_rows p_o p_a_clocks p_n_o p_n_a_clocks p_n_a_minutes p_n_a_dials a_kept a_o a_a_clocks a_n_o a_n_a_clocks a_n_a_minutes a_n_a_dials b_o b_a_clocks b_n_o b_n_a_clocks b_n_a_minutes b_n_a_dials y_o r_o q_o q_a_clocks q_a_rates q_a_least a_misfits a_shown : Nat) (p_c : Nat → Nat) (a_c : Nat → Nat) (b_c : Nat → Nat) (sifted : Int32) (t_length : Int32) (t_lineCount : Int32) (t_start : Int32) (t_end : Int32) (t_bytes : Nat → Int32) (t_rows : Nat → Int32) (p_filled : Int32) (p_ck : Nat → Nat → Int32) (p_n_many : Int32) (p_n_clocks : Nat → Int32) (p_n_minutes : Nat → Int32) (p_n_dials : Nat → Int32) (a_filled : Int32) (a_ck : Nat → Nat → Int32) (a_n_many : Int32) (a_n_clocks : Nat → Int32) (a_n_minutes : Nat → Int32) (a_n_dials : Nat → Int32) (b_filled : Int32) (b_ck : Nat → Nat → Int32) (b_n_many : Int32) (b_n_clocks : Nat → Int32) (b_n_minutes : Nat → Int32) (b_n_dials : Nat → Int32) (y_many : Int32) (y_first : Int32) (y_last : Int32) (y_runs : Int32) (r_kind : Int32) (r_set : Int32) (r_dial : Int32) (r_low : Int32) (r_high : Int32) (r_read : Int32) (q_many : Int32) (q_clocks : Nat → Int32) (q_rates : Nat → Int32) (q_least : Nat → Int32) (misfits : Nat → Int32) (shown : Nat → Int32) (x1 : Int32) (x2 : Int32)  : MC l D (TY cI cZ cC cH) yX6_again wsX6_again 3 94 [.ref o, .int x1, .int x2] (W6 cI cZ cC cH o t_o t_a_bytes t_a_rows p_o p_a_clocks p_n_o p_n_a_clocks p_n_a_minutes p_n_a_dials a_kept a_o a_a_clocks a_n_o a_n_a_clocks a_n_a_minutes a_n_a_dials b_o b_a_clocks b_n_o b_n_a_clocks b_n_a_minutes b_n_a_dials y_o r_o q_o q_a_clocks q_a_rates q_a_least a_misfits a_shown p_c a_c b_c sifted t_length t_lineCount t_start t_end t_bytes t_rows p_filled p_ck p_n_many p_n_clocks p_n_minutes p_n_dials a_filled a_ck a_n_many a_n_clocks a_n_minutes a_n_dials b_filled b_ck b_n_many b_n_clocks b_n_minutes b_n_dials y_many y_first y_last y_runs r_kind r_set r_dial r_low r_high r_read q_many q_clocks q_rates q_least misfits shown) (some (.int (F_X6_again p_ck x1 x2))) (W6 cI cZ cC cH o t_o t_a_bytes t_a_rows p_o p_a_clocks p_n_o p_n_a_clocks p_n_a_minutes p_n_a_dials a_kept a_o a_a_clocks a_n_o a_n_a_clocks a_n_a_minutes a_n_a_dials b_o b_a_clocks b_n_o b_n_a_clocks b_n_a_minutes b_n_a_dials y_o r_o q_o q_a_clocks q_a_rates q_a_least a_misfits a_shown p_c a_c b_c sifted t_length t_lineCount t_start t_end t_bytes t_rows p_filled p_ck p_n_many p_n_clocks p_n_minutes p_n_dials a_filled a_ck a_n_many a_n_clocks a_n_minutes a_n_dials b_filled b_ck b_n_many b_n_clocks b_n_minutes b_n_dials y_many y_first y_last y_runs r_kind r_set r_dial r_low r_high r_read q_many q_clocks q_rates q_least misfits shown) := by
  obtain ⟨R, hF⟩ : ∃ R, R = F_X6_again p_ck x1 x2 := ⟨_, rfl⟩
  rw [← hF]
  refine MC.of (cc := cX6_again) (maxL := 16) (ret := (some .int)) RX6 rfl (by decide +kernel) rfl (Nat.le_of_ble_eq_true rfl) ?_
  intro p e s m args below meth c A Q KX RT hh ls hl
  have z0 : (0 : Int32).toInt = 0 := rfl
  have z1 : (1 : Int32).toInt = 1 := rfl
  have zm : (-1 : Int32).toInt = -1 := rfl
  have hx := KX.1
  have hb := KX.2.1
  have hl : lv_has ls 16 [(0, .ref o), (1, .int x1), (2, .int x2)] := hl
  unfold F_X6_again at hF
  refine lv_aload_n hx hb dX6_again_0 rfl (lv_at hl 0 rfl) ?_
  refine lv_iload_n hx hb dX6_again_1 rfl (lv_at hl 1 rfl) ?_
  refine g_callV (As := [.int x1]) (rest := []) KX rfl ⟨Nat.le_of_ble_eq_true rfl, Nat.le_of_ble_eq_true rfl⟩ hh hl (c_X6_canMeet l D cI cZ cC cH o t_o t_a_bytes t_a_rows p_o p_a_clocks p_n_o p_n_a_clocks p_n_a_minutes p_n_a_dials a_kept a_o a_a_clocks a_n_o a_n_a_clocks a_n_a_minutes a_n_a_dials b_o b_a_clocks b_n_o b_n_a_clocks b_n_a_minutes b_n_a_dials y_o r_o q_o q_a_clocks q_a_rates q_a_least a_misfits a_shown p_c a_c b_c sifted t_length t_lineCount t_start t_end t_bytes t_rows p_filled p_ck p_n_many p_n_clocks p_n_minutes p_n_dials a_filled a_ck a_n_many a_n_clocks a_n_minutes a_n_dials b_filled b_ck b_n_many b_n_clocks b_n_minutes b_n_dials y_many y_first y_last y_runs r_kind r_set r_dial r_low r_high r_read q_many q_clocks q_rates q_least misfits shown x1 ) JN.all 1 gX6_again_X6_canMeet rfl (by decide +kernel) ⟨Nat.le_of_ble_eq_true rfl, Nat.le_of_ble_eq_true rfl⟩ 0 6 rfl rfl rfl rfl rfl (Nat.le_of_ble_eq_true rfl) dX6_again_2 (fun H locs hh => ?_)
  refine W.eq (g2 := F0 m 5 ls [.int (F_X6_canMeet p_ck x1)]) rfl ?_
  refine lv_if_eq (tgt := 18) hx hb dX6_again_5 (by decide) (fun c_5 => ?_) (fun c_5 => ?_)
  · replace hF := hF.trans (if_pos c_5)
    refine lv_bipush (v := (-3)) hx hb dX6_again_18 (by decide) ?_
    exact RT _ _ _ _ _ _ hh (rfl) (Or.inl ⟨_, rfl, by rw [hF], dX6_again_20, Or.inl rfl⟩)
  · replace hF := hF.trans (if_neg c_5)
    refine lv_iload_n hx hb dX6_again_8 rfl (lv_at hl 2 rfl) ?_
    refine lv_if_lt (tgt := 18) hx hb dX6_again_9 (by decide) (fun c_9 => ?_) (fun c_9 => ?_)
    · replace hF := hF.trans (if_pos c_9)
      have i_9 : x2.toInt < 0 := ti_lt.mp c_9
      refine lv_bipush (v := (-3)) hx hb dX6_again_18 (by decide) ?_
      exact RT _ _ _ _ _ _ hh (rfl) (Or.inl ⟨_, rfl, by rw [hF], dX6_again_20, Or.inl rfl⟩)
    · replace hF := hF.trans (if_neg c_9)
      have i_9 : 0 ≤ x2.toInt := ti_nlt c_9
      refine lv_iload_n hx hb dX6_again_12 rfl (lv_at hl 2 rfl) ?_
      refine lv_ldc (v := 9999999) hx hb KX.2.2.2.1 (KX.2.2.2.2.1 _ (List.mem_of_getElem? (i := 1) rfl)) dX6_again_13 ?_
      refine lv_icmp_le (tgt := 21) hx hb dX6_again_15 (by decide) (fun c_15 => ?_) (fun c_15 => ?_)
      · replace hF := hF.trans (if_pos c_15)
        have i_15 : x2.toInt ≤ 9999999 := ti_le.mp c_15
        refine lv_null hx hb dX6_again_21 ?_
        refine lv_astore_nN (lv' := [(3, .null), (0, .ref o), (1, .int x1), (2, .int x2)]) hx hb dX6_again_22 rfl hl (Nat.le_of_ble_eq_true rfl) rfl (fun ls hl => ?_)
        refine lv_lconst (v := 0) hx hb dX6_again_23 (by decide) ?_
        refine lv_lstore (lv' := [(4, .long 0), (3, .null), (0, .ref o), (1, .int x1), (2, .int x2)]) hx hb dX6_again_24 hl (Nat.le_of_ble_eq_true rfl) rfl (fun ls hl => ?_)
        refine lv_lconst (v := 1) hx hb dX6_again_26 (by decide) ?_
        refine lv_lstore (lv' := [(6, .long 1), (4, .long 0), (3, .null), (0, .ref o), (1, .int x1), (2, .int x2)]) hx hb dX6_again_27 hl (Nat.le_of_ble_eq_true rfl) rfl (fun ls hl => ?_)
        refine lv_iconst (v := 0) hx hb dX6_again_29 (by decide) ?_
        refine lv_istore (lv' := [(8, .int 0), (6, .long 1), (4, .long 0), (3, .null), (0, .ref o), (1, .int x1), (2, .int x2)]) hx hb dX6_again_30 hl (Nat.le_of_ble_eq_true rfl) rfl (fun ls hl => ?_)
        have L_32 : ∀ (n_32 : Nat) (x8_1 : Int32) (x6_2 : Int64) (x4_3 : Int64) (x3_4 : Option Nat) (i0_32 : 0 ≤ x8_1.toInt) (i1_32 : x8_1.toInt ≤ 8) (opt_32 : ∀ j, x3_4 = some j → j < 8) (_ : (8 - x8_1.toInt).toNat < n_32) (_ : R = (F_X6_again_32 p_ck x1 x2) n_32 x8_1 x6_2 x4_3 x3_4) (ls : Array Slot) (H : Heap) (locs : List Loc) (_ : HS D A s.heap (W6 cI cZ cC cH o t_o t_a_bytes t_a_rows p_o p_a_clocks p_n_o p_n_a_clocks p_n_a_minutes p_n_a_dials a_kept a_o a_a_clocks a_n_o a_n_a_clocks a_n_a_minutes a_n_a_dials b_o b_a_clocks b_n_o b_n_a_clocks b_n_a_minutes b_n_a_dials y_o r_o q_o q_a_clocks q_a_rates q_a_least a_misfits a_shown p_c a_c b_c sifted t_length t_lineCount t_start t_end t_bytes t_rows p_filled p_ck p_n_many p_n_clocks p_n_minutes p_n_dials a_filled a_ck a_n_many a_n_clocks a_n_minutes a_n_dials b_filled b_ck b_n_many b_n_clocks b_n_minutes b_n_dials y_many y_first y_last y_runs r_kind r_set r_dial r_low r_high r_read q_many q_clocks q_rates q_least misfits shown) H locs) (_ : lv_has ls 16 [(8, .int x8_1), (6, .long x6_2), (4, .long x4_3), (3, va_rf (Option.map p_c x3_4)), (0, .ref o), (1, .int x1), (2, .int x2)]), W p l e { frames := 3, cells := 0, slots := 0, locals := 94 } s m args below meth c H locs 0 0 Q (F0 m 32 ls []) := by
          intro n_32
          induction n_32 with
          | zero => intro x8_1 x6_2 x4_3 x3_4 i0_32 i1_32 opt_32 hm; exact absurd hm (Nat.not_lt_zero _)
          | succ n_32 ih_32 =>
            intro x8_1 x6_2 x4_3 x3_4 i0_32 i1_32 opt_32 hm_32 hF ls H locs hh hl
            cases x3_4 with
            | none =>
              rw [F_X6_again_32.eq_2] at hF
              have hl : lv_has ls 16 [(8, .int x8_1), (6, .long x6_2), (4, .long x4_3), (3, .null), (0, .ref o), (1, .int x1), (2, .int x2)] := hl
              refine lv_iload hx hb dX6_again_32 (lv_at hl 0 rfl) ?_
              refine lv_bipush (v := 8) hx hb dX6_again_34 (by decide) ?_
              refine lv_icmp_ge (tgt := 176) hx hb dX6_again_36 (by decide) (fun c_36 => ?_) (fun c_36 => ?_)
              · replace hF := hF.trans (if_pos c_36)
                have i_36 : 8 ≤ x8_1.toInt := ti_le.mp c_36
                refine lv_iload_n hx hb dX6_again_176 rfl (lv_at hl 6 rfl) ?_
                refine lv_lload hx hb dX6_again_177 (lv_at hl 2 rfl) ?_
                refine lv_iload_n hx hb dX6_again_179 rfl (lv_at hl 6 rfl) ?_
                refine lv_i2l hx hb dX6_again_180 rfl ?_
                refine lv_lsub hx hb dX6_again_181 ?_
                refine lv_lconst (v := 1) hx hb dX6_again_182 (by decide) ?_
                refine lv_lload hx hb dX6_again_183 (lv_at hl 1 rfl) ?_
                refine g_callS (As := [.long 1, .long x6_2]) (rest := [.long (x4_3 - x2.toInt64), .int x2]) KX rfl ⟨Nat.le_of_ble_eq_true rfl, Nat.le_of_ble_eq_true rfl⟩ hh hl (c_J9_max_f86c9 l D cI cZ cC cH  1 x6_2 ) JN.no 2 gm_X6_again_J9_max_f86c9_194 rfl (by decide +kernel) ⟨Nat.le_of_ble_eq_true rfl, Nat.le_of_ble_eq_true rfl⟩ rfl rfl (Nat.le_of_ble_eq_true rfl) dX6_again_185 (fun H locs hh => ?_)
                refine W.eq (g2 := F0 m 188 ls [.long (F_J9_max_f86c9 1 x6_2), .long (x4_3 - x2.toInt64), .int x2]) rfl ?_
                refine g_callS (As := [.long (x4_3 - x2.toInt64), .long (F_J9_max_f86c9 1 x6_2)]) (rest := [.int x2]) KX rfl ⟨Nat.le_of_ble_eq_true rfl, Nat.le_of_ble_eq_true rfl⟩ hh hl (c_J9_floorMod_f86c9 l D cI cZ cC cH  (x4_3 - x2.toInt64) (F_J9_max_f86c9 1 x6_2) (max1_ne)) JN.no 2 gX6_again_J9_floorMod_f86c9 rfl (by decide +kernel) ⟨Nat.le_of_ble_eq_true rfl, Nat.le_of_ble_eq_true rfl⟩ rfl rfl (Nat.le_of_ble_eq_true rfl) dX6_again_188 (fun H locs hh => ?_)
                refine W.eq (g2 := F0 m 191 ls [.long (F_J9_floorMod_f86c9 (x4_3 - x2.toInt64) (F_J9_max_f86c9 1 x6_2)), .int x2]) rfl ?_
                refine lv_l2i hx hb dX6_again_191 rfl ?_
                refine lv_iadd hx hb dX6_again_192 ?_
                exact RT _ _ _ _ _ _ hh (rfl) (Or.inl ⟨_, rfl, by rw [hF], dX6_again_193, Or.inl rfl⟩)
              · replace hF := hF.trans (if_neg c_36)
                have i_36 : x8_1.toInt < 8 := ti_nle c_36
                refine lv_aload_n hx hb dX6_again_39 rfl (lv_at hl 4 rfl) ?_
                refine g_get KX hh in_X6_again_X6 0 rfl rfl 1 (by decide) rfl (List.mem_of_getElem? (i := 2) rfl) dX6_again_40 ?_
                refine lv_iload hx hb dX6_again_43 (lv_at hl 0 rfl) ?_
                refine g_callV (As := [.int x8_1]) (rest := []) KX rfl ⟨Nat.le_of_ble_eq_true rfl, Nat.le_of_ble_eq_true rfl⟩ hh hl (c_X1_toldClock l D cI cZ cC cH p_o p_a_clocks p_n_o p_n_a_clocks p_n_a_minutes p_n_a_dials p_c p_filled p_ck p_n_many p_n_clocks p_n_minutes p_n_dials x8_1 ) (JN.ro [4, 5, 6, 7, 8, 9, 10, 11, 12, 13, 14, 15, 16, 17] rfl (by decide +kernel)) 1 gX6_again_X1_toldClock rfl (by decide +kernel) ⟨Nat.le_of_ble_eq_true rfl, Nat.le_of_ble_eq_true rfl⟩ 4 1 rfl rfl rfl rfl rfl (Nat.le_of_ble_eq_true rfl) dX6_again_45 (fun H locs hh => ?_)
                rcases told_cases p_ck p_c x8_1 with ⟨c_45, e_45⟩ | ⟨c_45, e_45⟩
                · refine W.eq (g2 := F0 m 48 ls [.null]) (by rw [e_45]; rfl) ?_
                  replace hF := hF.trans (if_pos c_45)
                  refine lv_astoreN (lv' := [(9, .null), (8, .int x8_1), (6, .long x6_2), (4, .long x4_3), (3, .null), (0, .ref o), (1, .int x1), (2, .int x2)]) hx hb dX6_again_48 hl (Nat.le_of_ble_eq_true rfl) rfl (fun ls hl => ?_)
                  refine lv_iload_n hx hb dX6_again_50 rfl (lv_at hl 6 rfl) ?_
                  refine lv_iload hx hb dX6_again_51 (lv_at hl 1 rfl) ?_
                  refine lv_ishr hx hb dX6_again_53 ?_
                  refine lv_iconst (v := 1) hx hb dX6_again_54 (by decide) ?_
                  refine lv_iand hx hb dX6_again_55 ?_
                  refine lv_if_eq (tgt := 170) hx hb dX6_again_56 (by decide) (fun c_56 => ?_) (fun c_56 => ?_)
                  · replace hF := hF.trans (if_pos c_56)
                    have i_56 : ((x1 >>> (x8_1 &&& 31)) &&& 1).toInt = 0 := congrArg Int32.toInt c_56
                    refine lv_iinc (v := x8_1 + 1) (lv' := [(8, .int (x8_1 + 1)), (9, .null), (6, .long x6_2), (4, .long x4_3), (3, .null), (0, .ref o), (1, .int x1), (2, .int x2)]) hx hb dX6_again_170 hl (k := 1) rfl rfl (Nat.le_of_ble_eq_true rfl) rfl (fun ls hl => ?_)
                    refine lv_goto (tgt := 32) hx hb dX6_again_173 (by decide) ?_
                    have e_inc : (x8_1 + 1).toInt = x8_1.toInt + 1 := ti_inc (by omega)
                    exact ih_32 (x8_1 + 1) x6_2 x4_3 none (by first | with_reducible assumption | omega | decide) (by first | with_reducible assumption | omega | decide) (by first | with_reducible assumption | (intro j hj; cases hj; done) | (intro j hj; cases hj; first | assumption | exact tn_lt (n := 8) (by omega) (by omega))) (by omega) hF _ _ _ hh (lv_sub hl [0, 2, 3, 4, 5, 6, 7] rfl)
                  · replace hF := hF.trans (if_neg c_56)
                    have i_56 : ¬ ((x1 >>> (x8_1 &&& 31)) &&& 1).toInt = 0 := ti_ne c_56
                    refine lv_aloadN hx hb dX6_again_59 (lv_at hl 0 rfl) ?_
                    refine lv_ifnonnullN hx hb dX6_again_61 ?_
                    refine lv_goto (tgt := 170) hx hb dX6_again_64 (by decide) ?_
                    refine lv_iinc (v := x8_1 + 1) (lv' := [(8, .int (x8_1 + 1)), (9, .null), (6, .long x6_2), (4, .long x4_3), (3, .null), (0, .ref o), (1, .int x1), (2, .int x2)]) hx hb dX6_again_170 hl (k := 1) rfl rfl (Nat.le_of_ble_eq_true rfl) rfl (fun ls hl => ?_)
                    refine lv_goto (tgt := 32) hx hb dX6_again_173 (by decide) ?_
                    have e_inc : (x8_1 + 1).toInt = x8_1.toInt + 1 := ti_inc (by omega)
                    exact ih_32 (x8_1 + 1) x6_2 x4_3 none (by first | with_reducible assumption | omega | decide) (by first | with_reducible assumption | omega | decide) (by first | with_reducible assumption | (intro j hj; cases hj; done) | (intro j hj; cases hj; first | assumption | exact tn_lt (n := 8) (by omega) (by omega))) (by omega) hF _ _ _ hh (lv_sub hl [0, 2, 3, 4, 5, 6, 7] rfl)
                · refine W.eq (g2 := F0 m 48 ls [.ref (p_c x8_1.toNatClampNeg)]) (by rw [e_45]; rfl) ?_
                  replace hF := hF.trans (if_neg c_45)
                  obtain ⟨k0_45, k1_45⟩ := tld_in c_45
                  refine lv_astore (lv' := [(9, .ref (p_c x8_1.toNatClampNeg)), (8, .int x8_1), (6, .long x6_2), (4, .long x4_3), (3, .null), (0, .ref o), (1, .int x1), (2, .int x2)]) hx hb dX6_again_48 hl (Nat.le_of_ble_eq_true rfl) rfl (fun ls hl => ?_)
                  refine lv_iload_n hx hb dX6_again_50 rfl (lv_at hl 6 rfl) ?_
                  refine lv_iload hx hb dX6_again_51 (lv_at hl 1 rfl) ?_
                  refine lv_ishr hx hb dX6_again_53 ?_
                  refine lv_iconst (v := 1) hx hb dX6_again_54 (by decide) ?_
                  refine lv_iand hx hb dX6_again_55 ?_
                  refine lv_if_eq (tgt := 170) hx hb dX6_again_56 (by decide) (fun c_56 => ?_) (fun c_56 => ?_)
                  · replace hF := hF.trans (if_pos c_56)
                    have i_56 : ((x1 >>> (x8_1 &&& 31)) &&& 1).toInt = 0 := congrArg Int32.toInt c_56
                    refine lv_iinc (v := x8_1 + 1) (lv' := [(8, .int (x8_1 + 1)), (9, .ref (p_c x8_1.toNatClampNeg)), (6, .long x6_2), (4, .long x4_3), (3, .null), (0, .ref o), (1, .int x1), (2, .int x2)]) hx hb dX6_again_170 hl (k := 1) rfl rfl (Nat.le_of_ble_eq_true rfl) rfl (fun ls hl => ?_)
                    refine lv_goto (tgt := 32) hx hb dX6_again_173 (by decide) ?_
                    have e_inc : (x8_1 + 1).toInt = x8_1.toInt + 1 := ti_inc (by omega)
                    exact ih_32 (x8_1 + 1) x6_2 x4_3 none (by first | with_reducible assumption | omega | decide) (by first | with_reducible assumption | omega | decide) (by first | with_reducible assumption | (intro j hj; cases hj; done) | (intro j hj; cases hj; first | assumption | exact tn_lt (n := 8) (by omega) (by omega))) (by omega) hF _ _ _ hh (lv_sub hl [0, 2, 3, 4, 5, 6, 7] rfl)
                  · replace hF := hF.trans (if_neg c_56)
                    have i_56 : ¬ ((x1 >>> (x8_1 &&& 31)) &&& 1).toInt = 0 := ti_ne c_56
                    refine lv_aload hx hb dX6_again_59 (lv_at hl 0 rfl) ?_
                    refine lv_ifnonnull (tgt := 67) hx hb dX6_again_61 (by decide) ?_
                    refine lv_aload_nN hx hb dX6_again_67 rfl (lv_at hl 4 rfl) ?_
                    refine lv_ifnonnullN hx hb dX6_again_68 ?_
                    refine lv_aload hx hb dX6_again_71 (lv_at hl 0 rfl) ?_
                    refine lv_astore_n (lv' := [(3, .ref (p_c x8_1.toNatClampNeg)), (9, .ref (p_c x8_1.toNatClampNeg)), (8, .int x8_1), (6, .long x6_2), (4, .long x4_3), (0, .ref o), (1, .int x1), (2, .int x2)]) hx hb dX6_again_73 rfl hl (Nat.le_of_ble_eq_true rfl) rfl (fun ls hl => ?_)
                    refine lv_goto (tgt := 170) hx hb dX6_again_74 (by decide) ?_
                    refine lv_iinc (v := x8_1 + 1) (lv' := [(8, .int (x8_1 + 1)), (3, .ref (p_c x8_1.toNatClampNeg)), (9, .ref (p_c x8_1.toNatClampNeg)), (6, .long x6_2), (4, .long x4_3), (0, .ref o), (1, .int x1), (2, .int x2)]) hx hb dX6_again_170 hl (k := 2) rfl rfl (Nat.le_of_ble_eq_true rfl) rfl (fun ls hl => ?_)
                    refine lv_goto (tgt := 32) hx hb dX6_again_173 (by decide) ?_
                    have e_inc : (x8_1 + 1).toInt = x8_1.toInt + 1 := ti_inc (by omega)
                    exact ih_32 (x8_1 + 1) x6_2 x4_3 (some x8_1.toNatClampNeg) (by first | with_reducible assumption | omega | decide) (by first | with_reducible assumption | omega | decide) (by first | with_reducible assumption | (intro j hj; cases hj; done) | (intro j hj; cases hj; first | assumption | exact tn_lt (n := 8) (by omega) (by omega))) (by omega) hF _ _ _ hh (lv_sub hl [0, 3, 4, 1, 5, 6, 7] rfl)
            | some x3_4j =>
              have hx3_4j : x3_4j < 8 := opt_32 x3_4j rfl
              rw [F_X6_again_32.eq_3] at hF
              have hl : lv_has ls 16 [(8, .int x8_1), (6, .long x6_2), (4, .long x4_3), (3, .ref (p_c x3_4j)), (0, .ref o), (1, .int x1), (2, .int x2)] := hl
              refine lv_iload hx hb dX6_again_32 (lv_at hl 0 rfl) ?_
              refine lv_bipush (v := 8) hx hb dX6_again_34 (by decide) ?_
              refine lv_icmp_ge (tgt := 176) hx hb dX6_again_36 (by decide) (fun c_36 => ?_) (fun c_36 => ?_)
              · replace hF := hF.trans (if_pos c_36)
                have i_36 : 8 ≤ x8_1.toInt := ti_le.mp c_36
                refine lv_iload_n hx hb dX6_again_176 rfl (lv_at hl 6 rfl) ?_
                refine lv_lload hx hb dX6_again_177 (lv_at hl 2 rfl) ?_
                refine lv_iload_n hx hb dX6_again_179 rfl (lv_at hl 6 rfl) ?_
                refine lv_i2l hx hb dX6_again_180 rfl ?_
                refine lv_lsub hx hb dX6_again_181 ?_
                refine lv_lconst (v := 1) hx hb dX6_again_182 (by decide) ?_
                refine lv_lload hx hb dX6_again_183 (lv_at hl 1 rfl) ?_
                refine g_callS (As := [.long 1, .long x6_2]) (rest := [.long (x4_3 - x2.toInt64), .int x2]) KX rfl ⟨Nat.le_of_ble_eq_true rfl, Nat.le_of_ble_eq_true rfl⟩ hh hl (c_J9_max_f86c9 l D cI cZ cC cH  1 x6_2 ) JN.no 2 gm_X6_again_J9_max_f86c9_194 rfl (by decide +kernel) ⟨Nat.le_of_ble_eq_true rfl, Nat.le_of_ble_eq_true rfl⟩ rfl rfl (Nat.le_of_ble_eq_true rfl) dX6_again_185 (fun H locs hh => ?_)
                refine W.eq (g2 := F0 m 188 ls [.long (F_J9_max_f86c9 1 x6_2), .long (x4_3 - x2.toInt64), .int x2]) rfl ?_
                refine g_callS (As := [.long (x4_3 - x2.toInt64), .long (F_J9_max_f86c9 1 x6_2)]) (rest := [.int x2]) KX rfl ⟨Nat.le_of_ble_eq_true rfl, Nat.le_of_ble_eq_true rfl⟩ hh hl (c_J9_floorMod_f86c9 l D cI cZ cC cH  (x4_3 - x2.toInt64) (F_J9_max_f86c9 1 x6_2) (max1_ne)) JN.no 2 gX6_again_J9_floorMod_f86c9 rfl (by decide +kernel) ⟨Nat.le_of_ble_eq_true rfl, Nat.le_of_ble_eq_true rfl⟩ rfl rfl (Nat.le_of_ble_eq_true rfl) dX6_again_188 (fun H locs hh => ?_)
                refine W.eq (g2 := F0 m 191 ls [.long (F_J9_floorMod_f86c9 (x4_3 - x2.toInt64) (F_J9_max_f86c9 1 x6_2)), .int x2]) rfl ?_
                refine lv_l2i hx hb dX6_again_191 rfl ?_
                refine lv_iadd hx hb dX6_again_192 ?_
                exact RT _ _ _ _ _ _ hh (rfl) (Or.inl ⟨_, rfl, by rw [hF], dX6_again_193, Or.inl rfl⟩)
              · replace hF := hF.trans (if_neg c_36)
                have i_36 : x8_1.toInt < 8 := ti_nle c_36
                refine lv_aload_n hx hb dX6_again_39 rfl (lv_at hl 4 rfl) ?_
                refine g_get KX hh in_X6_again_X6 0 rfl rfl 1 (by decide) rfl (List.mem_of_getElem? (i := 2) rfl) dX6_again_40 ?_
                refine lv_iload hx hb dX6_again_43 (lv_at hl 0 rfl) ?_
                refine g_callV (As := [.int x8_1]) (rest := []) KX rfl ⟨Nat.le_of_ble_eq_true rfl, Nat.le_of_ble_eq_true rfl⟩ hh hl (c_X1_toldClock l D cI cZ cC cH p_o p_a_clocks p_n_o p_n_a_clocks p_n_a_minutes p_n_a_dials p_c p_filled p_ck p_n_many p_n_clocks p_n_minutes p_n_dials x8_1 ) (JN.ro [4, 5, 6, 7, 8, 9, 10, 11, 12, 13, 14, 15, 16, 17] rfl (by decide +kernel)) 1 gX6_again_X1_toldClock rfl (by decide +kernel) ⟨Nat.le_of_ble_eq_true rfl, Nat.le_of_ble_eq_true rfl⟩ 4 1 rfl rfl rfl rfl rfl (Nat.le_of_ble_eq_true rfl) dX6_again_45 (fun H locs hh => ?_)
                rcases told_cases p_ck p_c x8_1 with ⟨c_45, e_45⟩ | ⟨c_45, e_45⟩
                · refine W.eq (g2 := F0 m 48 ls [.null]) (by rw [e_45]; rfl) ?_
                  replace hF := hF.trans (if_pos c_45)
                  refine lv_astoreN (lv' := [(9, .null), (8, .int x8_1), (6, .long x6_2), (4, .long x4_3), (3, .ref (p_c x3_4j)), (0, .ref o), (1, .int x1), (2, .int x2)]) hx hb dX6_again_48 hl (Nat.le_of_ble_eq_true rfl) rfl (fun ls hl => ?_)
                  refine lv_iload_n hx hb dX6_again_50 rfl (lv_at hl 6 rfl) ?_
                  refine lv_iload hx hb dX6_again_51 (lv_at hl 1 rfl) ?_
                  refine lv_ishr hx hb dX6_again_53 ?_
                  refine lv_iconst (v := 1) hx hb dX6_again_54 (by decide) ?_
                  refine lv_iand hx hb dX6_again_55 ?_
                  refine lv_if_eq (tgt := 170) hx hb dX6_again_56 (by decide) (fun c_56 => ?_) (fun c_56 => ?_)
                  · replace hF := hF.trans (if_pos c_56)
                    have i_56 : ((x1 >>> (x8_1 &&& 31)) &&& 1).toInt = 0 := congrArg Int32.toInt c_56
                    refine lv_iinc (v := x8_1 + 1) (lv' := [(8, .int (x8_1 + 1)), (9, .null), (6, .long x6_2), (4, .long x4_3), (3, .ref (p_c x3_4j)), (0, .ref o), (1, .int x1), (2, .int x2)]) hx hb dX6_again_170 hl (k := 1) rfl rfl (Nat.le_of_ble_eq_true rfl) rfl (fun ls hl => ?_)
                    refine lv_goto (tgt := 32) hx hb dX6_again_173 (by decide) ?_
                    have e_inc : (x8_1 + 1).toInt = x8_1.toInt + 1 := ti_inc (by omega)
                    exact ih_32 (x8_1 + 1) x6_2 x4_3 (some x3_4j) (by first | with_reducible assumption | omega | decide) (by first | with_reducible assumption | omega | decide) (by first | with_reducible assumption | (intro j hj; cases hj; done) | (intro j hj; cases hj; first | assumption | exact tn_lt (n := 8) (by omega) (by omega))) (by omega) hF _ _ _ hh (lv_sub hl [0, 2, 3, 4, 5, 6, 7] rfl)
                  · replace hF := hF.trans (if_neg c_56)
                    have i_56 : ¬ ((x1 >>> (x8_1 &&& 31)) &&& 1).toInt = 0 := ti_ne c_56
                    refine lv_aloadN hx hb dX6_again_59 (lv_at hl 0 rfl) ?_
                    refine lv_ifnonnullN hx hb dX6_again_61 ?_
                    refine lv_goto (tgt := 170) hx hb dX6_again_64 (by decide) ?_
                    refine lv_iinc (v := x8_1 + 1) (lv' := [(8, .int (x8_1 + 1)), (9, .null), (6, .long x6_2), (4, .long x4_3), (3, .ref (p_c x3_4j)), (0, .ref o), (1, .int x1), (2, .int x2)]) hx hb dX6_again_170 hl (k := 1) rfl rfl (Nat.le_of_ble_eq_true rfl) rfl (fun ls hl => ?_)
                    refine lv_goto (tgt := 32) hx hb dX6_again_173 (by decide) ?_
                    have e_inc : (x8_1 + 1).toInt = x8_1.toInt + 1 := ti_inc (by omega)
                    exact ih_32 (x8_1 + 1) x6_2 x4_3 (some x3_4j) (by first | with_reducible assumption | omega | decide) (by first | with_reducible assumption | omega | decide) (by first | with_reducible assumption | (intro j hj; cases hj; done) | (intro j hj; cases hj; first | assumption | exact tn_lt (n := 8) (by omega) (by omega))) (by omega) hF _ _ _ hh (lv_sub hl [0, 2, 3, 4, 5, 6, 7] rfl)
                · refine W.eq (g2 := F0 m 48 ls [.ref (p_c x8_1.toNatClampNeg)]) (by rw [e_45]; rfl) ?_
                  replace hF := hF.trans (if_neg c_45)
                  obtain ⟨k0_45, k1_45⟩ := tld_in c_45
                  refine lv_astore (lv' := [(9, .ref (p_c x8_1.toNatClampNeg)), (8, .int x8_1), (6, .long x6_2), (4, .long x4_3), (3, .ref (p_c x3_4j)), (0, .ref o), (1, .int x1), (2, .int x2)]) hx hb dX6_again_48 hl (Nat.le_of_ble_eq_true rfl) rfl (fun ls hl => ?_)
                  refine lv_iload_n hx hb dX6_again_50 rfl (lv_at hl 6 rfl) ?_
                  refine lv_iload hx hb dX6_again_51 (lv_at hl 1 rfl) ?_
                  refine lv_ishr hx hb dX6_again_53 ?_
                  refine lv_iconst (v := 1) hx hb dX6_again_54 (by decide) ?_
                  refine lv_iand hx hb dX6_again_55 ?_
                  refine lv_if_eq (tgt := 170) hx hb dX6_again_56 (by decide) (fun c_56 => ?_) (fun c_56 => ?_)
                  · replace hF := hF.trans (if_pos c_56)
                    have i_56 : ((x1 >>> (x8_1 &&& 31)) &&& 1).toInt = 0 := congrArg Int32.toInt c_56
                    refine lv_iinc (v := x8_1 + 1) (lv' := [(8, .int (x8_1 + 1)), (9, .ref (p_c x8_1.toNatClampNeg)), (6, .long x6_2), (4, .long x4_3), (3, .ref (p_c x3_4j)), (0, .ref o), (1, .int x1), (2, .int x2)]) hx hb dX6_again_170 hl (k := 1) rfl rfl (Nat.le_of_ble_eq_true rfl) rfl (fun ls hl => ?_)
                    refine lv_goto (tgt := 32) hx hb dX6_again_173 (by decide) ?_
                    have e_inc : (x8_1 + 1).toInt = x8_1.toInt + 1 := ti_inc (by omega)
                    exact ih_32 (x8_1 + 1) x6_2 x4_3 (some x3_4j) (by first | with_reducible assumption | omega | decide) (by first | with_reducible assumption | omega | decide) (by first | with_reducible assumption | (intro j hj; cases hj; done) | (intro j hj; cases hj; first | assumption | exact tn_lt (n := 8) (by omega) (by omega))) (by omega) hF _ _ _ hh (lv_sub hl [0, 2, 3, 4, 5, 6, 7] rfl)
                  · replace hF := hF.trans (if_neg c_56)
                    have i_56 : ¬ ((x1 >>> (x8_1 &&& 31)) &&& 1).toInt = 0 := ti_ne c_56
                    refine lv_aload hx hb dX6_again_59 (lv_at hl 0 rfl) ?_
                    refine lv_ifnonnull (tgt := 67) hx hb dX6_again_61 (by decide) ?_
                    refine lv_aload_n hx hb dX6_again_67 rfl (lv_at hl 4 rfl) ?_
                    refine lv_ifnonnull (tgt := 77) hx hb dX6_again_68 (by decide) ?_
                    refine lv_aload hx hb dX6_again_77 (lv_at hl 0 rfl) ?_
                    refine g_get KX hh in_X6_again_X0 (6 + x8_1.toNatClampNeg) (clk_W6_p (tn_lt (k := x8_1) (n := 8) (by omega) (by omega))) rfl 3 (by decide) rfl (List.mem_of_getElem? (i := 3) rfl) dX6_again_79 ?_
                    refine lv_aload_n hx hb dX6_again_82 rfl (lv_at hl 4 rfl) ?_
                    refine g_get KX hh in_X6_again_X0 (6 + x3_4j) (clk_W6_p hx3_4j) rfl 3 (by decide) rfl (List.mem_of_getElem? (i := 3) rfl) dX6_again_83 ?_
                    refine lv_isub hx hb dX6_again_86 ?_
                    refine lv_i2l hx hb dX6_again_87 rfl ?_
                    refine lv_lstore (lv' := [(10, .long (((p_ck x8_1.toNatClampNeg 3) - (p_ck x3_4j 3)).toInt64)), (9, .ref (p_c x8_1.toNatClampNeg)), (8, .int x8_1), (6, .long x6_2), (4, .long x4_3), (3, .ref (p_c x3_4j)), (0, .ref o), (1, .int x1), (2, .int x2)]) hx hb dX6_again_88 hl (Nat.le_of_ble_eq_true rfl) rfl (fun ls hl => ?_)
                    refine lv_aload_n hx hb dX6_again_90 rfl (lv_at hl 5 rfl) ?_
                    refine lv_iconst (v := 0) hx hb dX6_again_91 (by decide) ?_
                    refine lv_aload_n hx hb dX6_again_92 rfl (lv_at hl 5 rfl) ?_
                    refine g_get KX hh in_X6_again_X0 (6 + x3_4j) (clk_W6_p hx3_4j) rfl 3 (by decide) rfl (List.mem_of_getElem? (i := 3) rfl) dX6_again_93 ?_
                    refine g_callV (As := [.int 0, .int (p_ck x3_4j 3)]) (rest := []) KX rfl ⟨Nat.le_of_ble_eq_true rfl, Nat.le_of_ble_eq_true rfl⟩ hh hl (c_X0_handAt l D cI cZ cC cH (p_c x3_4j) (p_ck x3_4j 0) (p_ck x3_4j 1) (p_ck x3_4j 2) (p_ck x3_4j 3) (p_ck x3_4j 4) (p_ck x3_4j 5) 0 (p_ck x3_4j 3) ) (JN.ro [6 + x3_4j] (by first | (simp only [List.map_cons, List.map_nil, clk_W6_p hx3_4j]; done) | (simp only [List.map_cons, List.map_nil, clk_W6_p hx3_4j]; rfl)) rfl) 2 gX6_again_X0_handAt rfl (by decide +kernel) ⟨Nat.le_of_ble_eq_true rfl, Nat.le_of_ble_eq_true rfl⟩ (6 + x3_4j) 0 rfl rfl (clk_W6_p hx3_4j) rfl rfl (Nat.le_of_ble_eq_true rfl) dX6_again_96 (fun H locs hh => ?_)
                    refine W.eq (g2 := F0 m 99 ls [.int (F_X0_handAt (p_ck x3_4j 0) (p_ck x3_4j 1) (p_ck x3_4j 2) 0 (p_ck x3_4j 3))]) rfl ?_
                    refine lv_aload hx hb dX6_again_99 (lv_at hl 1 rfl) ?_
                    refine lv_iconst (v := 0) hx hb dX6_again_101 (by decide) ?_
                    refine lv_aload hx hb dX6_again_102 (lv_at hl 1 rfl) ?_
                    refine g_get KX hh in_X6_again_X0 (6 + x8_1.toNatClampNeg) (clk_W6_p (tn_lt (k := x8_1) (n := 8) (by omega) (by omega))) rfl 3 (by decide) rfl (List.mem_of_getElem? (i := 3) rfl) dX6_again_104 ?_
                    refine g_callV (As := [.int 0, .int (p_ck x8_1.toNatClampNeg 3)]) (rest := [.int (F_X0_handAt (p_ck x3_4j 0) (p_ck x3_4j 1) (p_ck x3_4j 2) 0 (p_ck x3_4j 3))]) KX rfl ⟨Nat.le_of_ble_eq_true rfl, Nat.le_of_ble_eq_true rfl⟩ hh hl (c_X0_handAt l D cI cZ cC cH (p_c x8_1.toNatClampNeg) (p_ck x8_1.toNatClampNeg 0) (p_ck x8_1.toNatClampNeg 1) (p_ck x8_1.toNatClampNeg 2) (p_ck x8_1.toNatClampNeg 3) (p_ck x8_1.toNatClampNeg 4) (p_ck x8_1.toNatClampNeg 5) 0 (p_ck x8_1.toNatClampNeg 3) ) (JN.ro [6 + x8_1.toNatClampNeg] (by first | (simp only [List.map_cons, List.map_nil, clk_W6_p (tn_lt (k := x8_1) (n := 8) (by omega) (by omega))]; done) | (simp only [List.map_cons, List.map_nil, clk_W6_p (tn_lt (k := x8_1) (n := 8) (by omega) (by omega))]; rfl)) rfl) 2 gX6_again_X0_handAt rfl (by decide +kernel) ⟨Nat.le_of_ble_eq_true rfl, Nat.le_of_ble_eq_true rfl⟩ (6 + x8_1.toNatClampNeg) 0 rfl rfl (clk_W6_p (tn_lt (k := x8_1) (n := 8) (by omega) (by omega))) rfl rfl (Nat.le_of_ble_eq_true rfl) dX6_again_107 (fun H locs hh => ?_)
                    refine W.eq (g2 := F0 m 110 ls [.int (F_X0_handAt (p_ck x8_1.toNatClampNeg 0) (p_ck x8_1.toNatClampNeg 1) (p_ck x8_1.toNatClampNeg 2) 0 (p_ck x8_1.toNatClampNeg 3)), .int (F_X0_handAt (p_ck x3_4j 0) (p_ck x3_4j 1) (p_ck x3_4j 2) 0 (p_ck x3_4j 3))]) rfl ?_
                    refine lv_isub hx hb dX6_again_110 ?_
                    refine lv_i2l hx hb dX6_again_111 rfl ?_
                    refine lv_lstore (lv' := [(12, .long (((F_X0_handAt (p_ck x3_4j 0) (p_ck x3_4j 1) (p_ck x3_4j 2) 0 (p_ck x3_4j 3)) - (F_X0_handAt (p_ck x8_1.toNatClampNeg 0) (p_ck x8_1.toNatClampNeg 1) (p_ck x8_1.toNatClampNeg 2) 0 (p_ck x8_1.toNatClampNeg 3))).toInt64)), (10, .long (((p_ck x8_1.toNatClampNeg 3) - (p_ck x3_4j 3)).toInt64)), (9, .ref (p_c x8_1.toNatClampNeg)), (8, .int x8_1), (6, .long x6_2), (4, .long x4_3), (3, .ref (p_c x3_4j)), (0, .ref o), (1, .int x1), (2, .int x2)]) hx hb dX6_again_112 hl (Nat.le_of_ble_eq_true rfl) rfl (fun ls hl => ?_)
                    refine lv_lload hx hb dX6_again_114 (lv_at hl 1 rfl) ?_
                    refine lv_lload hx hb dX6_again_116 (lv_at hl 4 rfl) ?_
                    refine lv_lmul hx hb dX6_again_118 ?_
                    refine lv_lload hx hb dX6_again_119 (lv_at hl 0 rfl) ?_
                    refine lv_lload hx hb dX6_again_121 (lv_at hl 1 rfl) ?_
                    refine lv_lload hx hb dX6_again_123 (lv_at hl 5 rfl) ?_
                    refine lv_lmul hx hb dX6_again_125 ?_
                    refine lv_lsub hx hb dX6_again_126 ?_
                    refine g_callS (As := [.long ((((p_ck x8_1.toNatClampNeg 3) - (p_ck x3_4j 3)).toInt64) * x6_2), .long ((((F_X0_handAt (p_ck x3_4j 0) (p_ck x3_4j 1) (p_ck x3_4j 2) 0 (p_ck x3_4j 3)) - (F_X0_handAt (p_ck x8_1.toNatClampNeg 0) (p_ck x8_1.toNatClampNeg 1) (p_ck x8_1.toNatClampNeg 2) 0 (p_ck x8_1.toNatClampNeg 3))).toInt64) - ((((p_ck x8_1.toNatClampNeg 3) - (p_ck x3_4j 3)).toInt64) * x4_3))]) (rest := []) KX rfl ⟨Nat.le_of_ble_eq_true rfl, Nat.le_of_ble_eq_true rfl⟩ hh hl (c_X6_leastFactor l D cI cZ cC cH  ((((p_ck x8_1.toNatClampNeg 3) - (p_ck x3_4j 3)).toInt64) * x6_2) ((((F_X0_handAt (p_ck x3_4j 0) (p_ck x3_4j 1) (p_ck x3_4j 2) 0 (p_ck x3_4j 3)) - (F_X0_handAt (p_ck x8_1.toNatClampNeg 0) (p_ck x8_1.toNatClampNeg 1) (p_ck x8_1.toNatClampNeg 2) 0 (p_ck x8_1.toNatClampNeg 3))).toInt64) - ((((p_ck x8_1.toNatClampNeg 3) - (p_ck x3_4j 3)).toInt64) * x4_3)) ) JN.no 2 gX6_again_X6_leastFactor rfl (by decide +kernel) ⟨Nat.le_of_ble_eq_true rfl, Nat.le_of_ble_eq_true rfl⟩ rfl rfl (Nat.le_of_ble_eq_true rfl) dX6_again_127 (fun H locs hh => ?_)
                    refine W.eq (g2 := F0 m 130 ls [.long (F_X6_leastFactor ((((p_ck x8_1.toNatClampNeg 3) - (p_ck x3_4j 3)).toInt64) * x6_2) ((((F_X0_handAt (p_ck x3_4j 0) (p_ck x3_4j 1) (p_ck x3_4j 2) 0 (p_ck x3_4j 3)) - (F_X0_handAt (p_ck x8_1.toNatClampNeg 0) (p_ck x8_1.toNatClampNeg 1) (p_ck x8_1.toNatClampNeg 2) 0 (p_ck x8_1.toNatClampNeg 3))).toInt64) - ((((p_ck x8_1.toNatClampNeg 3) - (p_ck x3_4j 3)).toInt64) * x4_3)))]) rfl ?_
                    refine lv_lstore (lv' := [(14, .long (F_X6_leastFactor ((((p_ck x8_1.toNatClampNeg 3) - (p_ck x3_4j 3)).toInt64) * x6_2) ((((F_X0_handAt (p_ck x3_4j 0) (p_ck x3_4j 1) (p_ck x3_4j 2) 0 (p_ck x3_4j 3)) - (F_X0_handAt (p_ck x8_1.toNatClampNeg 0) (p_ck x8_1.toNatClampNeg 1) (p_ck x8_1.toNatClampNeg 2) 0 (p_ck x8_1.toNatClampNeg 3))).toInt64) - ((((p_ck x8_1.toNatClampNeg 3) - (p_ck x3_4j 3)).toInt64) * x4_3)))), (12, .long (((F_X0_handAt (p_ck x3_4j 0) (p_ck x3_4j 1) (p_ck x3_4j 2) 0 (p_ck x3_4j 3)) - (F_X0_handAt (p_ck x8_1.toNatClampNeg 0) (p_ck x8_1.toNatClampNeg 1) (p_ck x8_1.toNatClampNeg 2) 0 (p_ck x8_1.toNatClampNeg 3))).toInt64)), (10, .long (((p_ck x8_1.toNatClampNeg 3) - (p_ck x3_4j 3)).toInt64)), (9, .ref (p_c x8_1.toNatClampNeg)), (8, .int x8_1), (6, .long x6_2), (4, .long x4_3), (3, .ref (p_c x3_4j)), (0, .ref o), (1, .int x1), (2, .int x2)]) hx hb dX6_again_130 hl (Nat.le_of_ble_eq_true rfl) rfl (fun ls hl => ?_)
                    refine lv_lload hx hb dX6_again_132 (lv_at hl 0 rfl) ?_
                    refine lv_ldc2 (v := (-1)) hx hb KX.2.2.2.1 (KX.2.2.2.2.1 _ (List.mem_of_getElem? (i := 4) rfl)) dX6_again_134 ?_
                    refine W.lcmp hx hb dX6_again_137 ?_
                    refine lv_if_ne (tgt := 143) hx hb dX6_again_138 (by decide) (fun c_138 => ?_) (fun c_138 => ?_)
                    · replace hF := hF.trans (if_neg c_138)
                      refine lv_lload hx hb dX6_again_143 (lv_at hl 6 rfl) ?_
                      refine lv_lload hx hb dX6_again_145 (lv_at hl 0 rfl) ?_
                      refine lv_lload hx hb dX6_again_147 (lv_at hl 5 rfl) ?_
                      refine lv_lmul hx hb dX6_again_149 ?_
                      refine lv_ladd hx hb dX6_again_150 ?_
                      refine lv_lstore (lv' := [(4, .long (x4_3 + ((F_X6_leastFactor ((((p_ck x8_1.toNatClampNeg 3) - (p_ck x3_4j 3)).toInt64) * x6_2) ((((F_X0_handAt (p_ck x3_4j 0) (p_ck x3_4j 1) (p_ck x3_4j 2) 0 (p_ck x3_4j 3)) - (F_X0_handAt (p_ck x8_1.toNatClampNeg 0) (p_ck x8_1.toNatClampNeg 1) (p_ck x8_1.toNatClampNeg 2) 0 (p_ck x8_1.toNatClampNeg 3))).toInt64) - ((((p_ck x8_1.toNatClampNeg 3) - (p_ck x3_4j 3)).toInt64) * x4_3))) * x6_2))), (14, .long (F_X6_leastFactor ((((p_ck x8_1.toNatClampNeg 3) - (p_ck x3_4j 3)).toInt64) * x6_2) ((((F_X0_handAt (p_ck x3_4j 0) (p_ck x3_4j 1) (p_ck x3_4j 2) 0 (p_ck x3_4j 3)) - (F_X0_handAt (p_ck x8_1.toNatClampNeg 0) (p_ck x8_1.toNatClampNeg 1) (p_ck x8_1.toNatClampNeg 2) 0 (p_ck x8_1.toNatClampNeg 3))).toInt64) - ((((p_ck x8_1.toNatClampNeg 3) - (p_ck x3_4j 3)).toInt64) * x4_3)))), (12, .long (((F_X0_handAt (p_ck x3_4j 0) (p_ck x3_4j 1) (p_ck x3_4j 2) 0 (p_ck x3_4j 3)) - (F_X0_handAt (p_ck x8_1.toNatClampNeg 0) (p_ck x8_1.toNatClampNeg 1) (p_ck x8_1.toNatClampNeg 2) 0 (p_ck x8_1.toNatClampNeg 3))).toInt64)), (10, .long (((p_ck x8_1.toNatClampNeg 3) - (p_ck x3_4j 3)).toInt64)), (9, .ref (p_c x8_1.toNatClampNeg)), (8, .int x8_1), (6, .long x6_2), (3, .ref (p_c x3_4j)), (0, .ref o), (1, .int x1), (2, .int x2)]) hx hb dX6_again_151 hl (Nat.le_of_ble_eq_true rfl) rfl (fun ls hl => ?_)
                      refine lv_lload hx hb dX6_again_153 (lv_at hl 6 rfl) ?_
                      refine lv_ldc2 (v := 1036800) hx hb KX.2.2.2.1 (KX.2.2.2.2.1 _ (List.mem_of_getElem? (i := 5) rfl)) dX6_again_155 ?_
                      refine lv_lload hx hb dX6_again_158 (lv_at hl 3 rfl) ?_
                      refine lv_lload hx hb dX6_again_160 (lv_at hl 6 rfl) ?_
                      refine lv_lmul hx hb dX6_again_162 ?_
                      refine g_callS (As := [.long ((((p_ck x8_1.toNatClampNeg 3) - (p_ck x3_4j 3)).toInt64) * x6_2)]) (rest := [.long 1036800, .long x6_2]) KX rfl ⟨Nat.le_of_ble_eq_true rfl, Nat.le_of_ble_eq_true rfl⟩ hh hl (c_X6_sharedWithRound l D cI cZ cC cH  ((((p_ck x8_1.toNatClampNeg 3) - (p_ck x3_4j 3)).toInt64) * x6_2) ) JN.no 1 gX6_again_X6_sharedWithRound rfl (by decide +kernel) ⟨Nat.le_of_ble_eq_true rfl, Nat.le_of_ble_eq_true rfl⟩ rfl rfl (Nat.le_of_ble_eq_true rfl) dX6_again_163 (fun H locs hh => ?_)
                      refine W.eq (g2 := F0 m 166 ls [.long (F_X6_sharedWithRound ((((p_ck x8_1.toNatClampNeg 3) - (p_ck x3_4j 3)).toInt64) * x6_2)), .long 1036800, .long x6_2]) rfl ?_
                      refine lv_ldiv hx hb dX6_again_166 (shared_ne) ?_
                      refine lv_lmul hx hb dX6_again_167 ?_
                      refine lv_lstore (lv' := [(6, .long (x6_2 * (1036800 / (F_X6_sharedWithRound ((((p_ck x8_1.toNatClampNeg 3) - (p_ck x3_4j 3)).toInt64) * x6_2))))), (4, .long (x4_3 + ((F_X6_leastFactor ((((p_ck x8_1.toNatClampNeg 3) - (p_ck x3_4j 3)).toInt64) * x6_2) ((((F_X0_handAt (p_ck x3_4j 0) (p_ck x3_4j 1) (p_ck x3_4j 2) 0 (p_ck x3_4j 3)) - (F_X0_handAt (p_ck x8_1.toNatClampNeg 0) (p_ck x8_1.toNatClampNeg 1) (p_ck x8_1.toNatClampNeg 2) 0 (p_ck x8_1.toNatClampNeg 3))).toInt64) - ((((p_ck x8_1.toNatClampNeg 3) - (p_ck x3_4j 3)).toInt64) * x4_3))) * x6_2))), (14, .long (F_X6_leastFactor ((((p_ck x8_1.toNatClampNeg 3) - (p_ck x3_4j 3)).toInt64) * x6_2) ((((F_X0_handAt (p_ck x3_4j 0) (p_ck x3_4j 1) (p_ck x3_4j 2) 0 (p_ck x3_4j 3)) - (F_X0_handAt (p_ck x8_1.toNatClampNeg 0) (p_ck x8_1.toNatClampNeg 1) (p_ck x8_1.toNatClampNeg 2) 0 (p_ck x8_1.toNatClampNeg 3))).toInt64) - ((((p_ck x8_1.toNatClampNeg 3) - (p_ck x3_4j 3)).toInt64) * x4_3)))), (12, .long (((F_X0_handAt (p_ck x3_4j 0) (p_ck x3_4j 1) (p_ck x3_4j 2) 0 (p_ck x3_4j 3)) - (F_X0_handAt (p_ck x8_1.toNatClampNeg 0) (p_ck x8_1.toNatClampNeg 1) (p_ck x8_1.toNatClampNeg 2) 0 (p_ck x8_1.toNatClampNeg 3))).toInt64)), (10, .long (((p_ck x8_1.toNatClampNeg 3) - (p_ck x3_4j 3)).toInt64)), (9, .ref (p_c x8_1.toNatClampNeg)), (8, .int x8_1), (3, .ref (p_c x3_4j)), (0, .ref o), (1, .int x1), (2, .int x2)]) hx hb dX6_again_168 hl (Nat.le_of_ble_eq_true rfl) rfl (fun ls hl => ?_)
                      refine lv_iinc (v := x8_1 + 1) (lv' := [(8, .int (x8_1 + 1)), (6, .long (x6_2 * (1036800 / (F_X6_sharedWithRound ((((p_ck x8_1.toNatClampNeg 3) - (p_ck x3_4j 3)).toInt64) * x6_2))))), (4, .long (x4_3 + ((F_X6_leastFactor ((((p_ck x8_1.toNatClampNeg 3) - (p_ck x3_4j 3)).toInt64) * x6_2) ((((F_X0_handAt (p_ck x3_4j 0) (p_ck x3_4j 1) (p_ck x3_4j 2) 0 (p_ck x3_4j 3)) - (F_X0_handAt (p_ck x8_1.toNatClampNeg 0) (p_ck x8_1.toNatClampNeg 1) (p_ck x8_1.toNatClampNeg 2) 0 (p_ck x8_1.toNatClampNeg 3))).toInt64) - ((((p_ck x8_1.toNatClampNeg 3) - (p_ck x3_4j 3)).toInt64) * x4_3))) * x6_2))), (14, .long (F_X6_leastFactor ((((p_ck x8_1.toNatClampNeg 3) - (p_ck x3_4j 3)).toInt64) * x6_2) ((((F_X0_handAt (p_ck x3_4j 0) (p_ck x3_4j 1) (p_ck x3_4j 2) 0 (p_ck x3_4j 3)) - (F_X0_handAt (p_ck x8_1.toNatClampNeg 0) (p_ck x8_1.toNatClampNeg 1) (p_ck x8_1.toNatClampNeg 2) 0 (p_ck x8_1.toNatClampNeg 3))).toInt64) - ((((p_ck x8_1.toNatClampNeg 3) - (p_ck x3_4j 3)).toInt64) * x4_3)))), (12, .long (((F_X0_handAt (p_ck x3_4j 0) (p_ck x3_4j 1) (p_ck x3_4j 2) 0 (p_ck x3_4j 3)) - (F_X0_handAt (p_ck x8_1.toNatClampNeg 0) (p_ck x8_1.toNatClampNeg 1) (p_ck x8_1.toNatClampNeg 2) 0 (p_ck x8_1.toNatClampNeg 3))).toInt64)), (10, .long (((p_ck x8_1.toNatClampNeg 3) - (p_ck x3_4j 3)).toInt64)), (9, .ref (p_c x8_1.toNatClampNeg)), (3, .ref (p_c x3_4j)), (0, .ref o), (1, .int x1), (2, .int x2)]) hx hb dX6_again_170 hl (k := 6) rfl rfl (Nat.le_of_ble_eq_true rfl) rfl (fun ls hl => ?_)
                      refine lv_goto (tgt := 32) hx hb dX6_again_173 (by decide) ?_
                      have e_inc : (x8_1 + 1).toInt = x8_1.toInt + 1 := ti_inc (by omega)
                      exact ih_32 (x8_1 + 1) (x6_2 * (1036800 / (F_X6_sharedWithRound ((((p_ck x8_1.toNatClampNeg 3) - (p_ck x3_4j 3)).toInt64) * x6_2)))) (x4_3 + ((F_X6_leastFactor ((((p_ck x8_1.toNatClampNeg 3) - (p_ck x3_4j 3)).toInt64) * x6_2) ((((F_X0_handAt (p_ck x3_4j 0) (p_ck x3_4j 1) (p_ck x3_4j 2) 0 (p_ck x3_4j 3)) - (F_X0_handAt (p_ck x8_1.toNatClampNeg 0) (p_ck x8_1.toNatClampNeg 1) (p_ck x8_1.toNatClampNeg 2) 0 (p_ck x8_1.toNatClampNeg 3))).toInt64) - ((((p_ck x8_1.toNatClampNeg 3) - (p_ck x3_4j 3)).toInt64) * x4_3))) * x6_2)) (some x3_4j) (by first | with_reducible assumption | omega | decide) (by first | with_reducible assumption | omega | decide) (by first | with_reducible assumption | (intro j hj; cases hj; done) | (intro j hj; cases hj; first | assumption | exact tn_lt (n := 8) (by omega) (by omega))) (by omega) hF _ _ _ hh (lv_sub hl [0, 1, 2, 7, 8, 9, 10] rfl)
                    · replace hF := hF.trans (if_pos c_138)
                      refine lv_iconst (v := (-1)) hx hb dX6_again_141 (by decide) ?_
                      exact RT _ _ _ _ _ _ hh (rfl) (Or.inl ⟨_, rfl, by rw [hF], dX6_again_142, Or.inl rfl⟩)
        exact L_32 9 0 1 0 none (by first | with_reducible assumption | omega | decide) (by first | with_reducible assumption | omega | decide) (by first | with_reducible assumption | (intro j hj; cases hj; done) | (intro j hj; cases hj; first | assumption | exact tn_lt (n := 8) (by omega) (by omega))) (by first | omega | decide | (simp; done)) hF _ _ _ hh (lv_sub hl [0, 1, 2, 3, 4, 5, 6] rfl)
      · replace hF := hF.trans (if_neg c_15)
        have i_15 : 9999999 < x2.toInt := ti_nle c_15
        refine lv_bipush (v := (-3)) hx hb dX6_again_18 (by decide) ?_
        exact RT _ _ _ _ _ _ hh (rfl) (Or.inl ⟨_, rfl, by rw [hF], dX6_again_20, Or.inl rfl⟩)
