def F_X6_mostLeftBy_12 (p_ck : Nat → Nat → Int32) (misfits : Nat → Int32) (j1 : Nat) : Nat → Int32 → Int32 → (Nat → Int32) → Int32 × (Nat → Int32)
  | 0, _, _, _ => default
  | n + 1, x3_2, x2_3, w_shown_4 => (if 4320 ≤ x3_2 then (x2_3, w_shown_4) else (if (misfits x3_2.toNatClampNeg) = 0 then ((F_X6_mostLeftBy_12 p_ck misfits j1 n) (x3_2 + 1) (F_J9_max_7cf53 x2_3 ((upd w_shown_4 (F_X0_dialAt (p_ck j1 0) (p_ck j1 1) (p_ck j1 2) x3_2 (p_ck j1 3)).toNatClampNeg ((w_shown_4 (F_X0_dialAt (p_ck j1 0) (p_ck j1 1) (p_ck j1 2) x3_2 (p_ck j1 3)).toNatClampNeg) + 1)) (F_X0_dialAt (p_ck j1 0) (p_ck j1 1) (p_ck j1 2) x3_2 (p_ck j1 3)).toNatClampNeg)) (upd w_shown_4 (F_X0_dialAt (p_ck j1 0) (p_ck j1 1) (p_ck j1 2) x3_2 (p_ck j1 3)).toNatClampNeg ((w_shown_4 (F_X0_dialAt (p_ck j1 0) (p_ck j1 1) (p_ck j1 2) x3_2 (p_ck j1 3)).toNatClampNeg) + 1))) else ((F_X6_mostLeftBy_12 p_ck misfits j1 n) (x3_2 + 1) x2_3 w_shown_4)))
def F_X6_mostLeftBy_c5 (p_ck : Nat → Nat → Int32) (misfits : Nat → Int32) (j1 : Nat) (r5_1 : (Nat → Int32)) : Int32 × (Nat → Int32) := (F_X6_mostLeftBy_12 p_ck misfits j1 4321 0 0 r5_1)
def F_X6_mostLeftBy (p_ck : Nat → Nat → Int32) (misfits : Nat → Int32) (shown : Nat → Int32) (j1 : Nat) : Int32 × (Nat → Int32) := (F_X6_mostLeftBy_c5 p_ck misfits j1 (F_J7_fill_53178 shown 0))
theorem gm_X6_mostLeftBy_J9_max_7cf53_153 : GoodIn wsX6_mostLeftBy (va_wsS RX6 153 yJ9_max_7cf53 wsJ9_max_7cf53) := goodIn_of _ (by decide +kernel)
theorem in_X6_mostLeftBy_X6 : ∀ x ∈ u_ws RX6 TX6 9, x ∈ wsX6_mostLeftBy := by decide +kernel
theorem in_X6_mostLeftBy_X0 : ∀ x ∈ u_ws RX0 TX0 6, x ∈ wsX6_mostLeftBy := by decide +kernel
set_option maxHeartbeats 2000000 in
set_option maxRecDepth 100000 in
theorem c_X6_mostLeftBy (l : Launch) (D : va_G) (cI cZ cC cH : ClassId) (o t_o t_a_bytes t_a_rows p_o p_a_clocks p_n_o p_n_a_clocks p_n_a_minutes p_n_a_dials a_kept a_o a_a_clocks a_n_o a_n_a_clocks a_n_a_minutes a_n_a_dials b_o b_a_clocks b_n_o b_n_a_clocks b_n_a_minutes b_n_a_dials y_o r_o q_o q_a_clocks q_a_rates q_a_least a_misfits a_shown : Nat) (p_c : Nat → Nat) (a_c : Nat → Nat) (b_c : Nat → Nat) (sifted : Int32) (t_length : Int32) (t_lineCount : Int32) (t_start : Int32) (t_end : Int32) (t_bytes : Nat → Int32) (t_rows : Nat → Int32) (p_filled : Int32) (p_ck : Nat → Nat → Int32) (p_n_many : Int32) (p_n_clocks : Nat → Int32) (p_n_minutes : Nat → Int32) (p_n_dials : Nat → Int32) (a_filled : Int32) (a_ck : Nat → Nat → Int32) (a_n_many : Int32) (a_n_clocks : Nat → Int32) (a_n_minutes : Nat → Int32) (a_n_dials : Nat → Int32) (b_filled : Int32) (b_ck : Nat → Nat → Int32) (b_n_many : Int32) (b_n_clocks : Nat → Int32) (b_n_minutes : Nat → Int32) (b_n_dials : Nat → Int32) (y_many : Int32) (y_first : Int32) (y_last : Int32) (y_runs : Int32) (r_kind : Int32) (r_set : Int32) (r_dial : Int32) (r_low : Int32) (r_high : Int32) (r_read : Int32) (q_many : Int32) (q_clocks : Nat → Int32) (q_rates : Nat → Int32) (q_least : Nat → Int32) (misfits : Nat → Int32) (shown : Nat → Int32) (j1 : Nat) (hj1 : j1 < 8) : MC l D (TY cI cZ cC cH) yX6_mostLeftBy wsX6_mostLeftBy 3 67 [.ref o, .ref (p_c j1)] (W6 cI cZ cC cH o t_o t_a_bytes t_a_rows p_o p_a_clocks p_n_o p_n_a_clocks p_n_a_minutes p_n_a_dials a_kept a_o a_a_clocks a_n_o a_n_a_clocks a_n_a_minutes a_n_a_dials b_o b_a_clocks b_n_o b_n_a_clocks b_n_a_minutes b_n_a_dials y_o r_o q_o q_a_clocks q_a_rates q_a_least a_misfits a_shown p_c a_c b_c sifted t_length t_lineCount t_start t_end t_bytes t_rows p_filled p_ck p_n_many p_n_clocks p_n_minutes p_n_dials a_filled a_ck a_n_many a_n_clocks a_n_minutes a_n_dials b_filled b_ck b_n_many b_n_clocks b_n_minutes b_n_dials y_many y_first y_last y_runs r_kind r_set r_dial r_low r_high r_read q_many q_clocks q_rates q_least misfits shown) (some (.int ((F_X6_mostLeftBy p_ck misfits shown j1).1))) (W6 cI cZ cC cH o t_o t_a_bytes t_a_rows p_o p_a_clocks p_n_o p_n_a_clocks p_n_a_minutes p_n_a_dials a_kept a_o a_a_clocks a_n_o a_n_a_clocks a_n_a_minutes a_n_a_dials b_o b_a_clocks b_n_o b_n_a_clocks b_n_a_minutes b_n_a_dials y_o r_o q_o q_a_clocks q_a_rates q_a_least a_misfits a_shown p_c a_c b_c sifted t_length t_lineCount t_start t_end t_bytes t_rows p_filled p_ck p_n_many p_n_clocks p_n_minutes p_n_dials a_filled a_ck a_n_many a_n_clocks a_n_minutes a_n_dials b_filled b_ck b_n_many b_n_clocks b_n_minutes b_n_dials y_many y_first y_last y_runs r_kind r_set r_dial r_low r_high r_read q_many q_clocks q_rates q_least misfits (F_X6_mostLeftBy p_ck misfits shown j1).2) := by
  obtain ⟨R, hF⟩ : ∃ R, R = F_X6_mostLeftBy p_ck misfits shown j1 := ⟨_, rfl⟩
  rw [← hF]
  refine MC.of (cc := cX6_mostLeftBy) (maxL := 5) (ret := (some .int)) RX6 rfl (by decide +kernel) rfl (Nat.le_of_ble_eq_true rfl) ?_
  intro p e s m args below meth c A Q KX RT hh ls hl
  have z0 : (0 : Int32).toInt = 0 := rfl
  have z1 : (1 : Int32).toInt = 1 := rfl
  have zm : (-1 : Int32).toInt = -1 := rfl
  have hx := KX.1
  have hb := KX.2.1
  have hl : lv_has ls 5 [(0, .ref o), (1, .ref (p_c j1))] := hl
  unfold F_X6_mostLeftBy at hF
  refine lv_aload_n hx hb dX6_mostLeftBy_0 rfl (lv_at hl 0 rfl) ?_
  refine g_get KX hh in_X6_mostLeftBy_X6 0 rfl rfl 8 (by decide) rfl (List.mem_of_getElem? (i := 1) rfl) dX6_mostLeftBy_1 ?_
  refine lv_iconst (v := 0) hx hb dX6_mostLeftBy_4 (by decide) ?_
  refine g_callS (As := [.ref a_shown, .int 0]) (rest := []) KX rfl ⟨Nat.le_of_ble_eq_true rfl, Nat.le_of_ble_eq_true rfl⟩ hh hl (c_J7_fill_53178 l D cI cZ cC cH a_shown shown 0 ) (JN.up (ws1 := (W6 cI cZ cC cH o t_o t_a_bytes t_a_rows p_o p_a_clocks p_n_o p_n_a_clocks p_n_a_minutes p_n_a_dials a_kept a_o a_a_clocks a_n_o a_n_a_clocks a_n_a_minutes a_n_a_dials b_o b_a_clocks b_n_o b_n_a_clocks b_n_a_minutes b_n_a_dials y_o r_o q_o q_a_clocks q_a_rates q_a_least a_misfits a_shown p_c a_c b_c sifted t_length t_lineCount t_start t_end t_bytes t_rows p_filled p_ck p_n_many p_n_clocks p_n_minutes p_n_dials a_filled a_ck a_n_many a_n_clocks a_n_minutes a_n_dials b_filled b_ck b_n_many b_n_clocks b_n_minutes b_n_dials y_many y_first y_last y_runs r_kind r_set r_dial r_low r_high r_read q_many q_clocks q_rates q_least misfits (F_J7_fill_53178 shown 0))) [54] rfl rfl rfl rfl rfl) 2 gX6_mostLeftBy_J7_fill_53178 rfl (by decide +kernel) ⟨Nat.le_of_ble_eq_true rfl, Nat.le_of_ble_eq_true rfl⟩ rfl rfl (Nat.le_of_ble_eq_true rfl) dX6_mostLeftBy_5 (fun H locs hh => ?_)
  refine W.eq (g2 := F0 m 8 ls []) rfl ?_
  generalize q_5 : F_J7_fill_53178 shown 0 = r5_1 at hh hF ⊢
  unfold F_X6_mostLeftBy_c5 at hF
  refine lv_iconst (v := 0) hx hb dX6_mostLeftBy_8 (by decide) ?_
  refine lv_istore_n (lv' := [(2, .int 0), (0, .ref o), (1, .ref (p_c j1))]) hx hb dX6_mostLeftBy_9 rfl hl (Nat.le_of_ble_eq_true rfl) rfl (fun ls hl => ?_)
  refine lv_iconst (v := 0) hx hb dX6_mostLeftBy_10 (by decide) ?_
  refine lv_istore_n (lv' := [(3, .int 0), (2, .int 0), (0, .ref o), (1, .ref (p_c j1))]) hx hb dX6_mostLeftBy_11 rfl hl (Nat.le_of_ble_eq_true rfl) rfl (fun ls hl => ?_)
  have L_12 : ∀ (n_12 : Nat) (x3_2 : Int32) (x2_3 : Int32) (w_shown_4 : Nat → Int32) (i0_12 : 0 ≤ x3_2.toInt) (i1_12 : x3_2.toInt ≤ 4320) (_ : (4320 - x3_2.toInt).toNat < n_12) (_ : R = (F_X6_mostLeftBy_12 p_ck misfits j1) n_12 x3_2 x2_3 w_shown_4) (ls : Array Slot) (H : Heap) (locs : List Loc) (_ : HS D A s.heap (W6 cI cZ cC cH o t_o t_a_bytes t_a_rows p_o p_a_clocks p_n_o p_n_a_clocks p_n_a_minutes p_n_a_dials a_kept a_o a_a_clocks a_n_o a_n_a_clocks a_n_a_minutes a_n_a_dials b_o b_a_clocks b_n_o b_n_a_clocks b_n_a_minutes b_n_a_dials y_o r_o q_o q_a_clocks q_a_rates q_a_least a_misfits a_shown p_c a_c b_c sifted t_length t_lineCount t_start t_end t_bytes t_rows p_filled p_ck p_n_many p_n_clocks p_n_minutes p_n_dials a_filled a_ck a_n_many a_n_clocks a_n_minutes a_n_dials b_filled b_ck b_n_many b_n_clocks b_n_minutes b_n_dials y_many y_first y_last y_runs r_kind r_set r_dial r_low r_high r_read q_many q_clocks q_rates q_least misfits w_shown_4) H locs) (_ : lv_has ls 5 [(3, .int x3_2), (2, .int x2_3), (0, .ref o), (1, .ref (p_c j1))]), W p l e { frames := 3, cells := 0, slots := 0, locals := 67 } s m args below meth c H locs 0 0 Q (F0 m 12 ls []) := by
    intro n_12
    induction n_12 with
    | zero => intro x3_2 x2_3 w_shown_4 i0_12 i1_12 hm; exact absurd hm (Nat.not_lt_zero _)
    | succ n_12 ih_12 =>
      intro x3_2 x2_3 w_shown_4 i0_12 i1_12 hm_12 hF ls H locs hh hl
      rw [F_X6_mostLeftBy_12.eq_2] at hF
      refine lv_iload_n hx hb dX6_mostLeftBy_12 rfl (lv_at hl 0 rfl) ?_
      refine lv_sipush (v := 4320) hx hb dX6_mostLeftBy_13 (by decide) ?_
      refine lv_icmp_ge (tgt := 68) hx hb dX6_mostLeftBy_16 (by decide) (fun c_16 => ?_) (fun c_16 => ?_)
      · replace hF := hF.trans (if_pos c_16)
        have i_16 : 4320 ≤ x3_2.toInt := ti_le.mp c_16
        refine lv_iload_n hx hb dX6_mostLeftBy_68 rfl (lv_at hl 1 rfl) ?_
        exact RT _ _ _ _ _ _ hh (by rw [hF]) (Or.inl ⟨_, rfl, by rw [hF], dX6_mostLeftBy_69, Or.inl rfl⟩)
      · replace hF := hF.trans (if_neg c_16)
        have i_16 : x3_2.toInt < 4320 := ti_nle c_16
        refine lv_aload_n hx hb dX6_mostLeftBy_19 rfl (lv_at hl 2 rfl) ?_
        refine g_get KX hh in_X6_mostLeftBy_X6 0 rfl rfl 6 (by decide) rfl (List.mem_of_getElem? (i := 2) rfl) dX6_mostLeftBy_20 ?_
        refine lv_iload_n hx hb dX6_mostLeftBy_23 rfl (lv_at hl 0 rfl) ?_
        refine g_iald KX hh 53 0 rfl rfl (vp_in_iff.mpr (by omega)) dX6_mostLeftBy_24 ?_
        refine lv_if_ne (tgt := 62) hx hb dX6_mostLeftBy_25 (by decide) (fun c_25 => ?_) (fun c_25 => ?_)
        · replace hF := hF.trans (if_neg c_25)
          refine lv_iinc (v := x3_2 + 1) (lv' := [(3, .int (x3_2 + 1)), (2, .int x2_3), (0, .ref o), (1, .ref (p_c j1))]) hx hb dX6_mostLeftBy_62 hl (k := 0) rfl rfl (Nat.le_of_ble_eq_true rfl) rfl (fun ls hl => ?_)
          refine lv_goto (tgt := 12) hx hb dX6_mostLeftBy_65 (by decide) ?_
          have e_inc : (x3_2 + 1).toInt = x3_2.toInt + 1 := ti_inc (by omega)
          exact ih_12 (x3_2 + 1) x2_3 w_shown_4 (by first | with_reducible assumption | omega | decide) (by first | with_reducible assumption | omega | decide) (by omega) hF _ _ _ hh (lv_sub hl [0, 1, 2, 3] rfl)
        · replace hF := hF.trans (if_pos c_25)
          refine lv_aload_n hx hb dX6_mostLeftBy_28 rfl (lv_at hl 3 rfl) ?_
          refine lv_iload_n hx hb dX6_mostLeftBy_29 rfl (lv_at hl 0 rfl) ?_
          refine lv_aload_n hx hb dX6_mostLeftBy_30 rfl (lv_at hl 3 rfl) ?_
          refine g_get KX hh in_X6_mostLeftBy_X0 (6 + j1) (clk_W6_p hj1) rfl 3 (by decide) rfl (List.mem_of_getElem? (i := 3) rfl) dX6_mostLeftBy_31 ?_
          refine g_callV (As := [.int x3_2, .int (p_ck j1 3)]) (rest := []) KX rfl ⟨Nat.le_of_ble_eq_true rfl, Nat.le_of_ble_eq_true rfl⟩ hh hl (c_X0_dialAt l D cI cZ cC cH (p_c j1) (p_ck j1 0) (p_ck j1 1) (p_ck j1 2) (p_ck j1 3) (p_ck j1 4) (p_ck j1 5) x3_2 (p_ck j1 3) ) (JN.ro [6 + j1] (by first | (simp only [List.map_cons, List.map_nil, clk_W6_p hj1]; done) | (simp only [List.map_cons, List.map_nil, clk_W6_p hj1]; rfl)) rfl) 2 gX6_mostLeftBy_X0_dialAt rfl (by decide +kernel) ⟨Nat.le_of_ble_eq_true rfl, Nat.le_of_ble_eq_true rfl⟩ (6 + j1) 0 rfl rfl (clk_W6_p hj1) rfl rfl (Nat.le_of_ble_eq_true rfl) dX6_mostLeftBy_34 (fun H locs hh => ?_)
          refine W.eq (g2 := F0 m 37 ls [.int (F_X0_dialAt (p_ck j1 0) (p_ck j1 1) (p_ck j1 2) x3_2 (p_ck j1 3))]) rfl ?_
          refine lv_istore (lv' := [(4, .int (F_X0_dialAt (p_ck j1 0) (p_ck j1 1) (p_ck j1 2) x3_2 (p_ck j1 3))), (3, .int x3_2), (2, .int x2_3), (0, .ref o), (1, .ref (p_c j1))]) hx hb dX6_mostLeftBy_37 hl (Nat.le_of_ble_eq_true rfl) rfl (fun ls hl => ?_)
          refine lv_aload_n hx hb dX6_mostLeftBy_39 rfl (lv_at hl 3 rfl) ?_
          refine g_get KX hh in_X6_mostLeftBy_X6 0 rfl rfl 8 (by decide) rfl (List.mem_of_getElem? (i := 1) rfl) dX6_mostLeftBy_40 ?_
          refine lv_iload hx hb dX6_mostLeftBy_43 (lv_at hl 0 rfl) ?_
          refine lv_dup2_11 hx hb dX6_mostLeftBy_45 rfl rfl ?_
          refine g_iald KX hh 54 0 rfl rfl (dial_in) dX6_mostLeftBy_46 ?_
          refine lv_iconst (v := 1) hx hb dX6_mostLeftBy_47 (by decide) ?_
          refine lv_iadd hx hb dX6_mostLeftBy_48 ?_
          refine g_iast KX hh 54 0 rfl rfl (dial_in) (w' := (W6 cI cZ cC cH o t_o t_a_bytes t_a_rows p_o p_a_clocks p_n_o p_n_a_clocks p_n_a_minutes p_n_a_dials a_kept a_o a_a_clocks a_n_o a_n_a_clocks a_n_a_minutes a_n_a_dials b_o b_a_clocks b_n_o b_n_a_clocks b_n_a_minutes b_n_a_dials y_o r_o q_o q_a_clocks q_a_rates q_a_least a_misfits a_shown p_c a_c b_c sifted t_length t_lineCount t_start t_end t_bytes t_rows p_filled p_ck p_n_many p_n_clocks p_n_minutes p_n_dials a_filled a_ck a_n_many a_n_clocks a_n_minutes a_n_dials b_filled b_ck b_n_many b_n_clocks b_n_minutes b_n_dials y_many y_first y_last y_runs r_kind r_set r_dial r_low r_high r_read q_many q_clocks q_rates q_least misfits (upd w_shown_4 (F_X0_dialAt (p_ck j1 0) (p_ck j1 1) (p_ck j1 2) x3_2 (p_ck j1 3)).toNatClampNeg ((w_shown_4 (F_X0_dialAt (p_ck j1 0) (p_ck j1 1) (p_ck j1 2) x3_2 (p_ck j1 3)).toNatClampNeg) + 1)))) rfl dX6_mostLeftBy_49 (fun H locs hh => ?_)
          refine lv_iload_n hx hb dX6_mostLeftBy_50 rfl (lv_at hl 2 rfl) ?_
          refine lv_aload_n hx hb dX6_mostLeftBy_51 rfl (lv_at hl 3 rfl) ?_
          refine g_get KX hh in_X6_mostLeftBy_X6 0 rfl rfl 8 (by decide) rfl (List.mem_of_getElem? (i := 1) rfl) dX6_mostLeftBy_52 ?_
          refine lv_iload hx hb dX6_mostLeftBy_55 (lv_at hl 0 rfl) ?_
          refine g_iald KX hh 54 0 rfl rfl (dial_in) dX6_mostLeftBy_57 ?_
          refine g_callS (As := [.int x2_3, .int ((upd w_shown_4 (F_X0_dialAt (p_ck j1 0) (p_ck j1 1) (p_ck j1 2) x3_2 (p_ck j1 3)).toNatClampNeg ((w_shown_4 (F_X0_dialAt (p_ck j1 0) (p_ck j1 1) (p_ck j1 2) x3_2 (p_ck j1 3)).toNatClampNeg) + 1)) (F_X0_dialAt (p_ck j1 0) (p_ck j1 1) (p_ck j1 2) x3_2 (p_ck j1 3)).toNatClampNeg)]) (rest := []) KX rfl ⟨Nat.le_of_ble_eq_true rfl, Nat.le_of_ble_eq_true rfl⟩ hh hl (c_J9_max_7cf53 l D cI cZ cC cH  x2_3 ((upd w_shown_4 (F_X0_dialAt (p_ck j1 0) (p_ck j1 1) (p_ck j1 2) x3_2 (p_ck j1 3)).toNatClampNeg ((w_shown_4 (F_X0_dialAt (p_ck j1 0) (p_ck j1 1) (p_ck j1 2) x3_2 (p_ck j1 3)).toNatClampNeg) + 1)) (F_X0_dialAt (p_ck j1 0) (p_ck j1 1) (p_ck j1 2) x3_2 (p_ck j1 3)).toNatClampNeg) ) JN.no 2 gm_X6_mostLeftBy_J9_max_7cf53_153 rfl (by decide +kernel) ⟨Nat.le_of_ble_eq_true rfl, Nat.le_of_ble_eq_true rfl⟩ rfl rfl (Nat.le_of_ble_eq_true rfl) dX6_mostLeftBy_58 (fun H locs hh => ?_)
          refine W.eq (g2 := F0 m 61 ls [.int (F_J9_max_7cf53 x2_3 ((upd w_shown_4 (F_X0_dialAt (p_ck j1 0) (p_ck j1 1) (p_ck j1 2) x3_2 (p_ck j1 3)).toNatClampNeg ((w_shown_4 (F_X0_dialAt (p_ck j1 0) (p_ck j1 1) (p_ck j1 2) x3_2 (p_ck j1 3)).toNatClampNeg) + 1)) (F_X0_dialAt (p_ck j1 0) (p_ck j1 1) (p_ck j1 2) x3_2 (p_ck j1 3)).toNatClampNeg))]) rfl ?_
          refine lv_istore_n (lv' := [(2, .int (F_J9_max_7cf53 x2_3 ((upd w_shown_4 (F_X0_dialAt (p_ck j1 0) (p_ck j1 1) (p_ck j1 2) x3_2 (p_ck j1 3)).toNatClampNeg ((w_shown_4 (F_X0_dialAt (p_ck j1 0) (p_ck j1 1) (p_ck j1 2) x3_2 (p_ck j1 3)).toNatClampNeg) + 1)) (F_X0_dialAt (p_ck j1 0) (p_ck j1 1) (p_ck j1 2) x3_2 (p_ck j1 3)).toNatClampNeg))), (4, .int (F_X0_dialAt (p_ck j1 0) (p_ck j1 1) (p_ck j1 2) x3_2 (p_ck j1 3))), (3, .int x3_2), (0, .ref o), (1, .ref (p_c j1))]) hx hb dX6_mostLeftBy_61 rfl hl (Nat.le_of_ble_eq_true rfl) rfl (fun ls hl => ?_)
          refine lv_iinc (v := x3_2 + 1) (lv' := [(3, .int (x3_2 + 1)), (2, .int (F_J9_max_7cf53 x2_3 ((upd w_shown_4 (F_X0_dialAt (p_ck j1 0) (p_ck j1 1) (p_ck j1 2) x3_2 (p_ck j1 3)).toNatClampNeg ((w_shown_4 (F_X0_dialAt (p_ck j1 0) (p_ck j1 1) (p_ck j1 2) x3_2 (p_ck j1 3)).toNatClampNeg) + 1)) (F_X0_dialAt (p_ck j1 0) (p_ck j1 1) (p_ck j1 2) x3_2 (p_ck j1 3)).toNatClampNeg))), (4, .int (F_X0_dialAt (p_ck j1 0) (p_ck j1 1) (p_ck j1 2) x3_2 (p_ck j1 3))), (0, .ref o), (1, .ref (p_c j1))]) hx hb dX6_mostLeftBy_62 hl (k := 2) rfl rfl (Nat.le_of_ble_eq_true rfl) rfl (fun ls hl => ?_)
          refine lv_goto (tgt := 12) hx hb dX6_mostLeftBy_65 (by decide) ?_
          have e_inc : (x3_2 + 1).toInt = x3_2.toInt + 1 := ti_inc (by omega)
          exact ih_12 (x3_2 + 1) (F_J9_max_7cf53 x2_3 ((upd w_shown_4 (F_X0_dialAt (p_ck j1 0) (p_ck j1 1) (p_ck j1 2) x3_2 (p_ck j1 3)).toNatClampNeg ((w_shown_4 (F_X0_dialAt (p_ck j1 0) (p_ck j1 1) (p_ck j1 2) x3_2 (p_ck j1 3)).toNatClampNeg) + 1)) (F_X0_dialAt (p_ck j1 0) (p_ck j1 1) (p_ck j1 2) x3_2 (p_ck j1 3)).toNatClampNeg)) (upd w_shown_4 (F_X0_dialAt (p_ck j1 0) (p_ck j1 1) (p_ck j1 2) x3_2 (p_ck j1 3)).toNatClampNeg ((w_shown_4 (F_X0_dialAt (p_ck j1 0) (p_ck j1 1) (p_ck j1 2) x3_2 (p_ck j1 3)).toNatClampNeg) + 1)) (by first | with_reducible assumption | omega | decide) (by first | with_reducible assumption | omega | decide) (by omega) hF _ _ _ hh (lv_sub hl [0, 1, 3, 4] rfl)
  exact L_12 4321 0 0 r5_1 (by first | with_reducible assumption | omega | decide) (by first | with_reducible assumption | omega | decide) (by first | omega | decide | (simp; done)) hF _ _ _ hh (lv_sub hl [0, 1, 2, 3] rfl)
def F_X6_next_c73 (x4_2 : Int32) (x3_3 : Int32) (x2_4 : Int32) (k_22 : Int32 → Int32 → Int32 → (Nat → Int32) → Int32 × Int32 × (Nat → Int32) × (Nat → Int32)) (r73_6 : Int32 × (Nat → Int32)) : Int32 × Int32 × (Nat → Int32) × (Nat → Int32) := (if x2_4 = (-1) then (k_22 (x4_2 + 1) r73_6.1 x4_2 r73_6.2) else (if x3_3 ≤ r73_6.1 then (k_22 (x4_2 + 1) x3_3 x2_4 r73_6.2) else (k_22 (x4_2 + 1) r73_6.1 x4_2 r73_6.2)))
def F_X6_next_22 (p_ck : Nat → Nat → Int32) (x1 : Int32) (r12_1 : Int32 × (Nat → Int32)) : Nat → Int32 → Int32 → Int32 → (Nat → Int32) → Int32 × Int32 × (Nat → Int32) × (Nat → Int32)
  | 0, _, _, _, _ => default
  | n + 1, x4_2, x3_3, x2_4, w_shown_5 => (if 8 ≤ x4_2 then (if x1 = 0 then (x2_4, r12_1.1, r12_1.2, w_shown_5) else (x3_3, r12_1.1, r12_1.2, w_shown_5)) else (if tld p_ck x4_2 = 0 then ((F_X6_next_22 p_ck x1 r12_1 n) (x4_2 + 1) x3_3 x2_4 w_shown_5) else (if (p_ck x4_2.toNatClampNeg 5) = (-1) then (if (p_ck x4_2.toNatClampNeg 3) = (p_ck x4_2.toNatClampNeg 4) then (F_X6_next_c73 x4_2 x3_3 x2_4 (F_X6_next_22 p_ck x1 r12_1 n) (F_X6_mostLeftBy p_ck r12_1.2 w_shown_5 x4_2.toNatClampNeg)) else ((F_X6_next_22 p_ck x1 r12_1 n) (x4_2 + 1) x3_3 x2_4 w_shown_5)) else ((F_X6_next_22 p_ck x1 r12_1 n) (x4_2 + 1) x3_3 x2_4 w_shown_5))))
def F_X6_next_c12 (p_ck : Nat → Nat → Int32) (shown : Nat → Int32) (x1 : Int32) (r12_1 : Int32 × (Nat → Int32)) : Int32 × Int32 × (Nat → Int32) × (Nat → Int32) := (F_X6_next_22 p_ck x1 r12_1 9 0 (-1) (-1) shown)
def F_X6_next (sifted : Int32) (p_ck : Nat → Nat → Int32) (misfits : Nat → Int32) (shown : Nat → Int32) (x1 : Int32) : Int32 × Int32 × (Nat → Int32) × (Nat → Int32) := (if (F_X6_isBelow x1 2) = 0 then ((-3), sifted, misfits, shown) else (F_X6_next_c12 p_ck shown x1 (F_X6_sift sifted p_ck misfits)))
theorem in_X6_next_X6 : ∀ x ∈ u_ws RX6 TX6 9, x ∈ wsX6_next := by decide +kernel
theorem in_X6_next_X0 : ∀ x ∈ u_ws RX0 TX0 6, x ∈ wsX6_next := by decide +kernel
set_option maxHeartbeats 2000000 in
set_option maxRecDepth 100000 in
theorem c_X6_next (l : Launch) (D : va_G) (cI cZ cC cH : ClassId) (o t_o t_a_bytes t_a_rows p_o p_a_clocks p_n_o p_n_a_clocks p_n_a_minutes p_n_a_dials a_kept a_o a_a_clocks a_n_o a_n_a_clocks a_n_a_minutes a_n_a_dials b_o b_a_clocks b_n_o b_n_a_clocks b_n_a_minutes b_n_a_dials y_o r_o q_o q_a_clocks q_a_rates q_a_least a_misfits a_shown : Nat) (p_c : Nat → Nat) (a_c : Nat → Nat) (b_c : Nat → Nat) (sifted : Int32) (t_length : Int32) (t_lineCount : Int32) (t_start : Int32) (t_end : Int32) (t_bytes : Nat → Int32) (t_rows : Nat → Int32) (p_filled : Int32) (p_ck : Nat → Nat → Int32) (p_n_many : Int32) (p_n_clocks : Nat → Int32) (p_n_minutes : Nat → Int32) (p_n_dials : Nat → Int32) (a_filled : Int32) (a_ck : Nat → Nat → Int32) (a_n_many : Int32) (a_n_clocks : Nat → Int32) (a_n_minutes : Nat → Int32) (a_n_dials : Nat → Int32) (b_filled : Int32) (b_ck : Nat → Nat → Int32) (b_n_many : Int32) (b_n_clocks : Nat → Int32) (b_n_minutes : Nat → Int32) (b_n_dials : Nat → Int32) (y_many : Int32) (y_first : Int32) (y_last : Int32) (y_runs : Int32) (r_kind : Int32) (r_set : Int32) (r_dial : Int32) (r_low : Int32) (r_high : Int32) (r_read : Int32) (q_many : Int32) (q_clocks : Nat → Int32) (q_rates : Nat → Int32) (q_least : Nat → Int32) (misfits : Nat → Int32) (shown : Nat → Int32) (x1 : Int32)  : MC l D (TY cI cZ cC cH) yX6_next wsX6_next 5 116 [.ref o, .int x1] (W6 cI cZ cC cH o t_o t_a_bytes t_a_rows p_o p_a_clocks p_n_o p_n_a_clocks p_n_a_minutes p_n_a_dials a_kept a_o a_a_clocks a_n_o a_n_a_clocks a_n_a_minutes a_n_a_dials b_o b_a_clocks b_n_o b_n_a_clocks b_n_a_minutes b_n_a_dials y_o r_o q_o q_a_clocks q_a_rates q_a_least a_misfits a_shown p_c a_c b_c sifted t_length t_lineCount t_start t_end t_bytes t_rows p_filled p_ck p_n_many p_n_clocks p_n_minutes p_n_dials a_filled a_ck a_n_many a_n_clocks a_n_minutes a_n_dials b_filled b_ck b_n_many b_n_clocks b_n_minutes b_n_dials y_many y_first y_last y_runs r_kind r_set r_dial r_low r_high r_read q_many q_clocks q_rates q_least misfits shown) (some (.int ((F_X6_next sifted p_ck misfits shown x1).1))) (W6 cI cZ cC cH o t_o t_a_bytes t_a_rows p_o p_a_clocks p_n_o p_n_a_clocks p_n_a_minutes p_n_a_dials a_kept a_o a_a_clocks a_n_o a_n_a_clocks a_n_a_minutes a_n_a_dials b_o b_a_clocks b_n_o b_n_a_clocks b_n_a_minutes b_n_a_dials y_o r_o q_o q_a_clocks q_a_rates q_a_least a_misfits a_shown p_c a_c b_c (F_X6_next sifted p_ck misfits shown x1).2.1 t_length t_lineCount t_start t_end t_bytes t_rows p_filled p_ck p_n_many p_n_clocks p_n_minutes p_n_dials a_filled a_ck a_n_many a_n_clocks a_n_minutes a_n_dials b_filled b_ck b_n_many b_n_clocks b_n_minutes b_n_dials y_many y_first y_last y_runs r_kind r_set r_dial r_low r_high r_read q_many q_clocks q_rates q_least (F_X6_next sifted p_ck misfits shown x1).2.2.1 (F_X6_next sifted p_ck misfits shown x1).2.2.2) := by
  obtain ⟨R, hF⟩ : ∃ R, R = F_X6_next sifted p_ck misfits shown x1 := ⟨_, rfl⟩
  rw [← hF]
  refine MC.of (cc := cX6_next) (maxL := 7) (ret := (some .int)) RX6 rfl (by decide +kernel) rfl (Nat.le_of_ble_eq_true rfl) ?_
  intro p e s m args below meth c A Q KX RT hh ls hl
  have z0 : (0 : Int32).toInt = 0 := rfl
  have z1 : (1 : Int32).toInt = 1 := rfl
  have zm : (-1 : Int32).toInt = -1 := rfl
  have hx := KX.1
  have hb := KX.2.1
  have hl : lv_has ls 7 [(0, .ref o), (1, .int x1)] := hl
  unfold F_X6_next at hF
  refine lv_iload_n hx hb dX6_next_0 rfl (lv_at hl 1 rfl) ?_
  refine lv_iconst (v := 2) hx hb dX6_next_1 (by decide) ?_
  refine g_callS (As := [.int x1, .int 2]) (rest := []) KX rfl ⟨Nat.le_of_ble_eq_true rfl, Nat.le_of_ble_eq_true rfl⟩ hh hl (c_X6_isBelow l D cI cZ cC cH  x1 2 ) JN.no 2 gX6_next_X6_isBelow rfl (by decide +kernel) ⟨Nat.le_of_ble_eq_true rfl, Nat.le_of_ble_eq_true rfl⟩ rfl rfl (Nat.le_of_ble_eq_true rfl) dX6_next_2 (fun H locs hh => ?_)
  refine W.eq (g2 := F0 m 5 ls [.int (F_X6_isBelow x1 2)]) rfl ?_
  refine lv_if_ne (tgt := 11) hx hb dX6_next_5 (by decide) (fun c_5 => ?_) (fun c_5 => ?_)
  · replace hF := hF.trans (if_neg c_5)
    obtain ⟨k0_5, k1_5⟩ : (0 : Int) ≤ x1.toInt ∧ x1.toInt < 2 := X6_isBelow_in c_5
    refine lv_aload_n hx hb dX6_next_11 rfl (lv_at hl 0 rfl) ?_
    refine g_callV (As := []) (rest := []) KX rfl ⟨Nat.le_of_ble_eq_true rfl, Nat.le_of_ble_eq_true rfl⟩ hh hl (c_X6_sift l D cI cZ cC cH o t_o t_a_bytes t_a_rows p_o p_a_clocks p_n_o p_n_a_clocks p_n_a_minutes p_n_a_dials a_kept a_o a_a_clocks a_n_o a_n_a_clocks a_n_a_minutes a_n_a_dials b_o b_a_clocks b_n_o b_n_a_clocks b_n_a_minutes b_n_a_dials y_o r_o q_o q_a_clocks q_a_rates q_a_least a_misfits a_shown p_c a_c b_c sifted t_length t_lineCount t_start t_end t_bytes t_rows p_filled p_ck p_n_many p_n_clocks p_n_minutes p_n_dials a_filled a_ck a_n_many a_n_clocks a_n_minutes a_n_dials b_filled b_ck b_n_many b_n_clocks b_n_minutes b_n_dials y_many y_first y_last y_runs r_kind r_set r_dial r_low r_high r_read q_many q_clocks q_rates q_least misfits shown  ) JN.all 0 gX6_next_X6_sift rfl (by decide +kernel) ⟨Nat.le_of_ble_eq_true rfl, Nat.le_of_ble_eq_true rfl⟩ 0 6 rfl rfl rfl rfl rfl (Nat.le_of_ble_eq_true rfl) dX6_next_12 (fun H locs hh => ?_)
    refine W.eq (g2 := F0 m 15 ls []) rfl ?_
    generalize q_12 : F_X6_sift sifted p_ck misfits = r12_1 at hh hF ⊢
    unfold F_X6_next_c12 at hF
    refine lv_iconst (v := (-1)) hx hb dX6_next_15 (by decide) ?_
    refine lv_istore_n (lv' := [(2, .int (-1)), (0, .ref o), (1, .int x1)]) hx hb dX6_next_16 rfl hl (Nat.le_of_ble_eq_true rfl) rfl (fun ls hl => ?_)
    refine lv_iconst (v := (-1)) hx hb dX6_next_17 (by decide) ?_
    refine lv_istore_n (lv' := [(3, .int (-1)), (2, .int (-1)), (0, .ref o), (1, .int x1)]) hx hb dX6_next_18 rfl hl (Nat.le_of_ble_eq_true rfl) rfl (fun ls hl => ?_)
    refine lv_iconst (v := 0) hx hb dX6_next_19 (by decide) ?_
    refine lv_istore (lv' := [(4, .int 0), (3, .int (-1)), (2, .int (-1)), (0, .ref o), (1, .int x1)]) hx hb dX6_next_20 hl (Nat.le_of_ble_eq_true rfl) rfl (fun ls hl => ?_)
    have L_22 : ∀ (n_22 : Nat) (x4_2 : Int32) (x3_3 : Int32) (x2_4 : Int32) (w_shown_5 : Nat → Int32) (i0_22 : 0 ≤ x4_2.toInt) (i1_22 : x4_2.toInt ≤ 8) (_ : (8 - x4_2.toInt).toNat < n_22) (_ : R = (F_X6_next_22 p_ck x1 r12_1) n_22 x4_2 x3_3 x2_4 w_shown_5) (ls : Array Slot) (H : Heap) (locs : List Loc) (_ : HS D A s.heap (W6 cI cZ cC cH o t_o t_a_bytes t_a_rows p_o p_a_clocks p_n_o p_n_a_clocks p_n_a_minutes p_n_a_dials a_kept a_o a_a_clocks a_n_o a_n_a_clocks a_n_a_minutes a_n_a_dials b_o b_a_clocks b_n_o b_n_a_clocks b_n_a_minutes b_n_a_dials y_o r_o q_o q_a_clocks q_a_rates q_a_least a_misfits a_shown p_c a_c b_c r12_1.1 t_length t_lineCount t_start t_end t_bytes t_rows p_filled p_ck p_n_many p_n_clocks p_n_minutes p_n_dials a_filled a_ck a_n_many a_n_clocks a_n_minutes a_n_dials b_filled b_ck b_n_many b_n_clocks b_n_minutes b_n_dials y_many y_first y_last y_runs r_kind r_set r_dial r_low r_high r_read q_many q_clocks q_rates q_least r12_1.2 w_shown_5) H locs) (_ : lv_has ls 7 [(4, .int x4_2), (3, .int x3_3), (2, .int x2_4), (0, .ref o), (1, .int x1)]), W p l e { frames := 5, cells := 0, slots := 0, locals := 116 } s m args below meth c H locs 0 0 Q (F0 m 22 ls []) := by
      intro n_22
      induction n_22 with
      | zero => intro x4_2 x3_3 x2_4 w_shown_5 i0_22 i1_22 hm; exact absurd hm (Nat.not_lt_zero _)
      | succ n_22 ih_22 =>
        intro x4_2 x3_3 x2_4 w_shown_5 i0_22 i1_22 hm_22 hF ls H locs hh hl
        rw [F_X6_next_22.eq_2] at hF
        refine lv_iload hx hb dX6_next_22 (lv_at hl 0 rfl) ?_
        refine lv_bipush (v := 8) hx hb dX6_next_24 (by decide) ?_
        refine lv_icmp_ge (tgt := 101) hx hb dX6_next_26 (by decide) (fun c_26 => ?_) (fun c_26 => ?_)
        · replace hF := hF.trans (if_pos c_26)
          have i_26 : 8 ≤ x4_2.toInt := ti_le.mp c_26
          refine lv_iload_n hx hb dX6_next_101 rfl (lv_at hl 4 rfl) ?_
          refine lv_if_ne (tgt := 109) hx hb dX6_next_102 (by decide) (fun c_102 => ?_) (fun c_102 => ?_)
          · replace hF := hF.trans (if_neg c_102)
            have i_102 : ¬ x1.toInt = 0 := ti_ne c_102
            refine lv_iload_n hx hb dX6_next_109 rfl (lv_at hl 1 rfl) ?_
            exact RT _ _ _ _ _ _ hh (by rw [hF]) (Or.inl ⟨_, rfl, by rw [hF], dX6_next_110, Or.inl rfl⟩)
          · replace hF := hF.trans (if_pos c_102)
            have i_102 : x1.toInt = 0 := congrArg Int32.toInt c_102
            refine lv_iload_n hx hb dX6_next_105 rfl (lv_at hl 2 rfl) ?_
            refine lv_goto (tgt := 110) hx hb dX6_next_106 (by decide) ?_
            exact RT _ _ _ _ _ _ hh (by rw [hF]) (Or.inl ⟨_, rfl, by rw [hF], dX6_next_110, Or.inl rfl⟩)
        · replace hF := hF.trans (if_neg c_26)
          have i_26 : x4_2.toInt < 8 := ti_nle c_26
          refine lv_aload_n hx hb dX6_next_29 rfl (lv_at hl 3 rfl) ?_
          refine g_get KX hh in_X6_next_X6 0 rfl rfl 1 (by decide) rfl (List.mem_of_getElem? (i := 1) rfl) dX6_next_30 ?_
          refine lv_iload hx hb dX6_next_33 (lv_at hl 0 rfl) ?_
          refine g_callV (As := [.int x4_2]) (rest := []) KX rfl ⟨Nat.le_of_ble_eq_true rfl, Nat.le_of_ble_eq_true rfl⟩ hh hl (c_X1_toldClock l D cI cZ cC cH p_o p_a_clocks p_n_o p_n_a_clocks p_n_a_minutes p_n_a_dials p_c p_filled p_ck p_n_many p_n_clocks p_n_minutes p_n_dials x4_2 ) (JN.ro [4, 5, 6, 7, 8, 9, 10, 11, 12, 13, 14, 15, 16, 17] rfl (by decide +kernel)) 1 gX6_next_X1_toldClock rfl (by decide +kernel) ⟨Nat.le_of_ble_eq_true rfl, Nat.le_of_ble_eq_true rfl⟩ 4 1 rfl rfl rfl rfl rfl (Nat.le_of_ble_eq_true rfl) dX6_next_35 (fun H locs hh => ?_)
          rcases told_cases p_ck p_c x4_2 with ⟨c_35, e_35⟩ | ⟨c_35, e_35⟩
          · refine W.eq (g2 := F0 m 38 ls [.null]) (by rw [e_35]; rfl) ?_
            replace hF := hF.trans (if_pos c_35)
            refine lv_astoreN (lv' := [(5, .null), (4, .int x4_2), (3, .int x3_3), (2, .int x2_4), (0, .ref o), (1, .int x1)]) hx hb dX6_next_38 hl (Nat.le_of_ble_eq_true rfl) rfl (fun ls hl => ?_)
            refine lv_aloadN hx hb dX6_next_40 (lv_at hl 0 rfl) ?_
            refine lv_ifnullN (tgt := 95) hx hb dX6_next_42 (by decide) ?_
            refine lv_iinc (v := x4_2 + 1) (lv' := [(4, .int (x4_2 + 1)), (5, .null), (3, .int x3_3), (2, .int x2_4), (0, .ref o), (1, .int x1)]) hx hb dX6_next_95 hl (k := 1) rfl rfl (Nat.le_of_ble_eq_true rfl) rfl (fun ls hl => ?_)
            refine lv_goto (tgt := 22) hx hb dX6_next_98 (by decide) ?_
            have e_inc : (x4_2 + 1).toInt = x4_2.toInt + 1 := ti_inc (by omega)
            exact ih_22 (x4_2 + 1) x3_3 x2_4 w_shown_5 (by first | with_reducible assumption | omega | decide) (by first | with_reducible assumption | omega | decide) (by omega) hF _ _ _ hh (lv_sub hl [0, 2, 3, 4, 5] rfl)
          · refine W.eq (g2 := F0 m 38 ls [.ref (p_c x4_2.toNatClampNeg)]) (by rw [e_35]; rfl) ?_
            replace hF := hF.trans (if_neg c_35)
            obtain ⟨k0_35, k1_35⟩ := tld_in c_35
            refine lv_astore (lv' := [(5, .ref (p_c x4_2.toNatClampNeg)), (4, .int x4_2), (3, .int x3_3), (2, .int x2_4), (0, .ref o), (1, .int x1)]) hx hb dX6_next_38 hl (Nat.le_of_ble_eq_true rfl) rfl (fun ls hl => ?_)
            refine lv_aload hx hb dX6_next_40 (lv_at hl 0 rfl) ?_
            refine lv_ifnull hx hb dX6_next_42 ?_
            refine lv_aload hx hb dX6_next_45 (lv_at hl 0 rfl) ?_
            refine g_get KX hh in_X6_next_X0 (6 + x4_2.toNatClampNeg) (clk_W6_p (tn_lt (k := x4_2) (n := 8) (by omega) (by omega))) rfl 5 (by decide) rfl (List.mem_of_getElem? (i := 2) rfl) dX6_next_47 ?_
            refine lv_iconst (v := (-1)) hx hb dX6_next_50 (by decide) ?_
            refine lv_icmp_ne (tgt := 95) hx hb dX6_next_51 (by decide) (fun c_51 => ?_) (fun c_51 => ?_)
            · replace hF := hF.trans (if_neg c_51)
              refine lv_iinc (v := x4_2 + 1) (lv' := [(4, .int (x4_2 + 1)), (5, .ref (p_c x4_2.toNatClampNeg)), (3, .int x3_3), (2, .int x2_4), (0, .ref o), (1, .int x1)]) hx hb dX6_next_95 hl (k := 1) rfl rfl (Nat.le_of_ble_eq_true rfl) rfl (fun ls hl => ?_)
              refine lv_goto (tgt := 22) hx hb dX6_next_98 (by decide) ?_
              have e_inc : (x4_2 + 1).toInt = x4_2.toInt + 1 := ti_inc (by omega)
              exact ih_22 (x4_2 + 1) x3_3 x2_4 w_shown_5 (by first | with_reducible assumption | omega | decide) (by first | with_reducible assumption | omega | decide) (by omega) hF _ _ _ hh (lv_sub hl [0, 2, 3, 4, 5] rfl)
            · replace hF := hF.trans (if_pos c_51)
              refine lv_aload hx hb dX6_next_54 (lv_at hl 0 rfl) ?_
              refine g_get KX hh in_X6_next_X0 (6 + x4_2.toNatClampNeg) (clk_W6_p (tn_lt (k := x4_2) (n := 8) (by omega) (by omega))) rfl 3 (by decide) rfl (List.mem_of_getElem? (i := 3) rfl) dX6_next_56 ?_
              refine lv_aload hx hb dX6_next_59 (lv_at hl 0 rfl) ?_
              refine g_get KX hh in_X6_next_X0 (6 + x4_2.toNatClampNeg) (clk_W6_p (tn_lt (k := x4_2) (n := 8) (by omega) (by omega))) rfl 4 (by decide) rfl (List.mem_of_getElem? (i := 4) rfl) dX6_next_61 ?_
              refine lv_icmp_eq (tgt := 70) hx hb dX6_next_64 (by decide) (fun c_64 => ?_) (fun c_64 => ?_)
              · replace hF := hF.trans (if_pos c_64)
                refine lv_aload_n hx hb dX6_next_70 rfl (lv_at hl 4 rfl) ?_
                refine lv_aload hx hb dX6_next_71 (lv_at hl 0 rfl) ?_
                refine g_callV (As := [.ref (p_c x4_2.toNatClampNeg)]) (rest := []) KX rfl ⟨Nat.le_of_ble_eq_true rfl, Nat.le_of_ble_eq_true rfl⟩ hh hl (c_X6_mostLeftBy l D cI cZ cC cH o t_o t_a_bytes t_a_rows p_o p_a_clocks p_n_o p_n_a_clocks p_n_a_minutes p_n_a_dials a_kept a_o a_a_clocks a_n_o a_n_a_clocks a_n_a_minutes a_n_a_dials b_o b_a_clocks b_n_o b_n_a_clocks b_n_a_minutes b_n_a_dials y_o r_o q_o q_a_clocks q_a_rates q_a_least a_misfits a_shown p_c a_c b_c r12_1.1 t_length t_lineCount t_start t_end t_bytes t_rows p_filled p_ck p_n_many p_n_clocks p_n_minutes p_n_dials a_filled a_ck a_n_many a_n_clocks a_n_minutes a_n_dials b_filled b_ck b_n_many b_n_clocks b_n_minutes b_n_dials y_many y_first y_last y_runs r_kind r_set r_dial r_low r_high r_read q_many q_clocks q_rates q_least r12_1.2 w_shown_5 x4_2.toNatClampNeg (by first | with_reducible assumption | omega | decide | exact tn_lt (n := 8) (by omega) (by omega))) JN.all 1 gX6_next_X6_mostLeftBy rfl (by decide +kernel) ⟨Nat.le_of_ble_eq_true rfl, Nat.le_of_ble_eq_true rfl⟩ 0 6 rfl rfl rfl rfl rfl (Nat.le_of_ble_eq_true rfl) dX6_next_73 (fun H locs hh => ?_)
                refine W.eq (g2 := F0 m 76 ls [.int ((F_X6_mostLeftBy p_ck r12_1.2 w_shown_5 x4_2.toNatClampNeg).1)]) rfl ?_
                generalize q_73 : F_X6_mostLeftBy p_ck r12_1.2 w_shown_5 x4_2.toNatClampNeg = r73_6 at hh hF ⊢
                unfold F_X6_next_c73 at hF
                refine lv_istore (lv' := [(6, .int r73_6.1), (5, .ref (p_c x4_2.toNatClampNeg)), (4, .int x4_2), (3, .int x3_3), (2, .int x2_4), (0, .ref o), (1, .int x1)]) hx hb dX6_next_76 hl (Nat.le_of_ble_eq_true rfl) rfl (fun ls hl => ?_)
                refine lv_iload_n hx hb dX6_next_78 rfl (lv_at hl 4 rfl) ?_
                refine lv_iconst (v := (-1)) hx hb dX6_next_79 (by decide) ?_
                refine lv_icmp_eq (tgt := 89) hx hb dX6_next_80 (by decide) (fun c_80 => ?_) (fun c_80 => ?_)
                · replace hF := hF.trans (if_pos c_80)
                  have i_80 : x2_4.toInt = (-1) := congrArg Int32.toInt c_80
                  refine lv_iload hx hb dX6_next_89 (lv_at hl 2 rfl) ?_
                  refine lv_istore_n (lv' := [(2, .int x4_2), (6, .int r73_6.1), (5, .ref (p_c x4_2.toNatClampNeg)), (4, .int x4_2), (3, .int x3_3), (0, .ref o), (1, .int x1)]) hx hb dX6_next_91 rfl hl (Nat.le_of_ble_eq_true rfl) rfl (fun ls hl => ?_)
                  refine lv_iload hx hb dX6_next_92 (lv_at hl 1 rfl) ?_
                  refine lv_istore_n (lv' := [(3, .int r73_6.1), (2, .int x4_2), (6, .int r73_6.1), (5, .ref (p_c x4_2.toNatClampNeg)), (4, .int x4_2), (0, .ref o), (1, .int x1)]) hx hb dX6_next_94 rfl hl (Nat.le_of_ble_eq_true rfl) rfl (fun ls hl => ?_)
                  refine lv_iinc (v := x4_2 + 1) (lv' := [(4, .int (x4_2 + 1)), (3, .int r73_6.1), (2, .int x4_2), (6, .int r73_6.1), (5, .ref (p_c x4_2.toNatClampNeg)), (0, .ref o), (1, .int x1)]) hx hb dX6_next_95 hl (k := 4) rfl rfl (Nat.le_of_ble_eq_true rfl) rfl (fun ls hl => ?_)
                  refine lv_goto (tgt := 22) hx hb dX6_next_98 (by decide) ?_
                  have e_inc : (x4_2 + 1).toInt = x4_2.toInt + 1 := ti_inc (by omega)
                  exact ih_22 (x4_2 + 1) r73_6.1 x4_2 r73_6.2 (by first | with_reducible assumption | omega | decide) (by first | with_reducible assumption | omega | decide) (by omega) hF _ _ _ hh (lv_sub hl [0, 1, 2, 5, 6] rfl)
                · replace hF := hF.trans (if_neg c_80)
                  have i_80 : ¬ x2_4.toInt = (-1) := ti_ne c_80
                  refine lv_iload hx hb dX6_next_83 (lv_at hl 0 rfl) ?_
                  refine lv_iload_n hx hb dX6_next_85 rfl (lv_at hl 3 rfl) ?_
                  refine lv_icmp_ge (tgt := 95) hx hb dX6_next_86 (by decide) (fun c_86 => ?_) (fun c_86 => ?_)
                  · replace hF := hF.trans (if_pos c_86)
                    have i_86 : x3_3.toInt ≤ r73_6.1.toInt := ti_le.mp c_86
                    refine lv_iinc (v := x4_2 + 1) (lv' := [(4, .int (x4_2 + 1)), (6, .int r73_6.1), (5, .ref (p_c x4_2.toNatClampNeg)), (3, .int x3_3), (2, .int x2_4), (0, .ref o), (1, .int x1)]) hx hb dX6_next_95 hl (k := 2) rfl rfl (Nat.le_of_ble_eq_true rfl) rfl (fun ls hl => ?_)
                    refine lv_goto (tgt := 22) hx hb dX6_next_98 (by decide) ?_
                    have e_inc : (x4_2 + 1).toInt = x4_2.toInt + 1 := ti_inc (by omega)
                    exact ih_22 (x4_2 + 1) x3_3 x2_4 r73_6.2 (by first | with_reducible assumption | omega | decide) (by first | with_reducible assumption | omega | decide) (by omega) hF _ _ _ hh (lv_sub hl [0, 3, 4, 5, 6] rfl)
                  · replace hF := hF.trans (if_neg c_86)
                    have i_86 : r73_6.1.toInt < x3_3.toInt := ti_nle c_86
                    refine lv_iload hx hb dX6_next_89 (lv_at hl 2 rfl) ?_
                    refine lv_istore_n (lv' := [(2, .int x4_2), (6, .int r73_6.1), (5, .ref (p_c x4_2.toNatClampNeg)), (4, .int x4_2), (3, .int x3_3), (0, .ref o), (1, .int x1)]) hx hb dX6_next_91 rfl hl (Nat.le_of_ble_eq_true rfl) rfl (fun ls hl => ?_)
                    refine lv_iload hx hb dX6_next_92 (lv_at hl 1 rfl) ?_
                    refine lv_istore_n (lv' := [(3, .int r73_6.1), (2, .int x4_2), (6, .int r73_6.1), (5, .ref (p_c x4_2.toNatClampNeg)), (4, .int x4_2), (0, .ref o), (1, .int x1)]) hx hb dX6_next_94 rfl hl (Nat.le_of_ble_eq_true rfl) rfl (fun ls hl => ?_)
                    refine lv_iinc (v := x4_2 + 1) (lv' := [(4, .int (x4_2 + 1)), (3, .int r73_6.1), (2, .int x4_2), (6, .int r73_6.1), (5, .ref (p_c x4_2.toNatClampNeg)), (0, .ref o), (1, .int x1)]) hx hb dX6_next_95 hl (k := 4) rfl rfl (Nat.le_of_ble_eq_true rfl) rfl (fun ls hl => ?_)
                    refine lv_goto (tgt := 22) hx hb dX6_next_98 (by decide) ?_
                    have e_inc : (x4_2 + 1).toInt = x4_2.toInt + 1 := ti_inc (by omega)
                    exact ih_22 (x4_2 + 1) r73_6.1 x4_2 r73_6.2 (by first | with_reducible assumption | omega | decide) (by first | with_reducible assumption | omega | decide) (by omega) hF _ _ _ hh (lv_sub hl [0, 1, 2, 5, 6] rfl)
              · replace hF := hF.trans (if_neg c_64)
                refine lv_goto (tgt := 95) hx hb dX6_next_67 (by decide) ?_
                refine lv_iinc (v := x4_2 + 1) (lv' := [(4, .int (x4_2 + 1)), (5, .ref (p_c x4_2.toNatClampNeg)), (3, .int x3_3), (2, .int x2_4), (0, .ref o), (1, .int x1)]) hx hb dX6_next_95 hl (k := 1) rfl rfl (Nat.le_of_ble_eq_true rfl) rfl (fun ls hl => ?_)
                refine lv_goto (tgt := 22) hx hb dX6_next_98 (by decide) ?_
                have e_inc : (x4_2 + 1).toInt = x4_2.toInt + 1 := ti_inc (by omega)
                exact ih_22 (x4_2 + 1) x3_3 x2_4 w_shown_5 (by first | with_reducible assumption | omega | decide) (by first | with_reducible assumption | omega | decide) (by omega) hF _ _ _ hh (lv_sub hl [0, 2, 3, 4, 5] rfl)
    exact L_22 9 0 (-1) (-1) shown (by first | with_reducible assumption | omega | decide) (by first | with_reducible assumption | omega | decide) (by first | omega | decide | (simp; done)) hF _ _ _ hh (lv_sub hl [0, 1, 2, 3, 4] rfl)
  · replace hF := hF.trans (if_pos c_5)
    refine lv_bipush (v := (-3)) hx hb dX6_next_8 (by decide) ?_
    exact RT _ _ _ _ _ _ hh (by rw [hF]) (Or.inl ⟨_, rfl, by rw [hF], dX6_next_10, Or.inl rfl⟩)
def F_X6_note_c47  (r47_1 : Int32 × Int32 × (Nat → Int32) × (Nat → Int32) × (Nat → Int32)) : Int32 × Int32 × (Nat → Int32) × (Nat → Int32) × (Nat → Int32) := (if r47_1.1 = 0 then ((-5), r47_1.2.1, r47_1.2.2.1, r47_1.2.2.2.1, r47_1.2.2.2.2) else (r47_1.2.1, r47_1.2.1, r47_1.2.2.1, r47_1.2.2.2.1, r47_1.2.2.2.2))
def F_X6_note (p_ck : Nat → Nat → Int32) (p_n_many : Int32) (p_n_clocks : Nat → Int32) (p_n_minutes : Nat → Int32) (p_n_dials : Nat → Int32) (x1 : Int32) (x2 : Int32) (x3 : Int32) : Int32 × Int32 × (Nat → Int32) × (Nat → Int32) × (Nat → Int32) := (if tld p_ck x1 = 0 then ((-2), p_n_many, p_n_clocks, p_n_minutes, p_n_dials) else (if (F_X6_isBelow x2 4320) = 0 then ((-3), p_n_many, p_n_clocks, p_n_minutes, p_n_dials) else (if (F_X6_isBelow x3 720) = 0 then ((-3), p_n_many, p_n_clocks, p_n_minutes, p_n_dials) else (F_X6_note_c47 (F_X2_add p_n_many p_n_clocks p_n_minutes p_n_dials x1 x2 x3)))))
theorem in_X6_note_X6 : ∀ x ∈ u_ws RX6 TX6 9, x ∈ wsX6_note := by decide +kernel
theorem in_X6_note_X1 : ∀ x ∈ u_ws RX1 TX1 3, x ∈ wsX6_note := by decide +kernel
theorem in_X6_note_X2 : ∀ x ∈ u_ws RX2 TX2 4, x ∈ wsX6_note := by decide +kernel
set_option maxHeartbeats 2000000 in
set_option maxRecDepth 100000 in
theorem c_X6_note (l : Launch) (D : va_G) (cI cZ cC cH : ClassId) (o t_o t_a_bytes t_a_rows p_o p_a_clocks p_n_o p_n_a_clocks p_n_a_minutes p_n_a_dials a_kept a_o a_a_clocks a_n_o a_n_a_clocks a_n_a_minutes a_n_a_dials b_o b_a_clocks b_n_o b_n_a_clocks b_n_a_minutes b_n_a_dials y_o r_o q_o q_a_clocks q_a_rates q_a_least a_misfits a_shown : Nat) (p_c : Nat → Nat) (a_c : Nat → Nat) (b_c : Nat → Nat) (sifted : Int32) (t_length : Int32) (t_lineCount : Int32) (t_start : Int32) (t_end : Int32) (t_bytes : Nat → Int32) (t_rows : Nat → Int32) (p_filled : Int32) (p_ck : Nat → Nat → Int32) (p_n_many : Int32) (p_n_clocks : Nat → Int32) (p_n_minutes : Nat → Int32) (p_n_dials : Nat → Int32) (a_filled : Int32) (a_ck : Nat → Nat → Int32) (a_n_many : Int32) (a_n_clocks : Nat → Int32) (a_n_minutes : Nat → Int32) (a_n_dials : Nat → Int32) (b_filled : Int32) (b_ck : Nat → Nat → Int32) (b_n_many : Int32) (b_n_clocks : Nat → Int32) (b_n_minutes : Nat → Int32) (b_n_dials : Nat → Int32) (y_many : Int32) (y_first : Int32) (y_last : Int32) (y_runs : Int32) (r_kind : Int32) (r_set : Int32) (r_dial : Int32) (r_low : Int32) (r_high : Int32) (r_read : Int32) (q_many : Int32) (q_clocks : Nat → Int32) (q_rates : Nat → Int32) (q_least : Nat → Int32) (misfits : Nat → Int32) (shown : Nat → Int32) (x1 : Int32) (x2 : Int32) (x3 : Int32) (hn0 : 0 ≤ p_n_many.toInt) : MC l D (TY cI cZ cC cH) yX6_note wsX6_note 2 42 [.ref o, .int x1, .int x2, .int x3] (W6 cI cZ cC cH o t_o t_a_bytes t_a_rows p_o p_a_clocks p_n_o p_n_a_clocks p_n_a_minutes p_n_a_dials a_kept a_o a_a_clocks a_n_o a_n_a_clocks a_n_a_minutes a_n_a_dials b_o b_a_clocks b_n_o b_n_a_clocks b_n_a_minutes b_n_a_dials y_o r_o q_o q_a_clocks q_a_rates q_a_least a_misfits a_shown p_c a_c b_c sifted t_length t_lineCount t_start t_end t_bytes t_rows p_filled p_ck p_n_many p_n_clocks p_n_minutes p_n_dials a_filled a_ck a_n_many a_n_clocks a_n_minutes a_n_dials b_filled b_ck b_n_many b_n_clocks b_n_minutes b_n_dials y_many y_first y_last y_runs r_kind r_set r_dial r_low r_high r_read q_many q_clocks q_rates q_least misfits shown) (some (.int ((F_X6_note p_ck p_n_many p_n_clocks p_n_minutes p_n_dials x1 x2 x3).1))) (W6 cI cZ cC cH o t_o t_a_bytes t_a_rows p_o p_a_clocks p_n_o p_n_a_clocks p_n_a_minutes p_n_a_dials a_kept a_o a_a_clocks a_n_o a_n_a_clocks a_n_a_minutes a_n_a_dials b_o b_a_clocks b_n_o b_n_a_clocks b_n_a_minutes b_n_a_dials y_o r_o q_o q_a_clocks q_a_rates q_a_least a_misfits a_shown p_c a_c b_c sifted t_length t_lineCount t_start t_end t_bytes t_rows p_filled p_ck (F_X6_note p_ck p_n_many p_n_clocks p_n_minutes p_n_dials x1 x2 x3).2.1 (F_X6_note p_ck p_n_many p_n_clocks p_n_minutes p_n_dials x1 x2 x3).2.2.1 (F_X6_note p_ck p_n_many p_n_clocks p_n_minutes p_n_dials x1 x2 x3).2.2.2.1 (F_X6_note p_ck p_n_many p_n_clocks p_n_minutes p_n_dials x1 x2 x3).2.2.2.2 a_filled a_ck a_n_many a_n_clocks a_n_minutes a_n_dials b_filled b_ck b_n_many b_n_clocks b_n_minutes b_n_dials y_many y_first y_last y_runs r_kind r_set r_dial r_low r_high r_read q_many q_clocks q_rates q_least misfits shown) := by
  obtain ⟨R, hF⟩ : ∃ R, R = F_X6_note p_ck p_n_many p_n_clocks p_n_minutes p_n_dials x1 x2 x3 := ⟨_, rfl⟩
  rw [← hF]
  refine MC.of (cc := cX6_note) (maxL := 4) (ret := (some .int)) RX6 rfl (by decide +kernel) rfl (Nat.le_of_ble_eq_true rfl) ?_
  intro p e s m args below meth c A Q KX RT hh ls hl
  have z0 : (0 : Int32).toInt = 0 := rfl
  have z1 : (1 : Int32).toInt = 1 := rfl
  have zm : (-1 : Int32).toInt = -1 := rfl
  have hx := KX.1
  have hb := KX.2.1
  have hl : lv_has ls 4 [(0, .ref o), (1, .int x1), (2, .int x2), (3, .int x3)] := hl
  unfold F_X6_note at hF
  refine lv_aload_n hx hb dX6_note_0 rfl (lv_at hl 0 rfl) ?_
  refine g_get KX hh in_X6_note_X6 0 rfl rfl 1 (by decide) rfl (List.mem_of_getElem? (i := 1) rfl) dX6_note_1 ?_
  refine lv_iload_n hx hb dX6_note_4 rfl (lv_at hl 1 rfl) ?_
  refine g_callV (As := [.int x1]) (rest := []) KX rfl ⟨Nat.le_of_ble_eq_true rfl, Nat.le_of_ble_eq_true rfl⟩ hh hl (c_X1_toldClock l D cI cZ cC cH p_o p_a_clocks p_n_o p_n_a_clocks p_n_a_minutes p_n_a_dials p_c p_filled p_ck p_n_many p_n_clocks p_n_minutes p_n_dials x1 ) (JN.ro [4, 5, 6, 7, 8, 9, 10, 11, 12, 13, 14, 15, 16, 17] rfl (by decide +kernel)) 1 gX6_note_X1_toldClock rfl (by decide +kernel) ⟨Nat.le_of_ble_eq_true rfl, Nat.le_of_ble_eq_true rfl⟩ 4 1 rfl rfl rfl rfl rfl (Nat.le_of_ble_eq_true rfl) dX6_note_5 (fun H locs hh => ?_)
  rcases told_cases p_ck p_c x1 with ⟨c_5, e_5⟩ | ⟨c_5, e_5⟩
  · refine W.eq (g2 := F0 m 8 ls [.null]) (by rw [e_5]; rfl) ?_
    replace hF := hF.trans (if_pos c_5)
    refine lv_ifnonnullN hx hb dX6_note_8 ?_
    refine lv_bipush (v := (-2)) hx hb dX6_note_11 (by decide) ?_
    exact RT _ _ _ _ _ _ hh (by rw [hF]) (Or.inl ⟨_, rfl, by rw [hF], dX6_note_13, Or.inl rfl⟩)
  · refine W.eq (g2 := F0 m 8 ls [.ref (p_c x1.toNatClampNeg)]) (by rw [e_5]; rfl) ?_
    replace hF := hF.trans (if_neg c_5)
    obtain ⟨k0_5, k1_5⟩ := tld_in c_5
    refine lv_ifnonnull (tgt := 14) hx hb dX6_note_8 (by decide) ?_
    refine lv_iload_n hx hb dX6_note_14 rfl (lv_at hl 2 rfl) ?_
    refine lv_sipush (v := 4320) hx hb dX6_note_15 (by decide) ?_
    refine g_callS (As := [.int x2, .int 4320]) (rest := []) KX rfl ⟨Nat.le_of_ble_eq_true rfl, Nat.le_of_ble_eq_true rfl⟩ hh hl (c_X6_isBelow l D cI cZ cC cH  x2 4320 ) JN.no 2 gX6_note_X6_isBelow rfl (by decide +kernel) ⟨Nat.le_of_ble_eq_true rfl, Nat.le_of_ble_eq_true rfl⟩ rfl rfl (Nat.le_of_ble_eq_true rfl) dX6_note_18 (fun H locs hh => ?_)
    refine W.eq (g2 := F0 m 21 ls [.int (F_X6_isBelow x2 4320)]) rfl ?_
    refine lv_if_eq (tgt := 34) hx hb dX6_note_21 (by decide) (fun c_21 => ?_) (fun c_21 => ?_)
    · replace hF := hF.trans (if_pos c_21)
      refine lv_bipush (v := (-3)) hx hb dX6_note_34 (by decide) ?_
      exact RT _ _ _ _ _ _ hh (by rw [hF]) (Or.inl ⟨_, rfl, by rw [hF], dX6_note_36, Or.inl rfl⟩)
    · replace hF := hF.trans (if_neg c_21)
      obtain ⟨k0_21, k1_21⟩ : (0 : Int) ≤ x2.toInt ∧ x2.toInt < 4320 := X6_isBelow_in c_21
      refine lv_iload_n hx hb dX6_note_24 rfl (lv_at hl 3 rfl) ?_
      refine lv_sipush (v := 720) hx hb dX6_note_25 (by decide) ?_
      refine g_callS (As := [.int x3, .int 720]) (rest := []) KX rfl ⟨Nat.le_of_ble_eq_true rfl, Nat.le_of_ble_eq_true rfl⟩ hh hl (c_X6_isBelow l D cI cZ cC cH  x3 720 ) JN.no 2 gX6_note_X6_isBelow rfl (by decide +kernel) ⟨Nat.le_of_ble_eq_true rfl, Nat.le_of_ble_eq_true rfl⟩ rfl rfl (Nat.le_of_ble_eq_true rfl) dX6_note_28 (fun H locs hh => ?_)
      refine W.eq (g2 := F0 m 31 ls [.int (F_X6_isBelow x3 720)]) rfl ?_
      refine lv_if_ne (tgt := 37) hx hb dX6_note_31 (by decide) (fun c_31 => ?_) (fun c_31 => ?_)
      · replace hF := hF.trans (if_neg c_31)
        obtain ⟨k0_31, k1_31⟩ : (0 : Int) ≤ x3.toInt ∧ x3.toInt < 720 := X6_isBelow_in c_31
        refine lv_aload_n hx hb dX6_note_37 rfl (lv_at hl 0 rfl) ?_
        refine g_get KX hh in_X6_note_X6 0 rfl rfl 1 (by decide) rfl (List.mem_of_getElem? (i := 1) rfl) dX6_note_38 ?_
        refine g_get KX hh in_X6_note_X1 4 rfl rfl 2 (by decide) rfl (List.mem_of_getElem? (i := 2) rfl) dX6_note_41 ?_
        refine lv_iload_n hx hb dX6_note_44 rfl (lv_at hl 1 rfl) ?_
        refine lv_iload_n hx hb dX6_note_45 rfl (lv_at hl 2 rfl) ?_
        refine lv_iload_n hx hb dX6_note_46 rfl (lv_at hl 3 rfl) ?_
        refine g_callV (As := [.int x1, .int x2, .int x3]) (rest := []) KX rfl ⟨Nat.le_of_ble_eq_true rfl, Nat.le_of_ble_eq_true rfl⟩ hh hl (c_X2_add l D cI cZ cC cH p_n_o p_n_a_clocks p_n_a_minutes p_n_a_dials p_n_many p_n_clocks p_n_minutes p_n_dials x1 x2 x3 (by first | with_reducible assumption | omega | decide | exact tn_lt (n := 8) (by omega) (by omega))) (JN.up (ws1 := (W6 cI cZ cC cH o t_o t_a_bytes t_a_rows p_o p_a_clocks p_n_o p_n_a_clocks p_n_a_minutes p_n_a_dials a_kept a_o a_a_clocks a_n_o a_n_a_clocks a_n_a_minutes a_n_a_dials b_o b_a_clocks b_n_o b_n_a_clocks b_n_a_minutes b_n_a_dials y_o r_o q_o q_a_clocks q_a_rates q_a_least a_misfits a_shown p_c a_c b_c sifted t_length t_lineCount t_start t_end t_bytes t_rows p_filled p_ck ((F_X2_add p_n_many p_n_clocks p_n_minutes p_n_dials x1 x2 x3).2.1) ((F_X2_add p_n_many p_n_clocks p_n_minutes p_n_dials x1 x2 x3).2.2.1) ((F_X2_add p_n_many p_n_clocks p_n_minutes p_n_dials x1 x2 x3).2.2.2.1) ((F_X2_add p_n_many p_n_clocks p_n_minutes p_n_dials x1 x2 x3).2.2.2.2) a_filled a_ck a_n_many a_n_clocks a_n_minutes a_n_dials b_filled b_ck b_n_many b_n_clocks b_n_minutes b_n_dials y_many y_first y_last y_runs r_kind r_set r_dial r_low r_high r_read q_many q_clocks q_rates q_least misfits shown)) [14, 15, 16, 17] rfl rfl rfl rfl rfl) 3 gX6_note_X2_add rfl (by decide +kernel) ⟨Nat.le_of_ble_eq_true rfl, Nat.le_of_ble_eq_true rfl⟩ 14 2 rfl rfl rfl rfl rfl (Nat.le_of_ble_eq_true rfl) dX6_note_47 (fun H locs hh => ?_)
        refine W.eq (g2 := F0 m 50 ls [.int ((F_X2_add p_n_many p_n_clocks p_n_minutes p_n_dials x1 x2 x3).1)]) rfl ?_
        generalize q_47 : F_X2_add p_n_many p_n_clocks p_n_minutes p_n_dials x1 x2 x3 = r47_1 at hh hF ⊢
        have hz_47 : r47_1.1 = 0 ∨ r47_1.1 = 1 := by rw [← q_47]; exact z_X2_add _ _ _ _ _ _ _
        unfold F_X6_note_c47 at hF
        refine lv_if_eq (tgt := 66) hx hb dX6_note_50 (by decide) (fun c_50 => ?_) (fun c_50 => ?_)
        · replace hF := hF.trans (if_pos c_50)
          have i_50 : r47_1.1.toInt = 0 := congrArg Int32.toInt c_50
          refine lv_bipush (v := (-5)) hx hb dX6_note_66 (by decide) ?_
          exact RT _ _ _ _ _ _ hh (by rw [hF]) (Or.inl ⟨_, rfl, by rw [hF], dX6_note_68, Or.inl rfl⟩)
        · replace hF := hF.trans (if_neg c_50)
          have i_50 : ¬ r47_1.1.toInt = 0 := ti_ne c_50
          refine lv_aload_n hx hb dX6_note_53 rfl (lv_at hl 0 rfl) ?_
          refine g_get KX hh in_X6_note_X6 0 rfl rfl 1 (by decide) rfl (List.mem_of_getElem? (i := 1) rfl) dX6_note_54 ?_
          refine g_get KX hh in_X6_note_X1 4 rfl rfl 2 (by decide) rfl (List.mem_of_getElem? (i := 2) rfl) dX6_note_57 ?_
          refine g_get KX hh in_X6_note_X2 14 rfl rfl 0 (by decide) rfl (List.mem_of_getElem? (i := 3) rfl) dX6_note_60 ?_
          refine lv_goto (tgt := 68) hx hb dX6_note_63 (by decide) ?_
          exact RT _ _ _ _ _ _ hh (by rw [hF]) (Or.inl ⟨_, rfl, by rw [hF], dX6_note_68, Or.inl rfl⟩)
      · replace hF := hF.trans (if_pos c_31)
        refine lv_bipush (v := (-3)) hx hb dX6_note_34 (by decide) ?_
        exact RT _ _ _ _ _ _ hh (by rw [hF]) (Or.inl ⟨_, rfl, by rw [hF], dX6_note_36, Or.inl rfl⟩)
def F_X6_burn (p_n_many : Int32) : Int32 × Int32 := (p_n_many, 0)
theorem in_X6_burn_X6 : ∀ x ∈ u_ws RX6 TX6 9, x ∈ wsX6_burn := by decide +kernel
theorem in_X6_burn_X1 : ∀ x ∈ u_ws RX1 TX1 3, x ∈ wsX6_burn := by decide +kernel
theorem in_X6_burn_X2 : ∀ x ∈ u_ws RX2 TX2 4, x ∈ wsX6_burn := by decide +kernel
set_option maxHeartbeats 2000000 in
set_option maxRecDepth 100000 in
theorem c_X6_burn (l : Launch) (D : va_G) (cI cZ cC cH : ClassId) (o t_o t_a_bytes t_a_rows p_o p_a_clocks p_n_o p_n_a_clocks p_n_a_minutes p_n_a_dials a_kept a_o a_a_clocks a_n_o a_n_a_clocks a_n_a_minutes a_n_a_dials b_o b_a_clocks b_n_o b_n_a_clocks b_n_a_minutes b_n_a_dials y_o r_o q_o q_a_clocks q_a_rates q_a_least a_misfits a_shown : Nat) (p_c : Nat → Nat) (a_c : Nat → Nat) (b_c : Nat → Nat) (sifted : Int32) (t_length : Int32) (t_lineCount : Int32) (t_start : Int32) (t_end : Int32) (t_bytes : Nat → Int32) (t_rows : Nat → Int32) (p_filled : Int32) (p_ck : Nat → Nat → Int32) (p_n_many : Int32) (p_n_clocks : Nat → Int32) (p_n_minutes : Nat → Int32) (p_n_dials : Nat → Int32) (a_filled : Int32) (a_ck : Nat → Nat → Int32) (a_n_many : Int32) (a_n_clocks : Nat → Int32) (a_n_minutes : Nat → Int32) (a_n_dials : Nat → Int32) (b_filled : Int32) (b_ck : Nat → Nat → Int32) (b_n_many : Int32) (b_n_clocks : Nat → Int32) (b_n_minutes : Nat → Int32) (b_n_dials : Nat → Int32) (y_many : Int32) (y_first : Int32) (y_last : Int32) (y_runs : Int32) (r_kind : Int32) (r_set : Int32) (r_dial : Int32) (r_low : Int32) (r_high : Int32) (r_read : Int32) (q_many : Int32) (q_clocks : Nat → Int32) (q_rates : Nat → Int32) (q_least : Nat → Int32) (misfits : Nat → Int32) (shown : Nat → Int32)   : MC l D (TY cI cZ cC cH) yX6_burn wsX6_burn 0 0 [.ref o] (W6 cI cZ cC cH o t_o t_a_bytes t_a_rows p_o p_a_clocks p_n_o p_n_a_clocks p_n_a_minutes p_n_a_dials a_kept a_o a_a_clocks a_n_o a_n_a_clocks a_n_a_minutes a_n_a_dials b_o b_a_clocks b_n_o b_n_a_clocks b_n_a_minutes b_n_a_dials y_o r_o q_o q_a_clocks q_a_rates q_a_least a_misfits a_shown p_c a_c b_c sifted t_length t_lineCount t_start t_end t_bytes t_rows p_filled p_ck p_n_many p_n_clocks p_n_minutes p_n_dials a_filled a_ck a_n_many a_n_clocks a_n_minutes a_n_dials b_filled b_ck b_n_many b_n_clocks b_n_minutes b_n_dials y_many y_first y_last y_runs r_kind r_set r_dial r_low r_high r_read q_many q_clocks q_rates q_least misfits shown) (some (.int ((F_X6_burn p_n_many).1))) (W6 cI cZ cC cH o t_o t_a_bytes t_a_rows p_o p_a_clocks p_n_o p_n_a_clocks p_n_a_minutes p_n_a_dials a_kept a_o a_a_clocks a_n_o a_n_a_clocks a_n_a_minutes a_n_a_dials b_o b_a_clocks b_n_o b_n_a_clocks b_n_a_minutes b_n_a_dials y_o r_o q_o q_a_clocks q_a_rates q_a_least a_misfits a_shown p_c a_c b_c sifted t_length t_lineCount t_start t_end t_bytes t_rows p_filled p_ck (F_X6_burn p_n_many).2 p_n_clocks p_n_minutes p_n_dials a_filled a_ck a_n_many a_n_clocks a_n_minutes a_n_dials b_filled b_ck b_n_many b_n_clocks b_n_minutes b_n_dials y_many y_first y_last y_runs r_kind r_set r_dial r_low r_high r_read q_many q_clocks q_rates q_least misfits shown) := by
  obtain ⟨R, hF⟩ : ∃ R, R = F_X6_burn p_n_many := ⟨_, rfl⟩
  rw [← hF]
  refine MC.of (cc := cX6_burn) (maxL := 2) (ret := (some .int)) RX6 rfl (by decide +kernel) rfl (Nat.le_of_ble_eq_true rfl) ?_
  intro p e s m args below meth c A Q KX RT hh ls hl
  have z0 : (0 : Int32).toInt = 0 := rfl
  have z1 : (1 : Int32).toInt = 1 := rfl
  have zm : (-1 : Int32).toInt = -1 := rfl
  have hx := KX.1
  have hb := KX.2.1
  have hl : lv_has ls 2 [(0, .ref o)] := hl
  unfold F_X6_burn at hF
  refine lv_aload_n hx hb dX6_burn_0 rfl (lv_at hl 0 rfl) ?_
  refine g_get KX hh in_X6_burn_X6 0 rfl rfl 1 (by decide) rfl (List.mem_of_getElem? (i := 1) rfl) dX6_burn_1 ?_
  refine g_get KX hh in_X6_burn_X1 4 rfl rfl 2 (by decide) rfl (List.mem_of_getElem? (i := 2) rfl) dX6_burn_4 ?_
  refine g_get KX hh in_X6_burn_X2 14 rfl rfl 0 (by decide) rfl (List.mem_of_getElem? (i := 3) rfl) dX6_burn_7 ?_
  refine lv_istore_n (lv' := [(1, .int p_n_many), (0, .ref o)]) hx hb dX6_burn_10 rfl hl (Nat.le_of_ble_eq_true rfl) rfl (fun ls hl => ?_)
  refine lv_aload_n hx hb dX6_burn_11 rfl (lv_at hl 1 rfl) ?_
  refine g_get KX hh in_X6_burn_X6 0 rfl rfl 1 (by decide) rfl (List.mem_of_getElem? (i := 1) rfl) dX6_burn_12 ?_
  refine g_get KX hh in_X6_burn_X1 4 rfl rfl 2 (by decide) rfl (List.mem_of_getElem? (i := 2) rfl) dX6_burn_15 ?_
  refine lv_iconst (v := 0) hx hb dX6_burn_18 (by decide) ?_
  refine g_put KX hh in_X6_burn_X2 tyX2 tyX2_ok nmX2 14 rfl rfl 0 (by decide) rfl rfl rfl (Nat.le_of_ble_eq_true rfl) (List.mem_of_getElem? (i := 3) rfl) (w' := (W6 cI cZ cC cH o t_o t_a_bytes t_a_rows p_o p_a_clocks p_n_o p_n_a_clocks p_n_a_minutes p_n_a_dials a_kept a_o a_a_clocks a_n_o a_n_a_clocks a_n_a_minutes a_n_a_dials b_o b_a_clocks b_n_o b_n_a_clocks b_n_a_minutes b_n_a_dials y_o r_o q_o q_a_clocks q_a_rates q_a_least a_misfits a_shown p_c a_c b_c sifted t_length t_lineCount t_start t_end t_bytes t_rows p_filled p_ck 0 p_n_clocks p_n_minutes p_n_dials a_filled a_ck a_n_many a_n_clocks a_n_minutes a_n_dials b_filled b_ck b_n_many b_n_clocks b_n_minutes b_n_dials y_many y_first y_last y_runs r_kind r_set r_dial r_low r_high r_read q_many q_clocks q_rates q_least misfits shown)) rfl rfl dX6_burn_19 (fun H locs hh => ?_)
  refine lv_iload_n hx hb dX6_burn_22 rfl (lv_at hl 0 rfl) ?_
  exact RT _ _ _ _ _ _ hh (by rw [hF]) (Or.inl ⟨_, rfl, by rw [hF], dX6_burn_23, Or.inl rfl⟩)
def F_X6_rates_c71 (x4_2 : Int32) (k_37 : Int32 → Int32 → Int32 → Int32 → Int32 → Int32 × Int32 × Int32 × Int32 × Int32) (r71_7 : Int32 × Int32 × Int32 × Int32) : Int32 × Int32 × Int32 × Int32 × Int32 := (k_37 (x4_2 + 1) r71_7.1 r71_7.2.1 r71_7.2.2.1 r71_7.2.2.2)
def F_X6_rates_37 (p_ck : Nat → Nat → Int32) (p_n_many : Int32) (p_n_clocks : Nat → Int32) (p_n_minutes : Nat → Int32) (p_n_dials : Nat → Int32) (x1 : Int32) (x2 : Int32) : Nat → Int32 → Int32 → Int32 → Int32 → Int32 → Int32 × Int32 × Int32 × Int32 × Int32
  | 0, _, _, _, _, _ => default
  | n + 1, x4_2, w_y_many_3, w_y_first_4, w_y_last_5, w_y_runs_6 => (if 241 ≤ x4_2 then (F_X4_tell w_y_many_3 w_y_first_4 w_y_last_5 w_y_runs_6 x2, w_y_many_3, w_y_first_4, w_y_last_5, w_y_runs_6) else (if (F_X2_allow p_n_many p_n_clocks p_n_minutes p_n_dials (p_ck x1.toNatClampNeg 0) x1 (x4_2 - 120)) = 0 then ((F_X6_rates_37 p_ck p_n_many p_n_clocks p_n_minutes p_n_dials x1 x2 n) (x4_2 + 1) w_y_many_3 w_y_first_4 w_y_last_5 w_y_runs_6) else (F_X6_rates_c71 x4_2 (F_X6_rates_37 p_ck p_n_many p_n_clocks p_n_minutes p_n_dials x1 x2 n) (F_X4_add w_y_many_3 w_y_first_4 w_y_last_5 w_y_runs_6 x4_2))))
def F_X6_rates_c31 (p_ck : Nat → Nat → Int32) (p_n_many : Int32) (p_n_clocks : Nat → Int32) (p_n_minutes : Nat → Int32) (p_n_dials : Nat → Int32) (x1 : Int32) (x2 : Int32) (r31_1 : Int32 × Int32 × Int32 × Int32) : Int32 × Int32 × Int32 × Int32 × Int32 := (F_X6_rates_37 p_ck p_n_many p_n_clocks p_n_minutes p_n_dials x1 x2 242 0 r31_1.1 r31_1.2.1 r31_1.2.2.1 r31_1.2.2.2)
def F_X6_rates (p_ck : Nat → Nat → Int32) (p_n_many : Int32) (p_n_clocks : Nat → Int32) (p_n_minutes : Nat → Int32) (p_n_dials : Nat → Int32) (y_many : Int32) (y_first : Int32) (y_last : Int32) (y_runs : Int32) (x1 : Int32) (x2 : Int32) : Int32 × Int32 × Int32 × Int32 × Int32 := (if tld p_ck x1 = 0 then ((-2), y_many, y_first, y_last, y_runs) else (if (F_X6_isBelow x2 3) = 0 then ((-3), y_many, y_first, y_last, y_runs) else (F_X6_rates_c31 p_ck p_n_many p_n_clocks p_n_minutes p_n_dials x1 x2 (F_X4_clear))))
theorem in_X6_rates_X6 : ∀ x ∈ u_ws RX6 TX6 9, x ∈ wsX6_rates := by decide +kernel
theorem in_X6_rates_X1 : ∀ x ∈ u_ws RX1 TX1 3, x ∈ wsX6_rates := by decide +kernel
set_option maxHeartbeats 2000000 in
set_option maxRecDepth 100000 in
theorem c_X6_rates (l : Launch) (D : va_G) (cI cZ cC cH : ClassId) (o t_o t_a_bytes t_a_rows p_o p_a_clocks p_n_o p_n_a_clocks p_n_a_minutes p_n_a_dials a_kept a_o a_a_clocks a_n_o a_n_a_clocks a_n_a_minutes a_n_a_dials b_o b_a_clocks b_n_o b_n_a_clocks b_n_a_minutes b_n_a_dials y_o r_o q_o q_a_clocks q_a_rates q_a_least a_misfits a_shown : Nat) (p_c : Nat → Nat) (a_c : Nat → Nat) (b_c : Nat → Nat) (sifted : Int32) (t_length : Int32) (t_lineCount : Int32) (t_start : Int32) (t_end : Int32) (t_bytes : Nat → Int32) (t_rows : Nat → Int32) (p_filled : Int32) (p_ck : Nat → Nat → Int32) (p_n_many : Int32) (p_n_clocks : Nat → Int32) (p_n_minutes : Nat → Int32) (p_n_dials : Nat → Int32) (a_filled : Int32) (a_ck : Nat → Nat → Int32) (a_n_many : Int32) (a_n_clocks : Nat → Int32) (a_n_minutes : Nat → Int32) (a_n_dials : Nat → Int32) (b_filled : Int32) (b_ck : Nat → Nat → Int32) (b_n_many : Int32) (b_n_clocks : Nat → Int32) (b_n_minutes : Nat → Int32) (b_n_dials : Nat → Int32) (y_many : Int32) (y_first : Int32) (y_last : Int32) (y_runs : Int32) (r_kind : Int32) (r_set : Int32) (r_dial : Int32) (r_low : Int32) (r_high : Int32) (r_read : Int32) (q_many : Int32) (q_clocks : Nat → Int32) (q_rates : Nat → Int32) (q_least : Nat → Int32) (misfits : Nat → Int32) (shown : Nat → Int32) (x1 : Int32) (x2 : Int32)  : MC l D (TY cI cZ cC cH) yX6_rates wsX6_rates 2 53 [.ref o, .int x1, .int x2] (W6 cI cZ cC cH o t_o t_a_bytes t_a_rows p_o p_a_clocks p_n_o p_n_a_clocks p_n_a_minutes p_n_a_dials a_kept a_o a_a_clocks a_n_o a_n_a_clocks a_n_a_minutes a_n_a_dials b_o b_a_clocks b_n_o b_n_a_clocks b_n_a_minutes b_n_a_dials y_o r_o q_o q_a_clocks q_a_rates q_a_least a_misfits a_shown p_c a_c b_c sifted t_length t_lineCount t_start t_end t_bytes t_rows p_filled p_ck p_n_many p_n_clocks p_n_minutes p_n_dials a_filled a_ck a_n_many a_n_clocks a_n_minutes a_n_dials b_filled b_ck b_n_many b_n_clocks b_n_minutes b_n_dials y_many y_first y_last y_runs r_kind r_set r_dial r_low r_high r_read q_many q_clocks q_rates q_least misfits shown) (some (.int ((F_X6_rates p_ck p_n_many p_n_clocks p_n_minutes p_n_dials y_many y_first y_last y_runs x1 x2).1))) (W6 cI cZ cC cH o t_o t_a_bytes t_a_rows p_o p_a_clocks p_n_o p_n_a_clocks p_n_a_minutes p_n_a_dials a_kept a_o a_a_clocks a_n_o a_n_a_clocks a_n_a_minutes a_n_a_dials b_o b_a_clocks b_n_o b_n_a_clocks b_n_a_minutes b_n_a_dials y_o r_o q_o q_a_clocks q_a_rates q_a_least a_misfits a_shown p_c a_c b_c sifted t_length t_lineCount t_start t_end t_bytes t_rows p_filled p_ck p_n_many p_n_clocks p_n_minutes p_n_dials a_filled a_ck a_n_many a_n_clocks a_n_minutes a_n_dials b_filled b_ck b_n_many b_n_clocks b_n_minutes b_n_dials (F_X6_rates p_ck p_n_many p_n_clocks p_n_minutes p_n_dials y_many y_first y_last y_runs x1 x2).2.1 (F_X6_rates p_ck p_n_many p_n_clocks p_n_minutes p_n_dials y_many y_first y_last y_runs x1 x2).2.2.1 (F_X6_rates p_ck p_n_many p_n_clocks p_n_minutes p_n_dials y_many y_first y_last y_runs x1 x2).2.2.2.1 (F_X6_rates p_ck p_n_many p_n_clocks p_n_minutes p_n_dials y_many y_first y_last y_runs x1 x2).2.2.2.2 r_kind r_set r_dial r_low r_high r_read q_many q_clocks q_rates q_least misfits shown) := by
  obtain ⟨R, hF⟩ : ∃ R, R = F_X6_rates p_ck p_n_many p_n_clocks p_n_minutes p_n_dials y_many y_first y_last y_runs x1 x2 := ⟨_, rfl⟩
  rw [← hF]
  refine MC.of (cc := cX6_rates) (maxL := 5) (ret := (some .int)) RX6 rfl (by decide +kernel) rfl (Nat.le_of_ble_eq_true rfl) ?_
  intro p e s m args below meth c A Q KX RT hh ls hl
  have z0 : (0 : Int32).toInt = 0 := rfl
  have z1 : (1 : Int32).toInt = 1 := rfl
  have zm : (-1 : Int32).toInt = -1 := rfl
  have hx := KX.1
  have hb := KX.2.1
  have hl : lv_has ls 5 [(0, .ref o), (1, .int x1), (2, .int x2)] := hl
  unfold F_X6_rates at hF
  refine lv_aload_n hx hb dX6_rates_0 rfl (lv_at hl 0 rfl) ?_
  refine g_get KX hh in_X6_rates_X6 0 rfl rfl 1 (by decide) rfl (List.mem_of_getElem? (i := 1) rfl) dX6_rates_1 ?_
  refine lv_iload_n hx hb dX6_rates_4 rfl (lv_at hl 1 rfl) ?_
  refine g_callV (As := [.int x1]) (rest := []) KX rfl ⟨Nat.le_of_ble_eq_true rfl, Nat.le_of_ble_eq_true rfl⟩ hh hl (c_X1_toldClock l D cI cZ cC cH p_o p_a_clocks p_n_o p_n_a_clocks p_n_a_minutes p_n_a_dials p_c p_filled p_ck p_n_many p_n_clocks p_n_minutes p_n_dials x1 ) (JN.ro [4, 5, 6, 7, 8, 9, 10, 11, 12, 13, 14, 15, 16, 17] rfl (by decide +kernel)) 1 gX6_rates_X1_toldClock rfl (by decide +kernel) ⟨Nat.le_of_ble_eq_true rfl, Nat.le_of_ble_eq_true rfl⟩ 4 1 rfl rfl rfl rfl rfl (Nat.le_of_ble_eq_true rfl) dX6_rates_5 (fun H locs hh => ?_)
  rcases told_cases p_ck p_c x1 with ⟨c_5, e_5⟩ | ⟨c_5, e_5⟩
  · refine W.eq (g2 := F0 m 8 ls [.null]) (by rw [e_5]; rfl) ?_
    replace hF := hF.trans (if_pos c_5)
    refine lv_astore_nN (lv' := [(3, .null), (0, .ref o), (1, .int x1), (2, .int x2)]) hx hb dX6_rates_8 rfl hl (Nat.le_of_ble_eq_true rfl) rfl (fun ls hl => ?_)
    refine lv_aload_nN hx hb dX6_rates_9 rfl (lv_at hl 0 rfl) ?_
    refine lv_ifnonnullN hx hb dX6_rates_10 ?_
    refine lv_bipush (v := (-2)) hx hb dX6_rates_13 (by decide) ?_
    exact RT _ _ _ _ _ _ hh (by rw [hF]) (Or.inl ⟨_, rfl, by rw [hF], dX6_rates_15, Or.inl rfl⟩)
  · refine W.eq (g2 := F0 m 8 ls [.ref (p_c x1.toNatClampNeg)]) (by rw [e_5]; rfl) ?_
    replace hF := hF.trans (if_neg c_5)
    obtain ⟨k0_5, k1_5⟩ := tld_in c_5
    refine lv_astore_n (lv' := [(3, .ref (p_c x1.toNatClampNeg)), (0, .ref o), (1, .int x1), (2, .int x2)]) hx hb dX6_rates_8 rfl hl (Nat.le_of_ble_eq_true rfl) rfl (fun ls hl => ?_)
    refine lv_aload_n hx hb dX6_rates_9 rfl (lv_at hl 0 rfl) ?_
    refine lv_ifnonnull (tgt := 16) hx hb dX6_rates_10 (by decide) ?_
    refine lv_iload_n hx hb dX6_rates_16 rfl (lv_at hl 3 rfl) ?_
    refine lv_iconst (v := 3) hx hb dX6_rates_17 (by decide) ?_
    refine g_callS (As := [.int x2, .int 3]) (rest := []) KX rfl ⟨Nat.le_of_ble_eq_true rfl, Nat.le_of_ble_eq_true rfl⟩ hh hl (c_X6_isBelow l D cI cZ cC cH  x2 3 ) JN.no 2 gX6_rates_X6_isBelow rfl (by decide +kernel) ⟨Nat.le_of_ble_eq_true rfl, Nat.le_of_ble_eq_true rfl⟩ rfl rfl (Nat.le_of_ble_eq_true rfl) dX6_rates_18 (fun H locs hh => ?_)
    refine W.eq (g2 := F0 m 21 ls [.int (F_X6_isBelow x2 3)]) rfl ?_
    refine lv_if_ne (tgt := 27) hx hb dX6_rates_21 (by decide) (fun c_21 => ?_) (fun c_21 => ?_)
    · replace hF := hF.trans (if_neg c_21)
      obtain ⟨k0_21, k1_21⟩ : (0 : Int) ≤ x2.toInt ∧ x2.toInt < 3 := X6_isBelow_in c_21
      refine lv_aload_n hx hb dX6_rates_27 rfl (lv_at hl 1 rfl) ?_
      refine g_get KX hh in_X6_rates_X6 0 rfl rfl 3 (by decide) rfl (List.mem_of_getElem? (i := 2) rfl) dX6_rates_28 ?_
      refine g_callV (As := []) (rest := []) KX rfl ⟨Nat.le_of_ble_eq_true rfl, Nat.le_of_ble_eq_true rfl⟩ hh hl (c_X4_clear l D cI cZ cC cH y_o y_many y_first y_last y_runs  ) (JN.up (ws1 := (W6 cI cZ cC cH o t_o t_a_bytes t_a_rows p_o p_a_clocks p_n_o p_n_a_clocks p_n_a_minutes p_n_a_dials a_kept a_o a_a_clocks a_n_o a_n_a_clocks a_n_a_minutes a_n_a_dials b_o b_a_clocks b_n_o b_n_a_clocks b_n_a_minutes b_n_a_dials y_o r_o q_o q_a_clocks q_a_rates q_a_least a_misfits a_shown p_c a_c b_c sifted t_length t_lineCount t_start t_end t_bytes t_rows p_filled p_ck p_n_many p_n_clocks p_n_minutes p_n_dials a_filled a_ck a_n_many a_n_clocks a_n_minutes a_n_dials b_filled b_ck b_n_many b_n_clocks b_n_minutes b_n_dials ((F_X4_clear).1) ((F_X4_clear).2.1) ((F_X4_clear).2.2.1) ((F_X4_clear).2.2.2) r_kind r_set r_dial r_low r_high r_read q_many q_clocks q_rates q_least misfits shown)) [47] rfl rfl rfl rfl rfl) 0 gX6_rates_X4_clear rfl (by decide +kernel) ⟨Nat.le_of_ble_eq_true rfl, Nat.le_of_ble_eq_true rfl⟩ 47 4 rfl rfl rfl rfl rfl (Nat.le_of_ble_eq_true rfl) dX6_rates_31 (fun H locs hh => ?_)
      refine W.eq (g2 := F0 m 34 ls []) rfl ?_
      generalize q_31 : F_X4_clear = r31_1 at hh hF ⊢
      unfold F_X6_rates_c31 at hF
      refine lv_iconst (v := 0) hx hb dX6_rates_34 (by decide) ?_
      refine lv_istore (lv' := [(4, .int 0), (3, .ref (p_c x1.toNatClampNeg)), (0, .ref o), (1, .int x1), (2, .int x2)]) hx hb dX6_rates_35 hl (Nat.le_of_ble_eq_true rfl) rfl (fun ls hl => ?_)
      have L_37 : ∀ (n_37 : Nat) (x4_2 : Int32) (w_y_many_3 : Int32) (w_y_first_4 : Int32) (w_y_last_5 : Int32) (w_y_runs_6 : Int32) (i0_37 : 0 ≤ x4_2.toInt) (i1_37 : x4_2.toInt ≤ 241) (_ : (241 - x4_2.toInt).toNat < n_37) (_ : R = (F_X6_rates_37 p_ck p_n_many p_n_clocks p_n_minutes p_n_dials x1 x2) n_37 x4_2 w_y_many_3 w_y_first_4 w_y_last_5 w_y_runs_6) (ls : Array Slot) (H : Heap) (locs : List Loc) (_ : HS D A s.heap (W6 cI cZ cC cH o t_o t_a_bytes t_a_rows p_o p_a_clocks p_n_o p_n_a_clocks p_n_a_minutes p_n_a_dials a_kept a_o a_a_clocks a_n_o a_n_a_clocks a_n_a_minutes a_n_a_dials b_o b_a_clocks b_n_o b_n_a_clocks b_n_a_minutes b_n_a_dials y_o r_o q_o q_a_clocks q_a_rates q_a_least a_misfits a_shown p_c a_c b_c sifted t_length t_lineCount t_start t_end t_bytes t_rows p_filled p_ck p_n_many p_n_clocks p_n_minutes p_n_dials a_filled a_ck a_n_many a_n_clocks a_n_minutes a_n_dials b_filled b_ck b_n_many b_n_clocks b_n_minutes b_n_dials w_y_many_3 w_y_first_4 w_y_last_5 w_y_runs_6 r_kind r_set r_dial r_low r_high r_read q_many q_clocks q_rates q_least misfits shown) H locs) (_ : lv_has ls 5 [(4, .int x4_2), (3, .ref (p_c x1.toNatClampNeg)), (0, .ref o), (1, .int x1), (2, .int x2)]), W p l e { frames := 2, cells := 0, slots := 0, locals := 53 } s m args below meth c H locs 0 0 Q (F0 m 37 ls []) := by
        intro n_37
        induction n_37 with
        | zero => intro x4_2 w_y_many_3 w_y_first_4 w_y_last_5 w_y_runs_6 i0_37 i1_37 hm; exact absurd hm (Nat.not_lt_zero _)
        | succ n_37 ih_37 =>
          intro x4_2 w_y_many_3 w_y_first_4 w_y_last_5 w_y_runs_6 i0_37 i1_37 hm_37 hF ls H locs hh hl
          rw [F_X6_rates_37.eq_2] at hF
          refine lv_iload hx hb dX6_rates_37 (lv_at hl 0 rfl) ?_
          refine lv_sipush (v := 241) hx hb dX6_rates_39 (by decide) ?_
          refine lv_icmp_ge (tgt := 80) hx hb dX6_rates_42 (by decide) (fun c_42 => ?_) (fun c_42 => ?_)
          · replace hF := hF.trans (if_pos c_42)
            have i_42 : 241 ≤ x4_2.toInt := ti_le.mp c_42
            refine lv_aload_n hx hb dX6_rates_80 rfl (lv_at hl 2 rfl) ?_
            refine g_get KX hh in_X6_rates_X6 0 rfl rfl 3 (by decide) rfl (List.mem_of_getElem? (i := 2) rfl) dX6_rates_81 ?_
            refine lv_iload_n hx hb dX6_rates_84 rfl (lv_at hl 4 rfl) ?_
            refine g_callV (As := [.int x2]) (rest := []) KX rfl ⟨Nat.le_of_ble_eq_true rfl, Nat.le_of_ble_eq_true rfl⟩ hh hl (c_X4_tell l D cI cZ cC cH y_o w_y_many_3 w_y_first_4 w_y_last_5 w_y_runs_6 x2 ) (JN.ro [47] rfl rfl) 1 gX6_rates_X4_tell rfl (by decide +kernel) ⟨Nat.le_of_ble_eq_true rfl, Nat.le_of_ble_eq_true rfl⟩ 47 4 rfl rfl rfl rfl rfl (Nat.le_of_ble_eq_true rfl) dX6_rates_85 (fun H locs hh => ?_)
            refine W.eq (g2 := F0 m 88 ls [.int (F_X4_tell w_y_many_3 w_y_first_4 w_y_last_5 w_y_runs_6 x2)]) rfl ?_
            exact RT _ _ _ _ _ _ hh (by rw [hF]) (Or.inl ⟨_, rfl, by rw [hF], dX6_rates_88, Or.inl rfl⟩)
          · replace hF := hF.trans (if_neg c_42)
            have i_42 : x4_2.toInt < 241 := ti_nle c_42
            refine lv_aload_n hx hb dX6_rates_45 rfl (lv_at hl 2 rfl) ?_
            refine g_get KX hh in_X6_rates_X6 0 rfl rfl 1 (by decide) rfl (List.mem_of_getElem? (i := 1) rfl) dX6_rates_46 ?_
            refine g_get KX hh in_X6_rates_X1 4 rfl rfl 2 (by decide) rfl (List.mem_of_getElem? (i := 3) rfl) dX6_rates_49 ?_
            refine lv_iload_n hx hb dX6_rates_52 rfl (lv_at hl 3 rfl) ?_
            refine lv_aload_n hx hb dX6_rates_53 rfl (lv_at hl 1 rfl) ?_
            refine lv_iload hx hb dX6_rates_54 (lv_at hl 0 rfl) ?_
            refine lv_bipush (v := 120) hx hb dX6_rates_56 (by decide) ?_
            refine lv_isub hx hb dX6_rates_58 ?_
            refine g_callV (As := [.int x1, .ref (p_c x1.toNatClampNeg), .int (x4_2 - 120)]) (rest := []) KX rfl ⟨Nat.le_of_ble_eq_true rfl, Nat.le_of_ble_eq_true rfl⟩ hh hl (c_X2_allow l D cI cZ cC cH p_n_o p_n_a_clocks p_n_a_minutes p_n_a_dials (p_c x1.toNatClampNeg) p_n_many p_n_clocks p_n_minutes p_n_dials (p_ck x1.toNatClampNeg 0) (p_ck x1.toNatClampNeg 1) (p_ck x1.toNatClampNeg 2) (p_ck x1.toNatClampNeg 3) (p_ck x1.toNatClampNeg 4) (p_ck x1.toNatClampNeg 5) x1 (x4_2 - 120) ) (JN.ro [14, 15, 16, 17, 6 + x1.toNatClampNeg] (by first | (simp only [List.map_cons, List.map_nil, clk_W6_p (tn_lt (k := x1) (n := 8) (by omega) (by omega))]; done) | (simp only [List.map_cons, List.map_nil, clk_W6_p (tn_lt (k := x1) (n := 8) (by omega) (by omega))]; rfl)) (by have hq := (tn_lt (k := x1) (n := 8) (by omega) (by omega)); simp [va_nd]; try omega)) 3 gX6_rates_X2_allow rfl (by decide +kernel) ⟨Nat.le_of_ble_eq_true rfl, Nat.le_of_ble_eq_true rfl⟩ 14 2 rfl rfl rfl rfl rfl (Nat.le_of_ble_eq_true rfl) dX6_rates_59 (fun H locs hh => ?_)
            refine W.eq (g2 := F0 m 62 ls [.int (F_X2_allow p_n_many p_n_clocks p_n_minutes p_n_dials (p_ck x1.toNatClampNeg 0) x1 (x4_2 - 120))]) rfl ?_
            refine lv_if_eq (tgt := 74) hx hb dX6_rates_62 (by decide) (fun c_62 => ?_) (fun c_62 => ?_)
            · replace hF := hF.trans (if_pos c_62)
              refine lv_iinc (v := x4_2 + 1) (lv' := [(4, .int (x4_2 + 1)), (3, .ref (p_c x1.toNatClampNeg)), (0, .ref o), (1, .int x1), (2, .int x2)]) hx hb dX6_rates_74 hl (k := 0) rfl rfl (Nat.le_of_ble_eq_true rfl) rfl (fun ls hl => ?_)
              refine lv_goto (tgt := 37) hx hb dX6_rates_77 (by decide) ?_
              have e_inc : (x4_2 + 1).toInt = x4_2.toInt + 1 := ti_inc (by omega)
              exact ih_37 (x4_2 + 1) w_y_many_3 w_y_first_4 w_y_last_5 w_y_runs_6 (by first | with_reducible assumption | omega | decide) (by first | with_reducible assumption | omega | decide) (by omega) hF _ _ _ hh (lv_sub hl [0, 1, 2, 3, 4] rfl)
            · replace hF := hF.trans (if_neg c_62)
              refine lv_aload_n hx hb dX6_rates_65 rfl (lv_at hl 2 rfl) ?_
              refine g_get KX hh in_X6_rates_X6 0 rfl rfl 3 (by decide) rfl (List.mem_of_getElem? (i := 2) rfl) dX6_rates_66 ?_
              refine lv_iload hx hb dX6_rates_69 (lv_at hl 0 rfl) ?_
              refine g_callV (As := [.int x4_2]) (rest := []) KX rfl ⟨Nat.le_of_ble_eq_true rfl, Nat.le_of_ble_eq_true rfl⟩ hh hl (c_X4_add l D cI cZ cC cH y_o w_y_many_3 w_y_first_4 w_y_last_5 w_y_runs_6 x4_2 ) (JN.up (ws1 := (W6 cI cZ cC cH o t_o t_a_bytes t_a_rows p_o p_a_clocks p_n_o p_n_a_clocks p_n_a_minutes p_n_a_dials a_kept a_o a_a_clocks a_n_o a_n_a_clocks a_n_a_minutes a_n_a_dials b_o b_a_clocks b_n_o b_n_a_clocks b_n_a_minutes b_n_a_dials y_o r_o q_o q_a_clocks q_a_rates q_a_least a_misfits a_shown p_c a_c b_c sifted t_length t_lineCount t_start t_end t_bytes t_rows p_filled p_ck p_n_many p_n_clocks p_n_minutes p_n_dials a_filled a_ck a_n_many a_n_clocks a_n_minutes a_n_dials b_filled b_ck b_n_many b_n_clocks b_n_minutes b_n_dials ((F_X4_add w_y_many_3 w_y_first_4 w_y_last_5 w_y_runs_6 x4_2).1) ((F_X4_add w_y_many_3 w_y_first_4 w_y_last_5 w_y_runs_6 x4_2).2.1) ((F_X4_add w_y_many_3 w_y_first_4 w_y_last_5 w_y_runs_6 x4_2).2.2.1) ((F_X4_add w_y_many_3 w_y_first_4 w_y_last_5 w_y_runs_6 x4_2).2.2.2) r_kind r_set r_dial r_low r_high r_read q_many q_clocks q_rates q_least misfits shown)) [47] rfl rfl rfl rfl rfl) 1 gX6_rates_X4_add rfl (by decide +kernel) ⟨Nat.le_of_ble_eq_true rfl, Nat.le_of_ble_eq_true rfl⟩ 47 4 rfl rfl rfl rfl rfl (Nat.le_of_ble_eq_true rfl) dX6_rates_71 (fun H locs hh => ?_)
              refine W.eq (g2 := F0 m 74 ls []) rfl ?_
              generalize q_71 : F_X4_add w_y_many_3 w_y_first_4 w_y_last_5 w_y_runs_6 x4_2 = r71_7 at hh hF ⊢
              unfold F_X6_rates_c71 at hF
              refine lv_iinc (v := x4_2 + 1) (lv' := [(4, .int (x4_2 + 1)), (3, .ref (p_c x1.toNatClampNeg)), (0, .ref o), (1, .int x1), (2, .int x2)]) hx hb dX6_rates_74 hl (k := 0) rfl rfl (Nat.le_of_ble_eq_true rfl) rfl (fun ls hl => ?_)
              refine lv_goto (tgt := 37) hx hb dX6_rates_77 (by decide) ?_
              have e_inc : (x4_2 + 1).toInt = x4_2.toInt + 1 := ti_inc (by omega)
              exact ih_37 (x4_2 + 1) r71_7.1 r71_7.2.1 r71_7.2.2.1 r71_7.2.2.2 (by first | with_reducible assumption | omega | decide) (by first | with_reducible assumption | omega | decide) (by omega) hF _ _ _ hh (lv_sub hl [0, 1, 2, 3, 4] rfl)
      exact L_37 242 0 r31_1.1 r31_1.2.1 r31_1.2.2.1 r31_1.2.2.2 (by first | with_reducible assumption | omega | decide) (by first | with_reducible assumption | omega | decide) (by first | omega | decide | (simp; done)) hF _ _ _ hh (lv_sub hl [0, 1, 2, 3, 4] rfl)
    · replace hF := hF.trans (if_pos c_21)
      refine lv_bipush (v := (-3)) hx hb dX6_rates_24 (by decide) ?_
      exact RT _ _ _ _ _ _ hh (by rw [hF]) (Or.inl ⟨_, rfl, by rw [hF], dX6_rates_26, Or.inl rfl⟩)
def F_X6_canMeet_22 (p_ck : Nat → Nat → Int32) (x1 : Int32) : Nat → Int32 → Int32
  | 0, _ => default
  | n + 1, x2_1 => (if 8 ≤ x2_1 then 1 else (if ((x1 >>> (x2_1 &&& 31)) &&& 1) = 0 then ((F_X6_canMeet_22 p_ck x1 n) (x2_1 + 1)) else (if tld p_ck x2_1 = 0 then 0 else (if (p_ck x2_1.toNatClampNeg 0) = 0 then (if (p_ck x2_1.toNatClampNeg 3) = (p_ck x2_1.toNatClampNeg 4) then ((F_X6_canMeet_22 p_ck x1 n) (x2_1 + 1)) else 0) else 0))))
def F_X6_canMeet (p_ck : Nat → Nat → Int32) (x1 : Int32) : Int32 := (if (F_X6_isBelow x1 256) = 0 then 0 else (if 2 ≤ (F_J6_bitCount_0f7a4 x1) then (F_X6_canMeet_22 p_ck x1 9 0) else 0))
theorem in_X6_canMeet_X6 : ∀ x ∈ u_ws RX6 TX6 9, x ∈ wsX6_canMeet := by decide +kernel
theorem in_X6_canMeet_X0 : ∀ x ∈ u_ws RX0 TX0 6, x ∈ wsX6_canMeet := by decide +kernel
set_option maxHeartbeats 2000000 in
set_option maxRecDepth 100000 in
theorem c_X6_canMeet (l : Launch) (D : va_G) (cI cZ cC cH : ClassId) (o t_o t_a_bytes t_a_rows p_o p_a_clocks p_n_o p_n_a_clocks p_n_a_minutes p_n_a_dials a_kept a_o a_a_clocks a_n_o a_n_a_clocks a_n_a_minutes a_n_a_dials b_o b_a_clocks b_n_o b_n_a_clocks b_n_a_minutes b_n_a_dials y_o r_o q_o q_a_clocks q_a_rates q_a_least a_misfits a_shown : Nat) (p_c : Nat → Nat) (a_c : Nat → Nat) (b_c : Nat → Nat) (sifted : Int32) (t_length : Int32) (t_lineCount : Int32) (t_start : Int32) (t_end : Int32) (t_bytes : Nat → Int32) (t_rows : Nat → Int32) (p_filled : Int32) (p_ck : Nat → Nat → Int32) (p_n_many : Int32) (p_n_clocks : Nat → Int32) (p_n_minutes : Nat → Int32) (p_n_dials : Nat → Int32) (a_filled : Int32) (a_ck : Nat → Nat → Int32) (a_n_many : Int32) (a_n_clocks : Nat → Int32) (a_n_minutes : Nat → Int32) (a_n_dials : Nat → Int32) (b_filled : Int32) (b_ck : Nat → Nat → Int32) (b_n_many : Int32) (b_n_clocks : Nat → Int32) (b_n_minutes : Nat → Int32) (b_n_dials : Nat → Int32) (y_many : Int32) (y_first : Int32) (y_last : Int32) (y_runs : Int32) (r_kind : Int32) (r_set : Int32) (r_dial : Int32) (r_low : Int32) (r_high : Int32) (r_read : Int32) (q_many : Int32) (q_clocks : Nat → Int32) (q_rates : Nat → Int32) (q_least : Nat → Int32) (misfits : Nat → Int32) (shown : Nat → Int32) (x1 : Int32)  : MC l D (TY cI cZ cC cH) yX6_canMeet wsX6_canMeet 2 42 [.ref o, .int x1] (W6 cI cZ cC cH o t_o t_a_bytes t_a_rows p_o p_a_clocks p_n_o p_n_a_clocks p_n_a_minutes p_n_a_dials a_kept a_o a_a_clocks a_n_o a_n_a_clocks a_n_a_minutes a_n_a_dials b_o b_a_clocks b_n_o b_n_a_clocks b_n_a_minutes b_n_a_dials y_o r_o q_o q_a_clocks q_a_rates q_a_least a_misfits a_shown p_c a_c b_c sifted t_length t_lineCount t_start t_end t_bytes t_rows p_filled p_ck p_n_many p_n_clocks p_n_minutes p_n_dials a_filled a_ck a_n_many a_n_clocks a_n_minutes a_n_dials b_filled b_ck b_n_many b_n_clocks b_n_minutes b_n_dials y_many y_first y_last y_runs r_kind r_set r_dial r_low r_high r_read q_many q_clocks q_rates q_least misfits shown) (some (.int (F_X6_canMeet p_ck x1))) (W6 cI cZ cC cH o t_o t_a_bytes t_a_rows p_o p_a_clocks p_n_o p_n_a_clocks p_n_a_minutes p_n_a_dials a_kept a_o a_a_clocks a_n_o a_n_a_clocks a_n_a_minutes a_n_a_dials b_o b_a_clocks b_n_o b_n_a_clocks b_n_a_minutes b_n_a_dials y_o r_o q_o q_a_clocks q_a_rates q_a_least a_misfits a_shown p_c a_c b_c sifted t_length t_lineCount t_start t_end t_bytes t_rows p_filled p_ck p_n_many p_n_clocks p_n_minutes p_n_dials a_filled a_ck a_n_many a_n_clocks a_n_minutes a_n_dials b_filled b_ck b_n_many b_n_clocks b_n_minutes b_n_dials y_many y_first y_last y_runs r_kind r_set r_dial r_low r_high r_read q_many q_clocks q_rates q_least misfits shown) := by
  obtain ⟨R, hF⟩ : ∃ R, R = F_X6_canMeet p_ck x1 := ⟨_, rfl⟩
  rw [← hF]
  refine MC.of (cc := cX6_canMeet) (maxL := 4) (ret := (some .boolean)) RX6 rfl (by decide +kernel) rfl (Nat.le_of_ble_eq_true rfl) ?_
  intro p e s m args below meth c A Q KX RT hh ls hl
  have z0 : (0 : Int32).toInt = 0 := rfl
  have z1 : (1 : Int32).toInt = 1 := rfl
  have zm : (-1 : Int32).toInt = -1 := rfl
  have hx := KX.1
  have hb := KX.2.1
  have hl : lv_has ls 4 [(0, .ref o), (1, .int x1)] := hl
  unfold F_X6_canMeet at hF
  refine lv_iload_n hx hb dX6_canMeet_0 rfl (lv_at hl 1 rfl) ?_
  refine lv_sipush (v := 256) hx hb dX6_canMeet_1 (by decide) ?_
  refine g_callS (As := [.int x1, .int 256]) (rest := []) KX rfl ⟨Nat.le_of_ble_eq_true rfl, Nat.le_of_ble_eq_true rfl⟩ hh hl (c_X6_isBelow l D cI cZ cC cH  x1 256 ) JN.no 2 gX6_canMeet_X6_isBelow rfl (by decide +kernel) ⟨Nat.le_of_ble_eq_true rfl, Nat.le_of_ble_eq_true rfl⟩ rfl rfl (Nat.le_of_ble_eq_true rfl) dX6_canMeet_4 (fun H locs hh => ?_)
  refine W.eq (g2 := F0 m 7 ls [.int (F_X6_isBelow x1 256)]) rfl ?_
  refine lv_if_eq (tgt := 18) hx hb dX6_canMeet_7 (by decide) (fun c_7 => ?_) (fun c_7 => ?_)
  · replace hF := hF.trans (if_pos c_7)
    refine lv_iconst (v := 0) hx hb dX6_canMeet_18 (by decide) ?_
    exact RT _ _ _ _ _ _ hh (rfl) (Or.inl ⟨_, rfl, by rw [hF], dX6_canMeet_19, Or.inr (Or.inl ⟨rfl, Or.inl rfl⟩)⟩)
  · replace hF := hF.trans (if_neg c_7)
    obtain ⟨k0_7, k1_7⟩ : (0 : Int) ≤ x1.toInt ∧ x1.toInt < 256 := X6_isBelow_in c_7
    refine lv_iload_n hx hb dX6_canMeet_10 rfl (lv_at hl 1 rfl) ?_
    refine g_callS (As := [.int x1]) (rest := []) KX rfl ⟨Nat.le_of_ble_eq_true rfl, Nat.le_of_ble_eq_true rfl⟩ hh hl (c_J6_bitCount_0f7a4 l D cI cZ cC cH  x1 ) JN.no 1 gX6_canMeet_J6_bitCount_0f7a4 rfl (by decide +kernel) ⟨Nat.le_of_ble_eq_true rfl, Nat.le_of_ble_eq_true rfl⟩ rfl rfl (Nat.le_of_ble_eq_true rfl) dX6_canMeet_11 (fun H locs hh => ?_)
    refine W.eq (g2 := F0 m 14 ls [.int (F_J6_bitCount_0f7a4 x1)]) rfl ?_
    refine lv_iconst (v := 2) hx hb dX6_canMeet_14 (by decide) ?_
    refine lv_icmp_ge (tgt := 20) hx hb dX6_canMeet_15 (by decide) (fun c_15 => ?_) (fun c_15 => ?_)
    · replace hF := hF.trans (if_pos c_15)
      refine lv_iconst (v := 0) hx hb dX6_canMeet_20 (by decide) ?_
      refine lv_istore_n (lv' := [(2, .int 0), (0, .ref o), (1, .int x1)]) hx hb dX6_canMeet_21 rfl hl (Nat.le_of_ble_eq_true rfl) rfl (fun ls hl => ?_)
      have L_22 : ∀ (n_22 : Nat) (x2_1 : Int32) (i0_22 : 0 ≤ x2_1.toInt) (i1_22 : x2_1.toInt ≤ 8) (_ : (8 - x2_1.toInt).toNat < n_22) (_ : R = (F_X6_canMeet_22 p_ck x1) n_22 x2_1) (ls : Array Slot) (H : Heap) (locs : List Loc) (_ : HS D A s.heap (W6 cI cZ cC cH o t_o t_a_bytes t_a_rows p_o p_a_clocks p_n_o p_n_a_clocks p_n_a_minutes p_n_a_dials a_kept a_o a_a_clocks a_n_o a_n_a_clocks a_n_a_minutes a_n_a_dials b_o b_a_clocks b_n_o b_n_a_clocks b_n_a_minutes b_n_a_dials y_o r_o q_o q_a_clocks q_a_rates q_a_least a_misfits a_shown p_c a_c b_c sifted t_length t_lineCount t_start t_end t_bytes t_rows p_filled p_ck p_n_many p_n_clocks p_n_minutes p_n_dials a_filled a_ck a_n_many a_n_clocks a_n_minutes a_n_dials b_filled b_ck b_n_many b_n_clocks b_n_minutes b_n_dials y_many y_first y_last y_runs r_kind r_set r_dial r_low r_high r_read q_many q_clocks q_rates q_least misfits shown) H locs) (_ : lv_has ls 4 [(2, .int x2_1), (0, .ref o), (1, .int x1)]), W p l e { frames := 2, cells := 0, slots := 0, locals := 42 } s m args below meth c H locs 0 0 Q (F0 m 22 ls []) := by
        intro n_22
        induction n_22 with
        | zero => intro x2_1 i0_22 i1_22 hm; exact absurd hm (Nat.not_lt_zero _)
        | succ n_22 ih_22 =>
          intro x2_1 i0_22 i1_22 hm_22 hF ls H locs hh hl
          rw [F_X6_canMeet_22.eq_2] at hF
          refine lv_iload_n hx hb dX6_canMeet_22 rfl (lv_at hl 0 rfl) ?_
          refine lv_bipush (v := 8) hx hb dX6_canMeet_23 (by decide) ?_
          refine lv_icmp_ge (tgt := 78) hx hb dX6_canMeet_25 (by decide) (fun c_25 => ?_) (fun c_25 => ?_)
          · replace hF := hF.trans (if_pos c_25)
            have i_25 : 8 ≤ x2_1.toInt := ti_le.mp c_25
            refine lv_iconst (v := 1) hx hb dX6_canMeet_78 (by decide) ?_
            exact RT _ _ _ _ _ _ hh (rfl) (Or.inl ⟨_, rfl, by rw [hF], dX6_canMeet_79, Or.inr (Or.inl ⟨rfl, Or.inr rfl⟩)⟩)
          · replace hF := hF.trans (if_neg c_25)
            have i_25 : x2_1.toInt < 8 := ti_nle c_25
            refine lv_iload_n hx hb dX6_canMeet_28 rfl (lv_at hl 2 rfl) ?_
            refine lv_iload_n hx hb dX6_canMeet_29 rfl (lv_at hl 0 rfl) ?_
            refine lv_ishr hx hb dX6_canMeet_30 ?_
            refine lv_iconst (v := 1) hx hb dX6_canMeet_31 (by decide) ?_
            refine lv_iand hx hb dX6_canMeet_32 ?_
            refine lv_if_ne (tgt := 39) hx hb dX6_canMeet_33 (by decide) (fun c_33 => ?_) (fun c_33 => ?_)
            · replace hF := hF.trans (if_neg c_33)
              have i_33 : ¬ ((x1 >>> (x2_1 &&& 31)) &&& 1).toInt = 0 := ti_ne c_33
              refine lv_aload_n hx hb dX6_canMeet_39 rfl (lv_at hl 1 rfl) ?_
              refine g_get KX hh in_X6_canMeet_X6 0 rfl rfl 1 (by decide) rfl (List.mem_of_getElem? (i := 1) rfl) dX6_canMeet_40 ?_
              refine lv_iload_n hx hb dX6_canMeet_43 rfl (lv_at hl 0 rfl) ?_
              refine g_callV (As := [.int x2_1]) (rest := []) KX rfl ⟨Nat.le_of_ble_eq_true rfl, Nat.le_of_ble_eq_true rfl⟩ hh hl (c_X1_toldClock l D cI cZ cC cH p_o p_a_clocks p_n_o p_n_a_clocks p_n_a_minutes p_n_a_dials p_c p_filled p_ck p_n_many p_n_clocks p_n_minutes p_n_dials x2_1 ) (JN.ro [4, 5, 6, 7, 8, 9, 10, 11, 12, 13, 14, 15, 16, 17] rfl (by decide +kernel)) 1 gX6_canMeet_X1_toldClock rfl (by decide +kernel) ⟨Nat.le_of_ble_eq_true rfl, Nat.le_of_ble_eq_true rfl⟩ 4 1 rfl rfl rfl rfl rfl (Nat.le_of_ble_eq_true rfl) dX6_canMeet_44 (fun H locs hh => ?_)
              rcases told_cases p_ck p_c x2_1 with ⟨c_44, e_44⟩ | ⟨c_44, e_44⟩
              · refine W.eq (g2 := F0 m 47 ls [.null]) (by rw [e_44]; rfl) ?_
                replace hF := hF.trans (if_pos c_44)
                refine lv_astore_nN (lv' := [(3, .null), (2, .int x2_1), (0, .ref o), (1, .int x1)]) hx hb dX6_canMeet_47 rfl hl (Nat.le_of_ble_eq_true rfl) rfl (fun ls hl => ?_)
                refine lv_aload_nN hx hb dX6_canMeet_48 rfl (lv_at hl 0 rfl) ?_
                refine lv_ifnullN (tgt := 70) hx hb dX6_canMeet_49 (by decide) ?_
                refine lv_iconst (v := 0) hx hb dX6_canMeet_70 (by decide) ?_
                exact RT _ _ _ _ _ _ hh (rfl) (Or.inl ⟨_, rfl, by rw [hF], dX6_canMeet_71, Or.inr (Or.inl ⟨rfl, Or.inl rfl⟩)⟩)
              · refine W.eq (g2 := F0 m 47 ls [.ref (p_c x2_1.toNatClampNeg)]) (by rw [e_44]; rfl) ?_
                replace hF := hF.trans (if_neg c_44)
                obtain ⟨k0_44, k1_44⟩ := tld_in c_44
                refine lv_astore_n (lv' := [(3, .ref (p_c x2_1.toNatClampNeg)), (2, .int x2_1), (0, .ref o), (1, .int x1)]) hx hb dX6_canMeet_47 rfl hl (Nat.le_of_ble_eq_true rfl) rfl (fun ls hl => ?_)
                refine lv_aload_n hx hb dX6_canMeet_48 rfl (lv_at hl 0 rfl) ?_
                refine lv_ifnull hx hb dX6_canMeet_49 ?_
                refine lv_aload_n hx hb dX6_canMeet_52 rfl (lv_at hl 0 rfl) ?_
                refine g_get KX hh in_X6_canMeet_X0 (6 + x2_1.toNatClampNeg) (clk_W6_p (tn_lt (k := x2_1) (n := 8) (by omega) (by omega))) rfl 0 (by decide) rfl (List.mem_of_getElem? (i := 2) rfl) dX6_canMeet_53 ?_
                refine lv_if_ne (tgt := 70) hx hb dX6_canMeet_56 (by decide) (fun c_56 => ?_) (fun c_56 => ?_)
                · replace hF := hF.trans (if_neg c_56)
                  refine lv_iconst (v := 0) hx hb dX6_canMeet_70 (by decide) ?_
                  exact RT _ _ _ _ _ _ hh (rfl) (Or.inl ⟨_, rfl, by rw [hF], dX6_canMeet_71, Or.inr (Or.inl ⟨rfl, Or.inl rfl⟩)⟩)
                · replace hF := hF.trans (if_pos c_56)
                  refine lv_aload_n hx hb dX6_canMeet_59 rfl (lv_at hl 0 rfl) ?_
                  refine g_get KX hh in_X6_canMeet_X0 (6 + x2_1.toNatClampNeg) (clk_W6_p (tn_lt (k := x2_1) (n := 8) (by omega) (by omega))) rfl 3 (by decide) rfl (List.mem_of_getElem? (i := 3) rfl) dX6_canMeet_60 ?_
                  refine lv_aload_n hx hb dX6_canMeet_63 rfl (lv_at hl 0 rfl) ?_
                  refine g_get KX hh in_X6_canMeet_X0 (6 + x2_1.toNatClampNeg) (clk_W6_p (tn_lt (k := x2_1) (n := 8) (by omega) (by omega))) rfl 4 (by decide) rfl (List.mem_of_getElem? (i := 4) rfl) dX6_canMeet_64 ?_
                  refine lv_icmp_eq (tgt := 72) hx hb dX6_canMeet_67 (by decide) (fun c_67 => ?_) (fun c_67 => ?_)
                  · replace hF := hF.trans (if_pos c_67)
                    refine lv_iinc (v := x2_1 + 1) (lv' := [(2, .int (x2_1 + 1)), (3, .ref (p_c x2_1.toNatClampNeg)), (0, .ref o), (1, .int x1)]) hx hb dX6_canMeet_72 hl (k := 1) rfl rfl (Nat.le_of_ble_eq_true rfl) rfl (fun ls hl => ?_)
                    refine lv_goto (tgt := 22) hx hb dX6_canMeet_75 (by decide) ?_
                    have e_inc : (x2_1 + 1).toInt = x2_1.toInt + 1 := ti_inc (by omega)
                    exact ih_22 (x2_1 + 1) (by first | with_reducible assumption | omega | decide) (by first | with_reducible assumption | omega | decide) (by omega) hF _ _ _ hh (lv_sub hl [0, 2, 3] rfl)
                  · replace hF := hF.trans (if_neg c_67)
                    refine lv_iconst (v := 0) hx hb dX6_canMeet_70 (by decide) ?_
                    exact RT _ _ _ _ _ _ hh (rfl) (Or.inl ⟨_, rfl, by rw [hF], dX6_canMeet_71, Or.inr (Or.inl ⟨rfl, Or.inl rfl⟩)⟩)
            · replace hF := hF.trans (if_pos c_33)
              have i_33 : ((x1 >>> (x2_1 &&& 31)) &&& 1).toInt = 0 := congrArg Int32.toInt c_33
              refine lv_goto (tgt := 72) hx hb dX6_canMeet_36 (by decide) ?_
              refine lv_iinc (v := x2_1 + 1) (lv' := [(2, .int (x2_1 + 1)), (0, .ref o), (1, .int x1)]) hx hb dX6_canMeet_72 hl (k := 0) rfl rfl (Nat.le_of_ble_eq_true rfl) rfl (fun ls hl => ?_)
              refine lv_goto (tgt := 22) hx hb dX6_canMeet_75 (by decide) ?_
              have e_inc : (x2_1 + 1).toInt = x2_1.toInt + 1 := ti_inc (by omega)
              exact ih_22 (x2_1 + 1) (by first | with_reducible assumption | omega | decide) (by first | with_reducible assumption | omega | decide) (by omega) hF _ _ _ hh (lv_sub hl [0, 1, 2] rfl)
      exact L_22 9 0 (by first | with_reducible assumption | omega | decide) (by first | with_reducible assumption | omega | decide) (by first | omega | decide | (simp; done)) hF _ _ _ hh (lv_sub hl [0, 1, 2] rfl)
    · replace hF := hF.trans (if_neg c_15)
      refine lv_iconst (v := 0) hx hb dX6_canMeet_18 (by decide) ?_
      exact RT _ _ _ _ _ _ hh (rfl) (Or.inl ⟨_, rfl, by rw [hF], dX6_canMeet_19, Or.inr (Or.inl ⟨rfl, Or.inl rfl⟩)⟩)
theorem zb_F_X6_canMeet_22 {p_ck : Nat → Nat → Int32} {x1 : Int32} : ∀ (n : Nat) (x2_1 : Int32), (F_X6_canMeet_22 p_ck x1 n x2_1) = 0 ∨ (F_X6_canMeet_22 p_ck x1 n x2_1) = 1 := by
  intro n
  induction n with
  | zero => intros; exact Or.inl rfl
  | succ n ih =>
    intros
    rw [F_X6_canMeet_22.eq_2]
    split
    · exact Or.inr rfl
    · split
      · exact ih _
      · split
        · exact Or.inl rfl
        · split
          · split
            · exact ih _
            · exact Or.inl rfl
          · exact Or.inl rfl
theorem z_X6_canMeet (p_ck : Nat → Nat → Int32) (x1 : Int32) : (F_X6_canMeet p_ck x1) = 0 ∨ (F_X6_canMeet p_ck x1) = 1 := by
  unfold F_X6_canMeet
  split
  · exact Or.inl rfl
  · split
    · exact zb_F_X6_canMeet_22 _ _
    · exact Or.inl rfl
