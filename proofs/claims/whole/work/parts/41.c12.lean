theorem X5_put_pos {m : Int32} {a : Nat → Int32} {x : Int32} (h : 0 ≤ m.toInt) : 0 ≤ (F_X5_put m a x).1.toInt := by
  unfold F_X5_put
  have e : (200 : Int32).toInt = 200 := rfl
  split
  · exact h
  · rename_i h1
    have h2 := ti_nle h1
    show 0 ≤ (m + 1).toInt
    rw [ti_inc (by omega)]; omega
def F_X6_write_c57 (x4_1 : Int32) (k_35 : Int32 → Int32 → (Nat → Int32) → Int32 × Int32 × (Nat → Int32)) (r57_4 : Int32 × (Nat → Int32)) : Int32 × Int32 × (Nat → Int32) := (k_35 (x4_1 + 1) r57_4.1 r57_4.2)
def F_X6_write_35 (x1 : Int64) (x3 : Int32) : Nat → Int32 → Int32 → (Nat → Int32) → Int32 × Int32 × (Nat → Int32)
  | 0, _, _, _ => default
  | n + 1, x4_1, w_t_length_2, w_t_bytes_3 => (if x3 ≤ x4_1 then (w_t_length_2, w_t_length_2, w_t_bytes_3) else (F_X6_write_c57 x4_1 (F_X6_write_35 x1 x3 n) (F_X5_put w_t_length_2 w_t_bytes_3 (((x1 >>> ((8 * x4_1).toInt64 &&& 63)) &&& 255).toInt32))))
def F_X6_write (t_length : Int32) (t_bytes : Nat → Int32) (x1 : Int64) (x3 : Int32) : Int32 × Int32 × (Nat → Int32) := (if x3 < 1 then ((-3), t_length, t_bytes) else (if x3 ≤ 8 then (if (t_length + x3) ≤ 200 then (F_X6_write_35 x1 x3 9 0 t_length t_bytes) else ((-5), t_length, t_bytes)) else ((-3), t_length, t_bytes)))
theorem in_X6_write_X6 : ∀ x ∈ u_ws RX6 TX6 9, x ∈ wsX6_write := by decide +kernel
theorem in_X6_write_X5 : ∀ x ∈ u_ws RX5 TX5 6, x ∈ wsX6_write := by decide +kernel
set_option maxHeartbeats 2000000 in
set_option maxRecDepth 100000 in
theorem c_X6_write (l : Launch) (D : va_G) (cI cZ cC cH : ClassId) (o t_o t_a_bytes t_a_rows p_o p_a_clocks p_n_o p_n_a_clocks p_n_a_minutes p_n_a_dials a_kept a_o a_a_clocks a_n_o a_n_a_clocks a_n_a_minutes a_n_a_dials b_o b_a_clocks b_n_o b_n_a_clocks b_n_a_minutes b_n_a_dials y_o r_o q_o q_a_clocks q_a_rates q_a_least a_misfits a_shown : Nat) (p_c : Nat → Nat) (a_c : Nat → Nat) (b_c : Nat → Nat) (sifted : Int32) (t_length : Int32) (t_lineCount : Int32) (t_start : Int32) (t_end : Int32) (t_bytes : Nat → Int32) (t_rows : Nat → Int32) (p_filled : Int32) (p_ck : Nat → Nat → Int32) (p_n_many : Int32) (p_n_clocks : Nat → Int32) (p_n_minutes : Nat → Int32) (p_n_dials : Nat → Int32) (a_filled : Int32) (a_ck : Nat → Nat → Int32) (a_n_many : Int32) (a_n_clocks : Nat → Int32) (a_n_minutes : Nat → Int32) (a_n_dials : Nat → Int32) (b_filled : Int32) (b_ck : Nat → Nat → Int32) (b_n_many : Int32) (b_n_clocks : Nat → Int32) (b_n_minutes : Nat → Int32) (b_n_dials : Nat → Int32) (y_many : Int32) (y_first : Int32) (y_last : Int32) (y_runs : Int32) (r_kind : Int32) (r_set : Int32) (r_dial : Int32) (r_low : Int32) (r_high : Int32) (r_read : Int32) (q_many : Int32) (q_clocks : Nat → Int32) (q_rates : Nat → Int32) (q_least : Nat → Int32) (misfits : Nat → Int32) (shown : Nat → Int32) (x1 : Int64) (x3 : Int32) (ht0 : 0 ≤ t_length.toInt) (ht1 : t_length.toInt ≤ 200) : MC l D (TY cI cZ cC cH) yX6_write wsX6_write 1 21 [.ref o, .long x1, .int x3] (W6 cI cZ cC cH o t_o t_a_bytes t_a_rows p_o p_a_clocks p_n_o p_n_a_clocks p_n_a_minutes p_n_a_dials a_kept a_o a_a_clocks a_n_o a_n_a_clocks a_n_a_minutes a_n_a_dials b_o b_a_clocks b_n_o b_n_a_clocks b_n_a_minutes b_n_a_dials y_o r_o q_o q_a_clocks q_a_rates q_a_least a_misfits a_shown p_c a_c b_c sifted t_length t_lineCount t_start t_end t_bytes t_rows p_filled p_ck p_n_many p_n_clocks p_n_minutes p_n_dials a_filled a_ck a_n_many a_n_clocks a_n_minutes a_n_dials b_filled b_ck b_n_many b_n_clocks b_n_minutes b_n_dials y_many y_first y_last y_runs r_kind r_set r_dial r_low r_high r_read q_many q_clocks q_rates q_least misfits shown) (some (.int ((F_X6_write t_length t_bytes x1 x3).1))) (W6 cI cZ cC cH o t_o t_a_bytes t_a_rows p_o p_a_clocks p_n_o p_n_a_clocks p_n_a_minutes p_n_a_dials a_kept a_o a_a_clocks a_n_o a_n_a_clocks a_n_a_minutes a_n_a_dials b_o b_a_clocks b_n_o b_n_a_clocks b_n_a_minutes b_n_a_dials y_o r_o q_o q_a_clocks q_a_rates q_a_least a_misfits a_shown p_c a_c b_c sifted (F_X6_write t_length t_bytes x1 x3).2.1 t_lineCount t_start t_end (F_X6_write t_length t_bytes x1 x3).2.2 t_rows p_filled p_ck p_n_many p_n_clocks p_n_minutes p_n_dials a_filled a_ck a_n_many a_n_clocks a_n_minutes a_n_dials b_filled b_ck b_n_many b_n_clocks b_n_minutes b_n_dials y_many y_first y_last y_runs r_kind r_set r_dial r_low r_high r_read q_many q_clocks q_rates q_least misfits shown) := by
  obtain ⟨R, hF⟩ : ∃ R, R = F_X6_write t_length t_bytes x1 x3 := ⟨_, rfl⟩
  rw [← hF]
  refine MC.of (cc := cX6_write) (maxL := 5) (ret := (some .int)) RX6 rfl (by decide +kernel) rfl (Nat.le_of_ble_eq_true rfl) ?_
  intro p e s m args below meth c A Q KX RT hh ls hl
  have z0 : (0 : Int32).toInt = 0 := rfl
  have z1 : (1 : Int32).toInt = 1 := rfl
  have zm : (-1 : Int32).toInt = -1 := rfl
  have hx := KX.1
  have hb := KX.2.1
  have hl : lv_has ls 5 [(0, .ref o), (1, .long x1), (3, .int x3)] := hl
  unfold F_X6_write at hF
  refine lv_iload_n hx hb dX6_write_0 rfl (lv_at hl 2 rfl) ?_
  refine lv_iconst (v := 1) hx hb dX6_write_1 (by decide) ?_
  refine lv_icmp_lt (tgt := 11) hx hb dX6_write_2 (by decide) (fun c_2 => ?_) (fun c_2 => ?_)
  · replace hF := hF.trans (if_pos c_2)
    have i_2 : x3.toInt < 1 := ti_lt.mp c_2
    refine lv_bipush (v := (-3)) hx hb dX6_write_11 (by decide) ?_
    exact RT _ _ _ _ _ _ hh (by rw [hF]) (Or.inl ⟨_, rfl, by rw [hF], dX6_write_13, Or.inl rfl⟩)
  · replace hF := hF.trans (if_neg c_2)
    have i_2 : 1 ≤ x3.toInt := ti_nlt c_2
    refine lv_iload_n hx hb dX6_write_5 rfl (lv_at hl 2 rfl) ?_
    refine lv_bipush (v := 8) hx hb dX6_write_6 (by decide) ?_
    refine lv_icmp_le (tgt := 14) hx hb dX6_write_8 (by decide) (fun c_8 => ?_) (fun c_8 => ?_)
    · replace hF := hF.trans (if_pos c_8)
      have i_8 : x3.toInt ≤ 8 := ti_le.mp c_8
      refine lv_aload_n hx hb dX6_write_14 rfl (lv_at hl 0 rfl) ?_
      refine g_get KX hh in_X6_write_X6 0 rfl rfl 0 (by decide) rfl (List.mem_of_getElem? (i := 1) rfl) dX6_write_15 ?_
      refine g_get KX hh in_X6_write_X5 1 rfl rfl 1 (by decide) rfl (List.mem_of_getElem? (i := 2) rfl) dX6_write_18 ?_
      refine lv_iload_n hx hb dX6_write_21 rfl (lv_at hl 2 rfl) ?_
      refine lv_iadd hx hb dX6_write_22 ?_
      refine lv_sipush (v := 200) hx hb dX6_write_23 (by decide) ?_
      refine lv_icmp_le (tgt := 32) hx hb dX6_write_26 (by decide) (fun c_26 => ?_) (fun c_26 => ?_)
      · replace hF := hF.trans (if_pos c_26)
        have i_26 : (t_length + x3).toInt ≤ 200 := ti_le.mp c_26
        refine lv_iconst (v := 0) hx hb dX6_write_32 (by decide) ?_
        refine lv_istore (lv' := [(4, .int 0), (0, .ref o), (1, .long x1), (3, .int x3)]) hx hb dX6_write_33 hl (Nat.le_of_ble_eq_true rfl) rfl (fun ls hl => ?_)
        have L_35 : ∀ (n_35 : Nat) (x4_1 : Int32) (w_t_length_2 : Int32) (w_t_bytes_3 : Nat → Int32) (i0_35 : 0 ≤ x4_1.toInt) (i1_35 : x4_1.toInt ≤ x3.toInt) (il_35 : 0 ≤ w_t_length_2.toInt) (_ : (x3.toInt - x4_1.toInt).toNat < n_35) (_ : R = (F_X6_write_35 x1 x3) n_35 x4_1 w_t_length_2 w_t_bytes_3) (ls : Array Slot) (H : Heap) (locs : List Loc) (_ : HS D A s.heap (W6 cI cZ cC cH o t_o t_a_bytes t_a_rows p_o p_a_clocks p_n_o p_n_a_clocks p_n_a_minutes p_n_a_dials a_kept a_o a_a_clocks a_n_o a_n_a_clocks a_n_a_minutes a_n_a_dials b_o b_a_clocks b_n_o b_n_a_clocks b_n_a_minutes b_n_a_dials y_o r_o q_o q_a_clocks q_a_rates q_a_least a_misfits a_shown p_c a_c b_c sifted w_t_length_2 t_lineCount t_start t_end w_t_bytes_3 t_rows p_filled p_ck p_n_many p_n_clocks p_n_minutes p_n_dials a_filled a_ck a_n_many a_n_clocks a_n_minutes a_n_dials b_filled b_ck b_n_many b_n_clocks b_n_minutes b_n_dials y_many y_first y_last y_runs r_kind r_set r_dial r_low r_high r_read q_many q_clocks q_rates q_least misfits shown) H locs) (_ : lv_has ls 5 [(4, .int x4_1), (0, .ref o), (1, .long x1), (3, .int x3)]), W p l e { frames := 1, cells := 0, slots := 0, locals := 21 } s m args below meth c H locs 0 0 Q (F0 m 35 ls []) := by
          intro n_35
          induction n_35 with
          | zero => intro x4_1 w_t_length_2 w_t_bytes_3 i0_35 i1_35 il_35 hm; exact absurd hm (Nat.not_lt_zero _)
          | succ n_35 ih_35 =>
            intro x4_1 w_t_length_2 w_t_bytes_3 i0_35 i1_35 il_35 hm_35 hF ls H locs hh hl
            rw [F_X6_write_35.eq_2] at hF
            refine lv_iload hx hb dX6_write_35 (lv_at hl 0 rfl) ?_
            refine lv_iload_n hx hb dX6_write_37 rfl (lv_at hl 3 rfl) ?_
            refine lv_icmp_ge (tgt := 66) hx hb dX6_write_38 (by decide) (fun c_38 => ?_) (fun c_38 => ?_)
            · replace hF := hF.trans (if_pos c_38)
              have i_38 : x3.toInt ≤ x4_1.toInt := ti_le.mp c_38
              refine lv_aload_n hx hb dX6_write_66 rfl (lv_at hl 1 rfl) ?_
              refine g_get KX hh in_X6_write_X6 0 rfl rfl 0 (by decide) rfl (List.mem_of_getElem? (i := 1) rfl) dX6_write_67 ?_
              refine g_get KX hh in_X6_write_X5 1 rfl rfl 1 (by decide) rfl (List.mem_of_getElem? (i := 2) rfl) dX6_write_70 ?_
              exact RT _ _ _ _ _ _ hh (by rw [hF]) (Or.inl ⟨_, rfl, by rw [hF], dX6_write_73, Or.inl rfl⟩)
            · replace hF := hF.trans (if_neg c_38)
              have i_38 : x4_1.toInt < x3.toInt := ti_nle c_38
              refine lv_aload_n hx hb dX6_write_41 rfl (lv_at hl 1 rfl) ?_
              refine g_get KX hh in_X6_write_X6 0 rfl rfl 0 (by decide) rfl (List.mem_of_getElem? (i := 1) rfl) dX6_write_42 ?_
              refine lv_lload_n hx hb dX6_write_45 rfl (lv_at hl 2 rfl) ?_
              refine lv_bipush (v := 8) hx hb dX6_write_46 (by decide) ?_
              refine lv_iload hx hb dX6_write_48 (lv_at hl 0 rfl) ?_
              refine lv_imul hx hb dX6_write_50 ?_
              refine lv_lshr hx hb dX6_write_51 rfl ?_
              refine lv_ldc2 (v := 255) hx hb KX.2.2.2.1 (KX.2.2.2.2.1 _ (List.mem_of_getElem? (i := 3) rfl)) dX6_write_52 ?_
              refine lv_land hx hb dX6_write_55 ?_
              refine lv_l2i hx hb dX6_write_56 rfl ?_
              refine g_callV (As := [.int (((x1 >>> ((8 * x4_1).toInt64 &&& 63)) &&& 255).toInt32)]) (rest := []) KX rfl ⟨Nat.le_of_ble_eq_true rfl, Nat.le_of_ble_eq_true rfl⟩ hh hl (c_X5_put l D cI cZ cC cH t_o t_a_bytes t_a_rows w_t_length_2 t_lineCount t_start t_end w_t_bytes_3 t_rows (((x1 >>> ((8 * x4_1).toInt64 &&& 63)) &&& 255).toInt32) (by first | with_reducible assumption | omega | decide | exact tn_lt (n := 8) (by omega) (by omega))) (JN.up (ws1 := (W6 cI cZ cC cH o t_o t_a_bytes t_a_rows p_o p_a_clocks p_n_o p_n_a_clocks p_n_a_minutes p_n_a_dials a_kept a_o a_a_clocks a_n_o a_n_a_clocks a_n_a_minutes a_n_a_dials b_o b_a_clocks b_n_o b_n_a_clocks b_n_a_minutes b_n_a_dials y_o r_o q_o q_a_clocks q_a_rates q_a_least a_misfits a_shown p_c a_c b_c sifted ((F_X5_put w_t_length_2 w_t_bytes_3 (((x1 >>> ((8 * x4_1).toInt64 &&& 63)) &&& 255).toInt32)).1) t_lineCount t_start t_end ((F_X5_put w_t_length_2 w_t_bytes_3 (((x1 >>> ((8 * x4_1).toInt64 &&& 63)) &&& 255).toInt32)).2) t_rows p_filled p_ck p_n_many p_n_clocks p_n_minutes p_n_dials a_filled a_ck a_n_many a_n_clocks a_n_minutes a_n_dials b_filled b_ck b_n_many b_n_clocks b_n_minutes b_n_dials y_many y_first y_last y_runs r_kind r_set r_dial r_low r_high r_read q_many q_clocks q_rates q_least misfits shown)) [1, 2, 3] rfl rfl rfl rfl rfl) 1 gX6_write_X5_put rfl (by decide +kernel) ⟨Nat.le_of_ble_eq_true rfl, Nat.le_of_ble_eq_true rfl⟩ 1 5 rfl rfl rfl rfl rfl (Nat.le_of_ble_eq_true rfl) dX6_write_57 (fun H locs hh => ?_)
              refine W.eq (g2 := F0 m 60 ls []) rfl ?_
              generalize q_57 : F_X5_put w_t_length_2 w_t_bytes_3 (((x1 >>> ((8 * x4_1).toInt64 &&& 63)) &&& 255).toInt32) = r57_4 at hh hF ⊢
              have ht57 : 0 ≤ r57_4.1.toInt := by rw [← q_57]; exact X5_put_pos il_35
              unfold F_X6_write_c57 at hF
              refine lv_iinc (v := x4_1 + 1) (lv' := [(4, .int (x4_1 + 1)), (0, .ref o), (1, .long x1), (3, .int x3)]) hx hb dX6_write_60 hl (k := 0) rfl rfl (Nat.le_of_ble_eq_true rfl) rfl (fun ls hl => ?_)
              refine lv_goto (tgt := 35) hx hb dX6_write_63 (by decide) ?_
              exact ih_35 (x4_1 + 1) r57_4.1 r57_4.2 (by first | (rw [ti_inc] <;> omega) | omega | decide) (by first | (rw [ti_inc] <;> omega) | omega) (by first | with_reducible assumption | omega | decide) (by rw [ti_inc] <;> omega) hF _ _ _ hh (lv_sub hl [0, 1, 2, 3] rfl)
        exact L_35 9 0 t_length t_bytes (by first | (rw [ti_inc] <;> omega) | omega | decide) (by first | (rw [ti_inc] <;> omega) | omega) (by first | with_reducible assumption | omega | decide) (by omega) hF _ _ _ hh (lv_sub hl [0, 1, 2, 3] rfl)
      · replace hF := hF.trans (if_neg c_26)
        have i_26 : 200 < (t_length + x3).toInt := ti_nle c_26
        refine lv_bipush (v := (-5)) hx hb dX6_write_29 (by decide) ?_
        exact RT _ _ _ _ _ _ hh (by rw [hF]) (Or.inl ⟨_, rfl, by rw [hF], dX6_write_31, Or.inl rfl⟩)
    · replace hF := hF.trans (if_neg c_8)
      have i_8 : 8 < x3.toInt := ti_nle c_8
      refine lv_bipush (v := (-3)) hx hb dX6_write_11 (by decide) ?_
      exact RT _ _ _ _ _ _ hh (by rw [hF]) (Or.inl ⟨_, rfl, by rw [hF], dX6_write_13, Or.inl rfl⟩)
