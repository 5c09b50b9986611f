def F_X6_house_c43 (x1_2 : Int32) (k_23 : Int32 → (Nat → Nat → Int32) → Int32 × Int32 × Int32 × Int32 × Int32 × Int32 × (Nat → Int32) × (Nat → Nat → Int32)) (r43_4 : (Nat → Nat → Int32)) : Int32 × Int32 × Int32 × Int32 × Int32 × Int32 × (Nat → Int32) × (Nat → Nat → Int32) := (k_23 (x1_2 + 1) r43_4)
def F_X6_house_23 (r14_1 : Int32 × Int32 × Int32 × Int32 × (Nat → Int32)) : Nat → Int32 → (Nat → Nat → Int32) → Int32 × Int32 × Int32 × Int32 × Int32 × Int32 × (Nat → Int32) × (Nat → Nat → Int32)
  | 0, _, _ => default
  | n + 1, x1_2, w_p_ck_3 => (if r14_1.2.1 ≤ x1_2 then (r14_1.2.1, 0, 0, r14_1.2.1, r14_1.2.2.1, r14_1.2.2.2.1, r14_1.2.2.2.2, w_p_ck_3) else (F_X6_house_c43 x1_2 (F_X6_house_23 r14_1 n) (F_X1_heed w_p_ck_3 r14_1.2.2.2.2 x1_2)))
def F_X6_house_c11 (sifted : Int32) (t_length : Int32) (p_ck : Nat → Nat → Int32) (r14_1 : Int32 × Int32 × Int32 × Int32 × (Nat → Int32)) : Int32 × Int32 × Int32 × Int32 × Int32 × Int32 × (Nat → Int32) × (Nat → Nat → Int32) := (if r14_1.1 = (-1) then (F_X6_house_23 r14_1 (r14_1.2.1.toInt.toNat + 1) 0 p_ck) else ((-4), sifted, t_length, r14_1.2.1, r14_1.2.2.1, r14_1.2.2.2.1, r14_1.2.2.2.2, p_ck))
def F_X6_house (sifted : Int32) (t_length : Int32) (t_start : Int32) (t_bytes : Nat → Int32) (t_rows : Nat → Int32) (p_ck : Nat → Nat → Int32) : Int32 × Int32 × Int32 × Int32 × Int32 × Int32 × (Nat → Int32) × (Nat → Nat → Int32) := (F_X6_house_c11 sifted t_length p_ck (F_X5_findFault t_length t_start t_bytes t_rows (F_X1_toldBits p_ck)))
theorem in_X6_house_X6 : ∀ x ∈ u_ws RX6 TX6 9, x ∈ wsX6_house := by decide +kernel
theorem in_X6_house_X5 : ∀ x ∈ u_ws RX5 TX5 6, x ∈ wsX6_house := by decide +kernel
set_option maxHeartbeats 2000000 in
set_option maxRecDepth 100000 in
theorem c_X6_house (l : Launch) (D : va_G) (cI cZ cC cH : ClassId) (o t_o t_a_bytes t_a_rows p_o p_a_clocks p_n_o p_n_a_clocks p_n_a_minutes p_n_a_dials a_kept a_o a_a_clocks a_n_o a_n_a_clocks a_n_a_minutes a_n_a_dials b_o b_a_clocks b_n_o b_n_a_clocks b_n_a_minutes b_n_a_dials y_o r_o q_o q_a_clocks q_a_rates q_a_least a_misfits a_shown : Nat) (p_c : Nat → Nat) (a_c : Nat → Nat) (b_c : Nat → Nat) (sifted : Int32) (t_length : Int32) (t_lineCount : Int32) (t_start : Int32) (t_end : Int32) (t_bytes : Nat → Int32) (t_rows : Nat → Int32) (p_filled : Int32) (p_ck : Nat → Nat → Int32) (p_n_many : Int32) (p_n_clocks : Nat → Int32) (p_n_minutes : Nat → Int32) (p_n_dials : Nat → Int32) (a_filled : Int32) (a_ck : Nat → Nat → Int32) (a_n_many : Int32) (a_n_clocks : Nat → Int32) (a_n_minutes : Nat → Int32) (a_n_dials : Nat → Int32) (b_filled : Int32) (b_ck : Nat → Nat → Int32) (b_n_many : Int32) (b_n_clocks : Nat → Int32) (b_n_minutes : Nat → Int32) (b_n_dials : Nat → Int32) (y_many : Int32) (y_first : Int32) (y_last : Int32) (y_runs : Int32) (r_kind : Int32) (r_set : Int32) (r_dial : Int32) (r_low : Int32) (r_high : Int32) (r_read : Int32) (q_many : Int32) (q_clocks : Nat → Int32) (q_rates : Nat → Int32) (q_least : Nat → Int32) (misfits : Nat → Int32) (shown : Nat → Int32)  (ht1 : t_length.toInt ≤ 200) : MC l D (TY cI cZ cC cH) yX6_house wsX6_house 8 180 [.ref o] (W6 cI cZ cC cH o t_o t_a_bytes t_a_rows p_o p_a_clocks p_n_o p_n_a_clocks p_n_a_minutes p_n_a_dials a_kept a_o a_a_clocks a_n_o a_n_a_clocks a_n_a_minutes a_n_a_dials b_o b_a_clocks b_n_o b_n_a_clocks b_n_a_minutes b_n_a_dials y_o r_o q_o q_a_clocks q_a_rates q_a_least a_misfits a_shown p_c a_c b_c sifted t_length t_lineCount t_start t_end t_bytes t_rows p_filled p_ck p_n_many p_n_clocks p_n_minutes p_n_dials a_filled a_ck a_n_many a_n_clocks a_n_minutes a_n_dials b_filled b_ck b_n_many b_n_clocks b_n_minutes b_n_dials y_many y_first y_last y_runs r_kind r_set r_dial r_low r_high r_read q_many q_clocks q_rates q_least misfits shown) (some (.int ((F_X6_house sifted t_length t_start t_bytes t_rows p_ck).1))) (W6 cI cZ cC cH o t_o t_a_bytes t_a_rows p_o p_a_clocks p_n_o p_n_a_clocks p_n_a_minutes p_n_a_dials a_kept a_o a_a_clocks a_n_o a_n_a_clocks a_n_a_minutes a_n_a_dials b_o b_a_clocks b_n_o b_n_a_clocks b_n_a_minutes b_n_a_dials y_o r_o q_o q_a_clocks q_a_rates q_a_least a_misfits a_shown p_c a_c b_c (F_X6_house sifted t_length t_start t_bytes t_rows p_ck).2.1 (F_X6_house sifted t_length t_start t_bytes t_rows p_ck).2.2.1 (F_X6_house sifted t_length t_start t_bytes t_rows p_ck).2.2.2.1 (F_X6_house sifted t_length t_start t_bytes t_rows p_ck).2.2.2.2.1 (F_X6_house sifted t_length t_start t_bytes t_rows p_ck).2.2.2.2.2.1 t_bytes (F_X6_house sifted t_length t_start t_bytes t_rows p_ck).2.2.2.2.2.2.1 p_filled (F_X6_house sifted t_length t_start t_bytes t_rows p_ck).2.2.2.2.2.2.2 p_n_many p_n_clocks p_n_minutes p_n_dials a_filled a_ck a_n_many a_n_clocks a_n_minutes a_n_dials b_filled b_ck b_n_many b_n_clocks b_n_minutes b_n_dials y_many y_first y_last y_runs r_kind r_set r_dial r_low r_high r_read q_many q_clocks q_rates q_least misfits shown) := by
  obtain ⟨R, hF⟩ : ∃ R, R = F_X6_house sifted t_length t_start t_bytes t_rows p_ck := ⟨_, rfl⟩
  rw [← hF]
  refine MC.of (cc := cX6_house) (maxL := 2) (ret := (some .int)) RX6 rfl (by decide +kernel) rfl (Nat.le_of_ble_eq_true rfl) ?_
  intro p e s m args below meth c A Q KX RT hh ls hl
  have z0 : (0 : Int32).toInt = 0 := rfl
  have z1 : (1 : Int32).toInt = 1 := rfl
  have zm : (-1 : Int32).toInt = -1 := rfl
  have hx := KX.1
  have hb := KX.2.1
  have hl : lv_has ls 2 [(0, .ref o)] := hl
  unfold F_X6_house at hF
  refine lv_aload_n hx hb dX6_house_0 rfl (lv_at hl 0 rfl) ?_
  refine g_get KX hh in_X6_house_X6 0 rfl rfl 0 (by decide) rfl (List.mem_of_getElem? (i := 1) rfl) dX6_house_1 ?_
  refine lv_aload_n hx hb dX6_house_4 rfl (lv_at hl 0 rfl) ?_
  refine g_get KX hh in_X6_house_X6 0 rfl rfl 1 (by decide) rfl (List.mem_of_getElem? (i := 2) rfl) dX6_house_5 ?_
  refine g_callV (As := []) (rest := [.ref t_o]) KX rfl ⟨Nat.le_of_ble_eq_true rfl, Nat.le_of_ble_eq_true rfl⟩ hh hl (c_X1_toldBits l D cI cZ cC cH p_o p_a_clocks p_n_o p_n_a_clocks p_n_a_minutes p_n_a_dials p_c p_filled p_ck p_n_many p_n_clocks p_n_minutes p_n_dials  ) (JN.ro [4, 5, 6, 7, 8, 9, 10, 11, 12, 13, 14, 15, 16, 17] rfl (by decide +kernel)) 0 gX6_house_X1_toldBits rfl (by decide +kernel) ⟨Nat.le_of_ble_eq_true rfl, Nat.le_of_ble_eq_true rfl⟩ 4 1 rfl rfl rfl rfl rfl (Nat.le_of_ble_eq_true rfl) dX6_house_8 (fun H locs hh => ?_)
  refine W.eq (g2 := F0 m 11 ls [.int (F_X1_toldBits p_ck), .ref t_o]) rfl ?_
  have M_11 := (c_X5_findFault l D cI cZ cC cH t_o t_a_bytes t_a_rows t_length t_lineCount t_start t_end t_bytes t_rows (F_X1_toldBits p_ck) (by first | with_reducible assumption | omega | decide | exact tn_lt (n := 8) (by omega) (by omega)))
  generalize q_11 : F_X5_findFault t_length t_start t_bytes t_rows (F_X1_toldBits p_ck) = r14_1 at M_11 hF
  refine g_callV (As := [.int (F_X1_toldBits p_ck)]) (rest := []) KX rfl ⟨Nat.le_of_ble_eq_true rfl, Nat.le_of_ble_eq_true rfl⟩ hh hl M_11 (JN.up (ws1 := (W6 cI cZ cC cH o t_o t_a_bytes t_a_rows p_o p_a_clocks p_n_o p_n_a_clocks p_n_a_minutes p_n_a_dials a_kept a_o a_a_clocks a_n_o a_n_a_clocks a_n_a_minutes a_n_a_dials b_o b_a_clocks b_n_o b_n_a_clocks b_n_a_minutes b_n_a_dials y_o r_o q_o q_a_clocks q_a_rates q_a_least a_misfits a_shown p_c a_c b_c sifted t_length (r14_1.2.1) (r14_1.2.2.1) (r14_1.2.2.2.1) t_bytes (r14_1.2.2.2.2) p_filled p_ck p_n_many p_n_clocks p_n_minutes p_n_dials a_filled a_ck a_n_many a_n_clocks a_n_minutes a_n_dials b_filled b_ck b_n_many b_n_clocks b_n_minutes b_n_dials y_many y_first y_last y_runs r_kind r_set r_dial r_low r_high r_read q_many q_clocks q_rates q_least misfits shown)) [1, 2, 3] rfl rfl rfl rfl rfl) 1 gX6_house_X5_findFault rfl (by decide +kernel) ⟨Nat.le_of_ble_eq_true rfl, Nat.le_of_ble_eq_true rfl⟩ 1 5 rfl rfl rfl rfl rfl (Nat.le_of_ble_eq_true rfl) dX6_house_11 (fun H locs hh => ?_)
  refine W.eq (g2 := F0 m 14 ls [.int r14_1.1]) rfl ?_
  unfold F_X6_house_c11 at hF
  refine lv_iconst (v := (-1)) hx hb dX6_house_14 (by decide) ?_
  refine lv_icmp_eq (tgt := 21) hx hb dX6_house_15 (by decide) (fun c_15 => ?_) (fun c_15 => ?_)
  · replace hF := hF.trans (if_pos c_15)
    have i_15 : r14_1.1.toInt = (-1) := congrArg Int32.toInt c_15
    refine lv_iconst (v := 0) hx hb dX6_house_21 (by decide) ?_
    refine lv_istore_n (lv' := [(1, .int 0), (0, .ref o)]) hx hb dX6_house_22 rfl hl (Nat.le_of_ble_eq_true rfl) rfl (fun ls hl => ?_)
    have L_23 : ∀ (n_23 : Nat) (x1_2 : Int32) (w_p_ck_3 : Nat → Nat → Int32) (_ : (r14_1.2.1.toInt - x1_2.toInt).toNat < n_23) (_ : R = (F_X6_house_23 r14_1) n_23 x1_2 w_p_ck_3) (ls : Array Slot) (H : Heap) (locs : List Loc) (_ : HS D A s.heap (W6 cI cZ cC cH o t_o t_a_bytes t_a_rows p_o p_a_clocks p_n_o p_n_a_clocks p_n_a_minutes p_n_a_dials a_kept a_o a_a_clocks a_n_o a_n_a_clocks a_n_a_minutes a_n_a_dials b_o b_a_clocks b_n_o b_n_a_clocks b_n_a_minutes b_n_a_dials y_o r_o q_o q_a_clocks q_a_rates q_a_least a_misfits a_shown p_c a_c b_c sifted t_length r14_1.2.1 r14_1.2.2.1 r14_1.2.2.2.1 t_bytes r14_1.2.2.2.2 p_filled w_p_ck_3 p_n_many p_n_clocks p_n_minutes p_n_dials a_filled a_ck a_n_many a_n_clocks a_n_minutes a_n_dials b_filled b_ck b_n_many b_n_clocks b_n_minutes b_n_dials y_many y_first y_last y_runs r_kind r_set r_dial r_low r_high r_read q_many q_clocks q_rates q_least misfits shown) H locs) (_ : lv_has ls 2 [(1, .int x1_2), (0, .ref o)]), W p l e { frames := 8, cells := 0, slots := 0, locals := 180 } s m args below meth c H locs 0 0 Q (F0 m 23 ls []) := by
      intro n_23
      induction n_23 with
      | zero => intro x1_2 w_p_ck_3 hm; exact absurd hm (Nat.not_lt_zero _)
      | succ n_23 ih_23 =>
        intro x1_2 w_p_ck_3 hm_23 hF ls H locs hh hl
        rw [F_X6_house_23.eq_2] at hF
        refine lv_iload_n hx hb dX6_house_23 rfl (lv_at hl 0 rfl) ?_
        refine lv_aload_n hx hb dX6_house_24 rfl (lv_at hl 1 rfl) ?_
        refine g_get KX hh in_X6_house_X6 0 rfl rfl 0 (by decide) rfl (List.mem_of_getElem? (i := 1) rfl) dX6_house_25 ?_
        refine g_get KX hh in_X6_house_X5 1 rfl rfl 3 (by decide) rfl (List.mem_of_getElem? (i := 3) rfl) dX6_house_28 ?_
        refine lv_icmp_ge (tgt := 52) hx hb dX6_house_31 (by decide) (fun c_31 => ?_) (fun c_31 => ?_)
        · replace hF := hF.trans (if_pos c_31)
          have i_31 : r14_1.2.1.toInt ≤ x1_2.toInt := ti_le.mp c_31
          refine lv_aload_n hx hb dX6_house_52 rfl (lv_at hl 1 rfl) ?_
          refine lv_iconst (v := 0) hx hb dX6_house_53 (by decide) ?_
          refine g_put KX hh in_X6_house_X6 tyX6 tyX6_ok nmX6 0 rfl rfl 7 (by decide) rfl rfl rfl (Nat.le_of_ble_eq_true rfl) (List.mem_of_getElem? (i := 4) rfl) (w' := (W6 cI cZ cC cH o t_o t_a_bytes t_a_rows p_o p_a_clocks p_n_o p_n_a_clocks p_n_a_minutes p_n_a_dials a_kept a_o a_a_clocks a_n_o a_n_a_clocks a_n_a_minutes a_n_a_dials b_o b_a_clocks b_n_o b_n_a_clocks b_n_a_minutes b_n_a_dials y_o r_o q_o q_a_clocks q_a_rates q_a_least a_misfits a_shown p_c a_c b_c 0 t_length r14_1.2.1 r14_1.2.2.1 r14_1.2.2.2.1 t_bytes r14_1.2.2.2.2 p_filled w_p_ck_3 p_n_many p_n_clocks p_n_minutes p_n_dials a_filled a_ck a_n_many a_n_clocks a_n_minutes a_n_dials b_filled b_ck b_n_many b_n_clocks b_n_minutes b_n_dials y_many y_first y_last y_runs r_kind r_set r_dial r_low r_high r_read q_many q_clocks q_rates q_least misfits shown)) rfl rfl dX6_house_54 (fun H locs hh => ?_)
          refine lv_aload_n hx hb dX6_house_57 rfl (lv_at hl 1 rfl) ?_
          refine g_get KX hh in_X6_house_X6 0 rfl rfl 0 (by decide) rfl (List.mem_of_getElem? (i := 1) rfl) dX6_house_58 ?_
          refine lv_iconst (v := 0) hx hb dX6_house_61 (by decide) ?_
          refine g_put KX hh in_X6_house_X5 tyX5 tyX5_ok nmX5 1 rfl rfl 1 (by decide) rfl rfl rfl (Nat.le_of_ble_eq_true rfl) (List.mem_of_getElem? (i := 5) rfl) (w' := (W6 cI cZ cC cH o t_o t_a_bytes t_a_rows p_o p_a_clocks p_n_o p_n_a_clocks p_n_a_minutes p_n_a_dials a_kept a_o a_a_clocks a_n_o a_n_a_clocks a_n_a_minutes a_n_a_dials b_o b_a_clocks b_n_o b_n_a_clocks b_n_a_minutes b_n_a_dials y_o r_o q_o q_a_clocks q_a_rates q_a_least a_misfits a_shown p_c a_c b_c 0 0 r14_1.2.1 r14_1.2.2.1 r14_1.2.2.2.1 t_bytes r14_1.2.2.2.2 p_filled w_p_ck_3 p_n_many p_n_clocks p_n_minutes p_n_dials a_filled a_ck a_n_many a_n_clocks a_n_minutes a_n_dials b_filled b_ck b_n_many b_n_clocks b_n_minutes b_n_dials y_many y_first y_last y_runs r_kind r_set r_dial r_low r_high r_read q_many q_clocks q_rates q_least misfits shown)) rfl rfl dX6_house_62 (fun H locs hh => ?_)
          refine lv_aload_n hx hb dX6_house_65 rfl (lv_at hl 1 rfl) ?_
          refine g_get KX hh in_X6_house_X6 0 rfl rfl 0 (by decide) rfl (List.mem_of_getElem? (i := 1) rfl) dX6_house_66 ?_
          refine g_get KX hh in_X6_house_X5 1 rfl rfl 3 (by decide) rfl (List.mem_of_getElem? (i := 3) rfl) dX6_house_69 ?_
          exact RT _ _ _ _ _ _ hh (by rw [hF]) (Or.inl ⟨_, rfl, by rw [hF], dX6_house_72, Or.inl rfl⟩)
        · replace hF := hF.trans (if_neg c_31)
          have i_31 : x1_2.toInt < r14_1.2.1.toInt := ti_nle c_31
          refine lv_aload_n hx hb dX6_house_34 rfl (lv_at hl 1 rfl) ?_
          refine g_get KX hh in_X6_house_X6 0 rfl rfl 1 (by decide) rfl (List.mem_of_getElem? (i := 2) rfl) dX6_house_35 ?_
          refine lv_aload_n hx hb dX6_house_38 rfl (lv_at hl 1 rfl) ?_
          refine g_get KX hh in_X6_house_X6 0 rfl rfl 0 (by decide) rfl (List.mem_of_getElem? (i := 1) rfl) dX6_house_39 ?_
          refine lv_iload_n hx hb dX6_house_42 rfl (lv_at hl 0 rfl) ?_
          refine g_callV (As := [.ref t_o, .int x1_2]) (rest := []) KX rfl ⟨Nat.le_of_ble_eq_true rfl, Nat.le_of_ble_eq_true rfl⟩ hh hl (c_X1_heed l D cI cZ cC cH p_o p_a_clocks p_n_o p_n_a_clocks p_n_a_minutes p_n_a_dials t_o t_a_bytes t_a_rows p_c p_filled w_p_ck_3 p_n_many p_n_clocks p_n_minutes p_n_dials t_length r14_1.2.1 r14_1.2.2.1 r14_1.2.2.2.1 t_bytes r14_1.2.2.2.2 x1_2 ) (JN.up (ws1 := (W6 cI cZ cC cH o t_o t_a_bytes t_a_rows p_o p_a_clocks p_n_o p_n_a_clocks p_n_a_minutes p_n_a_dials a_kept a_o a_a_clocks a_n_o a_n_a_clocks a_n_a_minutes a_n_a_dials b_o b_a_clocks b_n_o b_n_a_clocks b_n_a_minutes b_n_a_dials y_o r_o q_o q_a_clocks q_a_rates q_a_least a_misfits a_shown p_c a_c b_c sifted t_length r14_1.2.1 r14_1.2.2.1 r14_1.2.2.2.1 t_bytes r14_1.2.2.2.2 p_filled (F_X1_heed w_p_ck_3 r14_1.2.2.2.2 x1_2) p_n_many p_n_clocks p_n_minutes p_n_dials a_filled a_ck a_n_many a_n_clocks a_n_minutes a_n_dials b_filled b_ck b_n_many b_n_clocks b_n_minutes b_n_dials y_many y_first y_last y_runs r_kind r_set r_dial r_low r_high r_read q_many q_clocks q_rates q_least misfits shown)) [4, 5, 6, 7, 8, 9, 10, 11, 12, 13, 14, 15, 16, 17, 1, 2, 3] rfl (by decide +kernel) rfl rfl rfl) 2 gX6_house_X1_heed rfl (by decide +kernel) ⟨Nat.le_of_ble_eq_true rfl, Nat.le_of_ble_eq_true rfl⟩ 4 1 rfl rfl rfl rfl rfl (Nat.le_of_ble_eq_true rfl) dX6_house_43 (fun H locs hh => ?_)
          refine W.eq (g2 := F0 m 46 ls []) rfl ?_
          generalize q_43 : F_X1_heed w_p_ck_3 r14_1.2.2.2.2 x1_2 = r43_4 at hh hF ⊢
          unfold F_X6_house_c43 at hF
          refine lv_iinc (v := x1_2 + 1) (lv' := [(1, .int (x1_2 + 1)), (0, .ref o)]) hx hb dX6_house_46 hl (k := 0) rfl rfl (Nat.le_of_ble_eq_true rfl) rfl (fun ls hl => ?_)
          refine lv_goto (tgt := 23) hx hb dX6_house_49 (by decide) ?_
          exact ih_23 (x1_2 + 1) r43_4  (by have hlt := Int32.toInt_lt r14_1.2.1; rw [ti_inc] <;> omega) hF _ _ _ hh (lv_sub hl [0, 1] rfl)
    exact L_23 (r14_1.2.1.toInt.toNat + 1) 0 p_ck  (by have e0 : (0 : Int32).toInt = 0 := rfl; omega) hF _ _ _ hh (lv_sub hl [0, 1] rfl)
  · replace hF := hF.trans (if_neg c_15)
    have i_15 : ¬ r14_1.1.toInt = (-1) := ti_ne c_15
    refine lv_bipush (v := (-4)) hx hb dX6_house_18 (by decide) ?_
    exact RT _ _ _ _ _ _ hh (by rw [hF]) (Or.inl ⟨_, rfl, by rw [hF], dX6_house_20, Or.inl rfl⟩)
