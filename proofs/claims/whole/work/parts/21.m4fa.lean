def RowOk (r : Nat → Int32) : Prop := ∀ i, i < 6 → 0 ≤ (r i).toInt ∧ (r i).toInt < 8
theorem RowOk.at {r : Nat → Int32} (h : RowOk r) {x : Int32} (h0 : 0 ≤ x.toInt) (h1 : x.toInt < 6) : 0 ≤ (r x.toNatClampNeg).toInt ∧ (r x.toNatClampNeg).toInt < 8 := h _ (tn_lt h0 h1)
theorem RowOk.up {r : Nat → Int32} (h : RowOk r) {k : Nat} {v : Int32} (h0 : 0 ≤ v.toInt) (h1 : v.toInt < 8) : RowOk (upd r k v) := fun i hi => by
  unfold upd; split
  · exact ⟨h0, h1⟩
  · exact h i hi
def F_X7_greatest_43 (m_clock : Nat → Int32) (m_row : Nat → Int32) (x3_1 : Int32) (x2_2 : Int32) (x1_3 : Int32) (k_6 : Int32 → Int32 → Int32 → Int32) (y0_4 : Int32) : Int32 := (if y0_4 ≤ x2_2 then (k_6 (x3_1 + 1) x2_2 (x1_3 + (m_clock ((6 * (m_row x3_1.toNatClampNeg)) + 3).toNatClampNeg))) else (k_6 (x3_1 + 1) y0_4 (x1_3 + (m_clock ((6 * (m_row x3_1.toNatClampNeg)) + 3).toNatClampNeg))))
def F_X7_greatest_6 (m_clock : Nat → Int32) (m_row : Nat → Int32) (m_orderMany : Int32) : Nat → Int32 → Int32 → Int32 → Int32
  | 0, _, _, _ => default
  | n + 1, x3_1, x2_2, x1_3 => (if m_orderMany ≤ x3_1 then x2_2 else (if 0 ≤ (x1_3 + (m_clock ((6 * (m_row x3_1.toNatClampNeg)) + 3).toNatClampNeg)) then (F_X7_greatest_43 m_clock m_row x3_1 x2_2 x1_3 (F_X7_greatest_6 m_clock m_row m_orderMany n) (x1_3 + (m_clock ((6 * (m_row x3_1.toNatClampNeg)) + 3).toNatClampNeg))) else (F_X7_greatest_43 m_clock m_row x3_1 x2_2 x1_3 (F_X7_greatest_6 m_clock m_row m_orderMany n) (-(x1_3 + (m_clock ((6 * (m_row x3_1.toNatClampNeg)) + 3).toNatClampNeg))))))
def F_X7_greatest (m_clock : Nat → Int32) (m_row : Nat → Int32) (m_orderMany : Int32) : Int32 := (F_X7_greatest_6 m_clock m_row m_orderMany 7 0 0 0)
theorem in_X7_greatest_X7 : ∀ x ∈ u_ws RX7 TX7 26, x ∈ wsX7_greatest := by decide +kernel
set_option maxHeartbeats 2000000 in
set_option maxRecDepth 100000 in
theorem c_X7_greatest (l : Launch) (D : va_G) (cI cZ cC cH : ClassId) (o a_clock a_note a_text a_read a_fit a_shown a_image a_isKept a_row a_best : Nat) (m_told : Int32) (m_isRead1 : Int32) (m_clock : Nat → Int32) (m_note : Nat → Int32) (m_noted : Int32) (m_bytes : Int32) (m_text : Nat → Int32) (m_position : Int32) (m_tokenAt : Int32) (m_token : Int64) (m_digits : Int32) (m_number : Int32) (m_faultAt : Int32) (m_readMany : Int32) (m_readTold : Int32) (m_read : Nat → Int32) (m_fit : Nat → Int32) (m_shown : Nat → Int32) (m_image : Nat → Int32) (m_isKept : Nat → Int32) (m_row : Nat → Int32) (m_best : Nat → Int32) (m_againAt : Int32) (m_againStep : Int32) (m_orderMany : Int32) (m_orderLeast : Int32)  (hm0 : 0 ≤ m_orderMany.toInt) (hm1 : m_orderMany.toInt ≤ 6) (hrow : RowOk m_row) : MC l D (TY cI cZ cC cH) yX7_greatest wsX7_greatest 0 0 [.ref o] (WM cI cZ cC cH o a_clock a_note a_text a_read a_fit a_shown a_image a_isKept a_row a_best m_told m_isRead1 m_clock m_note m_noted m_bytes m_text m_position m_tokenAt m_token m_digits m_number m_faultAt m_readMany m_readTold m_read m_fit m_shown m_image m_isKept m_row m_best m_againAt m_againStep m_orderMany m_orderLeast) (some (.int (F_X7_greatest m_clock m_row m_orderMany))) (WM cI cZ cC cH o a_clock a_note a_text a_read a_fit a_shown a_image a_isKept a_row a_best m_told m_isRead1 m_clock m_note m_noted m_bytes m_text m_position m_tokenAt m_token m_digits m_number m_faultAt m_readMany m_readTold m_read m_fit m_shown m_image m_isKept m_row m_best m_againAt m_againStep m_orderMany m_orderLeast) := by
  obtain ⟨R, hF⟩ : ∃ R, R = F_X7_greatest m_clock m_row m_orderMany := ⟨_, rfl⟩
  rw [← hF]
  refine MC.of (cc := cX7_greatest) (maxL := 5) (ret := (some .int)) RX7 rfl (by decide +kernel) rfl (Nat.le_of_ble_eq_true rfl) ?_
  intro p e s m args below meth c A Q KX RT hh ls hl
  have z0 : (0 : Int32).toInt = 0 := rfl
  have z1 : (1 : Int32).toInt = 1 := rfl
  have zm : (-1 : Int32).toInt = -1 := rfl
  have hx := KX.1
  have hb := KX.2.1
  have hl : lv_has ls 5 [(0, .ref o)] := hl
  unfold F_X7_greatest at hF
  refine lv_iconst (v := 0) hx hb dX7_greatest_0 (by decide) ?_
  refine lv_istore_n (lv' := [(1, .int 0), (0, .ref o)]) hx hb dX7_greatest_1 rfl hl (Nat.le_of_ble_eq_true rfl) rfl (fun ls hl => ?_)
  refine lv_iconst (v := 0) hx hb dX7_greatest_2 (by decide) ?_
  refine lv_istore_n (lv' := [(2, .int 0), (1, .int 0), (0, .ref o)]) hx hb dX7_greatest_3 rfl hl (Nat.le_of_ble_eq_true rfl) rfl (fun ls hl => ?_)
  refine lv_iconst (v := 0) hx hb dX7_greatest_4 (by decide) ?_
  refine lv_istore_n (lv' := [(3, .int 0), (2, .int 0), (1, .int 0), (0, .ref o)]) hx hb dX7_greatest_5 rfl hl (Nat.le_of_ble_eq_true rfl) rfl (fun ls hl => ?_)
  have L_6 : ∀ (n_6 : Nat) (x3_1 : Int32) (x2_2 : Int32) (x1_3 : Int32) (i0_6 : 0 ≤ x3_1.toInt) (i1_6 : x3_1.toInt ≤ m_orderMany.toInt) (_ : (m_orderMany.toInt - x3_1.toInt).toNat < n_6) (_ : R = (F_X7_greatest_6 m_clock m_row m_orderMany) n_6 x3_1 x2_2 x1_3) (ls : Array Slot) (H : Heap) (locs : List Loc) (_ : HS D A s.heap (WM cI cZ cC cH o a_clock a_note a_text a_read a_fit a_shown a_image a_isKept a_row a_best m_told m_isRead1 m_clock m_note m_noted m_bytes m_text m_position m_tokenAt m_token m_digits m_number m_faultAt m_readMany m_readTold m_read m_fit m_shown m_image m_isKept m_row m_best m_againAt m_againStep m_orderMany m_orderLeast) H locs) (_ : lv_has ls 5 [(3, .int x3_1), (2, .int x2_2), (1, .int x1_3), (0, .ref o)]), W p l e { frames := 0, cells := 0, slots := 0, locals := 0 } s m args below meth c H locs 0 0 Q (F0 m 6 ls []) := by
    intro n_6
    induction n_6 with
    | zero => intro x3_1 x2_2 x1_3 i0_6 i1_6 hm; exact absurd hm (Nat.not_lt_zero _)
    | succ n_6 ih_6 =>
      intro x3_1 x2_2 x1_3 i0_6 i1_6 hm_6 hF ls H locs hh hl
      rw [F_X7_greatest_6.eq_2] at hF
      refine lv_iload_n hx hb dX7_greatest_6 rfl (lv_at hl 0 rfl) ?_
      refine lv_aload_n hx hb dX7_greatest_7 rfl (lv_at hl 3 rfl) ?_
      refine g_get KX hh in_X7_greatest_X7 0 rfl rfl 24 (by decide) rfl (List.mem_of_getElem? (i := 1) rfl) dX7_greatest_8 ?_
      refine lv_icmp_ge (tgt := 64) hx hb dX7_greatest_11 (by decide) (fun c_11 => ?_) (fun c_11 => ?_)
      · replace hF := hF.trans (if_pos c_11)
        have i_11 : m_orderMany.toInt ≤ x3_1.toInt := ti_le.mp c_11
        refine lv_iload_n hx hb dX7_greatest_64 rfl (lv_at hl 1 rfl) ?_
        exact RT _ _ _ _ _ _ hh (rfl) (Or.inl ⟨_, rfl, by rw [hF], dX7_greatest_65, Or.inl rfl⟩)
      · replace hF := hF.trans (if_neg c_11)
        have i_11 : x3_1.toInt < m_orderMany.toInt := ti_nle c_11
        refine lv_iload_n hx hb dX7_greatest_14 rfl (lv_at hl 2 rfl) ?_
        refine lv_aload_n hx hb dX7_greatest_15 rfl (lv_at hl 3 rfl) ?_
        refine g_get KX hh in_X7_greatest_X7 0 rfl rfl 2 (by decide) rfl (List.mem_of_getElem? (i := 2) rfl) dX7_greatest_16 ?_
        refine lv_bipush (v := 6) hx hb dX7_greatest_19 (by decide) ?_
        refine lv_aload_n hx hb dX7_greatest_21 rfl (lv_at hl 3 rfl) ?_
        refine g_get KX hh in_X7_greatest_X7 0 rfl rfl 20 (by decide) rfl (List.mem_of_getElem? (i := 3) rfl) dX7_greatest_22 ?_
        refine lv_iload_n hx hb dX7_greatest_25 rfl (lv_at hl 0 rfl) ?_
        refine g_iald KX hh 9 0 rfl rfl (vp_in_iff.mpr (by omega)) dX7_greatest_26 ?_
        refine lv_imul hx hb dX7_greatest_27 ?_
        refine lv_iconst (v := 3) hx hb dX7_greatest_28 (by decide) ?_
        refine lv_iadd hx hb dX7_greatest_29 ?_
        refine g_iald KX hh 1 0 rfl rfl (ix6 3 (hrow.at (x := x3_1) (by omega) (by omega)).1 (hrow.at (x := x3_1) (by omega) (by omega)).2 (by decide)) dX7_greatest_30 ?_
        refine lv_iadd hx hb dX7_greatest_31 ?_
        refine lv_istore_n (lv' := [(1, .int (x1_3 + (m_clock ((6 * (m_row x3_1.toNatClampNeg)) + 3).toNatClampNeg))), (3, .int x3_1), (2, .int x2_2), (0, .ref o)]) hx hb dX7_greatest_32 rfl hl (Nat.le_of_ble_eq_true rfl) rfl (fun ls hl => ?_)
        refine lv_iload_n hx hb dX7_greatest_33 rfl (lv_at hl 0 rfl) ?_
        have K_43 : ∀ (y0_4 : Int32) (_ : R = (F_X7_greatest_43 m_clock m_row x3_1 x2_2 x1_3 ((F_X7_greatest_6 m_clock m_row m_orderMany) n_6)) y0_4) (ls : Array Slot) (H : Heap) (locs : List Loc) (_ : HS D A s.heap (WM cI cZ cC cH o a_clock a_note a_text a_read a_fit a_shown a_image a_isKept a_row a_best m_told m_isRead1 m_clock m_note m_noted m_bytes m_text m_position m_tokenAt m_token m_digits m_number m_faultAt m_readMany m_readTold m_read m_fit m_shown m_image m_isKept m_row m_best m_againAt m_againStep m_orderMany m_orderLeast) H locs) (_ : lv_has ls 5 [(1, .int (x1_3 + (m_clock ((6 * (m_row x3_1.toNatClampNeg)) + 3).toNatClampNeg))), (3, .int x3_1), (2, .int x2_2), (0, .ref o)]), W p l e { frames := 0, cells := 0, slots := 0, locals := 0 } s m args below meth c H locs 0 0 Q (F0 m 43 ls [.int y0_4]) := by
          intro y0_4 hF ls H locs hh hl
          unfold F_X7_greatest_43 at hF
          refine lv_istore (lv' := [(4, .int y0_4), (1, .int (x1_3 + (m_clock ((6 * (m_row x3_1.toNatClampNeg)) + 3).toNatClampNeg))), (3, .int x3_1), (2, .int x2_2), (0, .ref o)]) hx hb dX7_greatest_43 hl (Nat.le_of_ble_eq_true rfl) rfl (fun ls hl => ?_)
          refine lv_iload hx hb dX7_greatest_45 (lv_at hl 0 rfl) ?_
          refine lv_iload_n hx hb dX7_greatest_47 rfl (lv_at hl 3 rfl) ?_
          refine lv_icmp_le (tgt := 56) hx hb dX7_greatest_48 (by decide) (fun c_48 => ?_) (fun c_48 => ?_)
          · replace hF := hF.trans (if_pos c_48)
            have i_48 : y0_4.toInt ≤ x2_2.toInt := ti_le.mp c_48
            refine lv_iload_n hx hb dX7_greatest_56 rfl (lv_at hl 3 rfl) ?_
            refine lv_istore_n (lv' := [(2, .int x2_2), (4, .int y0_4), (1, .int (x1_3 + (m_clock ((6 * (m_row x3_1.toNatClampNeg)) + 3).toNatClampNeg))), (3, .int x3_1), (0, .ref o)]) hx hb dX7_greatest_57 rfl hl (Nat.le_of_ble_eq_true rfl) rfl (fun ls hl => ?_)
            refine lv_iinc (v := x3_1 + 1) (lv' := [(3, .int (x3_1 + 1)), (2, .int x2_2), (4, .int y0_4), (1, .int (x1_3 + (m_clock ((6 * (m_row x3_1.toNatClampNeg)) + 3).toNatClampNeg))), (0, .ref o)]) hx hb dX7_greatest_58 hl (k := 3) rfl rfl (Nat.le_of_ble_eq_true rfl) rfl (fun ls hl => ?_)
            refine lv_goto (tgt := 6) hx hb dX7_greatest_61 (by decide) ?_
            have e_inc : (x3_1 + 1).toInt = _ := ti_inc (by omega)
            exact ih_6 (x3_1 + 1) x2_2 (x1_3 + (m_clock ((6 * (m_row x3_1.toNatClampNeg)) + 3).toNatClampNeg)) (by first | with_reducible assumption | omega | decide) (by first | with_reducible assumption | omega | decide) (by omega) hF _ _ _ hh (lv_sub hl [0, 1, 3, 4] rfl)
          · replace hF := hF.trans (if_neg c_48)
            have i_48 : x2_2.toInt < y0_4.toInt := ti_nle c_48
            refine lv_iload hx hb dX7_greatest_51 (lv_at hl 0 rfl) ?_
            refine lv_goto (tgt := 57) hx hb dX7_greatest_53 (by decide) ?_
            refine lv_istore_n (lv' := [(2, .int y0_4), (4, .int y0_4), (1, .int (x1_3 + (m_clock ((6 * (m_row x3_1.toNatClampNeg)) + 3).toNatClampNeg))), (3, .int x3_1), (0, .ref o)]) hx hb dX7_greatest_57 rfl hl (Nat.le_of_ble_eq_true rfl) rfl (fun ls hl => ?_)
            refine lv_iinc (v := x3_1 + 1) (lv' := [(3, .int (x3_1 + 1)), (2, .int y0_4), (4, .int y0_4), (1, .int (x1_3 + (m_clock ((6 * (m_row x3_1.toNatClampNeg)) + 3).toNatClampNeg))), (0, .ref o)]) hx hb dX7_greatest_58 hl (k := 3) rfl rfl (Nat.le_of_ble_eq_true rfl) rfl (fun ls hl => ?_)
            refine lv_goto (tgt := 6) hx hb dX7_greatest_61 (by decide) ?_
            have e_inc : (x3_1 + 1).toInt = _ := ti_inc (by omega)
            exact ih_6 (x3_1 + 1) y0_4 (x1_3 + (m_clock ((6 * (m_row x3_1.toNatClampNeg)) + 3).toNatClampNeg)) (by first | with_reducible assumption | omega | decide) (by first | with_reducible assumption | omega | decide) (by omega) hF _ _ _ hh (lv_sub hl [0, 1, 3, 4] rfl)
        refine lv_if_ge (tgt := 42) hx hb dX7_greatest_34 (by decide) (fun c_34 => ?_) (fun c_34 => ?_)
        · replace hF := hF.trans (if_pos c_34)
          refine lv_iload_n hx hb dX7_greatest_42 rfl (lv_at hl 0 rfl) ?_
          exact K_43 (x1_3 + (m_clock ((6 * (m_row x3_1.toNatClampNeg)) + 3).toNatClampNeg))  hF _ _ _ hh (lv_sub hl [0, 1, 2, 3] rfl)
        · replace hF := hF.trans (if_neg c_34)
          refine lv_iload_n hx hb dX7_greatest_37 rfl (lv_at hl 0 rfl) ?_
          refine lv_ineg hx hb dX7_greatest_38 ?_
          refine lv_goto (tgt := 43) hx hb dX7_greatest_39 (by decide) ?_
          exact K_43 (-(x1_3 + (m_clock ((6 * (m_row x3_1.toNatClampNeg)) + 3).toNatClampNeg)))  hF _ _ _ hh (lv_sub hl [0, 1, 2, 3] rfl)
  exact L_6 7 0 0 0 (by first | with_reducible assumption | omega | decide) (by first | with_reducible assumption | omega | decide) (by first | omega | decide | (simp; done)) hF _ _ _ hh (lv_sub hl [0, 1, 2, 3] rfl)
