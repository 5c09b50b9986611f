def F_X7_take_10 (m_clock : Nat → Int32) (m_row : Nat → Int32) (m_orderMany : Int32) : Nat → Int32 → (Nat → Int32) → (Nat → Int32) × Int32
  | 0, _, _ => default
  | n + 1, x1_1, w_m_best_2 => (if m_orderMany ≤ x1_1 then (w_m_best_2, F_X7_greatest m_clock m_row m_orderMany) else ((F_X7_take_10 m_clock m_row m_orderMany n) (x1_1 + 1) (upd w_m_best_2 x1_1.toNatClampNeg (m_row x1_1.toNatClampNeg))))
def F_X7_take (m_clock : Nat → Int32) (m_row : Nat → Int32) (m_best : Nat → Int32) (m_orderMany : Int32) : (Nat → Int32) × Int32 := (F_X7_take_10 m_clock m_row m_orderMany 7 0 m_best)
theorem in_X7_take_X7 : ∀ x ∈ u_ws RX7 TX7 26, x ∈ wsX7_take := by decide +kernel
set_option maxHeartbeats 2000000 in
set_option maxRecDepth 100000 in
theorem c_X7_take (l : Launch) (D : va_G) (cI cZ cC cH : ClassId) (o a_clock a_note a_text a_read a_fit a_shown a_image a_isKept a_row a_best : Nat) (m_told : Int32) (m_isRead1 : Int32) (m_clock : Nat → Int32) (m_note : Nat → Int32) (m_noted : Int32) (m_bytes : Int32) (m_text : Nat → Int32) (m_position : Int32) (m_tokenAt : Int32) (m_token : Int64) (m_digits : Int32) (m_number : Int32) (m_faultAt : Int32) (m_readMany : Int32) (m_readTold : Int32) (m_read : Nat → Int32) (m_fit : Nat → Int32) (m_shown : Nat → Int32) (m_image : Nat → Int32) (m_isKept : Nat → Int32) (m_row : Nat → Int32) (m_best : Nat → Int32) (m_againAt : Int32) (m_againStep : Int32) (m_orderMany : Int32) (m_orderLeast : Int32)  (hm0 : 0 ≤ m_orderMany.toInt) (hm1 : m_orderMany.toInt ≤ 6) (hrow : RowOk m_row) : MC l D (TY cI cZ cC cH) yX7_take wsX7_take 1 24 [.ref o] (WM cI cZ cC cH o a_clock a_note a_text a_read a_fit a_shown a_image a_isKept a_row a_best m_told m_isRead1 m_clock m_note m_noted m_bytes m_text m_position m_tokenAt m_token m_digits m_number m_faultAt m_readMany m_readTold m_read m_fit m_shown m_image m_isKept m_row m_best m_againAt m_againStep m_orderMany m_orderLeast) (none) (WM cI cZ cC cH o a_clock a_note a_text a_read a_fit a_shown a_image a_isKept a_row a_best m_told m_isRead1 m_clock m_note m_noted m_bytes m_text m_position m_tokenAt m_token m_digits m_number m_faultAt m_readMany m_readTold m_read m_fit m_shown m_image m_isKept m_row (F_X7_take m_clock m_row m_best m_orderMany).1 m_againAt m_againStep m_orderMany (F_X7_take m_clock m_row m_best m_orderMany).2) := by
  obtain ⟨R, hF⟩ : ∃ R, R = F_X7_take m_clock m_row m_best m_orderMany := ⟨_, rfl⟩
  rw [← hF]
  refine MC.of (cc := cX7_take) (maxL := 2) (ret := none) RX7 rfl (by decide +kernel) rfl (Nat.le_of_ble_eq_true rfl) ?_
  intro p e s m args below meth c A Q KX RT hh ls hl
  have z0 : (0 : Int32).toInt = 0 := rfl
  have z1 : (1 : Int32).toInt = 1 := rfl
  have zm : (-1 : Int32).toInt = -1 := rfl
  have hx := KX.1
  have hb := KX.2.1
  have hl : lv_has ls 2 [(0, .ref o)] := hl
  unfold F_X7_take at hF
  refine lv_aload_n hx hb dX7_take_0 rfl (lv_at hl 0 rfl) ?_
  refine lv_aload_n hx hb dX7_take_1 rfl (lv_at hl 0 rfl) ?_
  refine g_callV (As := []) (rest := [.ref o]) KX rfl ⟨Nat.le_of_ble_eq_true rfl, Nat.le_of_ble_eq_true rfl⟩ hh hl (c_X7_greatest l D cI cZ cC cH o a_clock a_note a_text a_read a_fit a_shown a_image a_isKept a_row a_best m_told m_isRead1 m_clock m_note m_noted m_bytes m_text m_position m_tokenAt m_token m_digits m_number m_faultAt m_readMany m_readTold m_read m_fit m_shown m_image m_isKept m_row m_best m_againAt m_againStep m_orderMany m_orderLeast  (by first | with_reducible assumption | omega | decide) (by first | with_reducible assumption | omega | decide) (by first | with_reducible assumption | omega | decide)) JN.all 0 gX7_take_X7_greatest rfl (by decide +kernel) ⟨Nat.le_of_ble_eq_true rfl, Nat.le_of_ble_eq_true rfl⟩ 0 7 rfl rfl rfl rfl rfl (Nat.le_of_ble_eq_true rfl) dX7_take_2 (fun H locs hh => ?_)
  refine W.eq (g2 := F0 m 5 ls [.int (F_X7_greatest m_clock m_row m_orderMany), .ref o]) rfl ?_
  refine g_put KX hh in_X7_take_X7 tyX7 tyX7_ok nmX7 0 rfl rfl 25 (by decide) rfl rfl rfl (Nat.le_of_ble_eq_true rfl) (List.mem_of_getElem? (i := 1) rfl) (w' := (WM cI cZ cC cH o a_clock a_note a_text a_read a_fit a_shown a_image a_isKept a_row a_best m_told m_isRead1 m_clock m_note m_noted m_bytes m_text m_position m_tokenAt m_token m_digits m_number m_faultAt m_readMany m_readTold m_read m_fit m_shown m_image m_isKept m_row m_best m_againAt m_againStep m_orderMany (F_X7_greatest m_clock m_row m_orderMany))) rfl rfl dX7_take_5 (fun H locs hh => ?_)
  refine lv_iconst (v := 0) hx hb dX7_take_8 (by decide) ?_
  refine lv_istore_n (lv' := [(1, .int 0), (0, .ref o)]) hx hb dX7_take_9 rfl hl (Nat.le_of_ble_eq_true rfl) rfl (fun ls hl => ?_)
  have L_10 : ∀ (n_10 : Nat) (x1_1 : Int32) (w_m_best_2 : Nat → Int32) (i0_10 : 0 ≤ x1_1.toInt) (i1_10 : x1_1.toInt ≤ m_orderMany.toInt) (_ : (m_orderMany.toInt - x1_1.toInt).toNat < n_10) (_ : R = (F_X7_take_10 m_clock m_row m_orderMany) n_10 x1_1 w_m_best_2) (ls : Array Slot) (H : Heap) (locs : List Loc) (_ : HS D A s.heap (WM cI cZ cC cH o a_clock a_note a_text a_read a_fit a_shown a_image a_isKept a_row a_best m_told m_isRead1 m_clock m_note m_noted m_bytes m_text m_position m_tokenAt m_token m_digits m_number m_faultAt m_readMany m_readTold m_read m_fit m_shown m_image m_isKept m_row w_m_best_2 m_againAt m_againStep m_orderMany (F_X7_greatest m_clock m_row m_orderMany)) H locs) (_ : lv_has ls 2 [(1, .int x1_1), (0, .ref o)]), W p l e { frames := 1, cells := 0, slots := 0, locals := 24 } s m args below meth c H locs 0 0 Q (F0 m 10 ls []) := by
    intro n_10
    induction n_10 with
    | zero => intro x1_1 w_m_best_2 i0_10 i1_10 hm; exact absurd hm (Nat.not_lt_zero _)
    | succ n_10 ih_10 =>
      intro x1_1 w_m_best_2 i0_10 i1_10 hm_10 hF ls H locs hh hl
      rw [F_X7_take_10.eq_2] at hF
      refine lv_iload_n hx hb dX7_take_10 rfl (lv_at hl 0 rfl) ?_
      refine lv_aload_n hx hb dX7_take_11 rfl (lv_at hl 1 rfl) ?_
      refine g_get KX hh in_X7_take_X7 0 rfl rfl 24 (by decide) rfl (List.mem_of_getElem? (i := 2) rfl) dX7_take_12 ?_
      refine lv_icmp_ge (tgt := 36) hx hb dX7_take_15 (by decide) (fun c_15 => ?_) (fun c_15 => ?_)
      · replace hF := hF.trans (if_pos c_15)
        have i_15 : m_orderMany.toInt ≤ x1_1.toInt := ti_le.mp c_15
        exact RT _ _ _ _ _ _ hh (by rw [hF]) (Or.inr (Or.inr (Or.inl ⟨rfl, rfl, dX7_take_36, rfl⟩)))
      · replace hF := hF.trans (if_neg c_15)
        have i_15 : x1_1.toInt < m_orderMany.toInt := ti_nle c_15
        refine lv_aload_n hx hb dX7_take_18 rfl (lv_at hl 1 rfl) ?_
        refine g_get KX hh in_X7_take_X7 0 rfl rfl 21 (by decide) rfl (List.mem_of_getElem? (i := 3) rfl) dX7_take_19 ?_
        refine lv_iload_n hx hb dX7_take_22 rfl (lv_at hl 0 rfl) ?_
        refine lv_aload_n hx hb dX7_take_23 rfl (lv_at hl 1 rfl) ?_
        refine g_get KX hh in_X7_take_X7 0 rfl rfl 20 (by decide) rfl (List.mem_of_getElem? (i := 4) rfl) dX7_take_24 ?_
        refine lv_iload_n hx hb dX7_take_27 rfl (lv_at hl 0 rfl) ?_
        refine g_iald KX hh 9 0 rfl rfl (vp_in_iff.mpr (by omega)) dX7_take_28 ?_
        refine g_iast KX hh 10 0 rfl rfl (vp_in_iff.mpr (by omega)) (w' := (WM cI cZ cC cH o a_clock a_note a_text a_read a_fit a_shown a_image a_isKept a_row a_best m_told m_isRead1 m_clock m_note m_noted m_bytes m_text m_position m_tokenAt m_token m_digits m_number m_faultAt m_readMany m_readTold m_read m_fit m_shown m_image m_isKept m_row (upd w_m_best_2 x1_1.toNatClampNeg (m_row x1_1.toNatClampNeg)) m_againAt m_againStep m_orderMany (F_X7_greatest m_clock m_row m_orderMany))) rfl dX7_take_29 (fun H locs hh => ?_)
        refine lv_iinc (v := x1_1 + 1) (lv' := [(1, .int (x1_1 + 1)), (0, .ref o)]) hx hb dX7_take_30 hl (k := 0) rfl rfl (Nat.le_of_ble_eq_true rfl) rfl (fun ls hl => ?_)
        refine lv_goto (tgt := 10) hx hb dX7_take_33 (by decide) ?_
        have e_inc : (x1_1 + 1).toInt = _ := ti_inc (by omega)
        exact ih_10 (x1_1 + 1) (upd w_m_best_2 x1_1.toNatClampNeg (m_row x1_1.toNatClampNeg)) (by first | with_reducible assumption | omega | decide) (by first | with_reducible assumption | omega | decide) (by omega) hF _ _ _ hh (lv_sub hl [0, 1] rfl)
  exact L_10 7 0 m_best (by first | with_reducible assumption | omega | decide) (by first | with_reducible assumption | omega | decide) (by first | omega | decide | (simp; done)) hF _ _ _ hh (lv_sub hl [0, 1] rfl)
def F_X7_count (m_told : Int32) (m_isRead1 : Int32) (m_noted : Int32) (m_bytes : Int32) (x1 : Int32) : Int32 := (if x1 = 0 then m_told else if x1 = 1 then m_isRead1 else if x1 = 2 then m_noted else if x1 = 3 then m_bytes else (-3))
theorem in_X7_count_X7 : ∀ x ∈ u_ws RX7 TX7 26, x ∈ wsX7_count := by decide +kernel
set_option maxHeartbeats 2000000 in
set_option maxRecDepth 100000 in
theorem c_X7_count (l : Launch) (D : va_G) (cI cZ cC cH : ClassId) (o a_clock a_note a_text a_read a_fit a_shown a_image a_isKept a_row a_best : Nat) (m_told : Int32) (m_isRead1 : Int32) (m_clock : Nat → Int32) (m_note : Nat → Int32) (m_noted : Int32) (m_bytes : Int32) (m_text : Nat → Int32) (m_position : Int32) (m_tokenAt : Int32) (m_token : Int64) (m_digits : Int32) (m_number : Int32) (m_faultAt : Int32) (m_readMany : Int32) (m_readTold : Int32) (m_read : Nat → Int32) (m_fit : Nat → Int32) (m_shown : Nat → Int32) (m_image : Nat → Int32) (m_isKept : Nat → Int32) (m_row : Nat → Int32) (m_best : Nat → Int32) (m_againAt : Int32) (m_againStep : Int32) (m_orderMany : Int32) (m_orderLeast : Int32) (x1 : Int32)  : MC l D (TY cI cZ cC cH) yX7_count wsX7_count 0 0 [.ref o, .int x1] (WM cI cZ cC cH o a_clock a_note a_text a_read a_fit a_shown a_image a_isKept a_row a_best m_told m_isRead1 m_clock m_note m_noted m_bytes m_text m_position m_tokenAt m_token m_digits m_number m_faultAt m_readMany m_readTold m_read m_fit m_shown m_image m_isKept m_row m_best m_againAt m_againStep m_orderMany m_orderLeast) (some (.int (F_X7_count m_told m_isRead1 m_noted m_bytes x1))) (WM cI cZ cC cH o a_clock a_note a_text a_read a_fit a_shown a_image a_isKept a_row a_best m_told m_isRead1 m_clock m_note m_noted m_bytes m_text m_position m_tokenAt m_token m_digits m_number m_faultAt m_readMany m_readTold m_read m_fit m_shown m_image m_isKept m_row m_best m_againAt m_againStep m_orderMany m_orderLeast) := by
  obtain ⟨R, hF⟩ : ∃ R, R = F_X7_count m_told m_isRead1 m_noted m_bytes x1 := ⟨_, rfl⟩
  rw [← hF]
  refine MC.of (cc := cX7_count) (maxL := 2) (ret := (some .int)) RX7 rfl (by decide +kernel) rfl (Nat.le_of_ble_eq_true rfl) ?_
  intro p e s m args below meth c A Q KX RT hh ls hl
  have z0 : (0 : Int32).toInt = 0 := rfl
  have z1 : (1 : Int32).toInt = 1 := rfl
  have zm : (-1 : Int32).toInt = -1 := rfl
  have hx := KX.1
  have hb := KX.2.1
  have hl : lv_has ls 2 [(0, .ref o), (1, .int x1)] := hl
  unfold F_X7_count at hF
  refine lv_iload_n hx hb dX7_count_0 rfl (lv_at hl 1 rfl) ?_
  by_cases c_1_0 : x1 = 0
  · replace hF := hF.trans (if_pos c_1_0)
    have i_1_0 : x1.toInt = 0 := congrArg Int32.toInt c_1_0
    refine W.eq (g2 := F0 m 1 ls (.int 0 :: [])) (by rw [c_1_0]) ?_
    refine lv_tableIn (tgt := 32) hx hb dX7_count_1 (by decide) (by decide) rfl (by decide) ?_
    refine lv_aload_n hx hb dX7_count_32 rfl (lv_at hl 0 rfl) ?_
    refine g_get KX hh in_X7_count_X7 0 rfl rfl 0 (by decide) rfl (List.mem_of_getElem? (i := 1) rfl) dX7_count_33 ?_
    exact RT _ _ _ _ _ _ hh (rfl) (Or.inl ⟨_, rfl, by rw [hF], dX7_count_36, Or.inl rfl⟩)
  replace hF := hF.trans (if_neg c_1_0)
  by_cases c_1_1 : x1 = 1
  · replace hF := hF.trans (if_pos c_1_1)
    have i_1_1 : x1.toInt = 1 := congrArg Int32.toInt c_1_1
    refine W.eq (g2 := F0 m 1 ls (.int 1 :: [])) (by rw [c_1_1]) ?_
    refine lv_tableIn (tgt := 37) hx hb dX7_count_1 (by decide) (by decide) rfl (by decide) ?_
    refine lv_aload_n hx hb dX7_count_37 rfl (lv_at hl 0 rfl) ?_
    refine g_get KX hh in_X7_count_X7 0 rfl rfl 1 (by decide) rfl (List.mem_of_getElem? (i := 2) rfl) dX7_count_38 ?_
    exact RT _ _ _ _ _ _ hh (rfl) (Or.inl ⟨_, rfl, by rw [hF], dX7_count_41, Or.inl rfl⟩)
  replace hF := hF.trans (if_neg c_1_1)
  by_cases c_1_2 : x1 = 2
  · replace hF := hF.trans (if_pos c_1_2)
    have i_1_2 : x1.toInt = 2 := congrArg Int32.toInt c_1_2
    refine W.eq (g2 := F0 m 1 ls (.int 2 :: [])) (by rw [c_1_2]) ?_
    refine lv_tableIn (tgt := 42) hx hb dX7_count_1 (by decide) (by decide) rfl (by decide) ?_
    refine lv_aload_n hx hb dX7_count_42 rfl (lv_at hl 0 rfl) ?_
    refine g_get KX hh in_X7_count_X7 0 rfl rfl 4 (by decide) rfl (List.mem_of_getElem? (i := 3) rfl) dX7_count_43 ?_
    exact RT _ _ _ _ _ _ hh (rfl) (Or.inl ⟨_, rfl, by rw [hF], dX7_count_46, Or.inl rfl⟩)
  replace hF := hF.trans (if_neg c_1_2)
  by_cases c_1_3 : x1 = 3
  · replace hF := hF.trans (if_pos c_1_3)
    have i_1_3 : x1.toInt = 3 := congrArg Int32.toInt c_1_3
    refine W.eq (g2 := F0 m 1 ls (.int 3 :: [])) (by rw [c_1_3]) ?_
    refine lv_tableIn (tgt := 47) hx hb dX7_count_1 (by decide) (by decide) rfl (by decide) ?_
    refine lv_aload_n hx hb dX7_count_47 rfl (lv_at hl 0 rfl) ?_
    refine g_get KX hh in_X7_count_X7 0 rfl rfl 5 (by decide) rfl (List.mem_of_getElem? (i := 4) rfl) dX7_count_48 ?_
    exact RT _ _ _ _ _ _ hh (rfl) (Or.inl ⟨_, rfl, by rw [hF], dX7_count_51, Or.inl rfl⟩)
  replace hF := hF.trans (if_neg c_1_3)
  refine lv_tableOut (tgt := 52) hx hb dX7_count_1 (by have h1 := sw_ne (y := 0) (k := 0) c_1_0 rfl; have h2 := sw_ne (y := 1) (k := 1) c_1_1 rfl; have h3 := sw_ne (y := 2) (k := 2) c_1_2 rfl; have h4 := sw_ne (y := 3) (k := 3) c_1_3 rfl; omega) (by decide) ?_
  refine lv_bipush (v := (-3)) hx hb dX7_count_52 (by decide) ?_
  exact RT _ _ _ _ _ _ hh (rfl) (Or.inl ⟨_, rfl, by rw [hF], dX7_count_54, Or.inl rfl⟩)
