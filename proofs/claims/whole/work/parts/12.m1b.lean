def F_X7_isGoing_81 (m_readTold : Int32) (x1 : Int32) (y0_2 : Int32) (w_m_position_3 : Int32) (w_m_tokenAt_4 : Int32) (w_m_token_5 : Int64) (w_m_digits_6 : Int32) (w_m_number_7 : Int32) (w_m_faultAt_8 : Int32) (w_m_read_9 : Nat → Int32) : Int32 × Int32 × Int32 × Int64 × Int32 × Int32 × Int32 × Int32 × (Nat → Int32) := (if y0_2 = 0 then (y0_2, w_m_position_3, w_m_tokenAt_4, w_m_token_5, w_m_digits_6, w_m_number_7, w_m_faultAt_8, m_readTold, w_m_read_9) else (y0_2, w_m_position_3, w_m_tokenAt_4, w_m_token_5, w_m_digits_6, w_m_number_7, w_m_faultAt_8, m_readTold ||| (1 <<< ((w_m_read_9 (x1 + 1).toNatClampNeg) &&& 31)), w_m_read_9))
def F_X7_isGoing_80 (m_readTold : Int32) (x1 : Int32) (w_m_position_10 : Int32) (w_m_tokenAt_11 : Int32) (w_m_token_12 : Int64) (w_m_digits_13 : Int32) (w_m_number_14 : Int32) (w_m_faultAt_15 : Int32) (w_m_read_16 : Nat → Int32) : Int32 × Int32 × Int32 × Int64 × Int32 × Int32 × Int32 × Int32 × (Nat → Int32) := (F_X7_isGoing_81 m_readTold x1 0 w_m_position_10 w_m_tokenAt_11 w_m_token_12 w_m_digits_13 w_m_number_14 w_m_faultAt_15 w_m_read_16)
def F_X7_isGoing_c70 (m_readTold : Int32) (x1 : Int32) (r70_20 : Int32 × Int32 × Int32 × Int64 × Int32 × Int32 × Int32 × (Nat → Int32)) : Int32 × Int32 × Int32 × Int64 × Int32 × Int32 × Int32 × Int32 × (Nat → Int32) := (if r70_20.1 = 0 then (F_X7_isGoing_80 m_readTold x1 r70_20.2.1 r70_20.2.2.1 r70_20.2.2.2.1 r70_20.2.2.2.2.1 r70_20.2.2.2.2.2.1 r70_20.2.2.2.2.2.2.1 r70_20.2.2.2.2.2.2.2) else (F_X7_isGoing_81 m_readTold x1 1 r70_20.2.1 r70_20.2.2.1 r70_20.2.2.2.1 r70_20.2.2.2.2.1 r70_20.2.2.2.2.2.1 r70_20.2.2.2.2.2.2.1 r70_20.2.2.2.2.2.2.2))
def F_X7_isGoing_c49 (m_bytes : Int32) (m_text : Nat → Int32) (m_readTold : Int32) (x1 : Int32) (r49_19 : Int32 × Int32 × Int32 × Int64 × Int32 × Int32 × Int32 × (Nat → Int32)) : Int32 × Int32 × Int32 × Int64 × Int32 × Int32 × Int32 × Int32 × (Nat → Int32) := (if r49_19.1 = 0 then (F_X7_isGoing_80 m_readTold x1 r49_19.2.1 r49_19.2.2.1 r49_19.2.2.2.1 r49_19.2.2.2.2.1 r49_19.2.2.2.2.2.1 r49_19.2.2.2.2.2.2.1 r49_19.2.2.2.2.2.2.2) else (F_X7_isGoing_c70 m_readTold x1 (F_X7_isNumber m_bytes m_text r49_19.2.1 r49_19.2.2.2.2.2.2.1 r49_19.2.2.2.2.2.2.2 (x1 + 5) (r49_19.2.2.2.2.2.2.2 (x1 + 4).toNatClampNeg) 240)))
def F_X7_isGoing_c35 (m_bytes : Int32) (m_text : Nat → Int32) (m_readTold : Int32) (x1 : Int32) (r35_18 : Int32 × Int32 × Int32 × Int64 × Int32 × Int32 × Int32 × (Nat → Int32)) : Int32 × Int32 × Int32 × Int64 × Int32 × Int32 × Int32 × Int32 × (Nat → Int32) := (if r35_18.1 = 0 then (F_X7_isGoing_80 m_readTold x1 r35_18.2.1 r35_18.2.2.1 r35_18.2.2.2.1 r35_18.2.2.2.2.1 r35_18.2.2.2.2.2.1 r35_18.2.2.2.2.2.2.1 r35_18.2.2.2.2.2.2.2) else (F_X7_isGoing_c49 m_bytes m_text m_readTold x1 (F_X7_isNumber m_bytes m_text r35_18.2.1 r35_18.2.2.2.2.2.2.1 r35_18.2.2.2.2.2.2.2 (x1 + 4) 0 240)))
def F_X7_isGoing_c21 (m_bytes : Int32) (m_text : Nat → Int32) (m_readTold : Int32) (x1 : Int32) (r21_17 : Int32 × Int32 × Int32 × Int64 × Int32 × Int32 × Int32 × (Nat → Int32)) : Int32 × Int32 × Int32 × Int64 × Int32 × Int32 × Int32 × Int32 × (Nat → Int32) := (if r21_17.1 = 0 then (F_X7_isGoing_80 m_readTold x1 r21_17.2.1 r21_17.2.2.1 r21_17.2.2.2.1 r21_17.2.2.2.2.1 r21_17.2.2.2.2.2.1 r21_17.2.2.2.2.2.2.1 r21_17.2.2.2.2.2.2.2) else (F_X7_isGoing_c35 m_bytes m_text m_readTold x1 (F_X7_isNumber m_bytes m_text r21_17.2.1 r21_17.2.2.2.2.2.2.1 r21_17.2.2.2.2.2.2.2 (x1 + 3) 0 719)))
def F_X7_isGoing_c7 (m_bytes : Int32) (m_text : Nat → Int32) (m_readTold : Int32) (x1 : Int32) (r7_1 : Int32 × Int32 × Int32 × Int64 × Int32 × Int32 × Int32 × (Nat → Int32)) : Int32 × Int32 × Int32 × Int64 × Int32 × Int32 × Int32 × Int32 × (Nat → Int32) := (if r7_1.1 = 0 then (F_X7_isGoing_80 m_readTold x1 r7_1.2.1 r7_1.2.2.1 r7_1.2.2.2.1 r7_1.2.2.2.2.1 r7_1.2.2.2.2.2.1 r7_1.2.2.2.2.2.2.1 r7_1.2.2.2.2.2.2.2) else (F_X7_isGoing_c21 m_bytes m_text m_readTold x1 (F_X7_isNumber m_bytes m_text r7_1.2.1 r7_1.2.2.2.2.2.2.1 r7_1.2.2.2.2.2.2.2 (x1 + 2) 0 4319)))
def F_X7_isGoing (m_bytes : Int32) (m_text : Nat → Int32) (m_position : Int32) (m_faultAt : Int32) (m_readTold : Int32) (m_read : Nat → Int32) (x1 : Int32) : Int32 × Int32 × Int32 × Int64 × Int32 × Int32 × Int32 × Int32 × (Nat → Int32) := (F_X7_isGoing_c7 m_bytes m_text m_readTold x1 (F_X7_isNumber m_bytes m_text m_position m_faultAt m_read (x1 + 1) 0 7))
theorem in_X7_isGoing_X7 : ∀ x ∈ u_ws RX7 TX7 26, x ∈ wsX7_isGoing := by decide +kernel
set_option maxHeartbeats 2000000 in
set_option maxRecDepth 100000 in
theorem c_X7_isGoing (l : Launch) (D : va_G) (cI cZ cC cH : ClassId) (o a_clock a_note a_text a_read a_fit a_shown a_image a_isKept a_row a_best : Nat) (m_told : Int32) (m_isRead1 : Int32) (m_clock : Nat → Int32) (m_note : Nat → Int32) (m_noted : Int32) (m_bytes : Int32) (m_text : Nat → Int32) (m_position : Int32) (m_tokenAt : Int32) (m_token : Int64) (m_digits : Int32) (m_number : Int32) (m_faultAt : Int32) (m_readMany : Int32) (m_readTold : Int32) (m_read : Nat → Int32) (m_fit : Nat → Int32) (m_shown : Nat → Int32) (m_image : Nat → Int32) (m_isKept : Nat → Int32) (m_row : Nat → Int32) (m_best : Nat → Int32) (m_againAt : Int32) (m_againStep : Int32) (m_orderMany : Int32) (m_orderLeast : Int32) (x1 : Int32) (hpos : PosOk m_bytes m_position) (hw0 : 0 ≤ x1.toInt) (hw1 : x1.toInt ≤ 42) : MC l D (TY cI cZ cC cH) yX7_isGoing wsX7_isGoing 3 65 [.ref o, .int x1] (WM cI cZ cC cH o a_clock a_note a_text a_read a_fit a_shown a_image a_isKept a_row a_best m_told m_isRead1 m_clock m_note m_noted m_bytes m_text m_position m_tokenAt m_token m_digits m_number m_faultAt m_readMany m_readTold m_read m_fit m_shown m_image m_isKept m_row m_best m_againAt m_againStep m_orderMany m_orderLeast) (some (.int ((F_X7_isGoing m_bytes m_text m_position m_faultAt m_readTold m_read x1).1))) (WM cI cZ cC cH o a_clock a_note a_text a_read a_fit a_shown a_image a_isKept a_row a_best m_told m_isRead1 m_clock m_note m_noted m_bytes m_text (F_X7_isGoing m_bytes m_text m_position m_faultAt m_readTold m_read x1).2.1 (F_X7_isGoing m_bytes m_text m_position m_faultAt m_readTold m_read x1).2.2.1 (F_X7_isGoing m_bytes m_text m_position m_faultAt m_readTold m_read x1).2.2.2.1 (F_X7_isGoing m_bytes m_text m_position m_faultAt m_readTold m_read x1).2.2.2.2.1 (F_X7_isGoing m_bytes m_text m_position m_faultAt m_readTold m_read x1).2.2.2.2.2.1 (F_X7_isGoing m_bytes m_text m_position m_faultAt m_readTold m_read x1).2.2.2.2.2.2.1 m_readMany (F_X7_isGoing m_bytes m_text m_position m_faultAt m_readTold m_read x1).2.2.2.2.2.2.2.1 (F_X7_isGoing m_bytes m_text m_position m_faultAt m_readTold m_read x1).2.2.2.2.2.2.2.2 m_fit m_shown m_image m_isKept m_row m_best m_againAt m_againStep m_orderMany m_orderLeast) := by
  obtain ⟨R, hF⟩ : ∃ R, R = F_X7_isGoing m_bytes m_text m_position m_faultAt m_readTold m_read x1 := ⟨_, rfl⟩
  rw [← hF]
  refine MC.of (cc := cX7_isGoing) (maxL := 3) (ret := (some .boolean)) RX7 rfl (by decide +kernel) rfl (Nat.le_of_ble_eq_true rfl) ?_
  intro p e s m args below meth c A Q KX RT hh ls hl
  have z0 : (0 : Int32).toInt = 0 := rfl
  have z1 : (1 : Int32).toInt = 1 := rfl
  have zm : (-1 : Int32).toInt = -1 := rfl
  have hx := KX.1
  have hb := KX.2.1
  have hl : lv_has ls 3 [(0, .ref o), (1, .int x1)] := hl
  unfold F_X7_isGoing at hF
  have e1 := ti_addc x1 1 1 rfl (by omega) (by omega)
  have e2 := ti_addc x1 2 2 rfl (by omega) (by omega)
  have e3 := ti_addc x1 3 3 rfl (by omega) (by omega)
  have e4 := ti_addc x1 4 4 rfl (by omega) (by omega)
  have e5 := ti_addc x1 5 5 rfl (by omega) (by omega)
  refine lv_aload_n hx hb dX7_isGoing_0 rfl (lv_at hl 0 rfl) ?_
  refine lv_iload_n hx hb dX7_isGoing_1 rfl (lv_at hl 1 rfl) ?_
  refine lv_iconst (v := 1) hx hb dX7_isGoing_2 (by decide) ?_
  refine lv_iadd hx hb dX7_isGoing_3 ?_
  refine lv_iconst (v := 0) hx hb dX7_isGoing_4 (by decide) ?_
  refine lv_bipush (v := 7) hx hb dX7_isGoing_5 (by decide) ?_
  refine g_callV (As := [.int (x1 + 1), .int 0, .int 7]) (rest := []) KX rfl ⟨Nat.le_of_ble_eq_true rfl, Nat.le_of_ble_eq_true rfl⟩ hh hl (c_X7_isNumber l D cI cZ cC cH o a_clock a_note a_text a_read a_fit a_shown a_image a_isKept a_row a_best m_told m_isRead1 m_clock m_note m_noted m_bytes m_text m_position m_tokenAt m_token m_digits m_number m_faultAt m_readMany m_readTold m_read m_fit m_shown m_image m_isKept m_row m_best m_againAt m_againStep m_orderMany m_orderLeast (x1 + 1) 0 7 (by first | with_reducible assumption | omega | decide) (by first | with_reducible assumption | omega | decide) (by first | with_reducible assumption | omega | decide)) JN.all 3 gX7_isGoing_X7_isNumber rfl (by decide +kernel) ⟨Nat.le_of_ble_eq_true rfl, Nat.le_of_ble_eq_true rfl⟩ 0 7 rfl rfl rfl rfl rfl (Nat.le_of_ble_eq_true rfl) dX7_isGoing_7 (fun H locs hh => ?_)
  refine W.eq (g2 := F0 m 10 ls [.int ((F_X7_isNumber m_bytes m_text m_position m_faultAt m_read (x1 + 1) 0 7).1)]) rfl ?_
  generalize q_7 : F_X7_isNumber m_bytes m_text m_position m_faultAt m_read (x1 + 1) 0 7 = r7_1 at hh hF ⊢
  have hz_7 : r7_1.1 = 0 ∨ r7_1.1 = 1 := by rw [← q_7]; exact z_X7_isNumber _ _ _ _ _ _ _ _
  have hpos_7 : PosOk m_bytes r7_1.2.1 := by rw [← q_7]; exact ok_X7_isNumber hpos
  unfold F_X7_isGoing_c7 at hF
  have K_81 : ∀ (y0_2 : Int32) (w_m_position_3 : Int32) (w_m_tokenAt_4 : Int32) (w_m_token_5 : Int64) (w_m_digits_6 : Int32) (w_m_number_7 : Int32) (w_m_faultAt_8 : Int32) (w_m_read_9 : Nat → Int32) (hz_81 : y0_2 = 0 ∨ y0_2 = 1) (_ : R = (F_X7_isGoing_81 m_readTold x1) y0_2 w_m_position_3 w_m_tokenAt_4 w_m_token_5 w_m_digits_6 w_m_number_7 w_m_faultAt_8 w_m_read_9) (ls : Array Slot) (H : Heap) (locs : List Loc) (_ : HS D A s.heap (WM cI cZ cC cH o a_clock a_note a_text a_read a_fit a_shown a_image a_isKept a_row a_best m_told m_isRead1 m_clock m_note m_noted m_bytes m_text w_m_position_3 w_m_tokenAt_4 w_m_token_5 w_m_digits_6 w_m_number_7 w_m_faultAt_8 m_readMany m_readTold w_m_read_9 m_fit m_shown m_image m_isKept m_row m_best m_againAt m_againStep m_orderMany m_orderLeast) H locs) (_ : lv_has ls 3 [(0, .ref o), (1, .int x1)]), W p l e { frames := 3, cells := 0, slots := 0, locals := 65 } s m args below meth c H locs 0 0 Q (F0 m 81 ls [.int y0_2]) := by
    intro y0_2 w_m_position_3 w_m_tokenAt_4 w_m_token_5 w_m_digits_6 w_m_number_7 w_m_faultAt_8 w_m_read_9 hz_81 hF ls H locs hh hl
    unfold F_X7_isGoing_81 at hF
    refine lv_istore_n (lv' := [(2, .int y0_2), (0, .ref o), (1, .int x1)]) hx hb dX7_isGoing_81 rfl hl (Nat.le_of_ble_eq_true rfl) rfl (fun ls hl => ?_)
    refine lv_aload_n hx hb dX7_isGoing_82 rfl (lv_at hl 1 rfl) ?_
    refine lv_iload_n hx hb dX7_isGoing_83 rfl (lv_at hl 0 rfl) ?_
    refine lv_if_eq (tgt := 105) hx hb dX7_isGoing_84 (by decide) (fun c_84 => ?_) (fun c_84 => ?_)
    · replace hF := hF.trans (if_pos c_84)
      have i_84 : y0_2.toInt = 0 := congrArg Int32.toInt c_84
      refine lv_aload_n hx hb dX7_isGoing_105 rfl (lv_at hl 1 rfl) ?_
      refine g_get KX hh in_X7_isGoing_X7 0 rfl rfl 14 (by decide) rfl (List.mem_of_getElem? (i := 2) rfl) dX7_isGoing_106 ?_
      refine g_put KX hh in_X7_isGoing_X7 tyX7 tyX7_ok nmX7 0 rfl rfl 14 (by decide) rfl rfl rfl (Nat.le_of_ble_eq_true rfl) (List.mem_of_getElem? (i := 2) rfl) (w' := (WM cI cZ cC cH o a_clock a_note a_text a_read a_fit a_shown a_image a_isKept a_row a_best m_told m_isRead1 m_clock m_note m_noted m_bytes m_text w_m_position_3 w_m_tokenAt_4 w_m_token_5 w_m_digits_6 w_m_number_7 w_m_faultAt_8 m_readMany m_readTold w_m_read_9 m_fit m_shown m_image m_isKept m_row m_best m_againAt m_againStep m_orderMany m_orderLeast)) rfl rfl dX7_isGoing_109 (fun H locs hh => ?_)
      refine lv_iload_n hx hb dX7_isGoing_112 rfl (lv_at hl 0 rfl) ?_
      exact RT _ _ _ _ _ _ hh (by rw [hF]) (Or.inl ⟨_, rfl, by rw [hF], dX7_isGoing_113, Or.inr (Or.inl ⟨rfl, (by first | with_reducible assumption | omega | decide)⟩)⟩)
    · replace hF := hF.trans (if_neg c_84)
      have i_84 : ¬ y0_2.toInt = 0 := ti_ne c_84
      refine lv_aload_n hx hb dX7_isGoing_87 rfl (lv_at hl 1 rfl) ?_
      refine g_get KX hh in_X7_isGoing_X7 0 rfl rfl 14 (by decide) rfl (List.mem_of_getElem? (i := 2) rfl) dX7_isGoing_88 ?_
      refine lv_iconst (v := 1) hx hb dX7_isGoing_91 (by decide) ?_
      refine lv_aload_n hx hb dX7_isGoing_92 rfl (lv_at hl 1 rfl) ?_
      refine g_get KX hh in_X7_isGoing_X7 0 rfl rfl 15 (by decide) rfl (List.mem_of_getElem? (i := 1) rfl) dX7_isGoing_93 ?_
      refine lv_iload_n hx hb dX7_isGoing_96 rfl (lv_at hl 2 rfl) ?_
      refine lv_iconst (v := 1) hx hb dX7_isGoing_97 (by decide) ?_
      refine lv_iadd hx hb dX7_isGoing_98 ?_
      refine g_iald KX hh 4 0 rfl rfl (vp_in_iff.mpr (by omega)) dX7_isGoing_99 ?_
      refine lv_ishl hx hb dX7_isGoing_100 ?_
      refine lv_ior hx hb dX7_isGoing_101 ?_
      refine lv_goto (tgt := 109) hx hb dX7_isGoing_102 (by decide) ?_
      refine g_put KX hh in_X7_isGoing_X7 tyX7 tyX7_ok nmX7 0 rfl rfl 14 (by decide) rfl rfl rfl (Nat.le_of_ble_eq_true rfl) (List.mem_of_getElem? (i := 2) rfl) (w' := (WM cI cZ cC cH o a_clock a_note a_text a_read a_fit a_shown a_image a_isKept a_row a_best m_told m_isRead1 m_clock m_note m_noted m_bytes m_text w_m_position_3 w_m_tokenAt_4 w_m_token_5 w_m_digits_6 w_m_number_7 w_m_faultAt_8 m_readMany (m_readTold ||| (1 <<< ((w_m_read_9 (x1 + 1).toNatClampNeg) &&& 31))) w_m_read_9 m_fit m_shown m_image m_isKept m_row m_best m_againAt m_againStep m_orderMany m_orderLeast)) rfl rfl dX7_isGoing_109 (fun H locs hh => ?_)
      refine lv_iload_n hx hb dX7_isGoing_112 rfl (lv_at hl 0 rfl) ?_
      exact RT _ _ _ _ _ _ hh (by rw [hF]) (Or.inl ⟨_, rfl, by rw [hF], dX7_isGoing_113, Or.inr (Or.inl ⟨rfl, (by first | with_reducible assumption | omega | decide)⟩)⟩)
  have K_80 : ∀ (w_m_position_10 : Int32) (w_m_tokenAt_11 : Int32) (w_m_token_12 : Int64) (w_m_digits_13 : Int32) (w_m_number_14 : Int32) (w_m_faultAt_15 : Int32) (w_m_read_16 : Nat → Int32) (_ : R = (F_X7_isGoing_80 m_readTold x1) w_m_position_10 w_m_tokenAt_11 w_m_token_12 w_m_digits_13 w_m_number_14 w_m_faultAt_15 w_m_read_16) (ls : Array Slot) (H : Heap) (locs : List Loc) (_ : HS D A s.heap (WM cI cZ cC cH o a_clock a_note a_text a_read a_fit a_shown a_image a_isKept a_row a_best m_told m_isRead1 m_clock m_note m_noted m_bytes m_text w_m_position_10 w_m_tokenAt_11 w_m_token_12 w_m_digits_13 w_m_number_14 w_m_faultAt_15 m_readMany m_readTold w_m_read_16 m_fit m_shown m_image m_isKept m_row m_best m_againAt m_againStep m_orderMany m_orderLeast) H locs) (_ : lv_has ls 3 [(0, .ref o), (1, .int x1)]), W p l e { frames := 3, cells := 0, slots := 0, locals := 65 } s m args below meth c H locs 0 0 Q (F0 m 80 ls []) := by
    intro w_m_position_10 w_m_tokenAt_11 w_m_token_12 w_m_digits_13 w_m_number_14 w_m_faultAt_15 w_m_read_16 hF ls H locs hh hl
    unfold F_X7_isGoing_80 at hF
    refine lv_iconst (v := 0) hx hb dX7_isGoing_80 (by decide) ?_
    exact K_81 0 w_m_position_10 w_m_tokenAt_11 w_m_token_12 w_m_digits_13 w_m_number_14 w_m_faultAt_15 w_m_read_16 (by first | with_reducible assumption | omega | decide) hF _ _ _ hh (lv_sub hl [0, 1] rfl)
  refine lv_if_eq (tgt := 80) hx hb dX7_isGoing_10 (by decide) (fun c_10 => ?_) (fun c_10 => ?_)
  · replace hF := hF.trans (if_pos c_10)
    have i_10 : r7_1.1.toInt = 0 := congrArg Int32.toInt c_10
    exact K_80 r7_1.2.1 r7_1.2.2.1 r7_1.2.2.2.1 r7_1.2.2.2.2.1 r7_1.2.2.2.2.2.1 r7_1.2.2.2.2.2.2.1 r7_1.2.2.2.2.2.2.2  hF _ _ _ hh (lv_sub hl [0, 1] rfl)
  · replace hF := hF.trans (if_neg c_10)
    have i_10 : ¬ r7_1.1.toInt = 0 := ti_ne c_10
    refine lv_aload_n hx hb dX7_isGoing_13 rfl (lv_at hl 0 rfl) ?_
    refine lv_iload_n hx hb dX7_isGoing_14 rfl (lv_at hl 1 rfl) ?_
    refine lv_iconst (v := 2) hx hb dX7_isGoing_15 (by decide) ?_
    refine lv_iadd hx hb dX7_isGoing_16 ?_
    refine lv_iconst (v := 0) hx hb dX7_isGoing_17 (by decide) ?_
    refine lv_sipush (v := 4319) hx hb dX7_isGoing_18 (by decide) ?_
    refine g_callV (As := [.int (x1 + 2), .int 0, .int 4319]) (rest := []) KX rfl ⟨Nat.le_of_ble_eq_true rfl, Nat.le_of_ble_eq_true rfl⟩ hh hl (c_X7_isNumber l D cI cZ cC cH o a_clock a_note a_text a_read a_fit a_shown a_image a_isKept a_row a_best m_told m_isRead1 m_clock m_note m_noted m_bytes m_text r7_1.2.1 r7_1.2.2.1 r7_1.2.2.2.1 r7_1.2.2.2.2.1 r7_1.2.2.2.2.2.1 r7_1.2.2.2.2.2.2.1 m_readMany m_readTold r7_1.2.2.2.2.2.2.2 m_fit m_shown m_image m_isKept m_row m_best m_againAt m_againStep m_orderMany m_orderLeast (x1 + 2) 0 4319 (by first | with_reducible assumption | omega | decide) (by first | with_reducible assumption | omega | decide) (by first | with_reducible assumption | omega | decide)) JN.all 3 gX7_isGoing_X7_isNumber rfl (by decide +kernel) ⟨Nat.le_of_ble_eq_true rfl, Nat.le_of_ble_eq_true rfl⟩ 0 7 rfl rfl rfl rfl rfl (Nat.le_of_ble_eq_true rfl) dX7_isGoing_21 (fun H locs hh => ?_)
    refine W.eq (g2 := F0 m 24 ls [.int ((F_X7_isNumber m_bytes m_text r7_1.2.1 r7_1.2.2.2.2.2.2.1 r7_1.2.2.2.2.2.2.2 (x1 + 2) 0 4319).1)]) rfl ?_
    generalize q_21 : F_X7_isNumber m_bytes m_text r7_1.2.1 r7_1.2.2.2.2.2.2.1 r7_1.2.2.2.2.2.2.2 (x1 + 2) 0 4319 = r21_17 at hh hF ⊢
    have hz_21 : r21_17.1 = 0 ∨ r21_17.1 = 1 := by rw [← q_21]; exact z_X7_isNumber _ _ _ _ _ _ _ _
    have hpos_21 : PosOk m_bytes r21_17.2.1 := by rw [← q_21]; exact ok_X7_isNumber hpos_7
    unfold F_X7_isGoing_c21 at hF
    refine lv_if_eq (tgt := 80) hx hb dX7_isGoing_24 (by decide) (fun c_24 => ?_) (fun c_24 => ?_)
    · replace hF := hF.trans (if_pos c_24)
      have i_24 : r21_17.1.toInt = 0 := congrArg Int32.toInt c_24
      exact K_80 r21_17.2.1 r21_17.2.2.1 r21_17.2.2.2.1 r21_17.2.2.2.2.1 r21_17.2.2.2.2.2.1 r21_17.2.2.2.2.2.2.1 r21_17.2.2.2.2.2.2.2  hF _ _ _ hh (lv_sub hl [0, 1] rfl)
    · replace hF := hF.trans (if_neg c_24)
      have i_24 : ¬ r21_17.1.toInt = 0 := ti_ne c_24
      refine lv_aload_n hx hb dX7_isGoing_27 rfl (lv_at hl 0 rfl) ?_
      refine lv_iload_n hx hb dX7_isGoing_28 rfl (lv_at hl 1 rfl) ?_
      refine lv_iconst (v := 3) hx hb dX7_isGoing_29 (by decide) ?_
      refine lv_iadd hx hb dX7_isGoing_30 ?_
      refine lv_iconst (v := 0) hx hb dX7_isGoing_31 (by decide) ?_
      refine lv_sipush (v := 719) hx hb dX7_isGoing_32 (by decide) ?_
      refine g_callV (As := [.int (x1 + 3), .int 0, .int 719]) (rest := []) KX rfl ⟨Nat.le_of_ble_eq_true rfl, Nat.le_of_ble_eq_true rfl⟩ hh hl (c_X7_isNumber l D cI cZ cC cH o a_clock a_note a_text a_read a_fit a_shown a_image a_isKept a_row a_best m_told m_isRead1 m_clock m_note m_noted m_bytes m_text r21_17.2.1 r21_17.2.2.1 r21_17.2.2.2.1 r21_17.2.2.2.2.1 r21_17.2.2.2.2.2.1 r21_17.2.2.2.2.2.2.1 m_readMany m_readTold r21_17.2.2.2.2.2.2.2 m_fit m_shown m_image m_isKept m_row m_best m_againAt m_againStep m_orderMany m_orderLeast (x1 + 3) 0 719 (by first | with_reducible assumption | omega | decide) (by first | with_reducible assumption | omega | decide) (by first | with_reducible assumption | omega | decide)) JN.all 3 gX7_isGoing_X7_isNumber rfl (by decide +kernel) ⟨Nat.le_of_ble_eq_true rfl, Nat.le_of_ble_eq_true rfl⟩ 0 7 rfl rfl rfl rfl rfl (Nat.le_of_ble_eq_true rfl) dX7_isGoing_35 (fun H locs hh => ?_)
      refine W.eq (g2 := F0 m 38 ls [.int ((F_X7_isNumber m_bytes m_text r21_17.2.1 r21_17.2.2.2.2.2.2.1 r21_17.2.2.2.2.2.2.2 (x1 + 3) 0 719).1)]) rfl ?_
      generalize q_35 : F_X7_isNumber m_bytes m_text r21_17.2.1 r21_17.2.2.2.2.2.2.1 r21_17.2.2.2.2.2.2.2 (x1 + 3) 0 719 = r35_18 at hh hF ⊢
      have hz_35 : r35_18.1 = 0 ∨ r35_18.1 = 1 := by rw [← q_35]; exact z_X7_isNumber _ _ _ _ _ _ _ _
      have hpos_35 : PosOk m_bytes r35_18.2.1 := by rw [← q_35]; exact ok_X7_isNumber hpos_21
      unfold F_X7_isGoing_c35 at hF
      refine lv_if_eq (tgt := 80) hx hb dX7_isGoing_38 (by decide) (fun c_38 => ?_) (fun c_38 => ?_)
      · replace hF := hF.trans (if_pos c_38)
        have i_38 : r35_18.1.toInt = 0 := congrArg Int32.toInt c_38
        exact K_80 r35_18.2.1 r35_18.2.2.1 r35_18.2.2.2.1 r35_18.2.2.2.2.1 r35_18.2.2.2.2.2.1 r35_18.2.2.2.2.2.2.1 r35_18.2.2.2.2.2.2.2  hF _ _ _ hh (lv_sub hl [0, 1] rfl)
      · replace hF := hF.trans (if_neg c_38)
        have i_38 : ¬ r35_18.1.toInt = 0 := ti_ne c_38
        refine lv_aload_n hx hb dX7_isGoing_41 rfl (lv_at hl 0 rfl) ?_
        refine lv_iload_n hx hb dX7_isGoing_42 rfl (lv_at hl 1 rfl) ?_
        refine lv_iconst (v := 4) hx hb dX7_isGoing_43 (by decide) ?_
        refine lv_iadd hx hb dX7_isGoing_44 ?_
        refine lv_iconst (v := 0) hx hb dX7_isGoing_45 (by decide) ?_
        refine lv_sipush (v := 240) hx hb dX7_isGoing_46 (by decide) ?_
        refine g_callV (As := [.int (x1 + 4), .int 0, .int 240]) (rest := []) KX rfl ⟨Nat.le_of_ble_eq_true rfl, Nat.le_of_ble_eq_true rfl⟩ hh hl (c_X7_isNumber l D cI cZ cC cH o a_clock a_note a_text a_read a_fit a_shown a_image a_isKept a_row a_best m_told m_isRead1 m_clock m_note m_noted m_bytes m_text r35_18.2.1 r35_18.2.2.1 r35_18.2.2.2.1 r35_18.2.2.2.2.1 r35_18.2.2.2.2.2.1 r35_18.2.2.2.2.2.2.1 m_readMany m_readTold r35_18.2.2.2.2.2.2.2 m_fit m_shown m_image m_isKept m_row m_best m_againAt m_againStep m_orderMany m_orderLeast (x1 + 4) 0 240 (by first | with_reducible assumption | omega | decide) (by first | with_reducible assumption | omega | decide) (by first | with_reducible assumption | omega | decide)) JN.all 3 gX7_isGoing_X7_isNumber rfl (by decide +kernel) ⟨Nat.le_of_ble_eq_true rfl, Nat.le_of_ble_eq_true rfl⟩ 0 7 rfl rfl rfl rfl rfl (Nat.le_of_ble_eq_true rfl) dX7_isGoing_49 (fun H locs hh => ?_)
        refine W.eq (g2 := F0 m 52 ls [.int ((F_X7_isNumber m_bytes m_text r35_18.2.1 r35_18.2.2.2.2.2.2.1 r35_18.2.2.2.2.2.2.2 (x1 + 4) 0 240).1)]) rfl ?_
        generalize q_49 : F_X7_isNumber m_bytes m_text r35_18.2.1 r35_18.2.2.2.2.2.2.1 r35_18.2.2.2.2.2.2.2 (x1 + 4) 0 240 = r49_19 at hh hF ⊢
        have hz_49 : r49_19.1 = 0 ∨ r49_19.1 = 1 := by rw [← q_49]; exact z_X7_isNumber _ _ _ _ _ _ _ _
        have hpos_49 : PosOk m_bytes r49_19.2.1 := by rw [← q_49]; exact ok_X7_isNumber hpos_35
        unfold F_X7_isGoing_c49 at hF
        refine lv_if_eq (tgt := 80) hx hb dX7_isGoing_52 (by decide) (fun c_52 => ?_) (fun c_52 => ?_)
        · replace hF := hF.trans (if_pos c_52)
          have i_52 : r49_19.1.toInt = 0 := congrArg Int32.toInt c_52
          exact K_80 r49_19.2.1 r49_19.2.2.1 r49_19.2.2.2.1 r49_19.2.2.2.2.1 r49_19.2.2.2.2.2.1 r49_19.2.2.2.2.2.2.1 r49_19.2.2.2.2.2.2.2  hF _ _ _ hh (lv_sub hl [0, 1] rfl)
        · replace hF := hF.trans (if_neg c_52)
          have i_52 : ¬ r49_19.1.toInt = 0 := ti_ne c_52
          refine lv_aload_n hx hb dX7_isGoing_55 rfl (lv_at hl 0 rfl) ?_
          refine lv_iload_n hx hb dX7_isGoing_56 rfl (lv_at hl 1 rfl) ?_
          refine lv_iconst (v := 5) hx hb dX7_isGoing_57 (by decide) ?_
          refine lv_iadd hx hb dX7_isGoing_58 ?_
          refine lv_aload_n hx hb dX7_isGoing_59 rfl (lv_at hl 0 rfl) ?_
          refine g_get KX hh in_X7_isGoing_X7 0 rfl rfl 15 (by decide) rfl (List.mem_of_getElem? (i := 1) rfl) dX7_isGoing_60 ?_
          refine lv_iload_n hx hb dX7_isGoing_63 rfl (lv_at hl 1 rfl) ?_
          refine lv_iconst (v := 4) hx hb dX7_isGoing_64 (by decide) ?_
          refine lv_iadd hx hb dX7_isGoing_65 ?_
          refine g_iald KX hh 4 0 rfl rfl (vp_in_iff.mpr (by omega)) dX7_isGoing_66 ?_
          refine lv_sipush (v := 240) hx hb dX7_isGoing_67 (by decide) ?_
          refine g_callV (As := [.int (x1 + 5), .int (r49_19.2.2.2.2.2.2.2 (x1 + 4).toNatClampNeg), .int 240]) (rest := []) KX rfl ⟨Nat.le_of_ble_eq_true rfl, Nat.le_of_ble_eq_true rfl⟩ hh hl (c_X7_isNumber l D cI cZ cC cH o a_clock a_note a_text a_read a_fit a_shown a_image a_isKept a_row a_best m_told m_isRead1 m_clock m_note m_noted m_bytes m_text r49_19.2.1 r49_19.2.2.1 r49_19.2.2.2.1 r49_19.2.2.2.2.1 r49_19.2.2.2.2.2.1 r49_19.2.2.2.2.2.2.1 m_readMany m_readTold r49_19.2.2.2.2.2.2.2 m_fit m_shown m_image m_isKept m_row m_best m_againAt m_againStep m_orderMany m_orderLeast (x1 + 5) (r49_19.2.2.2.2.2.2.2 (x1 + 4).toNatClampNeg) 240 (by first | with_reducible assumption | omega | decide) (by first | with_reducible assumption | omega | decide) (by first | with_reducible assumption | omega | decide)) JN.all 3 gX7_isGoing_X7_isNumber rfl (by decide +kernel) ⟨Nat.le_of_ble_eq_true rfl, Nat.le_of_ble_eq_true rfl⟩ 0 7 rfl rfl rfl rfl rfl (Nat.le_of_ble_eq_true rfl) dX7_isGoing_70 (fun H locs hh => ?_)
          refine W.eq (g2 := F0 m 73 ls [.int ((F_X7_isNumber m_bytes m_text r49_19.2.1 r49_19.2.2.2.2.2.2.1 r49_19.2.2.2.2.2.2.2 (x1 + 5) (r49_19.2.2.2.2.2.2.2 (x1 + 4).toNatClampNeg) 240).1)]) rfl ?_
          generalize q_70 : F_X7_isNumber m_bytes m_text r49_19.2.1 r49_19.2.2.2.2.2.2.1 r49_19.2.2.2.2.2.2.2 (x1 + 5) (r49_19.2.2.2.2.2.2.2 (x1 + 4).toNatClampNeg) 240 = r70_20 at hh hF ⊢
          have hz_70 : r70_20.1 = 0 ∨ r70_20.1 = 1 := by rw [← q_70]; exact z_X7_isNumber _ _ _ _ _ _ _ _
          have hpos_70 : PosOk m_bytes r70_20.2.1 := by rw [← q_70]; exact ok_X7_isNumber hpos_49
          unfold F_X7_isGoing_c70 at hF
          refine lv_if_eq (tgt := 80) hx hb dX7_isGoing_73 (by decide) (fun c_73 => ?_) (fun c_73 => ?_)
          · replace hF := hF.trans (if_pos c_73)
            have i_73 : r70_20.1.toInt = 0 := congrArg Int32.toInt c_73
            exact K_80 r70_20.2.1 r70_20.2.2.1 r70_20.2.2.2.1 r70_20.2.2.2.2.1 r70_20.2.2.2.2.2.1 r70_20.2.2.2.2.2.2.1 r70_20.2.2.2.2.2.2.2  hF _ _ _ hh (lv_sub hl [0, 1] rfl)
          · replace hF := hF.trans (if_neg c_73)
            have i_73 : ¬ r70_20.1.toInt = 0 := ti_ne c_73
            refine lv_iconst (v := 1) hx hb dX7_isGoing_76 (by decide) ?_
            refine lv_goto (tgt := 81) hx hb dX7_isGoing_77 (by decide) ?_
            exact K_81 1 r70_20.2.1 r70_20.2.2.1 r70_20.2.2.2.1 r70_20.2.2.2.2.1 r70_20.2.2.2.2.2.1 r70_20.2.2.2.2.2.2.1 r70_20.2.2.2.2.2.2.2 (by first | with_reducible assumption | omega | decide) hF _ _ _ hh (lv_sub hl [0, 1] rfl)
theorem zb_F_X7_isGoing_81 {m_readTold : Int32} {x1 : Int32} {y0_2 : Int32} {w_m_position_3 : Int32} {w_m_tokenAt_4 : Int32} {w_m_token_5 : Int64} {w_m_digits_6 : Int32} {w_m_number_7 : Int32} {w_m_faultAt_8 : Int32} {w_m_read_9 : Nat → Int32} (hz0 : y0_2 = 0 ∨ y0_2 = 1) : (F_X7_isGoing_81 m_readTold x1 y0_2 w_m_position_3 w_m_tokenAt_4 w_m_token_5 w_m_digits_6 w_m_number_7 w_m_faultAt_8 w_m_read_9).1 = 0 ∨ (F_X7_isGoing_81 m_readTold x1 y0_2 w_m_position_3 w_m_tokenAt_4 w_m_token_5 w_m_digits_6 w_m_number_7 w_m_faultAt_8 w_m_read_9).1 = 1 := by
  unfold F_X7_isGoing_81
  split
  · exact hz0
  · exact hz0
theorem zb_F_X7_isGoing_80 {m_readTold : Int32} {x1 : Int32} {w_m_position_10 : Int32} {w_m_tokenAt_11 : Int32} {w_m_token_12 : Int64} {w_m_digits_13 : Int32} {w_m_number_14 : Int32} {w_m_faultAt_15 : Int32} {w_m_read_16 : Nat → Int32} : (F_X7_isGoing_80 m_readTold x1 w_m_position_10 w_m_tokenAt_11 w_m_token_12 w_m_digits_13 w_m_number_14 w_m_faultAt_15 w_m_read_16).1 = 0 ∨ (F_X7_isGoing_80 m_readTold x1 w_m_position_10 w_m_tokenAt_11 w_m_token_12 w_m_digits_13 w_m_number_14 w_m_faultAt_15 w_m_read_16).1 = 1 := by
  unfold F_X7_isGoing_80
  exact zb_F_X7_isGoing_81 (Or.inl rfl)
theorem zb_F_X7_isGoing_c70 {m_readTold : Int32} {x1 : Int32} {r70_20 : Int32 × Int32 × Int32 × Int64 × Int32 × Int32 × Int32 × (Nat → Int32)} (hz0 : r70_20.1 = 0 ∨ r70_20.1 = 1) : (F_X7_isGoing_c70 m_readTold x1 r70_20).1 = 0 ∨ (F_X7_isGoing_c70 m_readTold x1 r70_20).1 = 1 := by
  unfold F_X7_isGoing_c70
  split
  · exact zb_F_X7_isGoing_80 
  · exact zb_F_X7_isGoing_81 (Or.inr rfl)
theorem zb_F_X7_isGoing_c49 {m_bytes : Int32} {m_text : Nat → Int32} {m_readTold : Int32} {x1 : Int32} {r49_19 : Int32 × Int32 × Int32 × Int64 × Int32 × Int32 × Int32 × (Nat → Int32)} (hz0 : r49_19.1 = 0 ∨ r49_19.1 = 1) : (F_X7_isGoing_c49 m_bytes m_text m_readTold x1 r49_19).1 = 0 ∨ (F_X7_isGoing_c49 m_bytes m_text m_readTold x1 r49_19).1 = 1 := by
  unfold F_X7_isGoing_c49
  split
  · exact zb_F_X7_isGoing_80 
  · exact zb_F_X7_isGoing_c70 (z_X7_isNumber _ _ _ _ _ _ _ _)
theorem zb_F_X7_isGoing_c35 {m_bytes : Int32} {m_text : Nat → Int32} {m_readTold : Int32} {x1 : Int32} {r35_18 : Int32 × Int32 × Int32 × Int64 × Int32 × Int32 × Int32 × (Nat → Int32)} (hz0 : r35_18.1 = 0 ∨ r35_18.1 = 1) : (F_X7_isGoing_c35 m_bytes m_text m_readTold x1 r35_18).1 = 0 ∨ (F_X7_isGoing_c35 m_bytes m_text m_readTold x1 r35_18).1 = 1 := by
  unfold F_X7_isGoing_c35
  split
  · exact zb_F_X7_isGoing_80 
  · exact zb_F_X7_isGoing_c49 (z_X7_isNumber _ _ _ _ _ _ _ _)
theorem zb_F_X7_isGoing_c21 {m_bytes : Int32} {m_text : Nat → Int32} {m_readTold : Int32} {x1 : Int32} {r21_17 : Int32 × Int32 × Int32 × Int64 × Int32 × Int32 × Int32 × (Nat → Int32)} (hz0 : r21_17.1 = 0 ∨ r21_17.1 = 1) : (F_X7_isGoing_c21 m_bytes m_text m_readTold x1 r21_17).1 = 0 ∨ (F_X7_isGoing_c21 m_bytes m_text m_readTold x1 r21_17).1 = 1 := by
  unfold F_X7_isGoing_c21
  split
  · exact zb_F_X7_isGoing_80 
  · exact zb_F_X7_isGoing_c35 (z_X7_isNumber _ _ _ _ _ _ _ _)
theorem zb_F_X7_isGoing_c7 {m_bytes : Int32} {m_text : Nat → Int32} {m_readTold : Int32} {x1 : Int32} {r7_1 : Int32 × Int32 × Int32 × Int64 × Int32 × Int32 × Int32 × (Nat → Int32)} (hz0 : r7_1.1 = 0 ∨ r7_1.1 = 1) : (F_X7_isGoing_c7 m_bytes m_text m_readTold x1 r7_1).1 = 0 ∨ (F_X7_isGoing_c7 m_bytes m_text m_readTold x1 r7_1).1 = 1 := by
  unfold F_X7_isGoing_c7
  split
  · exact zb_F_X7_isGoing_80 
  · exact zb_F_X7_isGoing_c21 (z_X7_isNumber _ _ _ _ _ _ _ _)
theorem z_X7_isGoing (m_bytes : Int32) (m_text : Nat → Int32) (m_position : Int32) (m_faultAt : Int32) (m_readTold : Int32) (m_read : Nat → Int32) (x1 : Int32) : (F_X7_isGoing m_bytes m_text m_position m_faultAt m_readTold m_read x1).1 = 0 ∨ (F_X7_isGoing m_bytes m_text m_position m_faultAt m_readTold m_read x1).1 = 1 := by
  unfold F_X7_isGoing
  exact zb_F_X7_isGoing_c7 (z_X7_isNumber _ _ _ _ _ _ _ _)
def F_X7_isStopped_32 (m_readTold : Int32) (x1 : Int32) (y0_2 : Int32) (w_m_position_3 : Int32) (w_m_tokenAt_4 : Int32) (w_m_token_5 : Int64) (w_m_digits_6 : Int32) (w_m_number_7 : Int32) (w_m_faultAt_8 : Int32) (w_m_read_9 : Nat → Int32) : Int32 × Int32 × Int32 × Int64 × Int32 × Int32 × Int32 × Int32 × (Nat → Int32) := (if y0_2 = 0 then (y0_2, w_m_position_3, w_m_tokenAt_4, w_m_token_5, w_m_digits_6, w_m_number_7, w_m_faultAt_8, m_readTold, w_m_read_9) else (y0_2, w_m_position_3, w_m_tokenAt_4, w_m_token_5, w_m_digits_6, w_m_number_7, w_m_faultAt_8, m_readTold ||| (1 <<< ((w_m_read_9 (x1 + 1).toNatClampNeg) &&& 31)), w_m_read_9))
def F_X7_isStopped_31 (m_readTold : Int32) (x1 : Int32) (w_m_position_10 : Int32) (w_m_tokenAt_11 : Int32) (w_m_token_12 : Int64) (w_m_digits_13 : Int32) (w_m_number_14 : Int32) (w_m_faultAt_15 : Int32) (w_m_read_16 : Nat → Int32) : Int32 × Int32 × Int32 × Int64 × Int32 × Int32 × Int32 × Int32 × (Nat → Int32) := (F_X7_isStopped_32 m_readTold x1 0 w_m_position_10 w_m_tokenAt_11 w_m_token_12 w_m_digits_13 w_m_number_14 w_m_faultAt_15 w_m_read_16)
def F_X7_isStopped_c21 (m_readTold : Int32) (x1 : Int32) (r21_17 : Int32 × Int32 × Int32 × Int64 × Int32 × Int32 × Int32 × (Nat → Int32)) : Int32 × Int32 × Int32 × Int64 × Int32 × Int32 × Int32 × Int32 × (Nat → Int32) := (if r21_17.1 = 0 then (F_X7_isStopped_31 m_readTold x1 r21_17.2.1 r21_17.2.2.1 r21_17.2.2.2.1 r21_17.2.2.2.2.1 r21_17.2.2.2.2.2.1 r21_17.2.2.2.2.2.2.1 r21_17.2.2.2.2.2.2.2) else (F_X7_isStopped_32 m_readTold x1 1 r21_17.2.1 r21_17.2.2.1 r21_17.2.2.2.1 r21_17.2.2.2.2.1 r21_17.2.2.2.2.2.1 r21_17.2.2.2.2.2.2.1 r21_17.2.2.2.2.2.2.2))
def F_X7_isStopped_c7 (m_bytes : Int32) (m_text : Nat → Int32) (m_readTold : Int32) (x1 : Int32) (r7_1 : Int32 × Int32 × Int32 × Int64 × Int32 × Int32 × Int32 × (Nat → Int32)) : Int32 × Int32 × Int32 × Int64 × Int32 × Int32 × Int32 × Int32 × (Nat → Int32) := (if r7_1.1 = 0 then (F_X7_isStopped_31 m_readTold x1 r7_1.2.1 r7_1.2.2.1 r7_1.2.2.2.1 r7_1.2.2.2.2.1 r7_1.2.2.2.2.2.1 r7_1.2.2.2.2.2.2.1 r7_1.2.2.2.2.2.2.2) else (F_X7_isStopped_c21 m_readTold x1 (F_X7_isNumber m_bytes m_text r7_1.2.1 r7_1.2.2.2.2.2.2.1 r7_1.2.2.2.2.2.2.2 (x1 + 3) 0 719)))
def F_X7_isStopped (m_bytes : Int32) (m_text : Nat → Int32) (m_position : Int32) (m_faultAt : Int32) (m_readTold : Int32) (m_read : Nat → Int32) (x1 : Int32) : Int32 × Int32 × Int32 × Int64 × Int32 × Int32 × Int32 × Int32 × (Nat → Int32) := (F_X7_isStopped_c7 m_bytes m_text m_readTold x1 (F_X7_isNumber m_bytes m_text m_position m_faultAt m_read (x1 + 1) 0 7))
theorem in_X7_isStopped_X7 : ∀ x ∈ u_ws RX7 TX7 26, x ∈ wsX7_isStopped := by decide +kernel
set_option maxHeartbeats 2000000 in
set_option maxRecDepth 100000 in
theorem c_X7_isStopped (l : Launch) (D : va_G) (cI cZ cC cH : ClassId) (o a_clock a_note a_text a_read a_fit a_shown a_image a_isKept a_row a_best : Nat) (m_told : Int32) (m_isRead1 : Int32) (m_clock : Nat → Int32) (m_note : Nat → Int32) (m_noted : Int32) (m_bytes : Int32) (m_text : Nat → Int32) (m_position : Int32) (m_tokenAt : Int32) (m_token : Int64) (m_digits : Int32) (m_number : Int32) (m_faultAt : Int32) (m_readMany : Int32) (m_readTold : Int32) (m_read : Nat → Int32) (m_fit : Nat → Int32) (m_shown : Nat → Int32) (m_image : Nat → Int32) (m_isKept : Nat → Int32) (m_row : Nat → Int32) (m_best : Nat → Int32) (m_againAt : Int32) (m_againStep : Int32) (m_orderMany : Int32) (m_orderLeast : Int32) (x1 : Int32) (hpos : PosOk m_bytes m_position) (hw0 : 0 ≤ x1.toInt) (hw1 : x1.toInt ≤ 42) : MC l D (TY cI cZ cC cH) yX7_isStopped wsX7_isStopped 3 65 [.ref o, .int x1] (WM cI cZ cC cH o a_clock a_note a_text a_read a_fit a_shown a_image a_isKept a_row a_best m_told m_isRead1 m_clock m_note m_noted m_bytes m_text m_position m_tokenAt m_token m_digits m_number m_faultAt m_readMany m_readTold m_read m_fit m_shown m_image m_isKept m_row m_best m_againAt m_againStep m_orderMany m_orderLeast) (some (.int ((F_X7_isStopped m_bytes m_text m_position m_faultAt m_readTold m_read x1).1))) (WM cI cZ cC cH o a_clock a_note a_text a_read a_fit a_shown a_image a_isKept a_row a_best m_told m_isRead1 m_clock m_note m_noted m_bytes m_text (F_X7_isStopped m_bytes m_text m_position m_faultAt m_readTold m_read x1).2.1 (F_X7_isStopped m_bytes m_text m_position m_faultAt m_readTold m_read x1).2.2.1 (F_X7_isStopped m_bytes m_text m_position m_faultAt m_readTold m_read x1).2.2.2.1 (F_X7_isStopped m_bytes m_text m_position m_faultAt m_readTold m_read x1).2.2.2.2.1 (F_X7_isStopped m_bytes m_text m_position m_faultAt m_readTold m_read x1).2.2.2.2.2.1 (F_X7_isStopped m_bytes m_text m_position m_faultAt m_readTold m_read x1).2.2.2.2.2.2.1 m_readMany (F_X7_isStopped m_bytes m_text m_position m_faultAt m_readTold m_read x1).2.2.2.2.2.2.2.1 (F_X7_isStopped m_bytes m_text m_position m_faultAt m_readTold m_read x1).2.2.2.2.2.2.2.2 m_fit m_shown m_image m_isKept m_row m_best m_againAt m_againStep m_orderMany m_orderLeast) := by
  obtain ⟨R, hF⟩ : ∃ R, R = F_X7_isStopped m_bytes m_text m_position m_faultAt m_readTold m_read x1 := ⟨_, rfl⟩
  rw [← hF]
  refine MC.of (cc := cX7_isStopped) (maxL := 3) (ret := (some .boolean)) RX7 rfl (by decide +kernel) rfl (Nat.le_of_ble_eq_true rfl) ?_
  intro p e s m args below meth c A Q KX RT hh ls hl
  have z0 : (0 : Int32).toInt = 0 := rfl
  have z1 : (1 : Int32).toInt = 1 := rfl
  have zm : (-1 : Int32).toInt = -1 := rfl
  have hx := KX.1
  have hb := KX.2.1
  have hl : lv_has ls 3 [(0, .ref o), (1, .int x1)] := hl
  unfold F_X7_isStopped at hF
  have e1 := ti_addc x1 1 1 rfl (by omega) (by omega)
  have e2 := ti_addc x1 2 2 rfl (by omega) (by omega)
  have e3 := ti_addc x1 3 3 rfl (by omega) (by omega)
  have e4 := ti_addc x1 4 4 rfl (by omega) (by omega)
  have e5 := ti_addc x1 5 5 rfl (by omega) (by omega)
  refine lv_aload_n hx hb dX7_isStopped_0 rfl (lv_at hl 0 rfl) ?_
  refine lv_iload_n hx hb dX7_isStopped_1 rfl (lv_at hl 1 rfl) ?_
  refine lv_iconst (v := 1) hx hb dX7_isStopped_2 (by decide) ?_
  refine lv_iadd hx hb dX7_isStopped_3 ?_
  refine lv_iconst (v := 0) hx hb dX7_isStopped_4 (by decide) ?_
  refine lv_bipush (v := 7) hx hb dX7_isStopped_5 (by decide) ?_
  refine g_callV (As := [.int (x1 + 1), .int 0, .int 7]) (rest := []) KX rfl ⟨Nat.le_of_ble_eq_true rfl, Nat.le_of_ble_eq_true rfl⟩ hh hl (c_X7_isNumber l D cI cZ cC cH o a_clock a_note a_text a_read a_fit a_shown a_image a_isKept a_row a_best m_told m_isRead1 m_clock m_note m_noted m_bytes m_text m_position m_tokenAt m_token m_digits m_number m_faultAt m_readMany m_readTold m_read m_fit m_shown m_image m_isKept m_row m_best m_againAt m_againStep m_orderMany m_orderLeast (x1 + 1) 0 7 (by first | with_reducible assumption | omega | decide) (by first | with_reducible assumption | omega | decide) (by first | with_reducible assumption | omega | decide)) JN.all 3 gX7_isStopped_X7_isNumber rfl (by decide +kernel) ⟨Nat.le_of_ble_eq_true rfl, Nat.le_of_ble_eq_true rfl⟩ 0 7 rfl rfl rfl rfl rfl (Nat.le_of_ble_eq_true rfl) dX7_isStopped_7 (fun H locs hh => ?_)
  refine W.eq (g2 := F0 m 10 ls [.int ((F_X7_isNumber m_bytes m_text m_position m_faultAt m_read (x1 + 1) 0 7).1)]) rfl ?_
  generalize q_7 : F_X7_isNumber m_bytes m_text m_position m_faultAt m_read (x1 + 1) 0 7 = r7_1 at hh hF ⊢
  have hz_7 : r7_1.1 = 0 ∨ r7_1.1 = 1 := by rw [← q_7]; exact z_X7_isNumber _ _ _ _ _ _ _ _
  have hpos_7 : PosOk m_bytes r7_1.2.1 := by rw [← q_7]; exact ok_X7_isNumber hpos
  unfold F_X7_isStopped_c7 at hF
  have K_32 : ∀ (y0_2 : Int32) (w_m_position_3 : Int32) (w_m_tokenAt_4 : Int32) (w_m_token_5 : Int64) (w_m_digits_6 : Int32) (w_m_number_7 : Int32) (w_m_faultAt_8 : Int32) (w_m_read_9 : Nat → Int32) (hz_32 : y0_2 = 0 ∨ y0_2 = 1) (_ : R = (F_X7_isStopped_32 m_readTold x1) y0_2 w_m_position_3 w_m_tokenAt_4 w_m_token_5 w_m_digits_6 w_m_number_7 w_m_faultAt_8 w_m_read_9) (ls : Array Slot) (H : Heap) (locs : List Loc) (_ : HS D A s.heap (WM cI cZ cC cH o a_clock a_note a_text a_read a_fit a_shown a_image a_isKept a_row a_best m_told m_isRead1 m_clock m_note m_noted m_bytes m_text w_m_position_3 w_m_tokenAt_4 w_m_token_5 w_m_digits_6 w_m_number_7 w_m_faultAt_8 m_readMany m_readTold w_m_read_9 m_fit m_shown m_image m_isKept m_row m_best m_againAt m_againStep m_orderMany m_orderLeast) H locs) (_ : lv_has ls 3 [(0, .ref o), (1, .int x1)]), W p l e { frames := 3, cells := 0, slots := 0, locals := 65 } s m args below meth c H locs 0 0 Q (F0 m 32 ls [.int y0_2]) := by
    intro y0_2 w_m_position_3 w_m_tokenAt_4 w_m_token_5 w_m_digits_6 w_m_number_7 w_m_faultAt_8 w_m_read_9 hz_32 hF ls H locs hh hl
    unfold F_X7_isStopped_32 at hF
    refine lv_istore_n (lv' := [(2, .int y0_2), (0, .ref o), (1, .int x1)]) hx hb dX7_isStopped_32 rfl hl (Nat.le_of_ble_eq_true rfl) rfl (fun ls hl => ?_)
    refine lv_aload_n hx hb dX7_isStopped_33 rfl (lv_at hl 1 rfl) ?_
    refine lv_iload_n hx hb dX7_isStopped_34 rfl (lv_at hl 0 rfl) ?_
    refine lv_if_eq (tgt := 56) hx hb dX7_isStopped_35 (by decide) (fun c_35 => ?_) (fun c_35 => ?_)
    · replace hF := hF.trans (if_pos c_35)
      have i_35 : y0_2.toInt = 0 := congrArg Int32.toInt c_35
      refine lv_aload_n hx hb dX7_isStopped_56 rfl (lv_at hl 1 rfl) ?_
      refine g_get KX hh in_X7_isStopped_X7 0 rfl rfl 14 (by decide) rfl (List.mem_of_getElem? (i := 1) rfl) dX7_isStopped_57 ?_
      refine g_put KX hh in_X7_isStopped_X7 tyX7 tyX7_ok nmX7 0 rfl rfl 14 (by decide) rfl rfl rfl (Nat.le_of_ble_eq_true rfl) (List.mem_of_getElem? (i := 1) rfl) (w' := (WM cI cZ cC cH o a_clock a_note a_text a_read a_fit a_shown a_image a_isKept a_row a_best m_told m_isRead1 m_clock m_note m_noted m_bytes m_text w_m_position_3 w_m_tokenAt_4 w_m_token_5 w_m_digits_6 w_m_number_7 w_m_faultAt_8 m_readMany m_readTold w_m_read_9 m_fit m_shown m_image m_isKept m_row m_best m_againAt m_againStep m_orderMany m_orderLeast)) rfl rfl dX7_isStopped_60 (fun H locs hh => ?_)
      refine lv_iload_n hx hb dX7_isStopped_63 rfl (lv_at hl 0 rfl) ?_
      exact RT _ _ _ _ _ _ hh (by rw [hF]) (Or.inl ⟨_, rfl, by rw [hF], dX7_isStopped_64, Or.inr (Or.inl ⟨rfl, (by first | with_reducible assumption | omega | decide)⟩)⟩)
    · replace hF := hF.trans (if_neg c_35)
      have i_35 : ¬ y0_2.toInt = 0 := ti_ne c_35
      refine lv_aload_n hx hb dX7_isStopped_38 rfl (lv_at hl 1 rfl) ?_
      refine g_get KX hh in_X7_isStopped_X7 0 rfl rfl 14 (by decide) rfl (List.mem_of_getElem? (i := 1) rfl) dX7_isStopped_39 ?_
      refine lv_iconst (v := 1) hx hb dX7_isStopped_42 (by decide) ?_
      refine lv_aload_n hx hb dX7_isStopped_43 rfl (lv_at hl 1 rfl) ?_
      refine g_get KX hh in_X7_isStopped_X7 0 rfl rfl 15 (by decide) rfl (List.mem_of_getElem? (i := 2) rfl) dX7_isStopped_44 ?_
      refine lv_iload_n hx hb dX7_isStopped_47 rfl (lv_at hl 2 rfl) ?_
      refine lv_iconst (v := 1) hx hb dX7_isStopped_48 (by decide) ?_
      refine lv_iadd hx hb dX7_isStopped_49 ?_
      refine g_iald KX hh 4 0 rfl rfl (vp_in_iff.mpr (by omega)) dX7_isStopped_50 ?_
      refine lv_ishl hx hb dX7_isStopped_51 ?_
      refine lv_ior hx hb dX7_isStopped_52 ?_
      refine lv_goto (tgt := 60) hx hb dX7_isStopped_53 (by decide) ?_
      refine g_put KX hh in_X7_isStopped_X7 tyX7 tyX7_ok nmX7 0 rfl rfl 14 (by decide) rfl rfl rfl (Nat.le_of_ble_eq_true rfl) (List.mem_of_getElem? (i := 1) rfl) (w' := (WM cI cZ cC cH o a_clock a_note a_text a_read a_fit a_shown a_image a_isKept a_row a_best m_told m_isRead1 m_clock m_note m_noted m_bytes m_text w_m_position_3 w_m_tokenAt_4 w_m_token_5 w_m_digits_6 w_m_number_7 w_m_faultAt_8 m_readMany (m_readTold ||| (1 <<< ((w_m_read_9 (x1 + 1).toNatClampNeg) &&& 31))) w_m_read_9 m_fit m_shown m_image m_isKept m_row m_best m_againAt m_againStep m_orderMany m_orderLeast)) rfl rfl dX7_isStopped_60 (fun H locs hh => ?_)
      refine lv_iload_n hx hb dX7_isStopped_63 rfl (lv_at hl 0 rfl) ?_
      exact RT _ _ _ _ _ _ hh (by rw [hF]) (Or.inl ⟨_, rfl, by rw [hF], dX7_isStopped_64, Or.inr (Or.inl ⟨rfl, (by first | with_reducible assumption | omega | decide)⟩)⟩)
  have K_31 : ∀ (w_m_position_10 : Int32) (w_m_tokenAt_11 : Int32) (w_m_token_12 : Int64) (w_m_digits_13 : Int32) (w_m_number_14 : Int32) (w_m_faultAt_15 : Int32) (w_m_read_16 : Nat → Int32) (_ : R = (F_X7_isStopped_31 m_readTold x1) w_m_position_10 w_m_tokenAt_11 w_m_token_12 w_m_digits_13 w_m_number_14 w_m_faultAt_15 w_m_read_16) (ls : Array Slot) (H : Heap) (locs : List Loc) (_ : HS D A s.heap (WM cI cZ cC cH o a_clock a_note a_text a_read a_fit a_shown a_image a_isKept a_row a_best m_told m_isRead1 m_clock m_note m_noted m_bytes m_text w_m_position_10 w_m_tokenAt_11 w_m_token_12 w_m_digits_13 w_m_number_14 w_m_faultAt_15 m_readMany m_readTold w_m_read_16 m_fit m_shown m_image m_isKept m_row m_best m_againAt m_againStep m_orderMany m_orderLeast) H locs) (_ : lv_has ls 3 [(0, .ref o), (1, .int x1)]), W p l e { frames := 3, cells := 0, slots := 0, locals := 65 } s m args below meth c H locs 0 0 Q (F0 m 31 ls []) := by
    intro w_m_position_10 w_m_tokenAt_11 w_m_token_12 w_m_digits_13 w_m_number_14 w_m_faultAt_15 w_m_read_16 hF ls H locs hh hl
    unfold F_X7_isStopped_31 at hF
    refine lv_iconst (v := 0) hx hb dX7_isStopped_31 (by decide) ?_
    exact K_32 0 w_m_position_10 w_m_tokenAt_11 w_m_token_12 w_m_digits_13 w_m_number_14 w_m_faultAt_15 w_m_read_16 (by first | with_reducible assumption | omega | decide) hF _ _ _ hh (lv_sub hl [0, 1] rfl)
  refine lv_if_eq (tgt := 31) hx hb dX7_isStopped_10 (by decide) (fun c_10 => ?_) (fun c_10 => ?_)
  · replace hF := hF.trans (if_pos c_10)
    have i_10 : r7_1.1.toInt = 0 := congrArg Int32.toInt c_10
    exact K_31 r7_1.2.1 r7_1.2.2.1 r7_1.2.2.2.1 r7_1.2.2.2.2.1 r7_1.2.2.2.2.2.1 r7_1.2.2.2.2.2.2.1 r7_1.2.2.2.2.2.2.2  hF _ _ _ hh (lv_sub hl [0, 1] rfl)
  · replace hF := hF.trans (if_neg c_10)
    have i_10 : ¬ r7_1.1.toInt = 0 := ti_ne c_10
    refine lv_aload_n hx hb dX7_isStopped_13 rfl (lv_at hl 0 rfl) ?_
    refine lv_iload_n hx hb dX7_isStopped_14 rfl (lv_at hl 1 rfl) ?_
    refine lv_iconst (v := 3) hx hb dX7_isStopped_15 (by decide) ?_
    refine lv_iadd hx hb dX7_isStopped_16 ?_
    refine lv_iconst (v := 0) hx hb dX7_isStopped_17 (by decide) ?_
    refine lv_sipush (v := 719) hx hb dX7_isStopped_18 (by decide) ?_
    refine g_callV (As := [.int (x1 + 3), .int 0, .int 719]) (rest := []) KX rfl ⟨Nat.le_of_ble_eq_true rfl, Nat.le_of_ble_eq_true rfl⟩ hh hl (c_X7_isNumber l D cI cZ cC cH o a_clock a_note a_text a_read a_fit a_shown a_image a_isKept a_row a_best m_told m_isRead1 m_clock m_note m_noted m_bytes m_text r7_1.2.1 r7_1.2.2.1 r7_1.2.2.2.1 r7_1.2.2.2.2.1 r7_1.2.2.2.2.2.1 r7_1.2.2.2.2.2.2.1 m_readMany m_readTold r7_1.2.2.2.2.2.2.2 m_fit m_shown m_image m_isKept m_row m_best m_againAt m_againStep m_orderMany m_orderLeast (x1 + 3) 0 719 (by first | with_reducible assumption | omega | decide) (by first | with_reducible assumption | omega | decide) (by first | with_reducible assumption | omega | decide)) JN.all 3 gX7_isStopped_X7_isNumber rfl (by decide +kernel) ⟨Nat.le_of_ble_eq_true rfl, Nat.le_of_ble_eq_true rfl⟩ 0 7 rfl rfl rfl rfl rfl (Nat.le_of_ble_eq_true rfl) dX7_isStopped_21 (fun H locs hh => ?_)
    refine W.eq (g2 := F0 m 24 ls [.int ((F_X7_isNumber m_bytes m_text r7_1.2.1 r7_1.2.2.2.2.2.2.1 r7_1.2.2.2.2.2.2.2 (x1 + 3) 0 719).1)]) rfl ?_
    generalize q_21 : F_X7_isNumber m_bytes m_text r7_1.2.1 r7_1.2.2.2.2.2.2.1 r7_1.2.2.2.2.2.2.2 (x1 + 3) 0 719 = r21_17 at hh hF ⊢
    have hz_21 : r21_17.1 = 0 ∨ r21_17.1 = 1 := by rw [← q_21]; exact z_X7_isNumber _ _ _ _ _ _ _ _
    have hpos_21 : PosOk m_bytes r21_17.2.1 := by rw [← q_21]; exact ok_X7_isNumber hpos_7
    unfold F_X7_isStopped_c21 at hF
    refine lv_if_eq (tgt := 31) hx hb dX7_isStopped_24 (by decide) (fun c_24 => ?_) (fun c_24 => ?_)
    · replace hF := hF.trans (if_pos c_24)
      have i_24 : r21_17.1.toInt = 0 := congrArg Int32.toInt c_24
      exact K_31 r21_17.2.1 r21_17.2.2.1 r21_17.2.2.2.1 r21_17.2.2.2.2.1 r21_17.2.2.2.2.2.1 r21_17.2.2.2.2.2.2.1 r21_17.2.2.2.2.2.2.2  hF _ _ _ hh (lv_sub hl [0, 1] rfl)
    · replace hF := hF.trans (if_neg c_24)
      have i_24 : ¬ r21_17.1.toInt = 0 := ti_ne c_24
      refine lv_iconst (v := 1) hx hb dX7_isStopped_27 (by decide) ?_
      refine lv_goto (tgt := 32) hx hb dX7_isStopped_28 (by decide) ?_
      exact K_32 1 r21_17.2.1 r21_17.2.2.1 r21_17.2.2.2.1 r21_17.2.2.2.2.1 r21_17.2.2.2.2.2.1 r21_17.2.2.2.2.2.2.1 r21_17.2.2.2.2.2.2.2 (by first | with_reducible assumption | omega | decide) hF _ _ _ hh (lv_sub hl [0, 1] rfl)
theorem zb_F_X7_isStopped_32 {m_readTold : Int32} {x1 : Int32} {y0_2 : Int32} {w_m_position_3 : Int32} {w_m_tokenAt_4 : Int32} {w_m_token_5 : Int64} {w_m_digits_6 : Int32} {w_m_number_7 : Int32} {w_m_faultAt_8 : Int32} {w_m_read_9 : Nat → Int32} (hz0 : y0_2 = 0 ∨ y0_2 = 1) : (F_X7_isStopped_32 m_readTold x1 y0_2 w_m_position_3 w_m_tokenAt_4 w_m_token_5 w_m_digits_6 w_m_number_7 w_m_faultAt_8 w_m_read_9).1 = 0 ∨ (F_X7_isStopped_32 m_readTold x1 y0_2 w_m_position_3 w_m_tokenAt_4 w_m_token_5 w_m_digits_6 w_m_number_7 w_m_faultAt_8 w_m_read_9).1 = 1 := by
  unfold F_X7_isStopped_32
  split
  · exact hz0
  · exact hz0
theorem zb_F_X7_isStopped_31 {m_readTold : Int32} {x1 : Int32} {w_m_position_10 : Int32} {w_m_tokenAt_11 : Int32} {w_m_token_12 : Int64} {w_m_digits_13 : Int32} {w_m_number_14 : Int32} {w_m_faultAt_15 : Int32} {w_m_read_16 : Nat → Int32} : (F_X7_isStopped_31 m_readTold x1 w_m_position_10 w_m_tokenAt_11 w_m_token_12 w_m_digits_13 w_m_number_14 w_m_faultAt_15 w_m_read_16).1 = 0 ∨ (F_X7_isStopped_31 m_readTold x1 w_m_position_10 w_m_tokenAt_11 w_m_token_12 w_m_digits_13 w_m_number_14 w_m_faultAt_15 w_m_read_16).1 = 1 := by
  unfold F_X7_isStopped_31
  exact zb_F_X7_isStopped_32 (Or.inl rfl)
theorem zb_F_X7_isStopped_c21 {m_readTold : Int32} {x1 : Int32} {r21_17 : Int32 × Int32 × Int32 × Int64 × Int32 × Int32 × Int32 × (Nat → Int32)} (hz0 : r21_17.1 = 0 ∨ r21_17.1 = 1) : (F_X7_isStopped_c21 m_readTold x1 r21_17).1 = 0 ∨ (F_X7_isStopped_c21 m_readTold x1 r21_17).1 = 1 := by
  unfold F_X7_isStopped_c21
  split
  · exact zb_F_X7_isStopped_31 
  · exact zb_F_X7_isStopped_32 (Or.inr rfl)
theorem zb_F_X7_isStopped_c7 {m_bytes : Int32} {m_text : Nat → Int32} {m_readTold : Int32} {x1 : Int32} {r7_1 : Int32 × Int32 × Int32 × Int64 × Int32 × Int32 × Int32 × (Nat → Int32)} (hz0 : r7_1.1 = 0 ∨ r7_1.1 = 1) : (F_X7_isStopped_c7 m_bytes m_text m_readTold x1 r7_1).1 = 0 ∨ (F_X7_isStopped_c7 m_bytes m_text m_readTold x1 r7_1).1 = 1 := by
  unfold F_X7_isStopped_c7
  split
  · exact zb_F_X7_isStopped_31 
  · exact zb_F_X7_isStopped_c21 (z_X7_isNumber _ _ _ _ _ _ _ _)
theorem z_X7_isStopped (m_bytes : Int32) (m_text : Nat → Int32) (m_position : Int32) (m_faultAt : Int32) (m_readTold : Int32) (m_read : Nat → Int32) (x1 : Int32) : (F_X7_isStopped m_bytes m_text m_position m_faultAt m_readTold m_read x1).1 = 0 ∨ (F_X7_isStopped m_bytes m_text m_position m_faultAt m_readTold m_read x1).1 = 1 := by
  unfold F_X7_isStopped
  exact zb_F_X7_isStopped_c7 (z_X7_isNumber _ _ _ _ _ _ _ _)
def F_X7_isNow_c48 (r7_1 : Int32 × Int32 × Int32 × Int64 × Int32 × Int32 × Int32 × (Nat → Int32)) (r48_2 : Int32 × Int32) : Int32 × Int32 × Int32 × Int64 × Int32 × Int32 × Int32 × (Nat → Int32) := (r48_2.1, r7_1.2.1, r7_1.2.2.1, r7_1.2.2.2.1, r7_1.2.2.2.2.1, r7_1.2.2.2.2.2.1, r48_2.2, r7_1.2.2.2.2.2.2.2)
def F_X7_isNow_c41  (r41_3 : Int32 × Int32 × Int32 × Int64 × Int32 × Int32 × Int32 × (Nat → Int32)) : Int32 × Int32 × Int32 × Int64 × Int32 × Int32 × Int32 × (Nat → Int32) := (r41_3.1, r41_3.2.1, r41_3.2.2.1, r41_3.2.2.2.1, r41_3.2.2.2.2.1, r41_3.2.2.2.2.2.1, r41_3.2.2.2.2.2.2.1, r41_3.2.2.2.2.2.2.2)
def F_X7_isNow_c7 (m_bytes : Int32) (m_text : Nat → Int32) (m_readTold : Int32) (x1 : Int32) (r7_1 : Int32 × Int32 × Int32 × Int64 × Int32 × Int32 × Int32 × (Nat → Int32)) : Int32 × Int32 × Int32 × Int64 × Int32 × Int32 × Int32 × (Nat → Int32) := (if r7_1.1 = 0 then (0, r7_1.2.1, r7_1.2.2.1, r7_1.2.2.2.1, r7_1.2.2.2.2.1, r7_1.2.2.2.2.2.1, r7_1.2.2.2.2.2.2.1, r7_1.2.2.2.2.2.2.2) else (if (F_X7_has m_readTold (r7_1.2.2.2.2.2.2.2 (x1 + 1).toNatClampNeg)) = 0 then (F_X7_isNow_c48 r7_1 (F_X7_fails r7_1.2.2.1)) else (F_X7_isNow_c41 (F_X7_isNumber m_bytes m_text r7_1.2.1 r7_1.2.2.2.2.2.2.1 r7_1.2.2.2.2.2.2.2 (x1 + 2) 0 719))))
def F_X7_isNow (m_bytes : Int32) (m_text : Nat → Int32) (m_position : Int32) (m_faultAt : Int32) (m_readTold : Int32) (m_read : Nat → Int32) (x1 : Int32) : Int32 × Int32 × Int32 × Int64 × Int32 × Int32 × Int32 × (Nat → Int32) := (F_X7_isNow_c7 m_bytes m_text m_readTold x1 (F_X7_isNumber m_bytes m_text m_position m_faultAt m_read (x1 + 1) 0 7))
theorem in_X7_isNow_X7 : ∀ x ∈ u_ws RX7 TX7 26, x ∈ wsX7_isNow := by decide +kernel
set_option maxHeartbeats 2000000 in
set_option maxRecDepth 100000 in
theorem c_X7_isNow (l : Launch) (D : va_G) (cI cZ cC cH : ClassId) (o a_clock a_note a_text a_read a_fit a_shown a_image a_isKept a_row a_best : Nat) (m_told : Int32) (m_isRead1 : Int32) (m_clock : Nat → Int32) (m_note : Nat → Int32) (m_noted : Int32) (m_bytes : Int32) (m_text : Nat → Int32) (m_position : Int32) (m_tokenAt : Int32) (m_token : Int64) (m_digits : Int32) (m_number : Int32) (m_faultAt : Int32) (m_readMany : Int32) (m_readTold : Int32) (m_read : Nat → Int32) (m_fit : Nat → Int32) (m_shown : Nat → Int32) (m_image : Nat → Int32) (m_isKept : Nat → Int32) (m_row : Nat → Int32) (m_best : Nat → Int32) (m_againAt : Int32) (m_againStep : Int32) (m_orderMany : Int32) (m_orderLeast : Int32) (x1 : Int32) (hpos : PosOk m_bytes m_position) (hw0 : 0 ≤ x1.toInt) (hw1 : x1.toInt ≤ 42) : MC l D (TY cI cZ cC cH) yX7_isNow wsX7_isNow 3 65 [.ref o, .int x1] (WM cI cZ cC cH o a_clock a_note a_text a_read a_fit a_shown a_image a_isKept a_row a_best m_told m_isRead1 m_clock m_note m_noted m_bytes m_text m_position m_tokenAt m_token m_digits m_number m_faultAt m_readMany m_readTold m_read m_fit m_shown m_image m_isKept m_row m_best m_againAt m_againStep m_orderMany m_orderLeast) (some (.int ((F_X7_isNow m_bytes m_text m_position m_faultAt m_readTold m_read x1).1))) (WM cI cZ cC cH o a_clock a_note a_text a_read a_fit a_shown a_image a_isKept a_row a_best m_told m_isRead1 m_clock m_note m_noted m_bytes m_text (F_X7_isNow m_bytes m_text m_position m_faultAt m_readTold m_read x1).2.1 (F_X7_isNow m_bytes m_text m_position m_faultAt m_readTold m_read x1).2.2.1 (F_X7_isNow m_bytes m_text m_position m_faultAt m_readTold m_read x1).2.2.2.1 (F_X7_isNow m_bytes m_text m_position m_faultAt m_readTold m_read x1).2.2.2.2.1 (F_X7_isNow m_bytes m_text m_position m_faultAt m_readTold m_read x1).2.2.2.2.2.1 (F_X7_isNow m_bytes m_text m_position m_faultAt m_readTold m_read x1).2.2.2.2.2.2.1 m_readMany m_readTold (F_X7_isNow m_bytes m_text m_position m_faultAt m_readTold m_read x1).2.2.2.2.2.2.2 m_fit m_shown m_image m_isKept m_row m_best m_againAt m_againStep m_orderMany m_orderLeast) := by
  obtain ⟨R, hF⟩ : ∃ R, R = F_X7_isNow m_bytes m_text m_position m_faultAt m_readTold m_read x1 := ⟨_, rfl⟩
  rw [← hF]
  refine MC.of (cc := cX7_isNow) (maxL := 2) (ret := (some .boolean)) RX7 rfl (by decide +kernel) rfl (Nat.le_of_ble_eq_true rfl) ?_
  intro p e s m args below meth c A Q KX RT hh ls hl
  have z0 : (0 : Int32).toInt = 0 := rfl
  have z1 : (1 : Int32).toInt = 1 := rfl
  have zm : (-1 : Int32).toInt = -1 := rfl
  have hx := KX.1
  have hb := KX.2.1
  have hl : lv_has ls 2 [(0, .ref o), (1, .int x1)] := hl
  unfold F_X7_isNow at hF
  have e1 := ti_addc x1 1 1 rfl (by omega) (by omega)
  have e2 := ti_addc x1 2 2 rfl (by omega) (by omega)
  have e3 := ti_addc x1 3 3 rfl (by omega) (by omega)
  have e4 := ti_addc x1 4 4 rfl (by omega) (by omega)
  have e5 := ti_addc x1 5 5 rfl (by omega) (by omega)
  refine lv_aload_n hx hb dX7_isNow_0 rfl (lv_at hl 0 rfl) ?_
  refine lv_iload_n hx hb dX7_isNow_1 rfl (lv_at hl 1 rfl) ?_
  refine lv_iconst (v := 1) hx hb dX7_isNow_2 (by decide) ?_
  refine lv_iadd hx hb dX7_isNow_3 ?_
  refine lv_iconst (v := 0) hx hb dX7_isNow_4 (by decide) ?_
  refine lv_bipush (v := 7) hx hb dX7_isNow_5 (by decide) ?_
  refine g_callV (As := [.int (x1 + 1), .int 0, .int 7]) (rest := []) KX rfl ⟨Nat.le_of_ble_eq_true rfl, Nat.le_of_ble_eq_true rfl⟩ hh hl (c_X7_isNumber l D cI cZ cC cH o a_clock a_note a_text a_read a_fit a_shown a_image a_isKept a_row a_best m_told m_isRead1 m_clock m_note m_noted m_bytes m_text m_position m_tokenAt m_token m_digits m_number m_faultAt m_readMany m_readTold m_read m_fit m_shown m_image m_isKept m_row m_best m_againAt m_againStep m_orderMany m_orderLeast (x1 + 1) 0 7 (by first | with_reducible assumption | omega | decide) (by first | with_reducible assumption | omega | decide) (by first | with_reducible assumption | omega | decide)) JN.all 3 gX7_isNow_X7_isNumber rfl (by decide +kernel) ⟨Nat.le_of_ble_eq_true rfl, Nat.le_of_ble_eq_true rfl⟩ 0 7 rfl rfl rfl rfl rfl (Nat.le_of_ble_eq_true rfl) dX7_isNow_7 (fun H locs hh => ?_)
  refine W.eq (g2 := F0 m 10 ls [.int ((F_X7_isNumber m_bytes m_text m_position m_faultAt m_read (x1 + 1) 0 7).1)]) rfl ?_
  generalize q_7 : F_X7_isNumber m_bytes m_text m_position m_faultAt m_read (x1 + 1) 0 7 = r7_1 at hh hF ⊢
  have hz_7 : r7_1.1 = 0 ∨ r7_1.1 = 1 := by rw [← q_7]; exact z_X7_isNumber _ _ _ _ _ _ _ _
  have hpos_7 : PosOk m_bytes r7_1.2.1 := by rw [← q_7]; exact ok_X7_isNumber hpos
  unfold F_X7_isNow_c7 at hF
  refine lv_if_ne (tgt := 15) hx hb dX7_isNow_10 (by decide) (fun c_10 => ?_) (fun c_10 => ?_)
  · replace hF := hF.trans (if_neg c_10)
    have i_10 : ¬ r7_1.1.toInt = 0 := ti_ne c_10
    refine lv_aload_n hx hb dX7_isNow_15 rfl (lv_at hl 0 rfl) ?_
    refine g_get KX hh in_X7_isNow_X7 0 rfl rfl 14 (by decide) rfl (List.mem_of_getElem? (i := 1) rfl) dX7_isNow_16 ?_
    refine lv_aload_n hx hb dX7_isNow_19 rfl (lv_at hl 0 rfl) ?_
    refine g_get KX hh in_X7_isNow_X7 0 rfl rfl 15 (by decide) rfl (List.mem_of_getElem? (i := 2) rfl) dX7_isNow_20 ?_
    refine lv_iload_n hx hb dX7_isNow_23 rfl (lv_at hl 1 rfl) ?_
    refine lv_iconst (v := 1) hx hb dX7_isNow_24 (by decide) ?_
    refine lv_iadd hx hb dX7_isNow_25 ?_
    refine g_iald KX hh 4 0 rfl rfl (vp_in_iff.mpr (by omega)) dX7_isNow_26 ?_
    refine g_callS (As := [.int m_readTold, .int (r7_1.2.2.2.2.2.2.2 (x1 + 1).toNatClampNeg)]) (rest := []) KX rfl ⟨Nat.le_of_ble_eq_true rfl, Nat.le_of_ble_eq_true rfl⟩ hh hl (c_X7_has l D cI cZ cC cH  m_readTold (r7_1.2.2.2.2.2.2.2 (x1 + 1).toNatClampNeg) ) JN.no 2 gX7_isNow_X7_has rfl (by decide +kernel) ⟨Nat.le_of_ble_eq_true rfl, Nat.le_of_ble_eq_true rfl⟩ rfl rfl (Nat.le_of_ble_eq_true rfl) dX7_isNow_27 (fun H locs hh => ?_)
    refine W.eq (g2 := F0 m 30 ls [.int (F_X7_has m_readTold (r7_1.2.2.2.2.2.2.2 (x1 + 1).toNatClampNeg))]) rfl ?_
    refine lv_if_eq (tgt := 47) hx hb dX7_isNow_30 (by decide) (fun c_30 => ?_) (fun c_30 => ?_)
    · replace hF := hF.trans (if_pos c_30)
      refine lv_aload_n hx hb dX7_isNow_47 rfl (lv_at hl 0 rfl) ?_
      refine g_callV (As := []) (rest := []) KX rfl ⟨Nat.le_of_ble_eq_true rfl, Nat.le_of_ble_eq_true rfl⟩ hh hl (c_X7_fails l D cI cZ cC cH o a_clock a_note a_text a_read a_fit a_shown a_image a_isKept a_row a_best m_told m_isRead1 m_clock m_note m_noted m_bytes m_text r7_1.2.1 r7_1.2.2.1 r7_1.2.2.2.1 r7_1.2.2.2.2.1 r7_1.2.2.2.2.2.1 r7_1.2.2.2.2.2.2.1 m_readMany m_readTold r7_1.2.2.2.2.2.2.2 m_fit m_shown m_image m_isKept m_row m_best m_againAt m_againStep m_orderMany m_orderLeast  ) JN.all 0 gX7_isNow_X7_fails rfl (by decide +kernel) ⟨Nat.le_of_ble_eq_true rfl, Nat.le_of_ble_eq_true rfl⟩ 0 7 rfl rfl rfl rfl rfl (Nat.le_of_ble_eq_true rfl) dX7_isNow_48 (fun H locs hh => ?_)
      refine W.eq (g2 := F0 m 51 ls [.int ((F_X7_fails r7_1.2.2.1).1)]) rfl ?_
      generalize q_48 : F_X7_fails r7_1.2.2.1 = r48_2 at hh hF ⊢
      have hz_48 : r48_2.1 = 0 ∨ r48_2.1 = 1 := by rw [← q_48]; exact z_X7_fails _
      unfold F_X7_isNow_c48 at hF
      exact RT _ _ _ _ _ _ hh (by rw [hF]) (Or.inl ⟨_, rfl, by rw [hF], dX7_isNow_51, Or.inr (Or.inl ⟨rfl, (by first | with_reducible assumption | omega | decide)⟩)⟩)
    · replace hF := hF.trans (if_neg c_30)
      refine lv_aload_n hx hb dX7_isNow_33 rfl (lv_at hl 0 rfl) ?_
      refine lv_iload_n hx hb dX7_isNow_34 rfl (lv_at hl 1 rfl) ?_
      refine lv_iconst (v := 2) hx hb dX7_isNow_35 (by decide) ?_
      refine lv_iadd hx hb dX7_isNow_36 ?_
      refine lv_iconst (v := 0) hx hb dX7_isNow_37 (by decide) ?_
      refine lv_sipush (v := 719) hx hb dX7_isNow_38 (by decide) ?_
      refine g_callV (As := [.int (x1 + 2), .int 0, .int 719]) (rest := []) KX rfl ⟨Nat.le_of_ble_eq_true rfl, Nat.le_of_ble_eq_true rfl⟩ hh hl (c_X7_isNumber l D cI cZ cC cH o a_clock a_note a_text a_read a_fit a_shown a_image a_isKept a_row a_best m_told m_isRead1 m_clock m_note m_noted m_bytes m_text r7_1.2.1 r7_1.2.2.1 r7_1.2.2.2.1 r7_1.2.2.2.2.1 r7_1.2.2.2.2.2.1 r7_1.2.2.2.2.2.2.1 m_readMany m_readTold r7_1.2.2.2.2.2.2.2 m_fit m_shown m_image m_isKept m_row m_best m_againAt m_againStep m_orderMany m_orderLeast (x1 + 2) 0 719 (by first | with_reducible assumption | omega | decide) (by first | with_reducible assumption | omega | decide) (by first | with_reducible assumption | omega | decide)) JN.all 3 gX7_isNow_X7_isNumber rfl (by decide +kernel) ⟨Nat.le_of_ble_eq_true rfl, Nat.le_of_ble_eq_true rfl⟩ 0 7 rfl rfl rfl rfl rfl (Nat.le_of_ble_eq_true rfl) dX7_isNow_41 (fun H locs hh => ?_)
      refine W.eq (g2 := F0 m 44 ls [.int ((F_X7_isNumber m_bytes m_text r7_1.2.1 r7_1.2.2.2.2.2.2.1 r7_1.2.2.2.2.2.2.2 (x1 + 2) 0 719).1)]) rfl ?_
      generalize q_41 : F_X7_isNumber m_bytes m_text r7_1.2.1 r7_1.2.2.2.2.2.2.1 r7_1.2.2.2.2.2.2.2 (x1 + 2) 0 719 = r41_3 at hh hF ⊢
      have hz_41 : r41_3.1 = 0 ∨ r41_3.1 = 1 := by rw [← q_41]; exact z_X7_isNumber _ _ _ _ _ _ _ _
      have hpos_41 : PosOk m_bytes r41_3.2.1 := by rw [← q_41]; exact ok_X7_isNumber hpos_7
      unfold F_X7_isNow_c41 at hF
      refine lv_goto (tgt := 51) hx hb dX7_isNow_44 (by decide) ?_
      exact RT _ _ _ _ _ _ hh (by rw [hF]) (Or.inl ⟨_, rfl, by rw [hF], dX7_isNow_51, Or.inr (Or.inl ⟨rfl, (by first | with_reducible assumption | omega | decide)⟩)⟩)
  · replace hF := hF.trans (if_pos c_10)
    have i_10 : r7_1.1.toInt = 0 := congrArg Int32.toInt c_10
    refine lv_iconst (v := 0) hx hb dX7_isNow_13 (by decide) ?_
    exact RT _ _ _ _ _ _ hh (by rw [hF]) (Or.inl ⟨_, rfl, by rw [hF], dX7_isNow_14, Or.inr (Or.inl ⟨rfl, Or.inl rfl⟩)⟩)
theorem zb_F_X7_isNow_c48 {r7_1 : Int32 × Int32 × Int32 × Int64 × Int32 × Int32 × Int32 × (Nat → Int32)} {r48_2 : Int32 × Int32} (hz0 : r48_2.1 = 0 ∨ r48_2.1 = 1) : (F_X7_isNow_c48 r7_1 r48_2).1 = 0 ∨ (F_X7_isNow_c48 r7_1 r48_2).1 = 1 := by
  unfold F_X7_isNow_c48
  exact hz0
theorem zb_F_X7_isNow_c41  {r41_3 : Int32 × Int32 × Int32 × Int64 × Int32 × Int32 × Int32 × (Nat → Int32)} (hz0 : r41_3.1 = 0 ∨ r41_3.1 = 1) : (F_X7_isNow_c41 r41_3).1 = 0 ∨ (F_X7_isNow_c41 r41_3).1 = 1 := by
  unfold F_X7_isNow_c41
  exact hz0
theorem zb_F_X7_isNow_c7 {m_bytes : Int32} {m_text : Nat → Int32} {m_readTold : Int32} {x1 : Int32} {r7_1 : Int32 × Int32 × Int32 × Int64 × Int32 × Int32 × Int32 × (Nat → Int32)} (hz0 : r7_1.1 = 0 ∨ r7_1.1 = 1) : (F_X7_isNow_c7 m_bytes m_text m_readTold x1 r7_1).1 = 0 ∨ (F_X7_isNow_c7 m_bytes m_text m_readTold x1 r7_1).1 = 1 := by
  unfold F_X7_isNow_c7
  split
  · exact Or.inl rfl
  · split
    · exact zb_F_X7_isNow_c48 (z_X7_fails _)
    · exact zb_F_X7_isNow_c41 (z_X7_isNumber _ _ _ _ _ _ _ _)
theorem z_X7_isNow (m_bytes : Int32) (m_text : Nat → Int32) (m_position : Int32) (m_faultAt : Int32) (m_readTold : Int32) (m_read : Nat → Int32) (x1 : Int32) : (F_X7_isNow m_bytes m_text m_position m_faultAt m_readTold m_read x1).1 = 0 ∨ (F_X7_isNow m_bytes m_text m_position m_faultAt m_readTold m_read x1).1 = 1 := by
  unfold F_X7_isNow
  exact zb_F_X7_isNow_c7 (z_X7_isNumber _ _ _ _ _ _ _ _)
def F_X7_isGone_c7 (m_readTold : Int32) (x1 : Int32) (r7_1 : Int32 × Int32 × Int32 × Int64 × Int32 × Int32 × Int32 × (Nat → Int32)) : Int32 × Int32 × Int32 × Int64 × Int32 × Int32 × Int32 × Int32 × (Nat → Int32) := (if r7_1.1 = 0 then (r7_1.1, r7_1.2.1, r7_1.2.2.1, r7_1.2.2.2.1, r7_1.2.2.2.2.1, r7_1.2.2.2.2.2.1, r7_1.2.2.2.2.2.2.1, m_readTold, r7_1.2.2.2.2.2.2.2) else (r7_1.1, r7_1.2.1, r7_1.2.2.1, r7_1.2.2.2.1, r7_1.2.2.2.2.1, r7_1.2.2.2.2.2.1, r7_1.2.2.2.2.2.2.1, m_readTold &&& ((1 <<< ((r7_1.2.2.2.2.2.2.2 (x1 + 1).toNatClampNeg) &&& 31)) ^^^ (-1)), r7_1.2.2.2.2.2.2.2))
def F_X7_isGone (m_bytes : Int32) (m_text : Nat → Int32) (m_position : Int32) (m_faultAt : Int32) (m_readTold : Int32) (m_read : Nat → Int32) (x1 : Int32) : Int32 × Int32 × Int32 × Int64 × Int32 × Int32 × Int32 × Int32 × (Nat → Int32) := (F_X7_isGone_c7 m_readTold x1 (F_X7_isNumber m_bytes m_text m_position m_faultAt m_read (x1 + 1) 0 7))
theorem in_X7_isGone_X7 : ∀ x ∈ u_ws RX7 TX7 26, x ∈ wsX7_isGone := by decide +kernel
set_option maxHeartbeats 2000000 in
set_option maxRecDepth 100000 in
theorem c_X7_isGone (l : Launch) (D : va_G) (cI cZ cC cH : ClassId) (o a_clock a_note a_text a_read a_fit a_shown a_image a_isKept a_row a_best : Nat) (m_told : Int32) (m_isRead1 : Int32) (m_clock : Nat → Int32) (m_note : Nat → Int32) (m_noted : Int32) (m_bytes : Int32) (m_text : Nat → Int32) (m_position : Int32) (m_tokenAt : Int32) (m_token : Int64) (m_digits : Int32) (m_number : Int32) (m_faultAt : Int32) (m_readMany : Int32) (m_readTold : Int32) (m_read : Nat → Int32) (m_fit : Nat → Int32) (m_shown : Nat → Int32) (m_image : Nat → Int32) (m_isKept : Nat → Int32) (m_row : Nat → Int32) (m_best : Nat → Int32) (m_againAt : Int32) (m_againStep : Int32) (m_orderMany : Int32) (m_orderLeast : Int32) (x1 : Int32) (hpos : PosOk m_bytes m_position) (hw0 : 0 ≤ x1.toInt) (hw1 : x1.toInt ≤ 42) : MC l D (TY cI cZ cC cH) yX7_isGone wsX7_isGone 3 65 [.ref o, .int x1] (WM cI cZ cC cH o a_clock a_note a_text a_read a_fit a_shown a_image a_isKept a_row a_best m_told m_isRead1 m_clock m_note m_noted m_bytes m_text m_position m_tokenAt m_token m_digits m_number m_faultAt m_readMany m_readTold m_read m_fit m_shown m_image m_isKept m_row m_best m_againAt m_againStep m_orderMany m_orderLeast) (some (.int ((F_X7_isGone m_bytes m_text m_position m_faultAt m_readTold m_read x1).1))) (WM cI cZ cC cH o a_clock a_note a_text a_read a_fit a_shown a_image a_isKept a_row a_best m_told m_isRead1 m_clock m_note m_noted m_bytes m_text (F_X7_isGone m_bytes m_text m_position m_faultAt m_readTold m_read x1).2.1 (F_X7_isGone m_bytes m_text m_position m_faultAt m_readTold m_read x1).2.2.1 (F_X7_isGone m_bytes m_text m_position m_faultAt m_readTold m_read x1).2.2.2.1 (F_X7_isGone m_bytes m_text m_position m_faultAt m_readTold m_read x1).2.2.2.2.1 (F_X7_isGone m_bytes m_text m_position m_faultAt m_readTold m_read x1).2.2.2.2.2.1 (F_X7_isGone m_bytes m_text m_position m_faultAt m_readTold m_read x1).2.2.2.2.2.2.1 m_readMany (F_X7_isGone m_bytes m_text m_position m_faultAt m_readTold m_read x1).2.2.2.2.2.2.2.1 (F_X7_isGone m_bytes m_text m_position m_faultAt m_readTold m_read x1).2.2.2.2.2.2.2.2 m_fit m_shown m_image m_isKept m_row m_best m_againAt m_againStep m_orderMany m_orderLeast) := by
  obtain ⟨R, hF⟩ : ∃ R, R = F_X7_isGone m_bytes m_text m_position m_faultAt m_readTold m_read x1 := ⟨_, rfl⟩
  rw [← hF]
  refine MC.of (cc := cX7_isGone) (maxL := 3) (ret := (some .boolean)) RX7 rfl (by decide +kernel) rfl (Nat.le_of_ble_eq_true rfl) ?_
  intro p e s m args below meth c A Q KX RT hh ls hl
  have z0 : (0 : Int32).toInt = 0 := rfl
  have z1 : (1 : Int32).toInt = 1 := rfl
  have zm : (-1 : Int32).toInt = -1 := rfl
  have hx := KX.1
  have hb := KX.2.1
  have hl : lv_has ls 3 [(0, .ref o), (1, .int x1)] := hl
  unfold F_X7_isGone at hF
  have e1 := ti_addc x1 1 1 rfl (by omega) (by omega)
  have e2 := ti_addc x1 2 2 rfl (by omega) (by omega)
  have e3 := ti_addc x1 3 3 rfl (by omega) (by omega)
  have e4 := ti_addc x1 4 4 rfl (by omega) (by omega)
  have e5 := ti_addc x1 5 5 rfl (by omega) (by omega)
  refine lv_aload_n hx hb dX7_isGone_0 rfl (lv_at hl 0 rfl) ?_
  refine lv_iload_n hx hb dX7_isGone_1 rfl (lv_at hl 1 rfl) ?_
  refine lv_iconst (v := 1) hx hb dX7_isGone_2 (by decide) ?_
  refine lv_iadd hx hb dX7_isGone_3 ?_
  refine lv_iconst (v := 0) hx hb dX7_isGone_4 (by decide) ?_
  refine lv_bipush (v := 7) hx hb dX7_isGone_5 (by decide) ?_
  refine g_callV (As := [.int (x1 + 1), .int 0, .int 7]) (rest := []) KX rfl ⟨Nat.le_of_ble_eq_true rfl, Nat.le_of_ble_eq_true rfl⟩ hh hl (c_X7_isNumber l D cI cZ cC cH o a_clock a_note a_text a_read a_fit a_shown a_image a_isKept a_row a_best m_told m_isRead1 m_clock m_note m_noted m_bytes m_text m_position m_tokenAt m_token m_digits m_number m_faultAt m_readMany m_readTold m_read m_fit m_shown m_image m_isKept m_row m_best m_againAt m_againStep m_orderMany m_orderLeast (x1 + 1) 0 7 (by first | with_reducible assumption | omega | decide) (by first | with_reducible assumption | omega | decide) (by first | with_reducible assumption | omega | decide)) JN.all 3 gX7_isGone_X7_isNumber rfl (by decide +kernel) ⟨Nat.le_of_ble_eq_true rfl, Nat.le_of_ble_eq_true rfl⟩ 0 7 rfl rfl rfl rfl rfl (Nat.le_of_ble_eq_true rfl) dX7_isGone_7 (fun H locs hh => ?_)
  refine W.eq (g2 := F0 m 10 ls [.int ((F_X7_isNumber m_bytes m_text m_position m_faultAt m_read (x1 + 1) 0 7).1)]) rfl ?_
  generalize q_7 : F_X7_isNumber m_bytes m_text m_position m_faultAt m_read (x1 + 1) 0 7 = r7_1 at hh hF ⊢
  have hz_7 : r7_1.1 = 0 ∨ r7_1.1 = 1 := by rw [← q_7]; exact z_X7_isNumber _ _ _ _ _ _ _ _
  have hpos_7 : PosOk m_bytes r7_1.2.1 := by rw [← q_7]; exact ok_X7_isNumber hpos
  unfold F_X7_isGone_c7 at hF
  refine lv_istore_n (lv' := [(2, .int r7_1.1), (0, .ref o), (1, .int x1)]) hx hb dX7_isGone_10 rfl hl (Nat.le_of_ble_eq_true rfl) rfl (fun ls hl => ?_)
  refine lv_aload_n hx hb dX7_isGone_11 rfl (lv_at hl 1 rfl) ?_
  refine lv_iload_n hx hb dX7_isGone_12 rfl (lv_at hl 0 rfl) ?_
  refine lv_if_eq (tgt := 36) hx hb dX7_isGone_13 (by decide) (fun c_13 => ?_) (fun c_13 => ?_)
  · replace hF := hF.trans (if_pos c_13)
    have i_13 : r7_1.1.toInt = 0 := congrArg Int32.toInt c_13
    refine lv_aload_n hx hb dX7_isGone_36 rfl (lv_at hl 1 rfl) ?_
    refine g_get KX hh in_X7_isGone_X7 0 rfl rfl 14 (by decide) rfl (List.mem_of_getElem? (i := 1) rfl) dX7_isGone_37 ?_
    refine g_put KX hh in_X7_isGone_X7 tyX7 tyX7_ok nmX7 0 rfl rfl 14 (by decide) rfl rfl rfl (Nat.le_of_ble_eq_true rfl) (List.mem_of_getElem? (i := 1) rfl) (w' := (WM cI cZ cC cH o a_clock a_note a_text a_read a_fit a_shown a_image a_isKept a_row a_best m_told m_isRead1 m_clock m_note m_noted m_bytes m_text r7_1.2.1 r7_1.2.2.1 r7_1.2.2.2.1 r7_1.2.2.2.2.1 r7_1.2.2.2.2.2.1 r7_1.2.2.2.2.2.2.1 m_readMany m_readTold r7_1.2.2.2.2.2.2.2 m_fit m_shown m_image m_isKept m_row m_best m_againAt m_againStep m_orderMany m_orderLeast)) rfl rfl dX7_isGone_40 (fun H locs hh => ?_)
    refine lv_iload_n hx hb dX7_isGone_43 rfl (lv_at hl 0 rfl) ?_
    exact RT _ _ _ _ _ _ hh (by rw [hF]) (Or.inl ⟨_, rfl, by rw [hF], dX7_isGone_44, Or.inr (Or.inl ⟨rfl, (by first | with_reducible assumption | omega | decide)⟩)⟩)
  · replace hF := hF.trans (if_neg c_13)
    have i_13 : ¬ r7_1.1.toInt = 0 := ti_ne c_13
    refine lv_aload_n hx hb dX7_isGone_16 rfl (lv_at hl 1 rfl) ?_
    refine g_get KX hh in_X7_isGone_X7 0 rfl rfl 14 (by decide) rfl (List.mem_of_getElem? (i := 1) rfl) dX7_isGone_17 ?_
    refine lv_iconst (v := 1) hx hb dX7_isGone_20 (by decide) ?_
    refine lv_aload_n hx hb dX7_isGone_21 rfl (lv_at hl 1 rfl) ?_
    refine g_get KX hh in_X7_isGone_X7 0 rfl rfl 15 (by decide) rfl (List.mem_of_getElem? (i := 2) rfl) dX7_isGone_22 ?_
    refine lv_iload_n hx hb dX7_isGone_25 rfl (lv_at hl 2 rfl) ?_
    refine lv_iconst (v := 1) hx hb dX7_isGone_26 (by decide) ?_
    refine lv_iadd hx hb dX7_isGone_27 ?_
    refine g_iald KX hh 4 0 rfl rfl (vp_in_iff.mpr (by omega)) dX7_isGone_28 ?_
    refine lv_ishl hx hb dX7_isGone_29 ?_
    refine lv_iconst (v := (-1)) hx hb dX7_isGone_30 (by decide) ?_
    refine lv_ixor hx hb dX7_isGone_31 ?_
    refine lv_iand hx hb dX7_isGone_32 ?_
    refine lv_goto (tgt := 40) hx hb dX7_isGone_33 (by decide) ?_
    refine g_put KX hh in_X7_isGone_X7 tyX7 tyX7_ok nmX7 0 rfl rfl 14 (by decide) rfl rfl rfl (Nat.le_of_ble_eq_true rfl) (List.mem_of_getElem? (i := 1) rfl) (w' := (WM cI cZ cC cH o a_clock a_note a_text a_read a_fit a_shown a_image a_isKept a_row a_best m_told m_isRead1 m_clock m_note m_noted m_bytes m_text r7_1.2.1 r7_1.2.2.1 r7_1.2.2.2.1 r7_1.2.2.2.2.1 r7_1.2.2.2.2.2.1 r7_1.2.2.2.2.2.2.1 m_readMany (m_readTold &&& ((1 <<< ((r7_1.2.2.2.2.2.2.2 (x1 + 1).toNatClampNeg) &&& 31)) ^^^ (-1))) r7_1.2.2.2.2.2.2.2 m_fit m_shown m_image m_isKept m_row m_best m_againAt m_againStep m_orderMany m_orderLeast)) rfl rfl dX7_isGone_40 (fun H locs hh => ?_)
    refine lv_iload_n hx hb dX7_isGone_43 rfl (lv_at hl 0 rfl) ?_
    exact RT _ _ _ _ _ _ hh (by rw [hF]) (Or.inl ⟨_, rfl, by rw [hF], dX7_isGone_44, Or.inr (Or.inl ⟨rfl, (by first | with_reducible assumption | omega | decide)⟩)⟩)
theorem zb_F_X7_isGone_c7 {m_readTold : Int32} {x1 : Int32} {r7_1 : Int32 × Int32 × Int32 × Int64 × Int32 × Int32 × Int32 × (Nat → Int32)} (hz0 : r7_1.1 = 0 ∨ r7_1.1 = 1) : (F_X7_isGone_c7 m_readTold x1 r7_1).1 = 0 ∨ (F_X7_isGone_c7 m_readTold x1 r7_1).1 = 1 := by
  unfold F_X7_isGone_c7
  split
  · exact hz0
  · exact hz0
theorem z_X7_isGone (m_bytes : Int32) (m_text : Nat → Int32) (m_position : Int32) (m_faultAt : Int32) (m_readTold : Int32) (m_read : Nat → Int32) (x1 : Int32) : (F_X7_isGone m_bytes m_text m_position m_faultAt m_readTold m_read x1).1 = 0 ∨ (F_X7_isGone m_bytes m_text m_position m_faultAt m_readTold m_read x1).1 = 1 := by
  unfold F_X7_isGone
  exact zb_F_X7_isGone_c7 (z_X7_isNumber _ _ _ _ _ _ _ _)
theorem okb_F_X7_isGoing_81 {m_readTold : Int32} {x1 : Int32} {y0_2 : Int32} {w_m_position_3 : Int32} {w_m_tokenAt_4 : Int32} {w_m_token_5 : Int64} {w_m_digits_6 : Int32} {w_m_number_7 : Int32} {w_m_faultAt_8 : Int32} {w_m_read_9 : Nat → Int32} {b_ : Int32} (hq0 : PosOk b_ w_m_position_3) : PosOk b_ (F_X7_isGoing_81 m_readTold x1 y0_2 w_m_position_3 w_m_tokenAt_4 w_m_token_5 w_m_digits_6 w_m_number_7 w_m_faultAt_8 w_m_read_9).2.1 := by
  unfold F_X7_isGoing_81
  split
  · exact hq0
  · exact hq0
theorem okb_F_X7_isGoing_80 {m_readTold : Int32} {x1 : Int32} {w_m_position_10 : Int32} {w_m_tokenAt_11 : Int32} {w_m_token_12 : Int64} {w_m_digits_13 : Int32} {w_m_number_14 : Int32} {w_m_faultAt_15 : Int32} {w_m_read_16 : Nat → Int32} {b_ : Int32} (hq0 : PosOk b_ w_m_position_10) : PosOk b_ (F_X7_isGoing_80 m_readTold x1 w_m_position_10 w_m_tokenAt_11 w_m_token_12 w_m_digits_13 w_m_number_14 w_m_faultAt_15 w_m_read_16).2.1 := by
  unfold F_X7_isGoing_80
  exact okb_F_X7_isGoing_81 (hq0)
theorem okb_F_X7_isGoing_c70 {m_readTold : Int32} {x1 : Int32} {r70_20 : Int32 × Int32 × Int32 × Int64 × Int32 × Int32 × Int32 × (Nat → Int32)} {b_ : Int32} (hq0 : PosOk b_ r70_20.2.1) : PosOk b_ (F_X7_isGoing_c70 m_readTold x1 r70_20).2.1 := by
  unfold F_X7_isGoing_c70
  split
  · exact okb_F_X7_isGoing_80 (hq0)
  · exact okb_F_X7_isGoing_81 (hq0)
theorem okb_F_X7_isGoing_c49 {m_bytes : Int32} {m_text : Nat → Int32} {m_readTold : Int32} {x1 : Int32} {r49_19 : Int32 × Int32 × Int32 × Int64 × Int32 × Int32 × Int32 × (Nat → Int32)} (hq0 : PosOk m_bytes r49_19.2.1) : PosOk m_bytes (F_X7_isGoing_c49 m_bytes m_text m_readTold x1 r49_19).2.1 := by
  unfold F_X7_isGoing_c49
  split
  · exact okb_F_X7_isGoing_80 (hq0)
  · exact okb_F_X7_isGoing_c70 (ok_X7_isNumber (hq0))
theorem okb_F_X7_isGoing_c35 {m_bytes : Int32} {m_text : Nat → Int32} {m_readTold : Int32} {x1 : Int32} {r35_18 : Int32 × Int32 × Int32 × Int64 × Int32 × Int32 × Int32 × (Nat → Int32)} (hq0 : PosOk m_bytes r35_18.2.1) : PosOk m_bytes (F_X7_isGoing_c35 m_bytes m_text m_readTold x1 r35_18).2.1 := by
  unfold F_X7_isGoing_c35
  split
  · exact okb_F_X7_isGoing_80 (hq0)
  · exact okb_F_X7_isGoing_c49 (ok_X7_isNumber (hq0))
theorem okb_F_X7_isGoing_c21 {m_bytes : Int32} {m_text : Nat → Int32} {m_readTold : Int32} {x1 : Int32} {r21_17 : Int32 × Int32 × Int32 × Int64 × Int32 × Int32 × Int32 × (Nat → Int32)} (hq0 : PosOk m_bytes r21_17.2.1) : PosOk m_bytes (F_X7_isGoing_c21 m_bytes m_text m_readTold x1 r21_17).2.1 := by
  unfold F_X7_isGoing_c21
  split
  · exact okb_F_X7_isGoing_80 (hq0)
  · exact okb_F_X7_isGoing_c35 (ok_X7_isNumber (hq0))
theorem okb_F_X7_isGoing_c7 {m_bytes : Int32} {m_text : Nat → Int32} {m_readTold : Int32} {x1 : Int32} {r7_1 : Int32 × Int32 × Int32 × Int64 × Int32 × Int32 × Int32 × (Nat → Int32)} (hq0 : PosOk m_bytes r7_1.2.1) : PosOk m_bytes (F_X7_isGoing_c7 m_bytes m_text m_readTold x1 r7_1).2.1 := by
  unfold F_X7_isGoing_c7
  split
  · exact okb_F_X7_isGoing_80 (hq0)
  · exact okb_F_X7_isGoing_c21 (ok_X7_isNumber (hq0))
theorem ok_X7_isGoing {m_bytes : Int32} {m_text : Nat → Int32} {m_position : Int32} {m_faultAt : Int32} {m_readTold : Int32} {m_read : Nat → Int32} {x1 : Int32} (hq0 : PosOk m_bytes m_position) : PosOk m_bytes (F_X7_isGoing m_bytes m_text m_position m_faultAt m_readTold m_read x1).2.1 := by
  unfold F_X7_isGoing
  exact okb_F_X7_isGoing_c7 (ok_X7_isNumber (hq0))
theorem okb_F_X7_isStopped_32 {m_readTold : Int32} {x1 : Int32} {y0_2 : Int32} {w_m_position_3 : Int32} {w_m_tokenAt_4 : Int32} {w_m_token_5 : Int64} {w_m_digits_6 : Int32} {w_m_number_7 : Int32} {w_m_faultAt_8 : Int32} {w_m_read_9 : Nat → Int32} {b_ : Int32} (hq0 : PosOk b_ w_m_position_3) : PosOk b_ (F_X7_isStopped_32 m_readTold x1 y0_2 w_m_position_3 w_m_tokenAt_4 w_m_token_5 w_m_digits_6 w_m_number_7 w_m_faultAt_8 w_m_read_9).2.1 := by
  unfold F_X7_isStopped_32
  split
  · exact hq0
  · exact hq0
theorem okb_F_X7_isStopped_31 {m_readTold : Int32} {x1 : Int32} {w_m_position_10 : Int32} {w_m_tokenAt_11 : Int32} {w_m_token_12 : Int64} {w_m_digits_13 : Int32} {w_m_number_14 : Int32} {w_m_faultAt_15 : Int32} {w_m_read_16 : Nat → Int32} {b_ : Int32} (hq0 : PosOk b_ w_m_position_10) : PosOk b_ (F_X7_isStopped_31 m_readTold x1 w_m_position_10 w_m_tokenAt_11 w_m_token_12 w_m_digits_13 w_m_number_14 w_m_faultAt_15 w_m_read_16).2.1 := by
  unfold F_X7_isStopped_31
  exact okb_F_X7_isStopped_32 (hq0)
theorem okb_F_X7_isStopped_c21 {m_readTold : Int32} {x1 : Int32} {r21_17 : Int32 × Int32 × Int32 × Int64 × Int32 × Int32 × Int32 × (Nat → Int32)} {b_ : Int32} (hq0 : PosOk b_ r21_17.2.1) : PosOk b_ (F_X7_isStopped_c21 m_readTold x1 r21_17).2.1 := by
  unfold F_X7_isStopped_c21
  split
  · exact okb_F_X7_isStopped_31 (hq0)
  · exact okb_F_X7_isStopped_32 (hq0)
theorem okb_F_X7_isStopped_c7 {m_bytes : Int32} {m_text : Nat → Int32} {m_readTold : Int32} {x1 : Int32} {r7_1 : Int32 × Int32 × Int32 × Int64 × Int32 × Int32 × Int32 × (Nat → Int32)} (hq0 : PosOk m_bytes r7_1.2.1) : PosOk m_bytes (F_X7_isStopped_c7 m_bytes m_text m_readTold x1 r7_1).2.1 := by
  unfold F_X7_isStopped_c7
  split
  · exact okb_F_X7_isStopped_31 (hq0)
  · exact okb_F_X7_isStopped_c21 (ok_X7_isNumber (hq0))
theorem ok_X7_isStopped {m_bytes : Int32} {m_text : Nat → Int32} {m_position : Int32} {m_faultAt : Int32} {m_readTold : Int32} {m_read : Nat → Int32} {x1 : Int32} (hq0 : PosOk m_bytes m_position) : PosOk m_bytes (F_X7_isStopped m_bytes m_text m_position m_faultAt m_readTold m_read x1).2.1 := by
  unfold F_X7_isStopped
  exact okb_F_X7_isStopped_c7 (ok_X7_isNumber (hq0))
theorem okb_F_X7_isNow_c48 {r7_1 : Int32 × Int32 × Int32 × Int64 × Int32 × Int32 × Int32 × (Nat → Int32)} {r48_2 : Int32 × Int32} {b_ : Int32} (hq0 : PosOk b_ r7_1.2.1) : PosOk b_ (F_X7_isNow_c48 r7_1 r48_2).2.1 := by
  unfold F_X7_isNow_c48
  exact hq0
theorem okb_F_X7_isNow_c41 {r41_3 : Int32 × Int32 × Int32 × Int64 × Int32 × Int32 × Int32 × (Nat → Int32)} {b_ : Int32} (hq0 : PosOk b_ r41_3.2.1) : PosOk b_ (F_X7_isNow_c41 r41_3).2.1 := by
  unfold F_X7_isNow_c41
  exact hq0
theorem okb_F_X7_isNow_c7 {m_bytes : Int32} {m_text : Nat → Int32} {m_readTold : Int32} {x1 : Int32} {r7_1 : Int32 × Int32 × Int32 × Int64 × Int32 × Int32 × Int32 × (Nat → Int32)} (hq0 : PosOk m_bytes r7_1.2.1) : PosOk m_bytes (F_X7_isNow_c7 m_bytes m_text m_readTold x1 r7_1).2.1 := by
  unfold F_X7_isNow_c7
  split
  · exact hq0
  · split
    · exact okb_F_X7_isNow_c48 (hq0)
    · exact okb_F_X7_isNow_c41 (ok_X7_isNumber (hq0))
theorem ok_X7_isNow {m_bytes : Int32} {m_text : Nat → Int32} {m_position : Int32} {m_faultAt : Int32} {m_readTold : Int32} {m_read : Nat → Int32} {x1 : Int32} (hq0 : PosOk m_bytes m_position) : PosOk m_bytes (F_X7_isNow m_bytes m_text m_position m_faultAt m_readTold m_read x1).2.1 := by
  unfold F_X7_isNow
  exact okb_F_X7_isNow_c7 (ok_X7_isNumber (hq0))
theorem okb_F_X7_isGone_c7 {m_readTold : Int32} {x1 : Int32} {r7_1 : Int32 × Int32 × Int32 × Int64 × Int32 × Int32 × Int32 × (Nat → Int32)} {b_ : Int32} (hq0 : PosOk b_ r7_1.2.1) : PosOk b_ (F_X7_isGone_c7 m_readTold x1 r7_1).2.1 := by
  unfold F_X7_isGone_c7
  split
  · exact hq0
  · exact hq0
theorem ok_X7_isGone {m_bytes : Int32} {m_text : Nat → Int32} {m_position : Int32} {m_faultAt : Int32} {m_readTold : Int32} {m_read : Nat → Int32} {x1 : Int32} (hq0 : PosOk m_bytes m_position) : PosOk m_bytes (F_X7_isGone m_bytes m_text m_position m_faultAt m_readTold m_read x1).2.1 := by
  unfold F_X7_isGone
  exact okb_F_X7_isGone_c7 (ok_X7_isNumber (hq0))
