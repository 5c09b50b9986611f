def F_X7_doLine_229 (m_told : Int32) (m_isRead1 : Int32) (m_clock : Nat → Int32) (m_read : Nat → Int32) (x1 : Int32) (y0_1 : Int32) : Int32 × Int32 × (Nat → Int32) := (if (m_read x1.toNatClampNeg) = 2 then (m_told ||| (1 <<< ((m_read (x1 + 1).toNatClampNeg) &&& 31)), m_isRead1 &&& ((1 <<< ((m_read (x1 + 1).toNatClampNeg) &&& 31)) ^^^ (-1)), upd (upd (upd (upd (upd m_clock (6 * (m_read (x1 + 1).toNatClampNeg)).toNatClampNeg (m_read x1.toNatClampNeg)) ((6 * (m_read (x1 + 1).toNatClampNeg)) + 1).toNatClampNeg (m_read (x1 + 2).toNatClampNeg)) ((6 * (m_read (x1 + 1).toNatClampNeg)) + 2).toNatClampNeg (m_read (x1 + 3).toNatClampNeg)) ((6 * (m_read (x1 + 1).toNatClampNeg)) + 3).toNatClampNeg y0_1) ((6 * (m_read (x1 + 1).toNatClampNeg)) + 4).toNatClampNeg (-1440)) else (m_told ||| (1 <<< ((m_read (x1 + 1).toNatClampNeg) &&& 31)), m_isRead1 &&& ((1 <<< ((m_read (x1 + 1).toNatClampNeg) &&& 31)) ^^^ (-1)), upd (upd (upd (upd (upd m_clock (6 * (m_read (x1 + 1).toNatClampNeg)).toNatClampNeg (m_read x1.toNatClampNeg)) ((6 * (m_read (x1 + 1).toNatClampNeg)) + 1).toNatClampNeg (m_read (x1 + 2).toNatClampNeg)) ((6 * (m_read (x1 + 1).toNatClampNeg)) + 2).toNatClampNeg (m_read (x1 + 3).toNatClampNeg)) ((6 * (m_read (x1 + 1).toNatClampNeg)) + 3).toNatClampNeg y0_1) ((6 * (m_read (x1 + 1).toNatClampNeg)) + 4).toNatClampNeg ((m_read (x1 + 5).toNatClampNeg) - 120)))
def F_X7_doLine (m_told : Int32) (m_isRead1 : Int32) (m_clock : Nat → Int32) (m_read : Nat → Int32) (x1 : Int32) : Int32 × Int32 × (Nat → Int32) := (if (m_read x1.toNatClampNeg) = 3 then (m_told &&& ((1 <<< ((m_read (x1 + 1).toNatClampNeg) &&& 31)) ^^^ (-1)), m_isRead1 &&& ((1 <<< ((m_read (x1 + 1).toNatClampNeg) &&& 31)) ^^^ (-1)), m_clock) else if (m_read x1.toNatClampNeg) = 4 then (m_told, m_isRead1 ||| (1 <<< ((m_read (x1 + 1).toNatClampNeg) &&& 31)), upd m_clock ((6 * (m_read (x1 + 1).toNatClampNeg)) + 5).toNatClampNeg (m_read (x1 + 2).toNatClampNeg)) else if (m_read x1.toNatClampNeg) = 5 then (m_told, 0, m_clock) else (if (m_read x1.toNatClampNeg) = 2 then (F_X7_doLine_229 m_told m_isRead1 m_clock m_read x1 (-1440)) else (F_X7_doLine_229 m_told m_isRead1 m_clock m_read x1 ((m_read (x1 + 4).toNatClampNeg) - 120))))
theorem in_X7_doLine_X7 : ∀ x ∈ u_ws RX7 TX7 26, x ∈ wsX7_doLine := by decide +kernel
set_option maxHeartbeats 2000000 in
set_option maxRecDepth 100000 in
theorem c_X7_doLine (l : Launch) (D : va_G) (cI cZ cC cH : ClassId) (o a_clock a_note a_text a_read a_fit a_shown a_image a_isKept a_row a_best : Nat) (m_told : Int32) (m_isRead1 : Int32) (m_clock : Nat → Int32) (m_note : Nat → Int32) (m_noted : Int32) (m_bytes : Int32) (m_text : Nat → Int32) (m_position : Int32) (m_tokenAt : Int32) (m_token : Int64) (m_digits : Int32) (m_number : Int32) (m_faultAt : Int32) (m_readMany : Int32) (m_readTold : Int32) (m_read : Nat → Int32) (m_fit : Nat → Int32) (m_shown : Nat → Int32) (m_image : Nat → Int32) (m_isKept : Nat → Int32) (m_row : Nat → Int32) (m_best : Nat → Int32) (m_againAt : Int32) (m_againStep : Int32) (m_orderMany : Int32) (m_orderLeast : Int32) (x1 : Int32) (hw0 : 0 ≤ x1.toInt) (hw1 : x1.toInt ≤ 42) (hr : ¬ m_read x1.toNatClampNeg = 5 → 0 ≤ (m_read (x1 + 1).toNatClampNeg).toInt ∧ (m_read (x1 + 1).toNatClampNeg).toInt < 8) : MC l D (TY cI cZ cC cH) yX7_doLine wsX7_doLine 0 0 [.ref o, .int x1] (WM cI cZ cC cH o a_clock a_note a_text a_read a_fit a_shown a_image a_isKept a_row a_best m_told m_isRead1 m_clock m_note m_noted m_bytes m_text m_position m_tokenAt m_token m_digits m_number m_faultAt m_readMany m_readTold m_read m_fit m_shown m_image m_isKept m_row m_best m_againAt m_againStep m_orderMany m_orderLeast) (none) (WM cI cZ cC cH o a_clock a_note a_text a_read a_fit a_shown a_image a_isKept a_row a_best (F_X7_doLine m_told m_isRead1 m_clock m_read x1).1 (F_X7_doLine m_told m_isRead1 m_clock m_read x1).2.1 (F_X7_doLine m_told m_isRead1 m_clock m_read x1).2.2 m_note m_noted m_bytes m_text m_position m_tokenAt m_token m_digits m_number m_faultAt m_readMany m_readTold m_read m_fit m_shown m_image m_isKept m_row m_best m_againAt m_againStep m_orderMany m_orderLeast) := by
  obtain ⟨R, hF⟩ : ∃ R, R = F_X7_doLine m_told m_isRead1 m_clock m_read x1 := ⟨_, rfl⟩
  rw [← hF]
  refine MC.of (cc := cX7_doLine) (maxL := 3) (ret := none) RX7 rfl (by decide +kernel) rfl (Nat.le_of_ble_eq_true rfl) ?_
  intro p e s m args below meth c A Q KX RT hh ls hl
  have z0 : (0 : Int32).toInt = 0 := rfl
  have z1 : (1 : Int32).toInt = 1 := rfl
  have zm : (-1 : Int32).toInt = -1 := rfl
  have hx := KX.1
  have hb := KX.2.1
  have hl : lv_has ls 3 [(0, .ref o), (1, .int x1)] := hl
  unfold F_X7_doLine at hF
  have e1 := ti_addc x1 1 1 rfl (by omega) (by omega)
  have e2 := ti_addc x1 2 2 rfl (by omega) (by omega)
  have e3 := ti_addc x1 3 3 rfl (by omega) (by omega)
  have e4 := ti_addc x1 4 4 rfl (by omega) (by omega)
  have e5 := ti_addc x1 5 5 rfl (by omega) (by omega)
  refine lv_aload_n hx hb dX7_doLine_0 rfl (lv_at hl 0 rfl) ?_
  refine g_get KX hh in_X7_doLine_X7 0 rfl rfl 15 (by decide) rfl (List.mem_of_getElem? (i := 1) rfl) dX7_doLine_1 ?_
  refine lv_iload_n hx hb dX7_doLine_4 rfl (lv_at hl 1 rfl) ?_
  refine lv_iconst (v := 1) hx hb dX7_doLine_5 (by decide) ?_
  refine lv_iadd hx hb dX7_doLine_6 ?_
  refine g_iald KX hh 4 0 rfl rfl (vp_in_iff.mpr (by omega)) dX7_doLine_7 ?_
  refine lv_istore_n (lv' := [(2, .int (m_read (x1 + 1).toNatClampNeg)), (0, .ref o), (1, .int x1)]) hx hb dX7_doLine_8 rfl hl (Nat.le_of_ble_eq_true rfl) rfl (fun ls hl => ?_)
  refine lv_aload_n hx hb dX7_doLine_9 rfl (lv_at hl 1 rfl) ?_
  refine g_get KX hh in_X7_doLine_X7 0 rfl rfl 15 (by decide) rfl (List.mem_of_getElem? (i := 1) rfl) dX7_doLine_10 ?_
  refine lv_iload_n hx hb dX7_doLine_13 rfl (lv_at hl 2 rfl) ?_
  refine g_iald KX hh 4 0 rfl rfl (vp_in_iff.mpr (by omega)) dX7_doLine_14 ?_
  by_cases c_15_0 : (m_read x1.toNatClampNeg) = 3
  · replace hF := hF.trans (if_pos c_15_0)
    have i_15_0 : (m_read x1.toNatClampNeg).toInt = 3 := congrArg Int32.toInt c_15_0
    refine W.eq (g2 := F0 m 15 ls (.int 3 :: [])) (by rw [c_15_0]) ?_
    refine lv_tableIn (tgt := 40) hx hb dX7_doLine_15 (by decide) (by decide) rfl (by decide) ?_
    refine lv_aload_n hx hb dX7_doLine_40 rfl (lv_at hl 1 rfl) ?_
    refine lv_aload_n hx hb dX7_doLine_41 rfl (lv_at hl 1 rfl) ?_
    refine g_get KX hh in_X7_doLine_X7 0 rfl rfl 0 (by decide) rfl (List.mem_of_getElem? (i := 2) rfl) dX7_doLine_42 ?_
    refine lv_iconst (v := 1) hx hb dX7_doLine_45 (by decide) ?_
    refine lv_iload_n hx hb dX7_doLine_46 rfl (lv_at hl 0 rfl) ?_
    refine lv_ishl hx hb dX7_doLine_47 ?_
    refine lv_iconst (v := (-1)) hx hb dX7_doLine_48 (by decide) ?_
    refine lv_ixor hx hb dX7_doLine_49 ?_
    refine lv_iand hx hb dX7_doLine_50 ?_
    refine g_put KX hh in_X7_doLine_X7 tyX7 tyX7_ok nmX7 0 rfl rfl 0 (by decide) rfl rfl rfl (Nat.le_of_ble_eq_true rfl) (List.mem_of_getElem? (i := 2) rfl) (w' := (WM cI cZ cC cH o a_clock a_note a_text a_read a_fit a_shown a_image a_isKept a_row a_best (m_told &&& ((1 <<< ((m_read (x1 + 1).toNatClampNeg) &&& 31)) ^^^ (-1))) m_isRead1 m_clock m_note m_noted m_bytes m_text m_position m_tokenAt m_token m_digits m_number m_faultAt m_readMany m_readTold m_read m_fit m_shown m_image m_isKept m_row m_best m_againAt m_againStep m_orderMany m_orderLeast)) rfl rfl dX7_doLine_51 (fun H locs hh => ?_)
    refine lv_aload_n hx hb dX7_doLine_54 rfl (lv_at hl 1 rfl) ?_
    refine lv_aload_n hx hb dX7_doLine_55 rfl (lv_at hl 1 rfl) ?_
    refine g_get KX hh in_X7_doLine_X7 0 rfl rfl 1 (by decide) rfl (List.mem_of_getElem? (i := 3) rfl) dX7_doLine_56 ?_
    refine lv_iconst (v := 1) hx hb dX7_doLine_59 (by decide) ?_
    refine lv_iload_n hx hb dX7_doLine_60 rfl (lv_at hl 0 rfl) ?_
    refine lv_ishl hx hb dX7_doLine_61 ?_
    refine lv_iconst (v := (-1)) hx hb dX7_doLine_62 (by decide) ?_
    refine lv_ixor hx hb dX7_doLine_63 ?_
    refine lv_iand hx hb dX7_doLine_64 ?_
    refine g_put KX hh in_X7_doLine_X7 tyX7 tyX7_ok nmX7 0 rfl rfl 1 (by decide) rfl rfl rfl (Nat.le_of_ble_eq_true rfl) (List.mem_of_getElem? (i := 3) rfl) (w' := (WM cI cZ cC cH o a_clock a_note a_text a_read a_fit a_shown a_image a_isKept a_row a_best (m_told &&& ((1 <<< ((m_read (x1 + 1).toNatClampNeg) &&& 31)) ^^^ (-1))) (m_isRead1 &&& ((1 <<< ((m_read (x1 + 1).toNatClampNeg) &&& 31)) ^^^ (-1))) m_clock m_note m_noted m_bytes m_text m_position m_tokenAt m_token m_digits m_number m_faultAt m_readMany m_readTold m_read m_fit m_shown m_image m_isKept m_row m_best m_againAt m_againStep m_orderMany m_orderLeast)) rfl rfl dX7_doLine_65 (fun H locs hh => ?_)
    refine lv_goto (tgt := 268) hx hb dX7_doLine_68 (by decide) ?_
    exact RT _ _ _ _ _ _ hh (by rw [hF]) (Or.inr (Or.inr (Or.inl ⟨rfl, rfl, dX7_doLine_268, rfl⟩)))
  replace hF := hF.trans (if_neg c_15_0)
  by_cases c_15_1 : (m_read x1.toNatClampNeg) = 4
  · replace hF := hF.trans (if_pos c_15_1)
    have i_15_1 : (m_read x1.toNatClampNeg).toInt = 4 := congrArg Int32.toInt c_15_1
    refine W.eq (g2 := F0 m 15 ls (.int 4 :: [])) (by rw [c_15_1]) ?_
    refine lv_tableIn (tgt := 71) hx hb dX7_doLine_15 (by decide) (by decide) rfl (by decide) ?_
    obtain ⟨hk0, hk1⟩ := hr (by rw [c_15_1]; decide)
    refine lv_aload_n hx hb dX7_doLine_71 rfl (lv_at hl 1 rfl) ?_
    refine lv_aload_n hx hb dX7_doLine_72 rfl (lv_at hl 1 rfl) ?_
    refine g_get KX hh in_X7_doLine_X7 0 rfl rfl 1 (by decide) rfl (List.mem_of_getElem? (i := 3) rfl) dX7_doLine_73 ?_
    refine lv_iconst (v := 1) hx hb dX7_doLine_76 (by decide) ?_
    refine lv_iload_n hx hb dX7_doLine_77 rfl (lv_at hl 0 rfl) ?_
    refine lv_ishl hx hb dX7_doLine_78 ?_
    refine lv_ior hx hb dX7_doLine_79 ?_
    refine g_put KX hh in_X7_doLine_X7 tyX7 tyX7_ok nmX7 0 rfl rfl 1 (by decide) rfl rfl rfl (Nat.le_of_ble_eq_true rfl) (List.mem_of_getElem? (i := 3) rfl) (w' := (WM cI cZ cC cH o a_clock a_note a_text a_read a_fit a_shown a_image a_isKept a_row a_best m_told (m_isRead1 ||| (1 <<< ((m_read (x1 + 1).toNatClampNeg) &&& 31))) m_clock m_note m_noted m_bytes m_text m_position m_tokenAt m_token m_digits m_number m_faultAt m_readMany m_readTold m_read m_fit m_shown m_image m_isKept m_row m_best m_againAt m_againStep m_orderMany m_orderLeast)) rfl rfl dX7_doLine_80 (fun H locs hh => ?_)
    refine lv_aload_n hx hb dX7_doLine_83 rfl (lv_at hl 1 rfl) ?_
    refine g_get KX hh in_X7_doLine_X7 0 rfl rfl 2 (by decide) rfl (List.mem_of_getElem? (i := 4) rfl) dX7_doLine_84 ?_
    refine lv_bipush (v := 6) hx hb dX7_doLine_87 (by decide) ?_
    refine lv_iload_n hx hb dX7_doLine_89 rfl (lv_at hl 0 rfl) ?_
    refine lv_imul hx hb dX7_doLine_90 ?_
    refine lv_iconst (v := 5) hx hb dX7_doLine_91 (by decide) ?_
    refine lv_iadd hx hb dX7_doLine_92 ?_
    refine lv_aload_n hx hb dX7_doLine_93 rfl (lv_at hl 1 rfl) ?_
    refine g_get KX hh in_X7_doLine_X7 0 rfl rfl 15 (by decide) rfl (List.mem_of_getElem? (i := 1) rfl) dX7_doLine_94 ?_
    refine lv_iload_n hx hb dX7_doLine_97 rfl (lv_at hl 2 rfl) ?_
    refine lv_iconst (v := 2) hx hb dX7_doLine_98 (by decide) ?_
    refine lv_iadd hx hb dX7_doLine_99 ?_
    refine g_iald KX hh 4 0 rfl rfl (vp_in_iff.mpr (by omega)) dX7_doLine_100 ?_
    refine g_iast KX hh 1 0 rfl rfl (ix6 5 (by omega) (by omega) (by decide)) (w' := (WM cI cZ cC cH o a_clock a_note a_text a_read a_fit a_shown a_image a_isKept a_row a_best m_told (m_isRead1 ||| (1 <<< ((m_read (x1 + 1).toNatClampNeg) &&& 31))) (upd m_clock ((6 * (m_read (x1 + 1).toNatClampNeg)) + 5).toNatClampNeg (m_read (x1 + 2).toNatClampNeg)) m_note m_noted m_bytes m_text m_position m_tokenAt m_token m_digits m_number m_faultAt m_readMany m_readTold m_read m_fit m_shown m_image m_isKept m_row m_best m_againAt m_againStep m_orderMany m_orderLeast)) rfl dX7_doLine_101 (fun H locs hh => ?_)
    refine lv_goto (tgt := 268) hx hb dX7_doLine_102 (by decide) ?_
    exact RT _ _ _ _ _ _ hh (by rw [hF]) (Or.inr (Or.inr (Or.inl ⟨rfl, rfl, dX7_doLine_268, rfl⟩)))
  replace hF := hF.trans (if_neg c_15_1)
  by_cases c_15_2 : (m_read x1.toNatClampNeg) = 5
  · replace hF := hF.trans (if_pos c_15_2)
    have i_15_2 : (m_read x1.toNatClampNeg).toInt = 5 := congrArg Int32.toInt c_15_2
    refine W.eq (g2 := F0 m 15 ls (.int 5 :: [])) (by rw [c_15_2]) ?_
    refine lv_tableIn (tgt := 105) hx hb dX7_doLine_15 (by decide) (by decide) rfl (by decide) ?_
    refine lv_aload_n hx hb dX7_doLine_105 rfl (lv_at hl 1 rfl) ?_
    refine lv_iconst (v := 0) hx hb dX7_doLine_106 (by decide) ?_
    refine g_put KX hh in_X7_doLine_X7 tyX7 tyX7_ok nmX7 0 rfl rfl 1 (by decide) rfl rfl rfl (Nat.le_of_ble_eq_true rfl) (List.mem_of_getElem? (i := 3) rfl) (w' := (WM cI cZ cC cH o a_clock a_note a_text a_read a_fit a_shown a_image a_isKept a_row a_best m_told 0 m_clock m_note m_noted m_bytes m_text m_position m_tokenAt m_token m_digits m_number m_faultAt m_readMany m_readTold m_read m_fit m_shown m_image m_isKept m_row m_best m_againAt m_againStep m_orderMany m_orderLeast)) rfl rfl dX7_doLine_107 (fun H locs hh => ?_)
    refine lv_goto (tgt := 268) hx hb dX7_doLine_110 (by decide) ?_
    exact RT _ _ _ _ _ _ hh (by rw [hF]) (Or.inr (Or.inr (Or.inl ⟨rfl, rfl, dX7_doLine_268, rfl⟩)))
  replace hF := hF.trans (if_neg c_15_2)
  refine lv_tableOut (tgt := 113) hx hb dX7_doLine_15 (by have h1 := sw_ne (y := 3) (k := 3) c_15_0 rfl; have h2 := sw_ne (y := 4) (k := 4) c_15_1 rfl; have h3 := sw_ne (y := 5) (k := 5) c_15_2 rfl; omega) (by decide) ?_
  obtain ⟨hk0, hk1⟩ := hr c_15_2
  refine lv_aload_n hx hb dX7_doLine_113 rfl (lv_at hl 1 rfl) ?_
  refine lv_aload_n hx hb dX7_doLine_114 rfl (lv_at hl 1 rfl) ?_
  refine g_get KX hh in_X7_doLine_X7 0 rfl rfl 0 (by decide) rfl (List.mem_of_getElem? (i := 2) rfl) dX7_doLine_115 ?_
  refine lv_iconst (v := 1) hx hb dX7_doLine_118 (by decide) ?_
  refine lv_iload_n hx hb dX7_doLine_119 rfl (lv_at hl 0 rfl) ?_
  refine lv_ishl hx hb dX7_doLine_120 ?_
  refine lv_ior hx hb dX7_doLine_121 ?_
  refine g_put KX hh in_X7_doLine_X7 tyX7 tyX7_ok nmX7 0 rfl rfl 0 (by decide) rfl rfl rfl (Nat.le_of_ble_eq_true rfl) (List.mem_of_getElem? (i := 2) rfl) (w' := (WM cI cZ cC cH o a_clock a_note a_text a_read a_fit a_shown a_image a_isKept a_row a_best (m_told ||| (1 <<< ((m_read (x1 + 1).toNatClampNeg) &&& 31))) m_isRead1 m_clock m_note m_noted m_bytes m_text m_position m_tokenAt m_token m_digits m_number m_faultAt m_readMany m_readTold m_read m_fit m_shown m_image m_isKept m_row m_best m_againAt m_againStep m_orderMany m_orderLeast)) rfl rfl dX7_doLine_122 (fun H locs hh => ?_)
  refine lv_aload_n hx hb dX7_doLine_125 rfl (lv_at hl 1 rfl) ?_
  refine lv_aload_n hx hb dX7_doLine_126 rfl (lv_at hl 1 rfl) ?_
  refine g_get KX hh in_X7_doLine_X7 0 rfl rfl 1 (by decide) rfl (List.mem_of_getElem? (i := 3) rfl) dX7_doLine_127 ?_
  refine lv_iconst (v := 1) hx hb dX7_doLine_130 (by decide) ?_
  refine lv_iload_n hx hb dX7_doLine_131 rfl (lv_at hl 0 rfl) ?_
  refine lv_ishl hx hb dX7_doLine_132 ?_
  refine lv_iconst (v := (-1)) hx hb dX7_doLine_133 (by decide) ?_
  refine lv_ixor hx hb dX7_doLine_134 ?_
  refine lv_iand hx hb dX7_doLine_135 ?_
  refine g_put KX hh in_X7_doLine_X7 tyX7 tyX7_ok nmX7 0 rfl rfl 1 (by decide) rfl rfl rfl (Nat.le_of_ble_eq_true rfl) (List.mem_of_getElem? (i := 3) rfl) (w' := (WM cI cZ cC cH o a_clock a_note a_text a_read a_fit a_shown a_image a_isKept a_row a_best (m_told ||| (1 <<< ((m_read (x1 + 1).toNatClampNeg) &&& 31))) (m_isRead1 &&& ((1 <<< ((m_read (x1 + 1).toNatClampNeg) &&& 31)) ^^^ (-1))) m_clock m_note m_noted m_bytes m_text m_position m_tokenAt m_token m_digits m_number m_faultAt m_readMany m_readTold m_read m_fit m_shown m_image m_isKept m_row m_best m_againAt m_againStep m_orderMany m_orderLeast)) rfl rfl dX7_doLine_136 (fun H locs hh => ?_)
  refine lv_aload_n hx hb dX7_doLine_139 rfl (lv_at hl 1 rfl) ?_
  refine g_get KX hh in_X7_doLine_X7 0 rfl rfl 2 (by decide) rfl (List.mem_of_getElem? (i := 4) rfl) dX7_doLine_140 ?_
  refine lv_bipush (v := 6) hx hb dX7_doLine_143 (by decide) ?_
  refine lv_iload_n hx hb dX7_doLine_145 rfl (lv_at hl 0 rfl) ?_
  refine lv_imul hx hb dX7_doLine_146 ?_
  refine lv_aload_n hx hb dX7_doLine_147 rfl (lv_at hl 1 rfl) ?_
  refine g_get KX hh in_X7_doLine_X7 0 rfl rfl 15 (by decide) rfl (List.mem_of_getElem? (i := 1) rfl) dX7_doLine_148 ?_
  refine lv_iload_n hx hb dX7_doLine_151 rfl (lv_at hl 2 rfl) ?_
  refine g_iald KX hh 4 0 rfl rfl (vp_in_iff.mpr (by omega)) dX7_doLine_152 ?_
  refine g_iast KX hh 1 0 rfl rfl (ix60 (by omega) (by omega)) (w' := (WM cI cZ cC cH o a_clock a_note a_text a_read a_fit a_shown a_image a_isKept a_row a_best (m_told ||| (1 <<< ((m_read (x1 + 1).toNatClampNeg) &&& 31))) (m_isRead1 &&& ((1 <<< ((m_read (x1 + 1).toNatClampNeg) &&& 31)) ^^^ (-1))) (upd m_clock (6 * (m_read (x1 + 1).toNatClampNeg)).toNatClampNeg (m_read x1.toNatClampNeg)) m_note m_noted m_bytes m_text m_position m_tokenAt m_token m_digits m_number m_faultAt m_readMany m_readTold m_read m_fit m_shown m_image m_isKept m_row m_best m_againAt m_againStep m_orderMany m_orderLeast)) rfl dX7_doLine_153 (fun H locs hh => ?_)
  refine lv_aload_n hx hb dX7_doLine_154 rfl (lv_at hl 1 rfl) ?_
  refine g_get KX hh in_X7_doLine_X7 0 rfl rfl 2 (by decide) rfl (List.mem_of_getElem? (i := 4) rfl) dX7_doLine_155 ?_
  refine lv_bipush (v := 6) hx hb dX7_doLine_158 (by decide) ?_
  refine lv_iload_n hx hb dX7_doLine_160 rfl (lv_at hl 0 rfl) ?_
  refine lv_imul hx hb dX7_doLine_161 ?_
  refine lv_iconst (v := 1) hx hb dX7_doLine_162 (by decide) ?_
  refine lv_iadd hx hb dX7_doLine_163 ?_
  refine lv_aload_n hx hb dX7_doLine_164 rfl (lv_at hl 1 rfl) ?_
  refine g_get KX hh in_X7_doLine_X7 0 rfl rfl 15 (by decide) rfl (List.mem_of_getElem? (i := 1) rfl) dX7_doLine_165 ?_
  refine lv_iload_n hx hb dX7_doLine_168 rfl (lv_at hl 2 rfl) ?_
  refine lv_iconst (v := 2) hx hb dX7_doLine_169 (by decide) ?_
  refine lv_iadd hx hb dX7_doLine_170 ?_
  refine g_iald KX hh 4 0 rfl rfl (vp_in_iff.mpr (by omega)) dX7_doLine_171 ?_
  refine g_iast KX hh 1 0 rfl rfl (ix6 1 (by omega) (by omega) (by decide)) (w' := (WM cI cZ cC cH o a_clock a_note a_text a_read a_fit a_shown a_image a_isKept a_row a_best (m_told ||| (1 <<< ((m_read (x1 + 1).toNatClampNeg) &&& 31))) (m_isRead1 &&& ((1 <<< ((m_read (x1 + 1).toNatClampNeg) &&& 31)) ^^^ (-1))) (upd (upd m_clock (6 * (m_read (x1 + 1).toNatClampNeg)).toNatClampNeg (m_read x1.toNatClampNeg)) ((6 * (m_read (x1 + 1).toNatClampNeg)) + 1).toNatClampNeg (m_read (x1 + 2).toNatClampNeg)) m_note m_noted m_bytes m_text m_position m_tokenAt m_token m_digits m_number m_faultAt m_readMany m_readTold m_read m_fit m_shown m_image m_isKept m_row m_best m_againAt m_againStep m_orderMany m_orderLeast)) rfl dX7_doLine_172 (fun H locs hh => ?_)
  refine lv_aload_n hx hb dX7_doLine_173 rfl (lv_at hl 1 rfl) ?_
  refine g_get KX hh in_X7_doLine_X7 0 rfl rfl 2 (by decide) rfl (List.mem_of_getElem? (i := 4) rfl) dX7_doLine_174 ?_
  refine lv_bipush (v := 6) hx hb dX7_doLine_177 (by decide) ?_
  refine lv_iload_n hx hb dX7_doLine_179 rfl (lv_at hl 0 rfl) ?_
  refine lv_imul hx hb dX7_doLine_180 ?_
  refine lv_iconst (v := 2) hx hb dX7_doLine_181 (by decide) ?_
  refine lv_iadd hx hb dX7_doLine_182 ?_
  refine lv_aload_n hx hb dX7_doLine_183 rfl (lv_at hl 1 rfl) ?_
  refine g_get KX hh in_X7_doLine_X7 0 rfl rfl 15 (by decide) rfl (List.mem_of_getElem? (i := 1) rfl) dX7_doLine_184 ?_
  refine lv_iload_n hx hb dX7_doLine_187 rfl (lv_at hl 2 rfl) ?_
  refine lv_iconst (v := 3) hx hb dX7_doLine_188 (by decide) ?_
  refine lv_iadd hx hb dX7_doLine_189 ?_
  refine g_iald KX hh 4 0 rfl rfl (vp_in_iff.mpr (by omega)) dX7_doLine_190 ?_
  refine g_iast KX hh 1 0 rfl rfl (ix6 2 (by omega) (by omega) (by decide)) (w' := (WM cI cZ cC cH o a_clock a_note a_text a_read a_fit a_shown a_image a_isKept a_row a_best (m_told ||| (1 <<< ((m_read (x1 + 1).toNatClampNeg) &&& 31))) (m_isRead1 &&& ((1 <<< ((m_read (x1 + 1).toNatClampNeg) &&& 31)) ^^^ (-1))) (upd (upd (upd m_clock (6 * (m_read (x1 + 1).toNatClampNeg)).toNatClampNeg (m_read x1.toNatClampNeg)) ((6 * (m_read (x1 + 1).toNatClampNeg)) + 1).toNatClampNeg (m_read (x1 + 2).toNatClampNeg)) ((6 * (m_read (x1 + 1).toNatClampNeg)) + 2).toNatClampNeg (m_read (x1 + 3).toNatClampNeg)) m_note m_noted m_bytes m_text m_position m_tokenAt m_token m_digits m_number m_faultAt m_readMany m_readTold m_read m_fit m_shown m_image m_isKept m_row m_best m_againAt m_againStep m_orderMany m_orderLeast)) rfl dX7_doLine_191 (fun H locs hh => ?_)
  refine lv_aload_n hx hb dX7_doLine_192 rfl (lv_at hl 1 rfl) ?_
  refine g_get KX hh in_X7_doLine_X7 0 rfl rfl 2 (by decide) rfl (List.mem_of_getElem? (i := 4) rfl) dX7_doLine_193 ?_
  refine lv_bipush (v := 6) hx hb dX7_doLine_196 (by decide) ?_
  refine lv_iload_n hx hb dX7_doLine_198 rfl (lv_at hl 0 rfl) ?_
  refine lv_imul hx hb dX7_doLine_199 ?_
  refine lv_iconst (v := 3) hx hb dX7_doLine_200 (by decide) ?_
  refine lv_iadd hx hb dX7_doLine_201 ?_
  refine lv_aload_n hx hb dX7_doLine_202 rfl (lv_at hl 1 rfl) ?_
  refine g_get KX hh in_X7_doLine_X7 0 rfl rfl 15 (by decide) rfl (List.mem_of_getElem? (i := 1) rfl) dX7_doLine_203 ?_
  refine lv_iload_n hx hb dX7_doLine_206 rfl (lv_at hl 2 rfl) ?_
  refine g_iald KX hh 4 0 rfl rfl (vp_in_iff.mpr (by omega)) dX7_doLine_207 ?_
  refine lv_iconst (v := 2) hx hb dX7_doLine_208 (by decide) ?_
  have K_229 : ∀ (y0_1 : Int32) (_ : R = (F_X7_doLine_229 m_told m_isRead1 m_clock m_read x1) y0_1) (ls : Array Slot) (H : Heap) (locs : List Loc) (_ : HS D A s.heap (WM cI cZ cC cH o a_clock a_note a_text a_read a_fit a_shown a_image a_isKept a_row a_best (m_told ||| (1 <<< ((m_read (x1 + 1).toNatClampNeg) &&& 31))) (m_isRead1 &&& ((1 <<< ((m_read (x1 + 1).toNatClampNeg) &&& 31)) ^^^ (-1))) (upd (upd (upd m_clock (6 * (m_read (x1 + 1).toNatClampNeg)).toNatClampNeg (m_read x1.toNatClampNeg)) ((6 * (m_read (x1 + 1).toNatClampNeg)) + 1).toNatClampNeg (m_read (x1 + 2).toNatClampNeg)) ((6 * (m_read (x1 + 1).toNatClampNeg)) + 2).toNatClampNeg (m_read (x1 + 3).toNatClampNeg)) m_note m_noted m_bytes m_text m_position m_tokenAt m_token m_digits m_number m_faultAt m_readMany m_readTold m_read m_fit m_shown m_image m_isKept m_row m_best m_againAt m_againStep m_orderMany m_orderLeast) H locs) (_ : lv_has ls 3 [(2, .int (m_read (x1 + 1).toNatClampNeg)), (0, .ref o), (1, .int x1)]), W p l e { frames := 0, cells := 0, slots := 0, locals := 0 } s m args below meth c H locs 0 0 Q (F0 m 229 ls [.int y0_1, .int ((6 * (m_read (x1 + 1).toNatClampNeg)) + 3), .ref a_clock]) := by
    intro y0_1 hF ls H locs hh hl
    unfold F_X7_doLine_229 at hF
    refine g_iast KX hh 1 0 rfl rfl (ix6 3 (by omega) (by omega) (by decide)) (w' := (WM cI cZ cC cH o a_clock a_note a_text a_read a_fit a_shown a_image a_isKept a_row a_best (m_told ||| (1 <<< ((m_read (x1 + 1).toNatClampNeg) &&& 31))) (m_isRead1 &&& ((1 <<< ((m_read (x1 + 1).toNatClampNeg) &&& 31)) ^^^ (-1))) (upd (upd (upd (upd m_clock (6 * (m_read (x1 + 1).toNatClampNeg)).toNatClampNeg (m_read x1.toNatClampNeg)) ((6 * (m_read (x1 + 1).toNatClampNeg)) + 1).toNatClampNeg (m_read (x1 + 2).toNatClampNeg)) ((6 * (m_read (x1 + 1).toNatClampNeg)) + 2).toNatClampNeg (m_read (x1 + 3).toNatClampNeg)) ((6 * (m_read (x1 + 1).toNatClampNeg)) + 3).toNatClampNeg y0_1) m_note m_noted m_bytes m_text m_position m_tokenAt m_token m_digits m_number m_faultAt m_readMany m_readTold m_read m_fit m_shown m_image m_isKept m_row m_best m_againAt m_againStep m_orderMany m_orderLeast)) rfl dX7_doLine_229 (fun H locs hh => ?_)
    refine lv_aload_n hx hb dX7_doLine_230 rfl (lv_at hl 1 rfl) ?_
    refine g_get KX hh in_X7_doLine_X7 0 rfl rfl 2 (by decide) rfl (List.mem_of_getElem? (i := 4) rfl) dX7_doLine_231 ?_
    refine lv_bipush (v := 6) hx hb dX7_doLine_234 (by decide) ?_
    refine lv_iload_n hx hb dX7_doLine_236 rfl (lv_at hl 0 rfl) ?_
    refine lv_imul hx hb dX7_doLine_237 ?_
    refine lv_iconst (v := 4) hx hb dX7_doLine_238 (by decide) ?_
    refine lv_iadd hx hb dX7_doLine_239 ?_
    refine lv_aload_n hx hb dX7_doLine_240 rfl (lv_at hl 1 rfl) ?_
    refine g_get KX hh in_X7_doLine_X7 0 rfl rfl 15 (by decide) rfl (List.mem_of_getElem? (i := 1) rfl) dX7_doLine_241 ?_
    refine lv_iload_n hx hb dX7_doLine_244 rfl (lv_at hl 2 rfl) ?_
    refine g_iald KX hh 4 0 rfl rfl (vp_in_iff.mpr (by omega)) dX7_doLine_245 ?_
    refine lv_iconst (v := 2) hx hb dX7_doLine_246 (by decide) ?_
    refine lv_icmp_ne (tgt := 256) hx hb dX7_doLine_247 (by decide) (fun c_247 => ?_) (fun c_247 => ?_)
    · replace hF := hF.trans (if_neg c_247)
      refine lv_aload_n hx hb dX7_doLine_256 rfl (lv_at hl 1 rfl) ?_
      refine g_get KX hh in_X7_doLine_X7 0 rfl rfl 15 (by decide) rfl (List.mem_of_getElem? (i := 1) rfl) dX7_doLine_257 ?_
      refine lv_iload_n hx hb dX7_doLine_260 rfl (lv_at hl 2 rfl) ?_
      refine lv_iconst (v := 5) hx hb dX7_doLine_261 (by decide) ?_
      refine lv_iadd hx hb dX7_doLine_262 ?_
      refine g_iald KX hh 4 0 rfl rfl (vp_in_iff.mpr (by omega)) dX7_doLine_263 ?_
      refine lv_bipush (v := 120) hx hb dX7_doLine_264 (by decide) ?_
      refine lv_isub hx hb dX7_doLine_266 ?_
      refine g_iast KX hh 1 0 rfl rfl (ix6 4 (by omega) (by omega) (by decide)) (w' := (WM cI cZ cC cH o a_clock a_note a_text a_read a_fit a_shown a_image a_isKept a_row a_best (m_told ||| (1 <<< ((m_read (x1 + 1).toNatClampNeg) &&& 31))) (m_isRead1 &&& ((1 <<< ((m_read (x1 + 1).toNatClampNeg) &&& 31)) ^^^ (-1))) (upd (upd (upd (upd (upd m_clock (6 * (m_read (x1 + 1).toNatClampNeg)).toNatClampNeg (m_read x1.toNatClampNeg)) ((6 * (m_read (x1 + 1).toNatClampNeg)) + 1).toNatClampNeg (m_read (x1 + 2).toNatClampNeg)) ((6 * (m_read (x1 + 1).toNatClampNeg)) + 2).toNatClampNeg (m_read (x1 + 3).toNatClampNeg)) ((6 * (m_read (x1 + 1).toNatClampNeg)) + 3).toNatClampNeg y0_1) ((6 * (m_read (x1 + 1).toNatClampNeg)) + 4).toNatClampNeg ((m_read (x1 + 5).toNatClampNeg) - 120)) m_note m_noted m_bytes m_text m_position m_tokenAt m_token m_digits m_number m_faultAt m_readMany m_readTold m_read m_fit m_shown m_image m_isKept m_row m_best m_againAt m_againStep m_orderMany m_orderLeast)) rfl dX7_doLine_267 (fun H locs hh => ?_)
      exact RT _ _ _ _ _ _ hh (by rw [hF]) (Or.inr (Or.inr (Or.inl ⟨rfl, rfl, dX7_doLine_268, rfl⟩)))
    · replace hF := hF.trans (if_pos c_247)
      refine lv_sipush (v := (-1440)) hx hb dX7_doLine_250 (by decide) ?_
      refine lv_goto (tgt := 267) hx hb dX7_doLine_253 (by decide) ?_
      refine g_iast KX hh 1 0 rfl rfl (ix6 4 (by omega) (by omega) (by decide)) (w' := (WM cI cZ cC cH o a_clock a_note a_text a_read a_fit a_shown a_image a_isKept a_row a_best (m_told ||| (1 <<< ((m_read (x1 + 1).toNatClampNeg) &&& 31))) (m_isRead1 &&& ((1 <<< ((m_read (x1 + 1).toNatClampNeg) &&& 31)) ^^^ (-1))) (upd (upd (upd (upd (upd m_clock (6 * (m_read (x1 + 1).toNatClampNeg)).toNatClampNeg (m_read x1.toNatClampNeg)) ((6 * (m_read (x1 + 1).toNatClampNeg)) + 1).toNatClampNeg (m_read (x1 + 2).toNatClampNeg)) ((6 * (m_read (x1 + 1).toNatClampNeg)) + 2).toNatClampNeg (m_read (x1 + 3).toNatClampNeg)) ((6 * (m_read (x1 + 1).toNatClampNeg)) + 3).toNatClampNeg y0_1) ((6 * (m_read (x1 + 1).toNatClampNeg)) + 4).toNatClampNeg (-1440)) m_note m_noted m_bytes m_text m_position m_tokenAt m_token m_digits m_number m_faultAt m_readMany m_readTold m_read m_fit m_shown m_image m_isKept m_row m_best m_againAt m_againStep m_orderMany m_orderLeast)) rfl dX7_doLine_267 (fun H locs hh => ?_)
      exact RT _ _ _ _ _ _ hh (by rw [hF]) (Or.inr (Or.inr (Or.inl ⟨rfl, rfl, dX7_doLine_268, rfl⟩)))
  refine lv_icmp_ne (tgt := 218) hx hb dX7_doLine_209 (by decide) (fun c_209 => ?_) (fun c_209 => ?_)
  · replace hF := hF.trans (if_neg c_209)
    refine lv_aload_n hx hb dX7_doLine_218 rfl (lv_at hl 1 rfl) ?_
    refine g_get KX hh in_X7_doLine_X7 0 rfl rfl 15 (by decide) rfl (List.mem_of_getElem? (i := 1) rfl) dX7_doLine_219 ?_
    refine lv_iload_n hx hb dX7_doLine_222 rfl (lv_at hl 2 rfl) ?_
    refine lv_iconst (v := 4) hx hb dX7_doLine_223 (by decide) ?_
    refine lv_iadd hx hb dX7_doLine_224 ?_
    refine g_iald KX hh 4 0 rfl rfl (vp_in_iff.mpr (by omega)) dX7_doLine_225 ?_
    refine lv_bipush (v := 120) hx hb dX7_doLine_226 (by decide) ?_
    refine lv_isub hx hb dX7_doLine_228 ?_
    exact K_229 ((m_read (x1 + 4).toNatClampNeg) - 120)  hF _ _ _ hh (lv_sub hl [0, 1, 2] rfl)
  · replace hF := hF.trans (if_pos c_209)
    refine lv_sipush (v := (-1440)) hx hb dX7_doLine_212 (by decide) ?_
    refine lv_goto (tgt := 229) hx hb dX7_doLine_215 (by decide) ?_
    exact K_229 (-1440)  hF _ _ _ hh (lv_sub hl [0, 1, 2] rfl)
def F_X7_rest (x0 : Int32) (x1 : Int32) : Int32 := (if 0 ≤ (x0 - x0 / x1 * x1) then x0 - x0 / x1 * x1 else (x0 - x0 / x1 * x1) + x1)
set_option maxHeartbeats 2000000 in
set_option maxRecDepth 100000 in
theorem c_X7_rest (l : Launch) (D : va_G) (cI cZ cC cH : ClassId)  (x0 : Int32) (x1 : Int32) (hne : ¬ x1 = 0) : MC l D (TY cI cZ cC cH) yX7_rest wsX7_rest 0 0 [.int x0, .int x1] [] (some (.int (F_X7_rest x0 x1))) [] := by
  obtain ⟨R, hF⟩ : ∃ R, R = F_X7_rest x0 x1 := ⟨_, rfl⟩
  rw [← hF]
  refine MC.of (cc := cX7_rest) (maxL := 3) (ret := (some .int)) RX7 rfl (by decide +kernel) rfl (Nat.le_of_ble_eq_true rfl) ?_
  intro p e s m args below meth c A Q KX RT hh ls hl
  have z0 : (0 : Int32).toInt = 0 := rfl
  have z1 : (1 : Int32).toInt = 1 := rfl
  have zm : (-1 : Int32).toInt = -1 := rfl
  have hx := KX.1
  have hb := KX.2.1
  have hl : lv_has ls 3 [(0, .int x0), (1, .int x1)] := hl
  unfold F_X7_rest at hF
  refine lv_iload_n hx hb dX7_rest_0 rfl (lv_at hl 0 rfl) ?_
  refine lv_iload_n hx hb dX7_rest_1 rfl (lv_at hl 1 rfl) ?_
  refine lv_irem hx hb dX7_rest_2 (hne) ?_
  refine lv_istore_n (lv' := [(2, .int (x0 - x0 / x1 * x1)), (0, .int x0), (1, .int x1)]) hx hb dX7_rest_3 rfl hl (Nat.le_of_ble_eq_true rfl) rfl (fun ls hl => ?_)
  refine lv_iload_n hx hb dX7_rest_4 rfl (lv_at hl 0 rfl) ?_
  refine lv_if_ge (tgt := 14) hx hb dX7_rest_5 (by decide) (fun c_5 => ?_) (fun c_5 => ?_)
  · replace hF := hF.trans (if_pos c_5)
    have i_5 : 0 ≤ (x0 - x0 / x1 * x1).toInt := ti_le.mp c_5
    refine lv_iload_n hx hb dX7_rest_14 rfl (lv_at hl 0 rfl) ?_
    exact RT _ _ _ _ _ _ hh (rfl) (Or.inl ⟨_, rfl, by rw [hF], dX7_rest_15, Or.inl rfl⟩)
  · replace hF := hF.trans (if_neg c_5)
    have i_5 : (x0 - x0 / x1 * x1).toInt < 0 := ti_nle c_5
    refine lv_iload_n hx hb dX7_rest_8 rfl (lv_at hl 0 rfl) ?_
    refine lv_iload_n hx hb dX7_rest_9 rfl (lv_at hl 2 rfl) ?_
    refine lv_iadd hx hb dX7_rest_10 ?_
    refine lv_goto (tgt := 15) hx hb dX7_rest_11 (by decide) ?_
    exact RT _ _ _ _ _ _ hh (rfl) (Or.inl ⟨_, rfl, by rw [hF], dX7_rest_15, Or.inl rfl⟩)
def F_X7_down (x0 : Int32) (x1 : Int32) : Int32 := (x0 - (F_X7_rest x0 x1)) / x1
set_option maxHeartbeats 2000000 in
set_option maxRecDepth 100000 in
theorem c_X7_down (l : Launch) (D : va_G) (cI cZ cC cH : ClassId)  (x0 : Int32) (x1 : Int32) (hne : ¬ x1 = 0) : MC l D (TY cI cZ cC cH) yX7_down wsX7_down 1 22 [.int x0, .int x1] [] (some (.int (F_X7_down x0 x1))) [] := by
  obtain ⟨R, hF⟩ : ∃ R, R = F_X7_down x0 x1 := ⟨_, rfl⟩
  rw [← hF]
  refine MC.of (cc := cX7_down) (maxL := 2) (ret := (some .int)) RX7 rfl (by decide +kernel) rfl (Nat.le_of_ble_eq_true rfl) ?_
  intro p e s m args below meth c A Q KX RT hh ls hl
  have z0 : (0 : Int32).toInt = 0 := rfl
  have z1 : (1 : Int32).toInt = 1 := rfl
  have zm : (-1 : Int32).toInt = -1 := rfl
  have hx := KX.1
  have hb := KX.2.1
  have hl : lv_has ls 2 [(0, .int x0), (1, .int x1)] := hl
  unfold F_X7_down at hF
  refine lv_iload_n hx hb dX7_down_0 rfl (lv_at hl 0 rfl) ?_
  refine lv_iload_n hx hb dX7_down_1 rfl (lv_at hl 0 rfl) ?_
  refine lv_iload_n hx hb dX7_down_2 rfl (lv_at hl 1 rfl) ?_
  refine g_callS (As := [.int x0, .int x1]) (rest := [.int x0]) KX rfl ⟨Nat.le_of_ble_eq_true rfl, Nat.le_of_ble_eq_true rfl⟩ hh hl (c_X7_rest l D cI cZ cC cH  x0 x1 (by first | with_reducible assumption | omega | decide)) JN.no 2 gX7_down_X7_rest rfl (by decide +kernel) ⟨Nat.le_of_ble_eq_true rfl, Nat.le_of_ble_eq_true rfl⟩ rfl rfl (Nat.le_of_ble_eq_true rfl) dX7_down_3 (fun H locs hh => ?_)
  refine W.eq (g2 := F0 m 6 ls [.int (F_X7_rest x0 x1), .int x0]) rfl ?_
  refine lv_isub hx hb dX7_down_6 ?_
  refine lv_iload_n hx hb dX7_down_7 rfl (lv_at hl 1 rfl) ?_
  refine lv_idiv hx hb dX7_down_8 (hne) ?_
  exact RT _ _ _ _ _ _ hh (rfl) (Or.inl ⟨_, rfl, by rw [hF], dX7_down_9, Or.inl rfl⟩)
def F_X7_hand (m_clock : Nat → Int32) (x1 : Int32) (x2 : Int32) (x3 : Int32) : Int32 := (if (m_clock (6 * x1).toNatClampNeg) = 1 then (1440 * (m_clock ((6 * x1) + 2).toNatClampNeg)) + (-((x2 - (m_clock ((6 * x1) + 1).toNatClampNeg)) * (1440 + x3))) else (1440 * (m_clock ((6 * x1) + 2).toNatClampNeg)) + ((x2 - (m_clock ((6 * x1) + 1).toNatClampNeg)) * (1440 + x3)))
theorem in_X7_hand_X7 : ∀ x ∈ u_ws RX7 TX7 26, x ∈ wsX7_hand := by decide +kernel
set_option maxHeartbeats 2000000 in
set_option maxRecDepth 100000 in
theorem c_X7_hand (l : Launch) (D : va_G) (cI cZ cC cH : ClassId) (o a_clock a_note a_text a_read a_fit a_shown a_image a_isKept a_row a_best : Nat) (m_told : Int32) (m_isRead1 : Int32) (m_clock : Nat → Int32) (m_note : Nat → Int32) (m_noted : Int32) (m_bytes : Int32) (m_text : Nat → Int32) (m_position : Int32) (m_tokenAt : Int32) (m_token : Int64) (m_digits : Int32) (m_number : Int32) (m_faultAt : Int32) (m_readMany : Int32) (m_readTold : Int32) (m_read : Nat → Int32) (m_fit : Nat → Int32) (m_shown : Nat → Int32) (m_image : Nat → Int32) (m_isKept : Nat → Int32) (m_row : Nat → Int32) (m_best : Nat → Int32) (m_againAt : Int32) (m_againStep : Int32) (m_orderMany : Int32) (m_orderLeast : Int32) (x1 : Int32) (x2 : Int32) (x3 : Int32) (hk0 : 0 ≤ x1.toInt) (hk1 : x1.toInt < 8) : MC l D (TY cI cZ cC cH) yX7_hand wsX7_hand 0 0 [.ref o, .int x1, .int x2, .int x3] (WM cI cZ cC cH o a_clock a_note a_text a_read a_fit a_shown a_image a_isKept a_row a_best m_told m_isRead1 m_clock m_note m_noted m_bytes m_text m_position m_tokenAt m_token m_digits m_number m_faultAt m_readMany m_readTold m_read m_fit m_shown m_image m_isKept m_row m_best m_againAt m_againStep m_orderMany m_orderLeast) (some (.int (F_X7_hand m_clock x1 x2 x3))) (WM cI cZ cC cH o a_clock a_note a_text a_read a_fit a_shown a_image a_isKept a_row a_best m_told m_isRead1 m_clock m_note m_noted m_bytes m_text m_position m_tokenAt m_token m_digits m_number m_faultAt m_readMany m_readTold m_read m_fit m_shown m_image m_isKept m_row m_best m_againAt m_againStep m_orderMany m_orderLeast) := by
  obtain ⟨R, hF⟩ : ∃ R, R = F_X7_hand m_clock x1 x2 x3 := ⟨_, rfl⟩
  rw [← hF]
  refine MC.of (cc := cX7_hand) (maxL := 5) (ret := (some .int)) RX7 rfl (by decide +kernel) rfl (Nat.le_of_ble_eq_true rfl) ?_
  intro p e s m args below meth c A Q KX RT hh ls hl
  have z0 : (0 : Int32).toInt = 0 := rfl
  have z1 : (1 : Int32).toInt = 1 := rfl
  have zm : (-1 : Int32).toInt = -1 := rfl
  have hx := KX.1
  have hb := KX.2.1
  have hl : lv_has ls 5 [(0, .ref o), (1, .int x1), (2, .int x2), (3, .int x3)] := hl
  unfold F_X7_hand at hF
  refine lv_iload_n hx hb dX7_hand_0 rfl (lv_at hl 2 rfl) ?_
  refine lv_aload_n hx hb dX7_hand_1 rfl (lv_at hl 0 rfl) ?_
  refine g_get KX hh in_X7_hand_X7 0 rfl rfl 2 (by decide) rfl (List.mem_of_getElem? (i := 1) rfl) dX7_hand_2 ?_
  refine lv_bipush (v := 6) hx hb dX7_hand_5 (by decide) ?_
  refine lv_iload_n hx hb dX7_hand_7 rfl (lv_at hl 1 rfl) ?_
  refine lv_imul hx hb dX7_hand_8 ?_
  refine lv_iconst (v := 1) hx hb dX7_hand_9 (by decide) ?_
  refine lv_iadd hx hb dX7_hand_10 ?_
  refine g_iald KX hh 1 0 rfl rfl (ix6 1 (by omega) (by omega) (by decide)) dX7_hand_11 ?_
  refine lv_isub hx hb dX7_hand_12 ?_
  refine lv_sipush (v := 1440) hx hb dX7_hand_13 (by decide) ?_
  refine lv_iload_n hx hb dX7_hand_16 rfl (lv_at hl 3 rfl) ?_
  refine lv_iadd hx hb dX7_hand_17 ?_
  refine lv_imul hx hb dX7_hand_18 ?_
  refine lv_istore (lv' := [(4, .int ((x2 - (m_clock ((6 * x1) + 1).toNatClampNeg)) * (1440 + x3))), (0, .ref o), (1, .int x1), (2, .int x2), (3, .int x3)]) hx hb dX7_hand_19 hl (Nat.le_of_ble_eq_true rfl) rfl (fun ls hl => ?_)
  refine lv_sipush (v := 1440) hx hb dX7_hand_21 (by decide) ?_
  refine lv_aload_n hx hb dX7_hand_24 rfl (lv_at hl 1 rfl) ?_
  refine g_get KX hh in_X7_hand_X7 0 rfl rfl 2 (by decide) rfl (List.mem_of_getElem? (i := 1) rfl) dX7_hand_25 ?_
  refine lv_bipush (v := 6) hx hb dX7_hand_28 (by decide) ?_
  refine lv_iload_n hx hb dX7_hand_30 rfl (lv_at hl 2 rfl) ?_
  refine lv_imul hx hb dX7_hand_31 ?_
  refine lv_iconst (v := 2) hx hb dX7_hand_32 (by decide) ?_
  refine lv_iadd hx hb dX7_hand_33 ?_
  refine g_iald KX hh 1 0 rfl rfl (ix6 2 (by omega) (by omega) (by decide)) dX7_hand_34 ?_
  refine lv_imul hx hb dX7_hand_35 ?_
  refine lv_aload_n hx hb dX7_hand_36 rfl (lv_at hl 1 rfl) ?_
  refine g_get KX hh in_X7_hand_X7 0 rfl rfl 2 (by decide) rfl (List.mem_of_getElem? (i := 1) rfl) dX7_hand_37 ?_
  refine lv_bipush (v := 6) hx hb dX7_hand_40 (by decide) ?_
  refine lv_iload_n hx hb dX7_hand_42 rfl (lv_at hl 2 rfl) ?_
  refine lv_imul hx hb dX7_hand_43 ?_
  refine g_iald KX hh 1 0 rfl rfl (ix60 (by omega) (by omega)) dX7_hand_44 ?_
  refine lv_iconst (v := 1) hx hb dX7_hand_45 (by decide) ?_
  refine lv_icmp_ne (tgt := 55) hx hb dX7_hand_46 (by decide) (fun c_46 => ?_) (fun c_46 => ?_)
  · replace hF := hF.trans (if_neg c_46)
    refine lv_iload hx hb dX7_hand_55 (lv_at hl 0 rfl) ?_
    refine lv_iadd hx hb dX7_hand_57 ?_
    exact RT _ _ _ _ _ _ hh (rfl) (Or.inl ⟨_, rfl, by rw [hF], dX7_hand_58, Or.inl rfl⟩)
  · replace hF := hF.trans (if_pos c_46)
    refine lv_iload hx hb dX7_hand_49 (lv_at hl 0 rfl) ?_
    refine lv_ineg hx hb dX7_hand_51 ?_
    refine lv_goto (tgt := 57) hx hb dX7_hand_52 (by decide) ?_
    refine lv_iadd hx hb dX7_hand_57 ?_
    exact RT _ _ _ _ _ _ hh (rfl) (Or.inl ⟨_, rfl, by rw [hF], dX7_hand_58, Or.inl rfl⟩)
def F_X7_isMinute (x0 : Int32) : Int32 := F_X7_in x0 0 4319
set_option maxHeartbeats 2000000 in
set_option maxRecDepth 100000 in
theorem c_X7_isMinute (l : Launch) (D : va_G) (cI cZ cC cH : ClassId)  (x0 : Int32)  : MC l D (TY cI cZ cC cH) yX7_isMinute wsX7_isMinute 1 22 [.int x0] [] (some (.int (F_X7_isMinute x0))) [] := by
  obtain ⟨R, hF⟩ : ∃ R, R = F_X7_isMinute x0 := ⟨_, rfl⟩
  rw [← hF]
  refine MC.of (cc := cX7_isMinute) (maxL := 1) (ret := (some .boolean)) RX7 rfl (by decide +kernel) rfl (Nat.le_of_ble_eq_true rfl) ?_
  intro p e s m args below meth c A Q KX RT hh ls hl
  have z0 : (0 : Int32).toInt = 0 := rfl
  have z1 : (1 : Int32).toInt = 1 := rfl
  have zm : (-1 : Int32).toInt = -1 := rfl
  have hx := KX.1
  have hb := KX.2.1
  have hl : lv_has ls 1 [(0, .int x0)] := hl
  unfold F_X7_isMinute at hF
  refine lv_iload_n hx hb dX7_isMinute_0 rfl (lv_at hl 0 rfl) ?_
  refine lv_iconst (v := 0) hx hb dX7_isMinute_1 (by decide) ?_
  refine lv_sipush (v := 4319) hx hb dX7_isMinute_2 (by decide) ?_
  refine g_callS (As := [.int x0, .int 0, .int 4319]) (rest := []) KX rfl ⟨Nat.le_of_ble_eq_true rfl, Nat.le_of_ble_eq_true rfl⟩ hh hl (c_X7_in l D cI cZ cC cH  x0 0 4319 ) JN.no 3 gX7_isMinute_X7_in rfl (by decide +kernel) ⟨Nat.le_of_ble_eq_true rfl, Nat.le_of_ble_eq_true rfl⟩ rfl rfl (Nat.le_of_ble_eq_true rfl) dX7_isMinute_5 (fun H locs hh => ?_)
  refine W.eq (g2 := F0 m 8 ls [.int (F_X7_in x0 0 4319)]) rfl ?_
  exact RT _ _ _ _ _ _ hh (rfl) (Or.inl ⟨_, rfl, by rw [hF], dX7_isMinute_8, Or.inr (Or.inl ⟨rfl, (by first | exact z_X7_in _ _ _)⟩)⟩)
theorem z_X7_isMinute (x0 : Int32) : (F_X7_isMinute x0) = 0 ∨ (F_X7_isMinute x0) = 1 := by
  unfold F_X7_isMinute
  exact z_X7_in _ _ _
theorem X7_isMinute_in {t : Int32} (h : ¬ F_X7_isMinute t = 0) : 0 ≤ t.toInt ∧ t.toInt < 4320 := by
  unfold F_X7_isMinute at h
  obtain ⟨a, b⟩ : (0 : Int) ≤ t.toInt ∧ t.toInt ≤ 4319 := X7_in_in h
  omega
theorem ix6v {k c : Int32} (h0 : 0 ≤ k.toInt) (h1 : k.toInt < 8) (g0 : 0 ≤ c.toInt) (g1 : c.toInt < 6) : vp_in (6 * k + c) 48 := by
  have e1 := ti_mulc k 6 6 rfl (by omega) (by omega)
  refine vp_in_iff.mpr ?_
  rw [ti_add (by omega) (by omega), e1]
  omega
def F_X7_clock_29 (m_isRead1 : Int32) (m_clock : Nat → Int32) (x1 : Int32) (x2 : Int32) (y0_1 : Int32) : Int32 := (if x2 = 0 then m_clock ((6 * x1) + x2).toNatClampNeg else if x2 = 1 then (if y0_1 = 0 then m_clock ((6 * x1) + 1).toNatClampNeg else (-1)) else if x2 = 2 then m_clock ((6 * x1) + x2).toNatClampNeg else if x2 = 3 then (if y0_1 = 0 then (m_clock ((6 * x1) + x2).toNatClampNeg) + 120 else (-1)) else if x2 = 4 then (if y0_1 = 0 then (m_clock ((6 * x1) + x2).toNatClampNeg) + 120 else (-1)) else if x2 = 5 then (if (F_X7_has m_isRead1 x1) = 0 then (-1) else m_clock ((6 * x1) + 5).toNatClampNeg) else (-3))
def F_X7_clock (m_told : Int32) (m_isRead1 : Int32) (m_clock : Nat → Int32) (x1 : Int32) (x2 : Int32) : Int32 := (if (F_X7_isClock m_told x1) = 0 then (-2) else (if (m_clock (6 * x1).toNatClampNeg) = 2 then (F_X7_clock_29 m_isRead1 m_clock x1 x2 1) else (F_X7_clock_29 m_isRead1 m_clock x1 x2 0)))
theorem in_X7_clock_X7 : ∀ x ∈ u_ws RX7 TX7 26, x ∈ wsX7_clock := by decide +kernel
set_option maxHeartbeats 2000000 in
set_option maxRecDepth 100000 in
theorem c_X7_clock (l : Launch) (D : va_G) (cI cZ cC cH : ClassId) (o a_clock a_note a_text a_read a_fit a_shown a_image a_isKept a_row a_best : Nat) (m_told : Int32) (m_isRead1 : Int32) (m_clock : Nat → Int32) (m_note : Nat → Int32) (m_noted : Int32) (m_bytes : Int32) (m_text : Nat → Int32) (m_position : Int32) (m_tokenAt : Int32) (m_token : Int64) (m_digits : Int32) (m_number : Int32) (m_faultAt : Int32) (m_readMany : Int32) (m_readTold : Int32) (m_read : Nat → Int32) (m_fit : Nat → Int32) (m_shown : Nat → Int32) (m_image : Nat → Int32) (m_isKept : Nat → Int32) (m_row : Nat → Int32) (m_best : Nat → Int32) (m_againAt : Int32) (m_againStep : Int32) (m_orderMany : Int32) (m_orderLeast : Int32) (x1 : Int32) (x2 : Int32)  : MC l D (TY cI cZ cC cH) yX7_clock wsX7_clock 2 43 [.ref o, .int x1, .int x2] (WM cI cZ cC cH o a_clock a_note a_text a_read a_fit a_shown a_image a_isKept a_row a_best m_told m_isRead1 m_clock m_note m_noted m_bytes m_text m_position m_tokenAt m_token m_digits m_number m_faultAt m_readMany m_readTold m_read m_fit m_shown m_image m_isKept m_row m_best m_againAt m_againStep m_orderMany m_orderLeast) (some (.int (F_X7_clock m_told m_isRead1 m_clock x1 x2))) (WM cI cZ cC cH o a_clock a_note a_text a_read a_fit a_shown a_image a_isKept a_row a_best m_told m_isRead1 m_clock m_note m_noted m_bytes m_text m_position m_tokenAt m_token m_digits m_number m_faultAt m_readMany m_readTold m_read m_fit m_shown m_image m_isKept m_row m_best m_againAt m_againStep m_orderMany m_orderLeast) := by
  obtain ⟨R, hF⟩ : ∃ R, R = F_X7_clock m_told m_isRead1 m_clock x1 x2 := ⟨_, rfl⟩
  rw [← hF]
  refine MC.of (cc := cX7_clock) (maxL := 4) (ret := (some .int)) RX7 rfl (by decide +kernel) rfl (Nat.le_of_ble_eq_true rfl) ?_
  intro p e s m args below meth c A Q KX RT hh ls hl
  have z0 : (0 : Int32).toInt = 0 := rfl
  have z1 : (1 : Int32).toInt = 1 := rfl
  have zm : (-1 : Int32).toInt = -1 := rfl
  have hx := KX.1
  have hb := KX.2.1
  have hl : lv_has ls 4 [(0, .ref o), (1, .int x1), (2, .int x2)] := hl
  unfold F_X7_clock at hF
  refine lv_aload_n hx hb dX7_clock_0 rfl (lv_at hl 0 rfl) ?_
  refine lv_iload_n hx hb dX7_clock_1 rfl (lv_at hl 1 rfl) ?_
  refine g_callV (As := [.int x1]) (rest := []) KX rfl ⟨Nat.le_of_ble_eq_true rfl, Nat.le_of_ble_eq_true rfl⟩ hh hl (c_X7_isClock l D cI cZ cC cH o a_clock a_note a_text a_read a_fit a_shown a_image a_isKept a_row a_best m_told m_isRead1 m_clock m_note m_noted m_bytes m_text m_position m_tokenAt m_token m_digits m_number m_faultAt m_readMany m_readTold m_read m_fit m_shown m_image m_isKept m_row m_best m_againAt m_againStep m_orderMany m_orderLeast x1 ) JN.all 1 gX7_clock_X7_isClock rfl (by decide +kernel) ⟨Nat.le_of_ble_eq_true rfl, Nat.le_of_ble_eq_true rfl⟩ 0 7 rfl rfl rfl rfl rfl (Nat.le_of_ble_eq_true rfl) dX7_clock_2 (fun H locs hh => ?_)
  refine W.eq (g2 := F0 m 5 ls [.int (F_X7_isClock m_told x1)]) rfl ?_
  refine lv_if_ne (tgt := 11) hx hb dX7_clock_5 (by decide) (fun c_5 => ?_) (fun c_5 => ?_)
  · replace hF := hF.trans (if_neg c_5)
    obtain ⟨k0_5, k1_5⟩ := X7_isClock_in c_5
    refine lv_aload_n hx hb dX7_clock_11 rfl (lv_at hl 0 rfl) ?_
    refine g_get KX hh in_X7_clock_X7 0 rfl rfl 2 (by decide) rfl (List.mem_of_getElem? (i := 1) rfl) dX7_clock_12 ?_
    refine lv_bipush (v := 6) hx hb dX7_clock_15 (by decide) ?_
    refine lv_iload_n hx hb dX7_clock_17 rfl (lv_at hl 1 rfl) ?_
    refine lv_imul hx hb dX7_clock_18 ?_
    refine g_iald KX hh 1 0 rfl rfl (ix60 (by omega) (by omega)) dX7_clock_19 ?_
    refine lv_iconst (v := 2) hx hb dX7_clock_20 (by decide) ?_
    have K_29 : ∀ (y0_1 : Int32) (_ : R = (F_X7_clock_29 m_isRead1 m_clock x1 x2) y0_1) (ls : Array Slot) (H : Heap) (locs : List Loc) (_ : HS D A s.heap (WM cI cZ cC cH o a_clock a_note a_text a_read a_fit a_shown a_image a_isKept a_row a_best m_told m_isRead1 m_clock m_note m_noted m_bytes m_text m_position m_tokenAt m_token m_digits m_number m_faultAt m_readMany m_readTold m_read m_fit m_shown m_image m_isKept m_row m_best m_againAt m_againStep m_orderMany m_orderLeast) H locs) (_ : lv_has ls 4 [(0, .ref o), (1, .int x1), (2, .int x2)]), W p l e { frames := 2, cells := 0, slots := 0, locals := 43 } s m args below meth c H locs 0 0 Q (F0 m 29 ls [.int y0_1]) := by
      intro y0_1 hF ls H locs hh hl
      unfold F_X7_clock_29 at hF
      refine lv_istore_n (lv' := [(3, .int y0_1), (0, .ref o), (1, .int x1), (2, .int x2)]) hx hb dX7_clock_29 rfl hl (Nat.le_of_ble_eq_true rfl) rfl (fun ls hl => ?_)
      refine lv_iload_n hx hb dX7_clock_30 rfl (lv_at hl 3 rfl) ?_
      by_cases c_31_0 : x2 = 0
      · replace hF := hF.trans (if_pos c_31_0)
        have i_31_0 : x2.toInt = 0 := congrArg Int32.toInt c_31_0
        refine W.eq (g2 := F0 m 31 ls (.int 0 :: [])) (by rw [c_31_0]) ?_
        refine lv_tableIn (tgt := 68) hx hb dX7_clock_31 (by decide) (by decide) rfl (by decide) ?_
        refine lv_aload_n hx hb dX7_clock_68 rfl (lv_at hl 1 rfl) ?_
        refine g_get KX hh in_X7_clock_X7 0 rfl rfl 2 (by decide) rfl (List.mem_of_getElem? (i := 1) rfl) dX7_clock_69 ?_
        refine lv_bipush (v := 6) hx hb dX7_clock_72 (by decide) ?_
        refine lv_iload_n hx hb dX7_clock_74 rfl (lv_at hl 2 rfl) ?_
        refine lv_imul hx hb dX7_clock_75 ?_
        refine lv_iload_n hx hb dX7_clock_76 rfl (lv_at hl 3 rfl) ?_
        refine lv_iadd hx hb dX7_clock_77 ?_
        refine g_iald KX hh 1 0 rfl rfl (ix6v (by omega) (by omega) (by omega) (by omega)) dX7_clock_78 ?_
        exact RT _ _ _ _ _ _ hh (rfl) (Or.inl ⟨_, rfl, by rw [hF], dX7_clock_79, Or.inl rfl⟩)
      replace hF := hF.trans (if_neg c_31_0)
      by_cases c_31_1 : x2 = 1
      · replace hF := hF.trans (if_pos c_31_1)
        have i_31_1 : x2.toInt = 1 := congrArg Int32.toInt c_31_1
        refine W.eq (g2 := F0 m 31 ls (.int 1 :: [])) (by rw [c_31_1]) ?_
        refine lv_tableIn (tgt := 80) hx hb dX7_clock_31 (by decide) (by decide) rfl (by decide) ?_
        refine lv_iload_n hx hb dX7_clock_80 rfl (lv_at hl 0 rfl) ?_
        refine lv_if_eq (tgt := 88) hx hb dX7_clock_81 (by decide) (fun c_81 => ?_) (fun c_81 => ?_)
        · replace hF := hF.trans (if_pos c_81)
          have i_81 : y0_1.toInt = 0 := congrArg Int32.toInt c_81
          refine lv_aload_n hx hb dX7_clock_88 rfl (lv_at hl 1 rfl) ?_
          refine g_get KX hh in_X7_clock_X7 0 rfl rfl 2 (by decide) rfl (List.mem_of_getElem? (i := 1) rfl) dX7_clock_89 ?_
          refine lv_bipush (v := 6) hx hb dX7_clock_92 (by decide) ?_
          refine lv_iload_n hx hb dX7_clock_94 rfl (lv_at hl 2 rfl) ?_
          refine lv_imul hx hb dX7_clock_95 ?_
          refine lv_iconst (v := 1) hx hb dX7_clock_96 (by decide) ?_
          refine lv_iadd hx hb dX7_clock_97 ?_
          refine g_iald KX hh 1 0 rfl rfl (ix6 1 (by omega) (by omega) (by decide)) dX7_clock_98 ?_
          exact RT _ _ _ _ _ _ hh (rfl) (Or.inl ⟨_, rfl, by rw [hF], dX7_clock_99, Or.inl rfl⟩)
        · replace hF := hF.trans (if_neg c_81)
          have i_81 : ¬ y0_1.toInt = 0 := ti_ne c_81
          refine lv_iconst (v := (-1)) hx hb dX7_clock_84 (by decide) ?_
          refine lv_goto (tgt := 99) hx hb dX7_clock_85 (by decide) ?_
          exact RT _ _ _ _ _ _ hh (rfl) (Or.inl ⟨_, rfl, by rw [hF], dX7_clock_99, Or.inl rfl⟩)
      replace hF := hF.trans (if_neg c_31_1)
      by_cases c_31_2 : x2 = 2
      · replace hF := hF.trans (if_pos c_31_2)
        have i_31_2 : x2.toInt = 2 := congrArg Int32.toInt c_31_2
        refine W.eq (g2 := F0 m 31 ls (.int 2 :: [])) (by rw [c_31_2]) ?_
        refine lv_tableIn (tgt := 68) hx hb dX7_clock_31 (by decide) (by decide) rfl (by decide) ?_
        refine lv_aload_n hx hb dX7_clock_68 rfl (lv_at hl 1 rfl) ?_
        refine g_get KX hh in_X7_clock_X7 0 rfl rfl 2 (by decide) rfl (List.mem_of_getElem? (i := 1) rfl) dX7_clock_69 ?_
        refine lv_bipush (v := 6) hx hb dX7_clock_72 (by decide) ?_
        refine lv_iload_n hx hb dX7_clock_74 rfl (lv_at hl 2 rfl) ?_
        refine lv_imul hx hb dX7_clock_75 ?_
        refine lv_iload_n hx hb dX7_clock_76 rfl (lv_at hl 3 rfl) ?_
        refine lv_iadd hx hb dX7_clock_77 ?_
        refine g_iald KX hh 1 0 rfl rfl (ix6v (by omega) (by omega) (by omega) (by omega)) dX7_clock_78 ?_
        exact RT _ _ _ _ _ _ hh (rfl) (Or.inl ⟨_, rfl, by rw [hF], dX7_clock_79, Or.inl rfl⟩)
      replace hF := hF.trans (if_neg c_31_2)
      by_cases c_31_3 : x2 = 3
      · replace hF := hF.trans (if_pos c_31_3)
        have i_31_3 : x2.toInt = 3 := congrArg Int32.toInt c_31_3
        refine W.eq (g2 := F0 m 31 ls (.int 3 :: [])) (by rw [c_31_3]) ?_
        refine lv_tableIn (tgt := 100) hx hb dX7_clock_31 (by decide) (by decide) rfl (by decide) ?_
        refine lv_iload_n hx hb dX7_clock_100 rfl (lv_at hl 0 rfl) ?_
        refine lv_if_eq (tgt := 108) hx hb dX7_clock_101 (by decide) (fun c_101 => ?_) (fun c_101 => ?_)
        · replace hF := hF.trans (if_pos c_101)
          have i_101 : y0_1.toInt = 0 := congrArg Int32.toInt c_101
          refine lv_aload_n hx hb dX7_clock_108 rfl (lv_at hl 1 rfl) ?_
          refine g_get KX hh in_X7_clock_X7 0 rfl rfl 2 (by decide) rfl (List.mem_of_getElem? (i := 1) rfl) dX7_clock_109 ?_
          refine lv_bipush (v := 6) hx hb dX7_clock_112 (by decide) ?_
          refine lv_iload_n hx hb dX7_clock_114 rfl (lv_at hl 2 rfl) ?_
          refine lv_imul hx hb dX7_clock_115 ?_
          refine lv_iload_n hx hb dX7_clock_116 rfl (lv_at hl 3 rfl) ?_
          refine lv_iadd hx hb dX7_clock_117 ?_
          refine g_iald KX hh 1 0 rfl rfl (ix6v (by omega) (by omega) (by omega) (by omega)) dX7_clock_118 ?_
          refine lv_bipush (v := 120) hx hb dX7_clock_119 (by decide) ?_
          refine lv_iadd hx hb dX7_clock_121 ?_
          exact RT _ _ _ _ _ _ hh (rfl) (Or.inl ⟨_, rfl, by rw [hF], dX7_clock_122, Or.inl rfl⟩)
        · replace hF := hF.trans (if_neg c_101)
          have i_101 : ¬ y0_1.toInt = 0 := ti_ne c_101
          refine lv_iconst (v := (-1)) hx hb dX7_clock_104 (by decide) ?_
          refine lv_goto (tgt := 122) hx hb dX7_clock_105 (by decide) ?_
          exact RT _ _ _ _ _ _ hh (rfl) (Or.inl ⟨_, rfl, by rw [hF], dX7_clock_122, Or.inl rfl⟩)
      replace hF := hF.trans (if_neg c_31_3)
      by_cases c_31_4 : x2 = 4
      · replace hF := hF.trans (if_pos c_31_4)
        have i_31_4 : x2.toInt = 4 := congrArg Int32.toInt c_31_4
        refine W.eq (g2 := F0 m 31 ls (.int 4 :: [])) (by rw [c_31_4]) ?_
        refine lv_tableIn (tgt := 100) hx hb dX7_clock_31 (by decide) (by decide) rfl (by decide) ?_
        refine lv_iload_n hx hb dX7_clock_100 rfl (lv_at hl 0 rfl) ?_
        refine lv_if_eq (tgt := 108) hx hb dX7_clock_101 (by decide) (fun c_101 => ?_) (fun c_101 => ?_)
        · replace hF := hF.trans (if_pos c_101)
          have i_101 : y0_1.toInt = 0 := congrArg Int32.toInt c_101
          refine lv_aload_n hx hb dX7_clock_108 rfl (lv_at hl 1 rfl) ?_
          refine g_get KX hh in_X7_clock_X7 0 rfl rfl 2 (by decide) rfl (List.mem_of_getElem? (i := 1) rfl) dX7_clock_109 ?_
          refine lv_bipush (v := 6) hx hb dX7_clock_112 (by decide) ?_
          refine lv_iload_n hx hb dX7_clock_114 rfl (lv_at hl 2 rfl) ?_
          refine lv_imul hx hb dX7_clock_115 ?_
          refine lv_iload_n hx hb dX7_clock_116 rfl (lv_at hl 3 rfl) ?_
          refine lv_iadd hx hb dX7_clock_117 ?_
          refine g_iald KX hh 1 0 rfl rfl (ix6v (by omega) (by omega) (by omega) (by omega)) dX7_clock_118 ?_
          refine lv_bipush (v := 120) hx hb dX7_clock_119 (by decide) ?_
          refine lv_iadd hx hb dX7_clock_121 ?_
          exact RT _ _ _ _ _ _ hh (rfl) (Or.inl ⟨_, rfl, by rw [hF], dX7_clock_122, Or.inl rfl⟩)
        · replace hF := hF.trans (if_neg c_101)
          have i_101 : ¬ y0_1.toInt = 0 := ti_ne c_101
          refine lv_iconst (v := (-1)) hx hb dX7_clock_104 (by decide) ?_
          refine lv_goto (tgt := 122) hx hb dX7_clock_105 (by decide) ?_
          exact RT _ _ _ _ _ _ hh (rfl) (Or.inl ⟨_, rfl, by rw [hF], dX7_clock_122, Or.inl rfl⟩)
      replace hF := hF.trans (if_neg c_31_4)
      by_cases c_31_5 : x2 = 5
      · replace hF := hF.trans (if_pos c_31_5)
        have i_31_5 : x2.toInt = 5 := congrArg Int32.toInt c_31_5
        refine W.eq (g2 := F0 m 31 ls (.int 5 :: [])) (by rw [c_31_5]) ?_
        refine lv_tableIn (tgt := 123) hx hb dX7_clock_31 (by decide) (by decide) rfl (by decide) ?_
        refine lv_aload_n hx hb dX7_clock_123 rfl (lv_at hl 1 rfl) ?_
        refine g_get KX hh in_X7_clock_X7 0 rfl rfl 1 (by decide) rfl (List.mem_of_getElem? (i := 2) rfl) dX7_clock_124 ?_
        refine lv_iload_n hx hb dX7_clock_127 rfl (lv_at hl 2 rfl) ?_
        refine g_callS (As := [.int m_isRead1, .int x1]) (rest := []) KX rfl ⟨Nat.le_of_ble_eq_true rfl, Nat.le_of_ble_eq_true rfl⟩ hh hl (c_X7_has l D cI cZ cC cH  m_isRead1 x1 ) JN.no 2 gX7_clock_X7_has rfl (by decide +kernel) ⟨Nat.le_of_ble_eq_true rfl, Nat.le_of_ble_eq_true rfl⟩ rfl rfl (Nat.le_of_ble_eq_true rfl) dX7_clock_128 (fun H locs hh => ?_)
        refine W.eq (g2 := F0 m 131 ls [.int (F_X7_has m_isRead1 x1)]) rfl ?_
        refine lv_if_eq (tgt := 148) hx hb dX7_clock_131 (by decide) (fun c_131 => ?_) (fun c_131 => ?_)
        · replace hF := hF.trans (if_pos c_131)
          refine lv_iconst (v := (-1)) hx hb dX7_clock_148 (by decide) ?_
          exact RT _ _ _ _ _ _ hh (rfl) (Or.inl ⟨_, rfl, by rw [hF], dX7_clock_149, Or.inl rfl⟩)
        · replace hF := hF.trans (if_neg c_131)
          refine lv_aload_n hx hb dX7_clock_134 rfl (lv_at hl 1 rfl) ?_
          refine g_get KX hh in_X7_clock_X7 0 rfl rfl 2 (by decide) rfl (List.mem_of_getElem? (i := 1) rfl) dX7_clock_135 ?_
          refine lv_bipush (v := 6) hx hb dX7_clock_138 (by decide) ?_
          refine lv_iload_n hx hb dX7_clock_140 rfl (lv_at hl 2 rfl) ?_
          refine lv_imul hx hb dX7_clock_141 ?_
          refine lv_iconst (v := 5) hx hb dX7_clock_142 (by decide) ?_
          refine lv_iadd hx hb dX7_clock_143 ?_
          refine g_iald KX hh 1 0 rfl rfl (ix6 5 (by omega) (by omega) (by decide)) dX7_clock_144 ?_
          refine lv_goto (tgt := 149) hx hb dX7_clock_145 (by decide) ?_
          exact RT _ _ _ _ _ _ hh (rfl) (Or.inl ⟨_, rfl, by rw [hF], dX7_clock_149, Or.inl rfl⟩)
      replace hF := hF.trans (if_neg c_31_5)
      refine lv_tableOut (tgt := 150) hx hb dX7_clock_31 (by have h1 := sw_ne (y := 0) (k := 0) c_31_0 rfl; have h2 := sw_ne (y := 1) (k := 1) c_31_1 rfl; have h3 := sw_ne (y := 2) (k := 2) c_31_2 rfl; have h4 := sw_ne (y := 3) (k := 3) c_31_3 rfl; have h5 := sw_ne (y := 4) (k := 4) c_31_4 rfl; have h6 := sw_ne (y := 5) (k := 5) c_31_5 rfl; omega) (by decide) ?_
      refine lv_bipush (v := (-3)) hx hb dX7_clock_150 (by decide) ?_
      exact RT _ _ _ _ _ _ hh (rfl) (Or.inl ⟨_, rfl, by rw [hF], dX7_clock_152, Or.inl rfl⟩)
    refine lv_icmp_ne (tgt := 28) hx hb dX7_clock_21 (by decide) (fun c_21 => ?_) (fun c_21 => ?_)
    · replace hF := hF.trans (if_neg c_21)
      refine lv_iconst (v := 0) hx hb dX7_clock_28 (by decide) ?_
      exact K_29 0  hF _ _ _ hh (lv_sub hl [0, 1, 2] rfl)
    · replace hF := hF.trans (if_pos c_21)
      refine lv_iconst (v := 1) hx hb dX7_clock_24 (by decide) ?_
      refine lv_goto (tgt := 29) hx hb dX7_clock_25 (by decide) ?_
      exact K_29 1  hF _ _ _ hh (lv_sub hl [0, 1, 2] rfl)
  · replace hF := hF.trans (if_pos c_5)
    refine lv_bipush (v := (-2)) hx hb dX7_clock_8 (by decide) ?_
    exact RT _ _ _ _ _ _ hh (rfl) (Or.inl ⟨_, rfl, by rw [hF], dX7_clock_10, Or.inl rfl⟩)
theorem ix63 {k e : Int32} (h0 : 0 ≤ k.toInt) (h1 : k.toInt < 8) (g0 : 0 ≤ e.toInt) (g1 : e.toInt ≤ 1) : vp_in (6 * k + 3 + e) 48 := by
  have e1 := ti_mulc k 6 6 rfl (by omega) (by omega)
  have e2 := ti_addc (6 * k) 3 3 rfl (by omega) (by omega)
  refine vp_in_iff.mpr ?_
  rw [ti_add (by omega) (by omega), e2, e1]
  omega
def F_X7_shows (m_told : Int32) (m_clock : Nat → Int32) (x1 : Int32) (x2 : Int32) (x3 : Int32) : Int32 := (if (F_X7_isClock m_told x1) = 0 then (-2) else (if (F_X7_isMinute x2) = 0 then (-3) else (if (F_X7_in x3 0 1) = 0 then (-3) else F_X7_rest (F_X7_down (F_X7_hand m_clock x1 x2 (m_clock (((6 * x1) + 3) + x3).toNatClampNeg)) 1440) 720)))
theorem in_X7_shows_X7 : ∀ x ∈ u_ws RX7 TX7 26, x ∈ wsX7_shows := by decide +kernel
set_option maxHeartbeats 2000000 in
set_option maxRecDepth 100000 in
theorem c_X7_shows (l : Launch) (D : va_G) (cI cZ cC cH : ClassId) (o a_clock a_note a_text a_read a_fit a_shown a_image a_isKept a_row a_best : Nat) (m_told : Int32) (m_isRead1 : Int32) (m_clock : Nat → Int32) (m_note : Nat → Int32) (m_noted : Int32) (m_bytes : Int32) (m_text : Nat → Int32) (m_position : Int32) (m_tokenAt : Int32) (m_token : Int64) (m_digits : Int32) (m_number : Int32) (m_faultAt : Int32) (m_readMany : Int32) (m_readTold : Int32) (m_read : Nat → Int32) (m_fit : Nat → Int32) (m_shown : Nat → Int32) (m_image : Nat → Int32) (m_isKept : Nat → Int32) (m_row : Nat → Int32) (m_best : Nat → Int32) (m_againAt : Int32) (m_againStep : Int32) (m_orderMany : Int32) (m_orderLeast : Int32) (x1 : Int32) (x2 : Int32) (x3 : Int32)  : MC l D (TY cI cZ cC cH) yX7_shows wsX7_shows 2 43 [.ref o, .int x1, .int x2, .int x3] (WM cI cZ cC cH o a_clock a_note a_text a_read a_fit a_shown a_image a_isKept a_row a_best m_told m_isRead1 m_clock m_note m_noted m_bytes m_text m_position m_tokenAt m_token m_digits m_number m_faultAt m_readMany m_readTold m_read m_fit m_shown m_image m_isKept m_row m_best m_againAt m_againStep m_orderMany m_orderLeast) (some (.int (F_X7_shows m_told m_clock x1 x2 x3))) (WM cI cZ cC cH o a_clock a_note a_text a_read a_fit a_shown a_image a_isKept a_row a_best m_told m_isRead1 m_clock m_note m_noted m_bytes m_text m_position m_tokenAt m_token m_digits m_number m_faultAt m_readMany m_readTold m_read m_fit m_shown m_image m_isKept m_row m_best m_againAt m_againStep m_orderMany m_orderLeast) := by
  obtain ⟨R, hF⟩ : ∃ R, R = F_X7_shows m_told m_clock x1 x2 x3 := ⟨_, rfl⟩
  rw [← hF]
  refine MC.of (cc := cX7_shows) (maxL := 4) (ret := (some .int)) RX7 rfl (by decide +kernel) rfl (Nat.le_of_ble_eq_true rfl) ?_
  intro p e s m args below meth c A Q KX RT hh ls hl
  have z0 : (0 : Int32).toInt = 0 := rfl
  have z1 : (1 : Int32).toInt = 1 := rfl
  have zm : (-1 : Int32).toInt = -1 := rfl
  have hx := KX.1
  have hb := KX.2.1
  have hl : lv_has ls 4 [(0, .ref o), (1, .int x1), (2, .int x2), (3, .int x3)] := hl
  unfold F_X7_shows at hF
  refine lv_aload_n hx hb dX7_shows_0 rfl (lv_at hl 0 rfl) ?_
  refine lv_iload_n hx hb dX7_shows_1 rfl (lv_at hl 1 rfl) ?_
  refine g_callV (As := [.int x1]) (rest := []) KX rfl ⟨Nat.le_of_ble_eq_true rfl, Nat.le_of_ble_eq_true rfl⟩ hh hl (c_X7_isClock l D cI cZ cC cH o a_clock a_note a_text a_read a_fit a_shown a_image a_isKept a_row a_best m_told m_isRead1 m_clock m_note m_noted m_bytes m_text m_position m_tokenAt m_token m_digits m_number m_faultAt m_readMany m_readTold m_read m_fit m_shown m_image m_isKept m_row m_best m_againAt m_againStep m_orderMany m_orderLeast x1 ) JN.all 1 gX7_shows_X7_isClock rfl (by decide +kernel) ⟨Nat.le_of_ble_eq_true rfl, Nat.le_of_ble_eq_true rfl⟩ 0 7 rfl rfl rfl rfl rfl (Nat.le_of_ble_eq_true rfl) dX7_shows_2 (fun H locs hh => ?_)
  refine W.eq (g2 := F0 m 5 ls [.int (F_X7_isClock m_told x1)]) rfl ?_
  refine lv_if_ne (tgt := 11) hx hb dX7_shows_5 (by decide) (fun c_5 => ?_) (fun c_5 => ?_)
  · replace hF := hF.trans (if_neg c_5)
    obtain ⟨k0_5, k1_5⟩ := X7_isClock_in c_5
    refine lv_iload_n hx hb dX7_shows_11 rfl (lv_at hl 2 rfl) ?_
    refine g_callS (As := [.int x2]) (rest := []) KX rfl ⟨Nat.le_of_ble_eq_true rfl, Nat.le_of_ble_eq_true rfl⟩ hh hl (c_X7_isMinute l D cI cZ cC cH  x2 ) JN.no 1 gX7_shows_X7_isMinute rfl (by decide +kernel) ⟨Nat.le_of_ble_eq_true rfl, Nat.le_of_ble_eq_true rfl⟩ rfl rfl (Nat.le_of_ble_eq_true rfl) dX7_shows_12 (fun H locs hh => ?_)
    refine W.eq (g2 := F0 m 15 ls [.int (F_X7_isMinute x2)]) rfl ?_
    refine lv_if_eq (tgt := 27) hx hb dX7_shows_15 (by decide) (fun c_15 => ?_) (fun c_15 => ?_)
    · replace hF := hF.trans (if_pos c_15)
      refine lv_bipush (v := (-3)) hx hb dX7_shows_27 (by decide) ?_
      exact RT _ _ _ _ _ _ hh (rfl) (Or.inl ⟨_, rfl, by rw [hF], dX7_shows_29, Or.inl rfl⟩)
    · replace hF := hF.trans (if_neg c_15)
      obtain ⟨k0_15, k1_15⟩ := X7_isMinute_in c_15
      refine lv_iload_n hx hb dX7_shows_18 rfl (lv_at hl 3 rfl) ?_
      refine lv_iconst (v := 0) hx hb dX7_shows_19 (by decide) ?_
      refine lv_iconst (v := 1) hx hb dX7_shows_20 (by decide) ?_
      refine g_callS (As := [.int x3, .int 0, .int 1]) (rest := []) KX rfl ⟨Nat.le_of_ble_eq_true rfl, Nat.le_of_ble_eq_true rfl⟩ hh hl (c_X7_in l D cI cZ cC cH  x3 0 1 ) JN.no 3 gX7_shows_X7_in rfl (by decide +kernel) ⟨Nat.le_of_ble_eq_true rfl, Nat.le_of_ble_eq_true rfl⟩ rfl rfl (Nat.le_of_ble_eq_true rfl) dX7_shows_21 (fun H locs hh => ?_)
      refine W.eq (g2 := F0 m 24 ls [.int (F_X7_in x3 0 1)]) rfl ?_
      refine lv_if_ne (tgt := 30) hx hb dX7_shows_24 (by decide) (fun c_24 => ?_) (fun c_24 => ?_)
      · replace hF := hF.trans (if_neg c_24)
        obtain ⟨k0_24, k1_24⟩ : (0 : Int) ≤ x3.toInt ∧ x3.toInt ≤ 1 := X7_in_in c_24
        refine lv_aload_n hx hb dX7_shows_30 rfl (lv_at hl 0 rfl) ?_
        refine lv_iload_n hx hb dX7_shows_31 rfl (lv_at hl 1 rfl) ?_
        refine lv_iload_n hx hb dX7_shows_32 rfl (lv_at hl 2 rfl) ?_
        refine lv_aload_n hx hb dX7_shows_33 rfl (lv_at hl 0 rfl) ?_
        refine g_get KX hh in_X7_shows_X7 0 rfl rfl 2 (by decide) rfl (List.mem_of_getElem? (i := 1) rfl) dX7_shows_34 ?_
        refine lv_bipush (v := 6) hx hb dX7_shows_37 (by decide) ?_
        refine lv_iload_n hx hb dX7_shows_39 rfl (lv_at hl 1 rfl) ?_
        refine lv_imul hx hb dX7_shows_40 ?_
        refine lv_iconst (v := 3) hx hb dX7_shows_41 (by decide) ?_
        refine lv_iadd hx hb dX7_shows_42 ?_
        refine lv_iload_n hx hb dX7_shows_43 rfl (lv_at hl 3 rfl) ?_
        refine lv_iadd hx hb dX7_shows_44 ?_
        refine g_iald KX hh 1 0 rfl rfl (ix63 (by omega) (by omega) (by omega) (by omega)) dX7_shows_45 ?_
        refine g_callV (As := [.int x1, .int x2, .int (m_clock (((6 * x1) + 3) + x3).toNatClampNeg)]) (rest := []) KX rfl ⟨Nat.le_of_ble_eq_true rfl, Nat.le_of_ble_eq_true rfl⟩ hh hl (c_X7_hand l D cI cZ cC cH o a_clock a_note a_text a_read a_fit a_shown a_image a_isKept a_row a_best m_told m_isRead1 m_clock m_note m_noted m_bytes m_text m_position m_tokenAt m_token m_digits m_number m_faultAt m_readMany m_readTold m_read m_fit m_shown m_image m_isKept m_row m_best m_againAt m_againStep m_orderMany m_orderLeast x1 x2 (m_clock (((6 * x1) + 3) + x3).toNatClampNeg) (by first | with_reducible assumption | omega | decide) (by first | with_reducible assumption | omega | decide)) JN.all 3 gX7_shows_X7_hand rfl (by decide +kernel) ⟨Nat.le_of_ble_eq_true rfl, Nat.le_of_ble_eq_true rfl⟩ 0 7 rfl rfl rfl rfl rfl (Nat.le_of_ble_eq_true rfl) dX7_shows_46 (fun H locs hh => ?_)
        refine W.eq (g2 := F0 m 49 ls [.int (F_X7_hand m_clock x1 x2 (m_clock (((6 * x1) + 3) + x3).toNatClampNeg))]) rfl ?_
        refine lv_sipush (v := 1440) hx hb dX7_shows_49 (by decide) ?_
        refine g_callS (As := [.int (F_X7_hand m_clock x1 x2 (m_clock (((6 * x1) + 3) + x3).toNatClampNeg)), .int 1440]) (rest := []) KX rfl ⟨Nat.le_of_ble_eq_true rfl, Nat.le_of_ble_eq_true rfl⟩ hh hl (c_X7_down l D cI cZ cC cH  (F_X7_hand m_clock x1 x2 (m_clock (((6 * x1) + 3) + x3).toNatClampNeg)) 1440 (by first | with_reducible assumption | omega | decide)) JN.no 2 gX7_shows_X7_down rfl (by decide +kernel) ⟨Nat.le_of_ble_eq_true rfl, Nat.le_of_ble_eq_true rfl⟩ rfl rfl (Nat.le_of_ble_eq_true rfl) dX7_shows_52 (fun H locs hh => ?_)
        refine W.eq (g2 := F0 m 55 ls [.int (F_X7_down (F_X7_hand m_clock x1 x2 (m_clock (((6 * x1) + 3) + x3).toNatClampNeg)) 1440)]) rfl ?_
        refine lv_sipush (v := 720) hx hb dX7_shows_55 (by decide) ?_
        refine g_callS (As := [.int (F_X7_down (F_X7_hand m_clock x1 x2 (m_clock (((6 * x1) + 3) + x3).toNatClampNeg)) 1440), .int 720]) (rest := []) KX rfl ⟨Nat.le_of_ble_eq_true rfl, Nat.le_of_ble_eq_true rfl⟩ hh hl (c_X7_rest l D cI cZ cC cH  (F_X7_down (F_X7_hand m_clock x1 x2 (m_clock (((6 * x1) + 3) + x3).toNatClampNeg)) 1440) 720 (by first | with_reducible assumption | omega | decide)) JN.no 2 gX7_shows_X7_rest rfl (by decide +kernel) ⟨Nat.le_of_ble_eq_true rfl, Nat.le_of_ble_eq_true rfl⟩ rfl rfl (Nat.le_of_ble_eq_true rfl) dX7_shows_58 (fun H locs hh => ?_)
        refine W.eq (g2 := F0 m 61 ls [.int (F_X7_rest (F_X7_down (F_X7_hand m_clock x1 x2 (m_clock (((6 * x1) + 3) + x3).toNatClampNeg)) 1440) 720)]) rfl ?_
        exact RT _ _ _ _ _ _ hh (rfl) (Or.inl ⟨_, rfl, by rw [hF], dX7_shows_61, Or.inl rfl⟩)
      · replace hF := hF.trans (if_pos c_24)
        refine lv_bipush (v := (-3)) hx hb dX7_shows_27 (by decide) ?_
        exact RT _ _ _ _ _ _ hh (rfl) (Or.inl ⟨_, rfl, by rw [hF], dX7_shows_29, Or.inl rfl⟩)
  · replace hF := hF.trans (if_pos c_5)
    refine lv_bipush (v := (-2)) hx hb dX7_shows_8 (by decide) ?_
    exact RT _ _ _ _ _ _ hh (rfl) (Or.inl ⟨_, rfl, by rw [hF], dX7_shows_10, Or.inl rfl⟩)
def F_X7_isBetween_27 (x2 : Int32) (y0_1 : Int32) (y0_2 : Int32) : Int32 := (if ((F_X7_down y0_2 1440) - (F_X7_down y0_1 1440)) < (F_X7_rest (x2 - (F_X7_down y0_1 1440)) 720) then 0 else 1)
def F_X7_isBetween_10 (x0 : Int32) (x1 : Int32) (x2 : Int32) (y0_1 : Int32) : Int32 := (if x1 ≤ x0 then (F_X7_isBetween_27 x2 y0_1 x0) else (F_X7_isBetween_27 x2 y0_1 x1))
def F_X7_isBetween (x0 : Int32) (x1 : Int32) (x2 : Int32) : Int32 := (if x1 ≤ x0 then (F_X7_isBetween_10 x0 x1 x2 x1) else (F_X7_isBetween_10 x0 x1 x2 x0))
set_option maxHeartbeats 2000000 in
set_option maxRecDepth 100000 in
theorem c_X7_isBetween (l : Launch) (D : va_G) (cI cZ cC cH : ClassId)  (x0 : Int32) (x1 : Int32) (x2 : Int32)  : MC l D (TY cI cZ cC cH) yX7_isBetween wsX7_isBetween 2 43 [.int x0, .int x1, .int x2] [] (some (.int (F_X7_isBetween x0 x1 x2))) [] := by
  obtain ⟨R, hF⟩ : ∃ R, R = F_X7_isBetween x0 x1 x2 := ⟨_, rfl⟩
  rw [← hF]
  refine MC.of (cc := cX7_isBetween) (maxL := 5) (ret := (some .boolean)) RX7 rfl (by decide +kernel) rfl (Nat.le_of_ble_eq_true rfl) ?_
  intro p e s m args below meth c A Q KX RT hh ls hl
  have z0 : (0 : Int32).toInt = 0 := rfl
  have z1 : (1 : Int32).toInt = 1 := rfl
  have zm : (-1 : Int32).toInt = -1 := rfl
  have hx := KX.1
  have hb := KX.2.1
  have hl : lv_has ls 5 [(0, .int x0), (1, .int x1), (2, .int x2)] := hl
  unfold F_X7_isBetween at hF
  refine lv_iload_n hx hb dX7_isBetween_0 rfl (lv_at hl 0 rfl) ?_
  refine lv_iload_n hx hb dX7_isBetween_1 rfl (lv_at hl 1 rfl) ?_
  have K_10 : ∀ (y0_1 : Int32) (_ : R = (F_X7_isBetween_10 x0 x1 x2) y0_1) (ls : Array Slot) (H : Heap) (locs : List Loc) (_ : HS D A s.heap [] H locs) (_ : lv_has ls 5 [(0, .int x0), (1, .int x1), (2, .int x2)]), W p l e { frames := 2, cells := 0, slots := 0, locals := 43 } s m args below meth c H locs 0 0 Q (F0 m 10 ls [.int y0_1]) := by
    intro y0_1 hF ls H locs hh hl
    unfold F_X7_isBetween_10 at hF
    refine lv_sipush (v := 1440) hx hb dX7_isBetween_10 (by decide) ?_
    refine g_callS (As := [.int y0_1, .int 1440]) (rest := []) KX rfl ⟨Nat.le_of_ble_eq_true rfl, Nat.le_of_ble_eq_true rfl⟩ hh hl (c_X7_down l D cI cZ cC cH  y0_1 1440 (by first | with_reducible assumption | omega | decide)) JN.no 2 gX7_isBetween_X7_down rfl (by decide +kernel) ⟨Nat.le_of_ble_eq_true rfl, Nat.le_of_ble_eq_true rfl⟩ rfl rfl (Nat.le_of_ble_eq_true rfl) dX7_isBetween_13 (fun H locs hh => ?_)
    refine W.eq (g2 := F0 m 16 ls [.int (F_X7_down y0_1 1440)]) rfl ?_
    refine lv_istore_n (lv' := [(3, .int (F_X7_down y0_1 1440)), (0, .int x0), (1, .int x1), (2, .int x2)]) hx hb dX7_isBetween_16 rfl hl (Nat.le_of_ble_eq_true rfl) rfl (fun ls hl => ?_)
    refine lv_iload_n hx hb dX7_isBetween_17 rfl (lv_at hl 1 rfl) ?_
    refine lv_iload_n hx hb dX7_isBetween_18 rfl (lv_at hl 2 rfl) ?_
    have K_27 : ∀ (y0_2 : Int32) (_ : R = (F_X7_isBetween_27 x2 y0_1) y0_2) (ls : Array Slot) (H : Heap) (locs : List Loc) (_ : HS D A s.heap [] H locs) (_ : lv_has ls 5 [(3, .int (F_X7_down y0_1 1440)), (0, .int x0), (1, .int x1), (2, .int x2)]), W p l e { frames := 2, cells := 0, slots := 0, locals := 43 } s m args below meth c H locs 0 0 Q (F0 m 27 ls [.int y0_2]) := by
      intro y0_2 hF ls H locs hh hl
      unfold F_X7_isBetween_27 at hF
      refine lv_sipush (v := 1440) hx hb dX7_isBetween_27 (by decide) ?_
      refine g_callS (As := [.int y0_2, .int 1440]) (rest := []) KX rfl ⟨Nat.le_of_ble_eq_true rfl, Nat.le_of_ble_eq_true rfl⟩ hh hl (c_X7_down l D cI cZ cC cH  y0_2 1440 (by first | with_reducible assumption | omega | decide)) JN.no 2 gX7_isBetween_X7_down rfl (by decide +kernel) ⟨Nat.le_of_ble_eq_true rfl, Nat.le_of_ble_eq_true rfl⟩ rfl rfl (Nat.le_of_ble_eq_true rfl) dX7_isBetween_30 (fun H locs hh => ?_)
      refine W.eq (g2 := F0 m 33 ls [.int (F_X7_down y0_2 1440)]) rfl ?_
      refine lv_istore (lv' := [(4, .int (F_X7_down y0_2 1440)), (3, .int (F_X7_down y0_1 1440)), (0, .int x0), (1, .int x1), (2, .int x2)]) hx hb dX7_isBetween_33 hl (Nat.le_of_ble_eq_true rfl) rfl (fun ls hl => ?_)
      refine lv_iload_n hx hb dX7_isBetween_35 rfl (lv_at hl 4 rfl) ?_
      refine lv_iload_n hx hb dX7_isBetween_36 rfl (lv_at hl 1 rfl) ?_
      refine lv_isub hx hb dX7_isBetween_37 ?_
      refine lv_sipush (v := 720) hx hb dX7_isBetween_38 (by decide) ?_
      refine g_callS (As := [.int (x2 - (F_X7_down y0_1 1440)), .int 720]) (rest := []) KX rfl ⟨Nat.le_of_ble_eq_true rfl, Nat.le_of_ble_eq_true rfl⟩ hh hl (c_X7_rest l D cI cZ cC cH  (x2 - (F_X7_down y0_1 1440)) 720 (by first | with_reducible assumption | omega | decide)) JN.no 2 gX7_isBetween_X7_rest rfl (by decide +kernel) ⟨Nat.le_of_ble_eq_true rfl, Nat.le_of_ble_eq_true rfl⟩ rfl rfl (Nat.le_of_ble_eq_true rfl) dX7_isBetween_41 (fun H locs hh => ?_)
      refine W.eq (g2 := F0 m 44 ls [.int (F_X7_rest (x2 - (F_X7_down y0_1 1440)) 720)]) rfl ?_
      refine lv_iload hx hb dX7_isBetween_44 (lv_at hl 0 rfl) ?_
      refine lv_iload_n hx hb dX7_isBetween_46 rfl (lv_at hl 1 rfl) ?_
      refine lv_isub hx hb dX7_isBetween_47 ?_
      refine lv_icmp_gt (tgt := 55) hx hb dX7_isBetween_48 (by decide) (fun c_48 => ?_) (fun c_48 => ?_)
      · replace hF := hF.trans (if_pos c_48)
        refine lv_iconst (v := 0) hx hb dX7_isBetween_55 (by decide) ?_
        exact RT _ _ _ _ _ _ hh (rfl) (Or.inl ⟨_, rfl, by rw [hF], dX7_isBetween_56, Or.inr (Or.inl ⟨rfl, Or.inl rfl⟩)⟩)
      · replace hF := hF.trans (if_neg c_48)
        refine lv_iconst (v := 1) hx hb dX7_isBetween_51 (by decide) ?_
        refine lv_goto (tgt := 56) hx hb dX7_isBetween_52 (by decide) ?_
        exact RT _ _ _ _ _ _ hh (rfl) (Or.inl ⟨_, rfl, by rw [hF], dX7_isBetween_56, Or.inr (Or.inl ⟨rfl, Or.inr rfl⟩)⟩)
    refine lv_icmp_ge (tgt := 26) hx hb dX7_isBetween_19 (by decide) (fun c_19 => ?_) (fun c_19 => ?_)
    · replace hF := hF.trans (if_pos c_19)
      have i_19 : x1.toInt ≤ x0.toInt := ti_le.mp c_19
      refine lv_iload_n hx hb dX7_isBetween_26 rfl (lv_at hl 1 rfl) ?_
      exact K_27 x0  hF _ _ _ hh (lv_sub hl [0, 1, 2, 3] rfl)
    · replace hF := hF.trans (if_neg c_19)
      have i_19 : x0.toInt < x1.toInt := ti_nle c_19
      refine lv_iload_n hx hb dX7_isBetween_22 rfl (lv_at hl 2 rfl) ?_
      refine lv_goto (tgt := 27) hx hb dX7_isBetween_23 (by decide) ?_
      exact K_27 x1  hF _ _ _ hh (lv_sub hl [0, 1, 2, 3] rfl)
  refine lv_icmp_ge (tgt := 9) hx hb dX7_isBetween_2 (by decide) (fun c_2 => ?_) (fun c_2 => ?_)
  · replace hF := hF.trans (if_pos c_2)
    have i_2 : x1.toInt ≤ x0.toInt := ti_le.mp c_2
    refine lv_iload_n hx hb dX7_isBetween_9 rfl (lv_at hl 1 rfl) ?_
    exact K_10 x1  hF _ _ _ hh (lv_sub hl [0, 1, 2] rfl)
  · replace hF := hF.trans (if_neg c_2)
    have i_2 : x0.toInt < x1.toInt := ti_nle c_2
    refine lv_iload_n hx hb dX7_isBetween_5 rfl (lv_at hl 0 rfl) ?_
    refine lv_goto (tgt := 10) hx hb dX7_isBetween_6 (by decide) ?_
    exact K_10 x0  hF _ _ _ hh (lv_sub hl [0, 1, 2] rfl)
theorem zb_F_X7_isBetween_27 {x2 : Int32} {y0_1 : Int32} {y0_2 : Int32} : (F_X7_isBetween_27 x2 y0_1 y0_2) = 0 ∨ (F_X7_isBetween_27 x2 y0_1 y0_2) = 1 := by
  unfold F_X7_isBetween_27
  split
  · exact Or.inl rfl
  · exact Or.inr rfl
theorem zb_F_X7_isBetween_10 {x0 : Int32} {x1 : Int32} {x2 : Int32} {y0_1 : Int32} : (F_X7_isBetween_10 x0 x1 x2 y0_1) = 0 ∨ (F_X7_isBetween_10 x0 x1 x2 y0_1) = 1 := by
  unfold F_X7_isBetween_10
  split
  · exact zb_F_X7_isBetween_27 
  · exact zb_F_X7_isBetween_27 
theorem z_X7_isBetween (x0 : Int32) (x1 : Int32) (x2 : Int32) : (F_X7_isBetween x0 x1 x2) = 0 ∨ (F_X7_isBetween x0 x1 x2) = 1 := by
  unfold F_X7_isBetween
  split
  · exact zb_F_X7_isBetween_10 
  · exact zb_F_X7_isBetween_10 
def F_X7_canShow (m_clock : Nat → Int32) (x1 : Int32) (x2 : Int32) (x3 : Int32) : Int32 := F_X7_isBetween (F_X7_hand m_clock x1 x2 (m_clock ((6 * x1) + 3).toNatClampNeg)) (F_X7_hand m_clock x1 x2 (m_clock ((6 * x1) + 4).toNatClampNeg)) x3
theorem in_X7_canShow_X7 : ∀ x ∈ u_ws RX7 TX7 26, x ∈ wsX7_canShow := by decide +kernel
set_option maxHeartbeats 2000000 in
set_option maxRecDepth 100000 in
theorem c_X7_canShow (l : Launch) (D : va_G) (cI cZ cC cH : ClassId) (o a_clock a_note a_text a_read a_fit a_shown a_image a_isKept a_row a_best : Nat) (m_told : Int32) (m_isRead1 : Int32) (m_clock : Nat → Int32) (m_note : Nat → Int32) (m_noted : Int32) (m_bytes : Int32) (m_text : Nat → Int32) (m_position : Int32) (m_tokenAt : Int32) (m_token : Int64) (m_digits : Int32) (m_number : Int32) (m_faultAt : Int32) (m_readMany : Int32) (m_readTold : Int32) (m_read : Nat → Int32) (m_fit : Nat → Int32) (m_shown : Nat → Int32) (m_image : Nat → Int32) (m_isKept : Nat → Int32) (m_row : Nat → Int32) (m_best : Nat → Int32) (m_againAt : Int32) (m_againStep : Int32) (m_orderMany : Int32) (m_orderLeast : Int32) (x1 : Int32) (x2 : Int32) (x3 : Int32) (hk0 : 0 ≤ x1.toInt) (hk1 : x1.toInt < 8) : MC l D (TY cI cZ cC cH) yX7_canShow wsX7_canShow 3 67 [.ref o, .int x1, .int x2, .int x3] (WM cI cZ cC cH o a_clock a_note a_text a_read a_fit a_shown a_image a_isKept a_row a_best m_told m_isRead1 m_clock m_note m_noted m_bytes m_text m_position m_tokenAt m_token m_digits m_number m_faultAt m_readMany m_readTold m_read m_fit m_shown m_image m_isKept m_row m_best m_againAt m_againStep m_orderMany m_orderLeast) (some (.int (F_X7_canShow m_clock x1 x2 x3))) (WM cI cZ cC cH o a_clock a_note a_text a_read a_fit a_shown a_image a_isKept a_row a_best m_told m_isRead1 m_clock m_note m_noted m_bytes m_text m_position m_tokenAt m_token m_digits m_number m_faultAt m_readMany m_readTold m_read m_fit m_shown m_image m_isKept m_row m_best m_againAt m_againStep m_orderMany m_orderLeast) := by
  obtain ⟨R, hF⟩ : ∃ R, R = F_X7_canShow m_clock x1 x2 x3 := ⟨_, rfl⟩
  rw [← hF]
  refine MC.of (cc := cX7_canShow) (maxL := 4) (ret := (some .boolean)) RX7 rfl (by decide +kernel) rfl (Nat.le_of_ble_eq_true rfl) ?_
  intro p e s m args below meth c A Q KX RT hh ls hl
  have z0 : (0 : Int32).toInt = 0 := rfl
  have z1 : (1 : Int32).toInt = 1 := rfl
  have zm : (-1 : Int32).toInt = -1 := rfl
  have hx := KX.1
  have hb := KX.2.1
  have hl : lv_has ls 4 [(0, .ref o), (1, .int x1), (2, .int x2), (3, .int x3)] := hl
  unfold F_X7_canShow at hF
  refine lv_aload_n hx hb dX7_canShow_0 rfl (lv_at hl 0 rfl) ?_
  refine lv_iload_n hx hb dX7_canShow_1 rfl (lv_at hl 1 rfl) ?_
  refine lv_iload_n hx hb dX7_canShow_2 rfl (lv_at hl 2 rfl) ?_
  refine lv_aload_n hx hb dX7_canShow_3 rfl (lv_at hl 0 rfl) ?_
  refine g_get KX hh in_X7_canShow_X7 0 rfl rfl 2 (by decide) rfl (List.mem_of_getElem? (i := 1) rfl) dX7_canShow_4 ?_
  refine lv_bipush (v := 6) hx hb dX7_canShow_7 (by decide) ?_
  refine lv_iload_n hx hb dX7_canShow_9 rfl (lv_at hl 1 rfl) ?_
  refine lv_imul hx hb dX7_canShow_10 ?_
  refine lv_iconst (v := 3) hx hb dX7_canShow_11 (by decide) ?_
  refine lv_iadd hx hb dX7_canShow_12 ?_
  refine g_iald KX hh 1 0 rfl rfl (ix6 3 (by omega) (by omega) (by decide)) dX7_canShow_13 ?_
  refine g_callV (As := [.int x1, .int x2, .int (m_clock ((6 * x1) + 3).toNatClampNeg)]) (rest := []) KX rfl ⟨Nat.le_of_ble_eq_true rfl, Nat.le_of_ble_eq_true rfl⟩ hh hl (c_X7_hand l D cI cZ cC cH o a_clock a_note a_text a_read a_fit a_shown a_image a_isKept a_row a_best m_told m_isRead1 m_clock m_note m_noted m_bytes m_text m_position m_tokenAt m_token m_digits m_number m_faultAt m_readMany m_readTold m_read m_fit m_shown m_image m_isKept m_row m_best m_againAt m_againStep m_orderMany m_orderLeast x1 x2 (m_clock ((6 * x1) + 3).toNatClampNeg) (by first | with_reducible assumption | omega | decide) (by first | with_reducible assumption | omega | decide)) JN.all 3 gX7_canShow_X7_hand rfl (by decide +kernel) ⟨Nat.le_of_ble_eq_true rfl, Nat.le_of_ble_eq_true rfl⟩ 0 7 rfl rfl rfl rfl rfl (Nat.le_of_ble_eq_true rfl) dX7_canShow_14 (fun H locs hh => ?_)
  refine W.eq (g2 := F0 m 17 ls [.int (F_X7_hand m_clock x1 x2 (m_clock ((6 * x1) + 3).toNatClampNeg))]) rfl ?_
  refine lv_aload_n hx hb dX7_canShow_17 rfl (lv_at hl 0 rfl) ?_
  refine lv_iload_n hx hb dX7_canShow_18 rfl (lv_at hl 1 rfl) ?_
  refine lv_iload_n hx hb dX7_canShow_19 rfl (lv_at hl 2 rfl) ?_
  refine lv_aload_n hx hb dX7_canShow_20 rfl (lv_at hl 0 rfl) ?_
  refine g_get KX hh in_X7_canShow_X7 0 rfl rfl 2 (by decide) rfl (List.mem_of_getElem? (i := 1) rfl) dX7_canShow_21 ?_
  refine lv_bipush (v := 6) hx hb dX7_canShow_24 (by decide) ?_
  refine lv_iload_n hx hb dX7_canShow_26 rfl (lv_at hl 1 rfl) ?_
  refine lv_imul hx hb dX7_canShow_27 ?_
  refine lv_iconst (v := 4) hx hb dX7_canShow_28 (by decide) ?_
  refine lv_iadd hx hb dX7_canShow_29 ?_
  refine g_iald KX hh 1 0 rfl rfl (ix6 4 (by omega) (by omega) (by decide)) dX7_canShow_30 ?_
  refine g_callV (As := [.int x1, .int x2, .int (m_clock ((6 * x1) + 4).toNatClampNeg)]) (rest := [.int (F_X7_hand m_clock x1 x2 (m_clock ((6 * x1) + 3).toNatClampNeg))]) KX rfl ⟨Nat.le_of_ble_eq_true rfl, Nat.le_of_ble_eq_true rfl⟩ hh hl (c_X7_hand l D cI cZ cC cH o a_clock a_note a_text a_read a_fit a_shown a_image a_isKept a_row a_best m_told m_isRead1 m_clock m_note m_noted m_bytes m_text m_position m_tokenAt m_token m_digits m_number m_faultAt m_readMany m_readTold m_read m_fit m_shown m_image m_isKept m_row m_best m_againAt m_againStep m_orderMany m_orderLeast x1 x2 (m_clock ((6 * x1) + 4).toNatClampNeg) (by first | with_reducible assumption | omega | decide) (by first | with_reducible assumption | omega | decide)) JN.all 3 gX7_canShow_X7_hand rfl (by decide +kernel) ⟨Nat.le_of_ble_eq_true rfl, Nat.le_of_ble_eq_true rfl⟩ 0 7 rfl rfl rfl rfl rfl (Nat.le_of_ble_eq_true rfl) dX7_canShow_31 (fun H locs hh => ?_)
  refine W.eq (g2 := F0 m 34 ls [.int (F_X7_hand m_clock x1 x2 (m_clock ((6 * x1) + 4).toNatClampNeg)), .int (F_X7_hand m_clock x1 x2 (m_clock ((6 * x1) + 3).toNatClampNeg))]) rfl ?_
  refine lv_iload_n hx hb dX7_canShow_34 rfl (lv_at hl 3 rfl) ?_
  refine g_callS (As := [.int (F_X7_hand m_clock x1 x2 (m_clock ((6 * x1) + 3).toNatClampNeg)), .int (F_X7_hand m_clock x1 x2 (m_clock ((6 * x1) + 4).toNatClampNeg)), .int x3]) (rest := []) KX rfl ⟨Nat.le_of_ble_eq_true rfl, Nat.le_of_ble_eq_true rfl⟩ hh hl (c_X7_isBetween l D cI cZ cC cH  (F_X7_hand m_clock x1 x2 (m_clock ((6 * x1) + 3).toNatClampNeg)) (F_X7_hand m_clock x1 x2 (m_clock ((6 * x1) + 4).toNatClampNeg)) x3 ) JN.no 3 gX7_canShow_X7_isBetween rfl (by decide +kernel) ⟨Nat.le_of_ble_eq_true rfl, Nat.le_of_ble_eq_true rfl⟩ rfl rfl (Nat.le_of_ble_eq_true rfl) dX7_canShow_35 (fun H locs hh => ?_)
  refine W.eq (g2 := F0 m 38 ls [.int (F_X7_isBetween (F_X7_hand m_clock x1 x2 (m_clock ((6 * x1) + 3).toNatClampNeg)) (F_X7_hand m_clock x1 x2 (m_clock ((6 * x1) + 4).toNatClampNeg)) x3)]) rfl ?_
  exact RT _ _ _ _ _ _ hh (rfl) (Or.inl ⟨_, rfl, by rw [hF], dX7_canShow_38, Or.inr (Or.inl ⟨rfl, (by first | exact z_X7_isBetween _ _ _)⟩)⟩)
theorem z_X7_canShow (m_clock : Nat → Int32) (x1 : Int32) (x2 : Int32) (x3 : Int32) : (F_X7_canShow m_clock x1 x2 x3) = 0 ∨ (F_X7_canShow m_clock x1 x2 x3) = 1 := by
  unfold F_X7_canShow
  exact z_X7_isBetween _ _ _
def F_X7_can (m_told : Int32) (m_clock : Nat → Int32) (x1 : Int32) (x2 : Int32) (x3 : Int32) : Int32 := (if (F_X7_isClock m_told x1) = 0 then (-2) else (if (F_X7_isMinute x2) = 0 then (-3) else (if (F_X7_in x3 0 719) = 0 then (-3) else (if (F_X7_canShow m_clock x1 x2 x3) = 0 then 0 else 1))))
set_option maxHeartbeats 2000000 in
set_option maxRecDepth 100000 in
theorem c_X7_can (l : Launch) (D : va_G) (cI cZ cC cH : ClassId) (o a_clock a_note a_text a_read a_fit a_shown a_image a_isKept a_row a_best : Nat) (m_told : Int32) (m_isRead1 : Int32) (m_clock : Nat → Int32) (m_note : Nat → Int32) (m_noted : Int32) (m_bytes : Int32) (m_text : Nat → Int32) (m_position : Int32) (m_tokenAt : Int32) (m_token : Int64) (m_digits : Int32) (m_number : Int32) (m_faultAt : Int32) (m_readMany : Int32) (m_readTold : Int32) (m_read : Nat → Int32) (m_fit : Nat → Int32) (m_shown : Nat → Int32) (m_image : Nat → Int32) (m_isKept : Nat → Int32) (m_row : Nat → Int32) (m_best : Nat → Int32) (m_againAt : Int32) (m_againStep : Int32) (m_orderMany : Int32) (m_orderLeast : Int32) (x1 : Int32) (x2 : Int32) (x3 : Int32)  : MC l D (TY cI cZ cC cH) yX7_can wsX7_can 4 90 [.ref o, .int x1, .int x2, .int x3] (WM cI cZ cC cH o a_clock a_note a_text a_read a_fit a_shown a_image a_isKept a_row a_best m_told m_isRead1 m_clock m_note m_noted m_bytes m_text m_position m_tokenAt m_token m_digits m_number m_faultAt m_readMany m_readTold m_read m_fit m_shown m_image m_isKept m_row m_best m_againAt m_againStep m_orderMany m_orderLeast) (some (.int (F_X7_can m_told m_clock x1 x2 x3))) (WM cI cZ cC cH o a_clock a_note a_text a_read a_fit a_shown a_image a_isKept a_row a_best m_told m_isRead1 m_clock m_note m_noted m_bytes m_text m_position m_tokenAt m_token m_digits m_number m_faultAt m_readMany m_readTold m_read m_fit m_shown m_image m_isKept m_row m_best m_againAt m_againStep m_orderMany m_orderLeast) := by
  obtain ⟨R, hF⟩ : ∃ R, R = F_X7_can m_told m_clock x1 x2 x3 := ⟨_, rfl⟩
  rw [← hF]
  refine MC.of (cc := cX7_can) (maxL := 4) (ret := (some .int)) RX7 rfl (by decide +kernel) rfl (Nat.le_of_ble_eq_true rfl) ?_
  intro p e s m args below meth c A Q KX RT hh ls hl
  have z0 : (0 : Int32).toInt = 0 := rfl
  have z1 : (1 : Int32).toInt = 1 := rfl
  have zm : (-1 : Int32).toInt = -1 := rfl
  have hx := KX.1
  have hb := KX.2.1
  have hl : lv_has ls 4 [(0, .ref o), (1, .int x1), (2, .int x2), (3, .int x3)] := hl
  unfold F_X7_can at hF
  refine lv_aload_n hx hb dX7_can_0 rfl (lv_at hl 0 rfl) ?_
  refine lv_iload_n hx hb dX7_can_1 rfl (lv_at hl 1 rfl) ?_
  refine g_callV (As := [.int x1]) (rest := []) KX rfl ⟨Nat.le_of_ble_eq_true rfl, Nat.le_of_ble_eq_true rfl⟩ hh hl (c_X7_isClock l D cI cZ cC cH o a_clock a_note a_text a_read a_fit a_shown a_image a_isKept a_row a_best m_told m_isRead1 m_clock m_note m_noted m_bytes m_text m_position m_tokenAt m_token m_digits m_number m_faultAt m_readMany m_readTold m_read m_fit m_shown m_image m_isKept m_row m_best m_againAt m_againStep m_orderMany m_orderLeast x1 ) JN.all 1 gX7_can_X7_isClock rfl (by decide +kernel) ⟨Nat.le_of_ble_eq_true rfl, Nat.le_of_ble_eq_true rfl⟩ 0 7 rfl rfl rfl rfl rfl (Nat.le_of_ble_eq_true rfl) dX7_can_2 (fun H locs hh => ?_)
  refine W.eq (g2 := F0 m 5 ls [.int (F_X7_isClock m_told x1)]) rfl ?_
  refine lv_if_ne (tgt := 11) hx hb dX7_can_5 (by decide) (fun c_5 => ?_) (fun c_5 => ?_)
  · replace hF := hF.trans (if_neg c_5)
    obtain ⟨k0_5, k1_5⟩ := X7_isClock_in c_5
    refine lv_iload_n hx hb dX7_can_11 rfl (lv_at hl 2 rfl) ?_
    refine g_callS (As := [.int x2]) (rest := []) KX rfl ⟨Nat.le_of_ble_eq_true rfl, Nat.le_of_ble_eq_true rfl⟩ hh hl (c_X7_isMinute l D cI cZ cC cH  x2 ) JN.no 1 gX7_can_X7_isMinute rfl (by decide +kernel) ⟨Nat.le_of_ble_eq_true rfl, Nat.le_of_ble_eq_true rfl⟩ rfl rfl (Nat.le_of_ble_eq_true rfl) dX7_can_12 (fun H locs hh => ?_)
    refine W.eq (g2 := F0 m 15 ls [.int (F_X7_isMinute x2)]) rfl ?_
    refine lv_if_eq (tgt := 29) hx hb dX7_can_15 (by decide) (fun c_15 => ?_) (fun c_15 => ?_)
    · replace hF := hF.trans (if_pos c_15)
      refine lv_bipush (v := (-3)) hx hb dX7_can_29 (by decide) ?_
      exact RT _ _ _ _ _ _ hh (rfl) (Or.inl ⟨_, rfl, by rw [hF], dX7_can_31, Or.inl rfl⟩)
    · replace hF := hF.trans (if_neg c_15)
      obtain ⟨k0_15, k1_15⟩ := X7_isMinute_in c_15
      refine lv_iload_n hx hb dX7_can_18 rfl (lv_at hl 3 rfl) ?_
      refine lv_iconst (v := 0) hx hb dX7_can_19 (by decide) ?_
      refine lv_sipush (v := 719) hx hb dX7_can_20 (by decide) ?_
      refine g_callS (As := [.int x3, .int 0, .int 719]) (rest := []) KX rfl ⟨Nat.le_of_ble_eq_true rfl, Nat.le_of_ble_eq_true rfl⟩ hh hl (c_X7_in l D cI cZ cC cH  x3 0 719 ) JN.no 3 gX7_can_X7_in rfl (by decide +kernel) ⟨Nat.le_of_ble_eq_true rfl, Nat.le_of_ble_eq_true rfl⟩ rfl rfl (Nat.le_of_ble_eq_true rfl) dX7_can_23 (fun H locs hh => ?_)
      refine W.eq (g2 := F0 m 26 ls [.int (F_X7_in x3 0 719)]) rfl ?_
      refine lv_if_ne (tgt := 32) hx hb dX7_can_26 (by decide) (fun c_26 => ?_) (fun c_26 => ?_)
      · replace hF := hF.trans (if_neg c_26)
        obtain ⟨k0_26, k1_26⟩ : (0 : Int) ≤ x3.toInt ∧ x3.toInt ≤ 719 := X7_in_in c_26
        refine lv_aload_n hx hb dX7_can_32 rfl (lv_at hl 0 rfl) ?_
        refine lv_iload_n hx hb dX7_can_33 rfl (lv_at hl 1 rfl) ?_
        refine lv_iload_n hx hb dX7_can_34 rfl (lv_at hl 2 rfl) ?_
        refine lv_iload_n hx hb dX7_can_35 rfl (lv_at hl 3 rfl) ?_
        refine g_callV (As := [.int x1, .int x2, .int x3]) (rest := []) KX rfl ⟨Nat.le_of_ble_eq_true rfl, Nat.le_of_ble_eq_true rfl⟩ hh hl (c_X7_canShow l D cI cZ cC cH o a_clock a_note a_text a_read a_fit a_shown a_image a_isKept a_row a_best m_told m_isRead1 m_clock m_note m_noted m_bytes m_text m_position m_tokenAt m_token m_digits m_number m_faultAt m_readMany m_readTold m_read m_fit m_shown m_image m_isKept m_row m_best m_againAt m_againStep m_orderMany m_orderLeast x1 x2 x3 (by first | with_reducible assumption | omega | decide) (by first | with_reducible assumption | omega | decide)) JN.all 3 gX7_can_X7_canShow rfl (by decide +kernel) ⟨Nat.le_of_ble_eq_true rfl, Nat.le_of_ble_eq_true rfl⟩ 0 7 rfl rfl rfl rfl rfl (Nat.le_of_ble_eq_true rfl) dX7_can_36 (fun H locs hh => ?_)
        refine W.eq (g2 := F0 m 39 ls [.int (F_X7_canShow m_clock x1 x2 x3)]) rfl ?_
        refine lv_if_eq (tgt := 46) hx hb dX7_can_39 (by decide) (fun c_39 => ?_) (fun c_39 => ?_)
        · replace hF := hF.trans (if_pos c_39)
          refine lv_iconst (v := 0) hx hb dX7_can_46 (by decide) ?_
          exact RT _ _ _ _ _ _ hh (rfl) (Or.inl ⟨_, rfl, by rw [hF], dX7_can_47, Or.inl rfl⟩)
        · replace hF := hF.trans (if_neg c_39)
          refine lv_iconst (v := 1) hx hb dX7_can_42 (by decide) ?_
          refine lv_goto (tgt := 47) hx hb dX7_can_43 (by decide) ?_
          exact RT _ _ _ _ _ _ hh (rfl) (Or.inl ⟨_, rfl, by rw [hF], dX7_can_47, Or.inl rfl⟩)
      · replace hF := hF.trans (if_pos c_26)
        refine lv_bipush (v := (-3)) hx hb dX7_can_29 (by decide) ?_
        exact RT _ _ _ _ _ _ hh (rfl) (Or.inl ⟨_, rfl, by rw [hF], dX7_can_31, Or.inl rfl⟩)
  · replace hF := hF.trans (if_pos c_5)
    refine lv_bipush (v := (-2)) hx hb dX7_can_8 (by decide) ?_
    exact RT _ _ _ _ _ _ hh (rfl) (Or.inl ⟨_, rfl, by rw [hF], dX7_can_10, Or.inl rfl⟩)
def F_X7_fitAt_4 (m_isRead1 : Int32) (m_clock : Nat → Int32) (x1 : Int32) : Nat → Int32 → Int32 → Int32
  | 0, _, _ => default
  | n + 1, x3_1, x2_2 => (if 8 ≤ x3_1 then x2_2 else (if (F_X7_has m_isRead1 x3_1) = 0 then ((F_X7_fitAt_4 m_isRead1 m_clock x1 n) (x3_1 + 1) (x2_2 ||| 0)) else (if (F_X7_canShow m_clock x3_1 x1 (m_clock ((6 * x3_1) + 5).toNatClampNeg)) = 0 then ((F_X7_fitAt_4 m_isRead1 m_clock x1 n) (x3_1 + 1) (x2_2 ||| 0)) else ((F_X7_fitAt_4 m_isRead1 m_clock x1 n) (x3_1 + 1) (x2_2 ||| (1 <<< (x3_1 &&& 31)))))))
def F_X7_fitAt (m_isRead1 : Int32) (m_clock : Nat → Int32) (x1 : Int32) : Int32 := (F_X7_fitAt_4 m_isRead1 m_clock x1 9 0 0)
theorem in_X7_fitAt_X7 : ∀ x ∈ u_ws RX7 TX7 26, x ∈ wsX7_fitAt := by decide +kernel
set_option maxHeartbeats 2000000 in
set_option maxRecDepth 100000 in
theorem c_X7_fitAt (l : Launch) (D : va_G) (cI cZ cC cH : ClassId) (o a_clock a_note a_text a_read a_fit a_shown a_image a_isKept a_row a_best : Nat) (m_told : Int32) (m_isRead1 : Int32) (m_clock : Nat → Int32) (m_note : Nat → Int32) (m_noted : Int32) (m_bytes : Int32) (m_text : Nat → Int32) (m_position : Int32) (m_tokenAt : Int32) (m_token : Int64) (m_digits : Int32) (m_number : Int32) (m_faultAt : Int32) (m_readMany : Int32) (m_readTold : Int32) (m_read : Nat → Int32) (m_fit : Nat → Int32) (m_shown : Nat → Int32) (m_image : Nat → Int32) (m_isKept : Nat → Int32) (m_row : Nat → Int32) (m_best : Nat → Int32) (m_againAt : Int32) (m_againStep : Int32) (m_orderMany : Int32) (m_orderLeast : Int32) (x1 : Int32)  : MC l D (TY cI cZ cC cH) yX7_fitAt wsX7_fitAt 4 90 [.ref o, .int x1] (WM cI cZ cC cH o a_clock a_note a_text a_read a_fit a_shown a_image a_isKept a_row a_best m_told m_isRead1 m_clock m_note m_noted m_bytes m_text m_position m_tokenAt m_token m_digits m_number m_faultAt m_readMany m_readTold m_read m_fit m_shown m_image m_isKept m_row m_best m_againAt m_againStep m_orderMany m_orderLeast) (some (.int (F_X7_fitAt m_isRead1 m_clock x1))) (WM cI cZ cC cH o a_clock a_note a_text a_read a_fit a_shown a_image a_isKept a_row a_best m_told m_isRead1 m_clock m_note m_noted m_bytes m_text m_position m_tokenAt m_token m_digits m_number m_faultAt m_readMany m_readTold m_read m_fit m_shown m_image m_isKept m_row m_best m_againAt m_againStep m_orderMany m_orderLeast) := by
  obtain ⟨R, hF⟩ : ∃ R, R = F_X7_fitAt m_isRead1 m_clock x1 := ⟨_, rfl⟩
  rw [← hF]
  refine MC.of (cc := cX7_fitAt) (maxL := 4) (ret := (some .int)) RX7 rfl (by decide +kernel) rfl (Nat.le_of_ble_eq_true rfl) ?_
  intro p e s m args below meth c A Q KX RT hh ls hl
  have z0 : (0 : Int32).toInt = 0 := rfl
  have z1 : (1 : Int32).toInt = 1 := rfl
  have zm : (-1 : Int32).toInt = -1 := rfl
  have hx := KX.1
  have hb := KX.2.1
  have hl : lv_has ls 4 [(0, .ref o), (1, .int x1)] := hl
  unfold F_X7_fitAt at hF
  refine lv_iconst (v := 0) hx hb dX7_fitAt_0 (by decide) ?_
  refine lv_istore_n (lv' := [(2, .int 0), (0, .ref o), (1, .int x1)]) hx hb dX7_fitAt_1 rfl hl (Nat.le_of_ble_eq_true rfl) rfl (fun ls hl => ?_)
  refine lv_iconst (v := 0) hx hb dX7_fitAt_2 (by decide) ?_
  refine lv_istore_n (lv' := [(3, .int 0), (2, .int 0), (0, .ref o), (1, .int x1)]) hx hb dX7_fitAt_3 rfl hl (Nat.le_of_ble_eq_true rfl) rfl (fun ls hl => ?_)
  have L_4 : ∀ (n_4 : Nat) (x3_1 : Int32) (x2_2 : Int32) (i0_4 : 0 ≤ x3_1.toInt) (i1_4 : x3_1.toInt ≤ 8) (_ : (8 - x3_1.toInt).toNat < n_4) (_ : R = (F_X7_fitAt_4 m_isRead1 m_clock x1) n_4 x3_1 x2_2) (ls : Array Slot) (H : Heap) (locs : List Loc) (_ : HS D A s.heap (WM cI cZ cC cH o a_clock a_note a_text a_read a_fit a_shown a_image a_isKept a_row a_best m_told m_isRead1 m_clock m_note m_noted m_bytes m_text m_position m_tokenAt m_token m_digits m_number m_faultAt m_readMany m_readTold m_read m_fit m_shown m_image m_isKept m_row m_best m_againAt m_againStep m_orderMany m_orderLeast) H locs) (_ : lv_has ls 4 [(3, .int x3_1), (2, .int x2_2), (0, .ref o), (1, .int x1)]), W p l e { frames := 4, cells := 0, slots := 0, locals := 90 } s m args below meth c H locs 0 0 Q (F0 m 4 ls []) := by
    intro n_4
    induction n_4 with
    | zero => intro x3_1 x2_2 i0_4 i1_4 hm; exact absurd hm (Nat.not_lt_zero _)
    | succ n_4 ih_4 =>
      intro x3_1 x2_2 i0_4 i1_4 hm_4 hF ls H locs hh hl
      rw [F_X7_fitAt_4.eq_2] at hF
      refine lv_iload_n hx hb dX7_fitAt_4 rfl (lv_at hl 0 rfl) ?_
      refine lv_bipush (v := 8) hx hb dX7_fitAt_5 (by decide) ?_
      refine lv_icmp_ge (tgt := 57) hx hb dX7_fitAt_7 (by decide) (fun c_7 => ?_) (fun c_7 => ?_)
      · replace hF := hF.trans (if_pos c_7)
        have i_7 : 8 ≤ x3_1.toInt := ti_le.mp c_7
        refine lv_iload_n hx hb dX7_fitAt_57 rfl (lv_at hl 1 rfl) ?_
        exact RT _ _ _ _ _ _ hh (rfl) (Or.inl ⟨_, rfl, by rw [hF], dX7_fitAt_58, Or.inl rfl⟩)
      · replace hF := hF.trans (if_neg c_7)
        have i_7 : x3_1.toInt < 8 := ti_nle c_7
        refine lv_iload_n hx hb dX7_fitAt_10 rfl (lv_at hl 1 rfl) ?_
        refine lv_aload_n hx hb dX7_fitAt_11 rfl (lv_at hl 2 rfl) ?_
        refine g_get KX hh in_X7_fitAt_X7 0 rfl rfl 1 (by decide) rfl (List.mem_of_getElem? (i := 1) rfl) dX7_fitAt_12 ?_
        refine lv_iload_n hx hb dX7_fitAt_15 rfl (lv_at hl 0 rfl) ?_
        refine g_callS (As := [.int m_isRead1, .int x3_1]) (rest := [.int x2_2]) KX rfl ⟨Nat.le_of_ble_eq_true rfl, Nat.le_of_ble_eq_true rfl⟩ hh hl (c_X7_has l D cI cZ cC cH  m_isRead1 x3_1 ) JN.no 2 gX7_fitAt_X7_has rfl (by decide +kernel) ⟨Nat.le_of_ble_eq_true rfl, Nat.le_of_ble_eq_true rfl⟩ rfl rfl (Nat.le_of_ble_eq_true rfl) dX7_fitAt_16 (fun H locs hh => ?_)
        refine W.eq (g2 := F0 m 19 ls [.int (F_X7_has m_isRead1 x3_1), .int x2_2]) rfl ?_
        refine lv_if_eq (tgt := 48) hx hb dX7_fitAt_19 (by decide) (fun c_19 => ?_) (fun c_19 => ?_)
        · replace hF := hF.trans (if_pos c_19)
          refine lv_iconst (v := 0) hx hb dX7_fitAt_48 (by decide) ?_
          refine lv_ior hx hb dX7_fitAt_49 ?_
          refine lv_istore_n (lv' := [(2, .int (x2_2 ||| 0)), (3, .int x3_1), (0, .ref o), (1, .int x1)]) hx hb dX7_fitAt_50 rfl hl (Nat.le_of_ble_eq_true rfl) rfl (fun ls hl => ?_)
          refine lv_iinc (v := x3_1 + 1) (lv' := [(3, .int (x3_1 + 1)), (2, .int (x2_2 ||| 0)), (0, .ref o), (1, .int x1)]) hx hb dX7_fitAt_51 hl (k := 1) rfl rfl (Nat.le_of_ble_eq_true rfl) rfl (fun ls hl => ?_)
          refine lv_goto (tgt := 4) hx hb dX7_fitAt_54 (by decide) ?_
          have e_inc : (x3_1 + 1).toInt = x3_1.toInt + 1 := ti_inc (by omega)
          exact ih_4 (x3_1 + 1) (x2_2 ||| 0) (by first | with_reducible assumption | omega | decide) (by first | with_reducible assumption | omega | decide) (by omega) hF _ _ _ hh (lv_sub hl [0, 1, 2, 3] rfl)
        · replace hF := hF.trans (if_neg c_19)
          refine lv_aload_n hx hb dX7_fitAt_22 rfl (lv_at hl 2 rfl) ?_
          refine lv_iload_n hx hb dX7_fitAt_23 rfl (lv_at hl 0 rfl) ?_
          refine lv_iload_n hx hb dX7_fitAt_24 rfl (lv_at hl 3 rfl) ?_
          refine lv_aload_n hx hb dX7_fitAt_25 rfl (lv_at hl 2 rfl) ?_
          refine g_get KX hh in_X7_fitAt_X7 0 rfl rfl 2 (by decide) rfl (List.mem_of_getElem? (i := 2) rfl) dX7_fitAt_26 ?_
          refine lv_bipush (v := 6) hx hb dX7_fitAt_29 (by decide) ?_
          refine lv_iload_n hx hb dX7_fitAt_31 rfl (lv_at hl 0 rfl) ?_
          refine lv_imul hx hb dX7_fitAt_32 ?_
          refine lv_iconst (v := 5) hx hb dX7_fitAt_33 (by decide) ?_
          refine lv_iadd hx hb dX7_fitAt_34 ?_
          refine g_iald KX hh 1 0 rfl rfl (ix6 5 (by omega) (by omega) (by decide)) dX7_fitAt_35 ?_
          refine g_callV (As := [.int x3_1, .int x1, .int (m_clock ((6 * x3_1) + 5).toNatClampNeg)]) (rest := [.int x2_2]) KX rfl ⟨Nat.le_of_ble_eq_true rfl, Nat.le_of_ble_eq_true rfl⟩ hh hl (c_X7_canShow l D cI cZ cC cH o a_clock a_note a_text a_read a_fit a_shown a_image a_isKept a_row a_best m_told m_isRead1 m_clock m_note m_noted m_bytes m_text m_position m_tokenAt m_token m_digits m_number m_faultAt m_readMany m_readTold m_read m_fit m_shown m_image m_isKept m_row m_best m_againAt m_againStep m_orderMany m_orderLeast x3_1 x1 (m_clock ((6 * x3_1) + 5).toNatClampNeg) (by first | with_reducible assumption | omega | decide) (by first | with_reducible assumption | omega | decide)) JN.all 3 gX7_fitAt_X7_canShow rfl (by decide +kernel) ⟨Nat.le_of_ble_eq_true rfl, Nat.le_of_ble_eq_true rfl⟩ 0 7 rfl rfl rfl rfl rfl (Nat.le_of_ble_eq_true rfl) dX7_fitAt_36 (fun H locs hh => ?_)
          refine W.eq (g2 := F0 m 39 ls [.int (F_X7_canShow m_clock x3_1 x1 (m_clock ((6 * x3_1) + 5).toNatClampNeg)), .int x2_2]) rfl ?_
          refine lv_if_eq (tgt := 48) hx hb dX7_fitAt_39 (by decide) (fun c_39 => ?_) (fun c_39 => ?_)
          · replace hF := hF.trans (if_pos c_39)
            refine lv_iconst (v := 0) hx hb dX7_fitAt_48 (by decide) ?_
            refine lv_ior hx hb dX7_fitAt_49 ?_
            refine lv_istore_n (lv' := [(2, .int (x2_2 ||| 0)), (3, .int x3_1), (0, .ref o), (1, .int x1)]) hx hb dX7_fitAt_50 rfl hl (Nat.le_of_ble_eq_true rfl) rfl (fun ls hl => ?_)
            refine lv_iinc (v := x3_1 + 1) (lv' := [(3, .int (x3_1 + 1)), (2, .int (x2_2 ||| 0)), (0, .ref o), (1, .int x1)]) hx hb dX7_fitAt_51 hl (k := 1) rfl rfl (Nat.le_of_ble_eq_true rfl) rfl (fun ls hl => ?_)
            refine lv_goto (tgt := 4) hx hb dX7_fitAt_54 (by decide) ?_
            have e_inc : (x3_1 + 1).toInt = x3_1.toInt + 1 := ti_inc (by omega)
            exact ih_4 (x3_1 + 1) (x2_2 ||| 0) (by first | with_reducible assumption | omega | decide) (by first | with_reducible assumption | omega | decide) (by omega) hF _ _ _ hh (lv_sub hl [0, 1, 2, 3] rfl)
          · replace hF := hF.trans (if_neg c_39)
            refine lv_iconst (v := 1) hx hb dX7_fitAt_42 (by decide) ?_
            refine lv_iload_n hx hb dX7_fitAt_43 rfl (lv_at hl 0 rfl) ?_
            refine lv_ishl hx hb dX7_fitAt_44 ?_
            refine lv_goto (tgt := 49) hx hb dX7_fitAt_45 (by decide) ?_
            refine lv_ior hx hb dX7_fitAt_49 ?_
            refine lv_istore_n (lv' := [(2, .int (x2_2 ||| (1 <<< (x3_1 &&& 31)))), (3, .int x3_1), (0, .ref o), (1, .int x1)]) hx hb dX7_fitAt_50 rfl hl (Nat.le_of_ble_eq_true rfl) rfl (fun ls hl => ?_)
            refine lv_iinc (v := x3_1 + 1) (lv' := [(3, .int (x3_1 + 1)), (2, .int (x2_2 ||| (1 <<< (x3_1 &&& 31)))), (0, .ref o), (1, .int x1)]) hx hb dX7_fitAt_51 hl (k := 1) rfl rfl (Nat.le_of_ble_eq_true rfl) rfl (fun ls hl => ?_)
            refine lv_goto (tgt := 4) hx hb dX7_fitAt_54 (by decide) ?_
            have e_inc : (x3_1 + 1).toInt = x3_1.toInt + 1 := ti_inc (by omega)
            exact ih_4 (x3_1 + 1) (x2_2 ||| (1 <<< (x3_1 &&& 31))) (by first | with_reducible assumption | omega | decide) (by first | with_reducible assumption | omega | decide) (by omega) hF _ _ _ hh (lv_sub hl [0, 1, 2, 3] rfl)
  exact L_4 9 0 0 (by first | with_reducible assumption | omega | decide) (by first | with_reducible assumption | omega | decide) (by first | omega | decide | (simp; done)) hF _ _ _ hh (lv_sub hl [0, 1, 2, 3] rfl)
def F_X7_fits (m_isRead1 : Int32) (m_clock : Nat → Int32) (x1 : Int32) : Int32 := (if (F_X7_isMinute x1) = 0 then (-3) else F_X7_fitAt m_isRead1 m_clock x1)
set_option maxHeartbeats 2000000 in
set_option maxRecDepth 100000 in
theorem c_X7_fits (l : Launch) (D : va_G) (cI cZ cC cH : ClassId) (o a_clock a_note a_text a_read a_fit a_shown a_image a_isKept a_row a_best : Nat) (m_told : Int32) (m_isRead1 : Int32) (m_clock : Nat → Int32) (m_note : Nat → Int32) (m_noted : Int32) (m_bytes : Int32) (m_text : Nat → Int32) (m_position : Int32) (m_tokenAt : Int32) (m_token : Int64) (m_digits : Int32) (m_number : Int32) (m_faultAt : Int32) (m_readMany : Int32) (m_readTold : Int32) (m_read : Nat → Int32) (m_fit : Nat → Int32) (m_shown : Nat → Int32) (m_image : Nat → Int32) (m_isKept : Nat → Int32) (m_row : Nat → Int32) (m_best : Nat → Int32) (m_againAt : Int32) (m_againStep : Int32) (m_orderMany : Int32) (m_orderLeast : Int32) (x1 : Int32)  : MC l D (TY cI cZ cC cH) yX7_fits wsX7_fits 5 113 [.ref o, .int x1] (WM cI cZ cC cH o a_clock a_note a_text a_read a_fit a_shown a_image a_isKept a_row a_best m_told m_isRead1 m_clock m_note m_noted m_bytes m_text m_position m_tokenAt m_token m_digits m_number m_faultAt m_readMany m_readTold m_read m_fit m_shown m_image m_isKept m_row m_best m_againAt m_againStep m_orderMany m_orderLeast) (some (.int (F_X7_fits m_isRead1 m_clock x1))) (WM cI cZ cC cH o a_clock a_note a_text a_read a_fit a_shown a_image a_isKept a_row a_best m_told m_isRead1 m_clock m_note m_noted m_bytes m_text m_position m_tokenAt m_token m_digits m_number m_faultAt m_readMany m_readTold m_read m_fit m_shown m_image m_isKept m_row m_best m_againAt m_againStep m_orderMany m_orderLeast) := by
  obtain ⟨R, hF⟩ : ∃ R, R = F_X7_fits m_isRead1 m_clock x1 := ⟨_, rfl⟩
  rw [← hF]
  refine MC.of (cc := cX7_fits) (maxL := 2) (ret := (some .int)) RX7 rfl (by decide +kernel) rfl (Nat.le_of_ble_eq_true rfl) ?_
  intro p e s m args below meth c A Q KX RT hh ls hl
  have z0 : (0 : Int32).toInt = 0 := rfl
  have z1 : (1 : Int32).toInt = 1 := rfl
  have zm : (-1 : Int32).toInt = -1 := rfl
  have hx := KX.1
  have hb := KX.2.1
  have hl : lv_has ls 2 [(0, .ref o), (1, .int x1)] := hl
  unfold F_X7_fits at hF
  refine lv_iload_n hx hb dX7_fits_0 rfl (lv_at hl 1 rfl) ?_
  refine g_callS (As := [.int x1]) (rest := []) KX rfl ⟨Nat.le_of_ble_eq_true rfl, Nat.le_of_ble_eq_true rfl⟩ hh hl (c_X7_isMinute l D cI cZ cC cH  x1 ) JN.no 1 gX7_fits_X7_isMinute rfl (by decide +kernel) ⟨Nat.le_of_ble_eq_true rfl, Nat.le_of_ble_eq_true rfl⟩ rfl rfl (Nat.le_of_ble_eq_true rfl) dX7_fits_1 (fun H locs hh => ?_)
  refine W.eq (g2 := F0 m 4 ls [.int (F_X7_isMinute x1)]) rfl ?_
  refine lv_if_eq (tgt := 15) hx hb dX7_fits_4 (by decide) (fun c_4 => ?_) (fun c_4 => ?_)
  · replace hF := hF.trans (if_pos c_4)
    refine lv_bipush (v := (-3)) hx hb dX7_fits_15 (by decide) ?_
    exact RT _ _ _ _ _ _ hh (rfl) (Or.inl ⟨_, rfl, by rw [hF], dX7_fits_17, Or.inl rfl⟩)
  · replace hF := hF.trans (if_neg c_4)
    obtain ⟨k0_4, k1_4⟩ := X7_isMinute_in c_4
    refine lv_aload_n hx hb dX7_fits_7 rfl (lv_at hl 0 rfl) ?_
    refine lv_iload_n hx hb dX7_fits_8 rfl (lv_at hl 1 rfl) ?_
    refine g_callV (As := [.int x1]) (rest := []) KX rfl ⟨Nat.le_of_ble_eq_true rfl, Nat.le_of_ble_eq_true rfl⟩ hh hl (c_X7_fitAt l D cI cZ cC cH o a_clock a_note a_text a_read a_fit a_shown a_image a_isKept a_row a_best m_told m_isRead1 m_clock m_note m_noted m_bytes m_text m_position m_tokenAt m_token m_digits m_number m_faultAt m_readMany m_readTold m_read m_fit m_shown m_image m_isKept m_row m_best m_againAt m_againStep m_orderMany m_orderLeast x1 ) JN.all 1 gX7_fits_X7_fitAt rfl (by decide +kernel) ⟨Nat.le_of_ble_eq_true rfl, Nat.le_of_ble_eq_true rfl⟩ 0 7 rfl rfl rfl rfl rfl (Nat.le_of_ble_eq_true rfl) dX7_fits_9 (fun H locs hh => ?_)
    refine W.eq (g2 := F0 m 12 ls [.int (F_X7_fitAt m_isRead1 m_clock x1)]) rfl ?_
    refine lv_goto (tgt := 17) hx hb dX7_fits_12 (by decide) ?_
    exact RT _ _ _ _ _ _ hh (rfl) (Or.inl ⟨_, rfl, by rw [hF], dX7_fits_17, Or.inl rfl⟩)
def F_X7_layFits_2 (m_isRead1 : Int32) (m_clock : Nat → Int32) : Nat → Int32 → (Nat → Int32) → (Nat → Int32)
  | 0, _, _ => default
  | n + 1, x1_1, w_m_fit_2 => (if 4320 ≤ x1_1 then w_m_fit_2 else ((F_X7_layFits_2 m_isRead1 m_clock n) (x1_1 + 1) (upd w_m_fit_2 x1_1.toNatClampNeg (F_X7_fitAt m_isRead1 m_clock x1_1))))
def F_X7_layFits (m_isRead1 : Int32) (m_clock : Nat → Int32) (m_fit : Nat → Int32) : (Nat → Int32) := (F_X7_layFits_2 m_isRead1 m_clock 4321 0 m_fit)
theorem in_X7_layFits_X7 : ∀ x ∈ u_ws RX7 TX7 26, x ∈ wsX7_layFits := by decide +kernel
set_option maxHeartbeats 2000000 in
set_option maxRecDepth 100000 in
theorem c_X7_layFits (l : Launch) (D : va_G) (cI cZ cC cH : ClassId) (o a_clock a_note a_text a_read a_fit a_shown a_image a_isKept a_row a_best : Nat) (m_told : Int32) (m_isRead1 : Int32) (m_clock : Nat → Int32) (m_note : Nat → Int32) (m_noted : Int32) (m_bytes : Int32) (m_text : Nat → Int32) (m_position : Int32) (m_tokenAt : Int32) (m_token : Int64) (m_digits : Int32) (m_number : Int32) (m_faultAt : Int32) (m_readMany : Int32) (m_readTold : Int32) (m_read : Nat → Int32) (m_fit : Nat → Int32) (m_shown : Nat → Int32) (m_image : Nat → Int32) (m_isKept : Nat → Int32) (m_row : Nat → Int32) (m_best : Nat → Int32) (m_againAt : Int32) (m_againStep : Int32) (m_orderMany : Int32) (m_orderLeast : Int32)   : MC l D (TY cI cZ cC cH) yX7_layFits wsX7_layFits 5 113 [.ref o] (WM cI cZ cC cH o a_clock a_note a_text a_read a_fit a_shown a_image a_isKept a_row a_best m_told m_isRead1 m_clock m_note m_noted m_bytes m_text m_position m_tokenAt m_token m_digits m_number m_faultAt m_readMany m_readTold m_read m_fit m_shown m_image m_isKept m_row m_best m_againAt m_againStep m_orderMany m_orderLeast) (none) (WM cI cZ cC cH o a_clock a_note a_text a_read a_fit a_shown a_image a_isKept a_row a_best m_told m_isRead1 m_clock m_note m_noted m_bytes m_text m_position m_tokenAt m_token m_digits m_number m_faultAt m_readMany m_readTold m_read (F_X7_layFits m_isRead1 m_clock m_fit) m_shown m_image m_isKept m_row m_best m_againAt m_againStep m_orderMany m_orderLeast) := by
  obtain ⟨R, hF⟩ : ∃ R, R = F_X7_layFits m_isRead1 m_clock m_fit := ⟨_, rfl⟩
  rw [← hF]
  refine MC.of (cc := cX7_layFits) (maxL := 2) (ret := none) RX7 rfl (by decide +kernel) rfl (Nat.le_of_ble_eq_true rfl) ?_
  intro p e s m args below meth c A Q KX RT hh ls hl
  have z0 : (0 : Int32).toInt = 0 := rfl
  have z1 : (1 : Int32).toInt = 1 := rfl
  have zm : (-1 : Int32).toInt = -1 := rfl
  have hx := KX.1
  have hb := KX.2.1
  have hl : lv_has ls 2 [(0, .ref o)] := hl
  unfold F_X7_layFits at hF
  refine lv_iconst (v := 0) hx hb dX7_layFits_0 (by decide) ?_
  refine lv_istore_n (lv' := [(1, .int 0), (0, .ref o)]) hx hb dX7_layFits_1 rfl hl (Nat.le_of_ble_eq_true rfl) rfl (fun ls hl => ?_)
  have L_2 : ∀ (n_2 : Nat) (x1_1 : Int32) (w_m_fit_2 : Nat → Int32) (i0_2 : 0 ≤ x1_1.toInt) (i1_2 : x1_1.toInt ≤ 4320) (_ : (4320 - x1_1.toInt).toNat < n_2) (_ : R = (F_X7_layFits_2 m_isRead1 m_clock) n_2 x1_1 w_m_fit_2) (ls : Array Slot) (H : Heap) (locs : List Loc) (_ : HS D A s.heap (WM cI cZ cC cH o a_clock a_note a_text a_read a_fit a_shown a_image a_isKept a_row a_best m_told m_isRead1 m_clock m_note m_noted m_bytes m_text m_position m_tokenAt m_token m_digits m_number m_faultAt m_readMany m_readTold m_read w_m_fit_2 m_shown m_image m_isKept m_row m_best m_againAt m_againStep m_orderMany m_orderLeast) H locs) (_ : lv_has ls 2 [(1, .int x1_1), (0, .ref o)]), W p l e { frames := 5, cells := 0, slots := 0, locals := 113 } s m args below meth c H locs 0 0 Q (F0 m 2 ls []) := by
    intro n_2
    induction n_2 with
    | zero => intro x1_1 w_m_fit_2 i0_2 i1_2 hm; exact absurd hm (Nat.not_lt_zero _)
    | succ n_2 ih_2 =>
      intro x1_1 w_m_fit_2 i0_2 i1_2 hm_2 hF ls H locs hh hl
      rw [F_X7_layFits_2.eq_2] at hF
      refine lv_iload_n hx hb dX7_layFits_2 rfl (lv_at hl 0 rfl) ?_
      refine lv_sipush (v := 4320) hx hb dX7_layFits_3 (by decide) ?_
      refine lv_icmp_ge (tgt := 26) hx hb dX7_layFits_6 (by decide) (fun c_6 => ?_) (fun c_6 => ?_)
      · replace hF := hF.trans (if_pos c_6)
        have i_6 : 4320 ≤ x1_1.toInt := ti_le.mp c_6
        exact RT _ _ _ _ _ _ hh (by rw [hF]) (Or.inr (Or.inr (Or.inl ⟨rfl, rfl, dX7_layFits_26, rfl⟩)))
      · replace hF := hF.trans (if_neg c_6)
        have i_6 : x1_1.toInt < 4320 := ti_nle c_6
        refine lv_aload_n hx hb dX7_layFits_9 rfl (lv_at hl 1 rfl) ?_
        refine g_get KX hh in_X7_layFits_X7 0 rfl rfl 16 (by decide) rfl (List.mem_of_getElem? (i := 1) rfl) dX7_layFits_10 ?_
        refine lv_iload_n hx hb dX7_layFits_13 rfl (lv_at hl 0 rfl) ?_
        refine lv_aload_n hx hb dX7_layFits_14 rfl (lv_at hl 1 rfl) ?_
        refine lv_iload_n hx hb dX7_layFits_15 rfl (lv_at hl 0 rfl) ?_
        refine g_callV (As := [.int x1_1]) (rest := [.int x1_1, .ref a_fit]) KX rfl ⟨Nat.le_of_ble_eq_true rfl, Nat.le_of_ble_eq_true rfl⟩ hh hl (c_X7_fitAt l D cI cZ cC cH o a_clock a_note a_text a_read a_fit a_shown a_image a_isKept a_row a_best m_told m_isRead1 m_clock m_note m_noted m_bytes m_text m_position m_tokenAt m_token m_digits m_number m_faultAt m_readMany m_readTold m_read w_m_fit_2 m_shown m_image m_isKept m_row m_best m_againAt m_againStep m_orderMany m_orderLeast x1_1 ) JN.all 1 gX7_layFits_X7_fitAt rfl (by decide +kernel) ⟨Nat.le_of_ble_eq_true rfl, Nat.le_of_ble_eq_true rfl⟩ 0 7 rfl rfl rfl rfl rfl (Nat.le_of_ble_eq_true rfl) dX7_layFits_16 (fun H locs hh => ?_)
        refine W.eq (g2 := F0 m 19 ls [.int (F_X7_fitAt m_isRead1 m_clock x1_1), .int x1_1, .ref a_fit]) rfl ?_
        refine g_iast KX hh 5 0 rfl rfl (vp_in_iff.mpr (by omega)) (w' := (WM cI cZ cC cH o a_clock a_note a_text a_read a_fit a_shown a_image a_isKept a_row a_best m_told m_isRead1 m_clock m_note m_noted m_bytes m_text m_position m_tokenAt m_token m_digits m_number m_faultAt m_readMany m_readTold m_read (upd w_m_fit_2 x1_1.toNatClampNeg (F_X7_fitAt m_isRead1 m_clock x1_1)) m_shown m_image m_isKept m_row m_best m_againAt m_againStep m_orderMany m_orderLeast)) rfl dX7_layFits_19 (fun H locs hh => ?_)
        refine lv_iinc (v := x1_1 + 1) (lv' := [(1, .int (x1_1 + 1)), (0, .ref o)]) hx hb dX7_layFits_20 hl (k := 0) rfl rfl (Nat.le_of_ble_eq_true rfl) rfl (fun ls hl => ?_)
        refine lv_goto (tgt := 2) hx hb dX7_layFits_23 (by decide) ?_
        have e_inc : (x1_1 + 1).toInt = x1_1.toInt + 1 := ti_inc (by omega)
        exact ih_2 (x1_1 + 1) (upd w_m_fit_2 x1_1.toNatClampNeg (F_X7_fitAt m_isRead1 m_clock x1_1)) (by first | with_reducible assumption | omega | decide) (by first | with_reducible assumption | omega | decide) (by omega) hF _ _ _ hh (lv_sub hl [0, 1] rfl)
  exact L_2 4321 0 m_fit (by first | with_reducible assumption | omega | decide) (by first | with_reducible assumption | omega | decide) (by first | omega | decide | (simp; done)) hF _ _ _ hh (lv_sub hl [0, 1] rfl)
def F_X7_times_71 (x6_2 : Int32) (x5_3 : Int32) (x3_5 : Int32) (x2_6 : Int32) (k_29 : Int32 → Int32 → Int32 → Int32 → Int32 → Int32 × (Nat → Int32)) (y0_7 : Int32) : Int32 × (Nat → Int32) := (if x2_6 = 0 then (k_29 (x6_2 + 1) (x5_3 + y0_7) x6_2 x6_2 (x2_6 + 1)) else (k_29 (x6_2 + 1) (x5_3 + y0_7) x6_2 x3_5 (x2_6 + 1)))
def F_X7_times_70 (x6_2 : Int32) (x5_3 : Int32) (x3_5 : Int32) (x2_6 : Int32) (k_29 : Int32 → Int32 → Int32 → Int32 → Int32 → Int32 × (Nat → Int32))  : Int32 × (Nat → Int32) := (F_X7_times_71 x6_2 x5_3 x3_5 x2_6 k_29 1)
def F_X7_times_29 (m_isRead1 : Int32) (x1 : Int32) (r13_1 : (Nat → Int32)) : Nat → Int32 → Int32 → Int32 → Int32 → Int32 → Int32 × (Nat → Int32)
  | 0, _, _, _, _, _ => default
  | n + 1, x6_2, x5_3, x4_4, x3_5, x2_6 => (if 4320 ≤ x6_2 then (if x1 = 0 then (x2_6, r13_1) else (if x1 = 1 then (x3_5, r13_1) else (if x1 = 2 then (x4_4, r13_1) else (x5_3, r13_1)))) else (if (r13_1 x6_2.toNatClampNeg) = m_isRead1 then (if x4_4 = (x6_2 - 1) then (if x2_6 ≤ 0 then F_X7_times_70 x6_2 x5_3 x3_5 x2_6 (F_X7_times_29 m_isRead1 x1 r13_1 n) else (F_X7_times_71 x6_2 x5_3 x3_5 x2_6 (F_X7_times_29 m_isRead1 x1 r13_1 n) 0)) else F_X7_times_70 x6_2 x5_3 x3_5 x2_6 (F_X7_times_29 m_isRead1 x1 r13_1 n)) else ((F_X7_times_29 m_isRead1 x1 r13_1 n) (x6_2 + 1) x5_3 x4_4 x3_5 x2_6)))
def F_X7_times_c13 (m_isRead1 : Int32) (x1 : Int32) (r13_1 : (Nat → Int32)) : Int32 × (Nat → Int32) := (F_X7_times_29 m_isRead1 x1 r13_1 4321 0 0 (-1) (-1) 0)
def F_X7_times (m_isRead1 : Int32) (m_clock : Nat → Int32) (m_fit : Nat → Int32) (x1 : Int32) : Int32 × (Nat → Int32) := (if (F_X7_in x1 0 3) = 0 then ((-3), m_fit) else (F_X7_times_c13 m_isRead1 x1 (F_X7_layFits m_isRead1 m_clock m_fit)))
theorem in_X7_times_X7 : ∀ x ∈ u_ws RX7 TX7 26, x ∈ wsX7_times := by decide +kernel
set_option maxHeartbeats 2000000 in
set_option maxRecDepth 100000 in
theorem c_X7_times (l : Launch) (D : va_G) (cI cZ cC cH : ClassId) (o a_clock a_note a_text a_read a_fit a_shown a_image a_isKept a_row a_best : Nat) (m_told : Int32) (m_isRead1 : Int32) (m_clock : Nat → Int32) (m_note : Nat → Int32) (m_noted : Int32) (m_bytes : Int32) (m_text : Nat → Int32) (m_position : Int32) (m_tokenAt : Int32) (m_token : Int64) (m_digits : Int32) (m_number : Int32) (m_faultAt : Int32) (m_readMany : Int32) (m_readTold : Int32) (m_read : Nat → Int32) (m_fit : Nat → Int32) (m_shown : Nat → Int32) (m_image : Nat → Int32) (m_isKept : Nat → Int32) (m_row : Nat → Int32) (m_best : Nat → Int32) (m_againAt : Int32) (m_againStep : Int32) (m_orderMany : Int32) (m_orderLeast : Int32) (x1 : Int32)  : MC l D (TY cI cZ cC cH) yX7_times wsX7_times 6 134 [.ref o, .int x1] (WM cI cZ cC cH o a_clock a_note a_text a_read a_fit a_shown a_image a_isKept a_row a_best m_told m_isRead1 m_clock m_note m_noted m_bytes m_text m_position m_tokenAt m_token m_digits m_number m_faultAt m_readMany m_readTold m_read m_fit m_shown m_image m_isKept m_row m_best m_againAt m_againStep m_orderMany m_orderLeast) (some (.int ((F_X7_times m_isRead1 m_clock m_fit x1).1))) (WM cI cZ cC cH o a_clock a_note a_text a_read a_fit a_shown a_image a_isKept a_row a_best m_told m_isRead1 m_clock m_note m_noted m_bytes m_text m_position m_tokenAt m_token m_digits m_number m_faultAt m_readMany m_readTold m_read (F_X7_times m_isRead1 m_clock m_fit x1).2 m_shown m_image m_isKept m_row m_best m_againAt m_againStep m_orderMany m_orderLeast) := by
  obtain ⟨R, hF⟩ : ∃ R, R = F_X7_times m_isRead1 m_clock m_fit x1 := ⟨_, rfl⟩
  rw [← hF]
  refine MC.of (cc := cX7_times) (maxL := 7) (ret := (some .int)) RX7 rfl (by decide +kernel) rfl (Nat.le_of_ble_eq_true rfl) ?_
  intro p e s m args below meth c A Q KX RT hh ls hl
  have z0 : (0 : Int32).toInt = 0 := rfl
  have z1 : (1 : Int32).toInt = 1 := rfl
  have zm : (-1 : Int32).toInt = -1 := rfl
  have hx := KX.1
  have hb := KX.2.1
  have hl : lv_has ls 7 [(0, .ref o), (1, .int x1)] := hl
  unfold F_X7_times at hF
  refine lv_iload_n hx hb dX7_times_0 rfl (lv_at hl 1 rfl) ?_
  refine lv_iconst (v := 0) hx hb dX7_times_1 (by decide) ?_
  refine lv_iconst (v := 3) hx hb dX7_times_2 (by decide) ?_
  refine g_callS (As := [.int x1, .int 0, .int 3]) (rest := []) KX rfl ⟨Nat.le_of_ble_eq_true rfl, Nat.le_of_ble_eq_true rfl⟩ hh hl (c_X7_in l D cI cZ cC cH  x1 0 3 ) JN.no 3 gX7_times_X7_in rfl (by decide +kernel) ⟨Nat.le_of_ble_eq_true rfl, Nat.le_of_ble_eq_true rfl⟩ rfl rfl (Nat.le_of_ble_eq_true rfl) dX7_times_3 (fun H locs hh => ?_)
  refine W.eq (g2 := F0 m 6 ls [.int (F_X7_in x1 0 3)]) rfl ?_
  refine lv_if_ne (tgt := 12) hx hb dX7_times_6 (by decide) (fun c_6 => ?_) (fun c_6 => ?_)
  · replace hF := hF.trans (if_neg c_6)
    obtain ⟨k0_6, k1_6⟩ : (0 : Int) ≤ x1.toInt ∧ x1.toInt ≤ 3 := X7_in_in c_6
    refine lv_aload_n hx hb dX7_times_12 rfl (lv_at hl 0 rfl) ?_
    refine g_callV (As := []) (rest := []) KX rfl ⟨Nat.le_of_ble_eq_true rfl, Nat.le_of_ble_eq_true rfl⟩ hh hl (c_X7_layFits l D cI cZ cC cH o a_clock a_note a_text a_read a_fit a_shown a_image a_isKept a_row a_best m_told m_isRead1 m_clock m_note m_noted m_bytes m_text m_position m_tokenAt m_token m_digits m_number m_faultAt m_readMany m_readTold m_read m_fit m_shown m_image m_isKept m_row m_best m_againAt m_againStep m_orderMany m_orderLeast  ) JN.all 0 gX7_times_X7_layFits rfl (by decide +kernel) ⟨Nat.le_of_ble_eq_true rfl, Nat.le_of_ble_eq_true rfl⟩ 0 7 rfl rfl rfl rfl rfl (Nat.le_of_ble_eq_true rfl) dX7_times_13 (fun H locs hh => ?_)
    refine W.eq (g2 := F0 m 16 ls []) rfl ?_
    generalize q_13 : F_X7_layFits m_isRead1 m_clock m_fit = r13_1 at hh hF ⊢
    unfold F_X7_times_c13 at hF
    refine lv_iconst (v := 0) hx hb dX7_times_16 (by decide) ?_
    refine lv_istore_n (lv' := [(2, .int 0), (0, .ref o), (1, .int x1)]) hx hb dX7_times_17 rfl hl (Nat.le_of_ble_eq_true rfl) rfl (fun ls hl => ?_)
    refine lv_iconst (v := (-1)) hx hb dX7_times_18 (by decide) ?_
    refine lv_istore_n (lv' := [(3, .int (-1)), (2, .int 0), (0, .ref o), (1, .int x1)]) hx hb dX7_times_19 rfl hl (Nat.le_of_ble_eq_true rfl) rfl (fun ls hl => ?_)
    refine lv_iconst (v := (-1)) hx hb dX7_times_20 (by decide) ?_
    refine lv_istore (lv' := [(4, .int (-1)), (3, .int (-1)), (2, .int 0), (0, .ref o), (1, .int x1)]) hx hb dX7_times_21 hl (Nat.le_of_ble_eq_true rfl) rfl (fun ls hl => ?_)
    refine lv_iconst (v := 0) hx hb dX7_times_23 (by decide) ?_
    refine lv_istore (lv' := [(5, .int 0), (4, .int (-1)), (3, .int (-1)), (2, .int 0), (0, .ref o), (1, .int x1)]) hx hb dX7_times_24 hl (Nat.le_of_ble_eq_true rfl) rfl (fun ls hl => ?_)
    refine lv_iconst (v := 0) hx hb dX7_times_26 (by decide) ?_
    refine lv_istore (lv' := [(6, .int 0), (5, .int 0), (4, .int (-1)), (3, .int (-1)), (2, .int 0), (0, .ref o), (1, .int x1)]) hx hb dX7_times_27 hl (Nat.le_of_ble_eq_true rfl) rfl (fun ls hl => ?_)
    have L_29 : ∀ (n_29 : Nat) (x6_2 : Int32) (x5_3 : Int32) (x4_4 : Int32) (x3_5 : Int32) (x2_6 : Int32) (i0_29 : 0 ≤ x6_2.toInt) (i1_29 : x6_2.toInt ≤ 4320) (_ : (4320 - x6_2.toInt).toNat < n_29) (_ : R = (F_X7_times_29 m_isRead1 x1 r13_1) n_29 x6_2 x5_3 x4_4 x3_5 x2_6) (ls : Array Slot) (H : Heap) (locs : List Loc) (_ : HS D A s.heap (WM cI cZ cC cH o a_clock a_note a_text a_read a_fit a_shown a_image a_isKept a_row a_best m_told m_isRead1 m_clock m_note m_noted m_bytes m_text m_position m_tokenAt m_token m_digits m_number m_faultAt m_readMany m_readTold m_read r13_1 m_shown m_image m_isKept m_row m_best m_againAt m_againStep m_orderMany m_orderLeast) H locs) (_ : lv_has ls 7 [(6, .int x6_2), (5, .int x5_3), (4, .int x4_4), (3, .int x3_5), (2, .int x2_6), (0, .ref o), (1, .int x1)]), W p l e { frames := 6, cells := 0, slots := 0, locals := 134 } s m args below meth c H locs 0 0 Q (F0 m 29 ls []) := by
      intro n_29
      induction n_29 with
      | zero => intro x6_2 x5_3 x4_4 x3_5 x2_6 i0_29 i1_29 hm; exact absurd hm (Nat.not_lt_zero _)
      | succ n_29 ih_29 =>
        intro x6_2 x5_3 x4_4 x3_5 x2_6 i0_29 i1_29 hm_29 hF ls H locs hh hl
        rw [F_X7_times_29.eq_2] at hF
        refine lv_iload hx hb dX7_times_29 (lv_at hl 0 rfl) ?_
        refine lv_sipush (v := 4320) hx hb dX7_times_31 (by decide) ?_
        refine lv_icmp_ge (tgt := 98) hx hb dX7_times_34 (by decide) (fun c_34 => ?_) (fun c_34 => ?_)
        · replace hF := hF.trans (if_pos c_34)
          have i_34 : 4320 ≤ x6_2.toInt := ti_le.mp c_34
          refine lv_iload_n hx hb dX7_times_98 rfl (lv_at hl 6 rfl) ?_
          refine lv_if_ne (tgt := 106) hx hb dX7_times_99 (by decide) (fun c_99 => ?_) (fun c_99 => ?_)
          · replace hF := hF.trans (if_neg c_99)
            have i_99 : ¬ x1.toInt = 0 := ti_ne c_99
            refine lv_iload_n hx hb dX7_times_106 rfl (lv_at hl 6 rfl) ?_
            refine lv_iconst (v := 1) hx hb dX7_times_107 (by decide) ?_
            refine lv_icmp_ne (tgt := 115) hx hb dX7_times_108 (by decide) (fun c_108 => ?_) (fun c_108 => ?_)
            · replace hF := hF.trans (if_neg c_108)
              have i_108 : ¬ x1.toInt = 1 := ti_ne c_108
              refine lv_iload_n hx hb dX7_times_115 rfl (lv_at hl 6 rfl) ?_
              refine lv_iconst (v := 2) hx hb dX7_times_116 (by decide) ?_
              refine lv_icmp_ne (tgt := 125) hx hb dX7_times_117 (by decide) (fun c_117 => ?_) (fun c_117 => ?_)
              · replace hF := hF.trans (if_neg c_117)
                have i_117 : ¬ x1.toInt = 2 := ti_ne c_117
                refine lv_iload hx hb dX7_times_125 (lv_at hl 1 rfl) ?_
                exact RT _ _ _ _ _ _ hh (by rw [hF]) (Or.inl ⟨_, rfl, by rw [hF], dX7_times_127, Or.inl rfl⟩)
              · replace hF := hF.trans (if_pos c_117)
                have i_117 : x1.toInt = 2 := congrArg Int32.toInt c_117
                refine lv_iload hx hb dX7_times_120 (lv_at hl 2 rfl) ?_
                refine lv_goto (tgt := 127) hx hb dX7_times_122 (by decide) ?_
                exact RT _ _ _ _ _ _ hh (by rw [hF]) (Or.inl ⟨_, rfl, by rw [hF], dX7_times_127, Or.inl rfl⟩)
            · replace hF := hF.trans (if_pos c_108)
              have i_108 : x1.toInt = 1 := congrArg Int32.toInt c_108
              refine lv_iload_n hx hb dX7_times_111 rfl (lv_at hl 3 rfl) ?_
              refine lv_goto (tgt := 127) hx hb dX7_times_112 (by decide) ?_
              exact RT _ _ _ _ _ _ hh (by rw [hF]) (Or.inl ⟨_, rfl, by rw [hF], dX7_times_127, Or.inl rfl⟩)
          · replace hF := hF.trans (if_pos c_99)
            have i_99 : x1.toInt = 0 := congrArg Int32.toInt c_99
            refine lv_iload_n hx hb dX7_times_102 rfl (lv_at hl 4 rfl) ?_
            refine lv_goto (tgt := 127) hx hb dX7_times_103 (by decide) ?_
            exact RT _ _ _ _ _ _ hh (by rw [hF]) (Or.inl ⟨_, rfl, by rw [hF], dX7_times_127, Or.inl rfl⟩)
        · replace hF := hF.trans (if_neg c_34)
          have i_34 : x6_2.toInt < 4320 := ti_nle c_34
          refine lv_aload_n hx hb dX7_times_37 rfl (lv_at hl 5 rfl) ?_
          refine g_get KX hh in_X7_times_X7 0 rfl rfl 16 (by decide) rfl (List.mem_of_getElem? (i := 1) rfl) dX7_times_38 ?_
          refine lv_iload hx hb dX7_times_41 (lv_at hl 0 rfl) ?_
          refine g_iald KX hh 5 0 rfl rfl (vp_in_iff.mpr (by omega)) dX7_times_43 ?_
          refine lv_aload_n hx hb dX7_times_44 rfl (lv_at hl 5 rfl) ?_
          refine g_get KX hh in_X7_times_X7 0 rfl rfl 1 (by decide) rfl (List.mem_of_getElem? (i := 2) rfl) dX7_times_45 ?_
          refine lv_icmp_ne (tgt := 92) hx hb dX7_times_48 (by decide) (fun c_48 => ?_) (fun c_48 => ?_)
          · replace hF := hF.trans (if_neg c_48)
            refine lv_iinc (v := x6_2 + 1) (lv' := [(6, .int (x6_2 + 1)), (5, .int x5_3), (4, .int x4_4), (3, .int x3_5), (2, .int x2_6), (0, .ref o), (1, .int x1)]) hx hb dX7_times_92 hl (k := 0) rfl rfl (Nat.le_of_ble_eq_true rfl) rfl (fun ls hl => ?_)
            refine lv_goto (tgt := 29) hx hb dX7_times_95 (by decide) ?_
            have e_inc : (x6_2 + 1).toInt = x6_2.toInt + 1 := ti_inc (by omega)
            exact ih_29 (x6_2 + 1) x5_3 x4_4 x3_5 x2_6 (by first | with_reducible assumption | omega | decide) (by first | with_reducible assumption | omega | decide) (by omega) hF _ _ _ hh (lv_sub hl [0, 1, 2, 3, 4, 5, 6] rfl)
          · replace hF := hF.trans (if_pos c_48)
            refine lv_iload hx hb dX7_times_51 (lv_at hl 1 rfl) ?_
            refine lv_iload hx hb dX7_times_53 (lv_at hl 2 rfl) ?_
            refine lv_iload hx hb dX7_times_55 (lv_at hl 0 rfl) ?_
            refine lv_iconst (v := 1) hx hb dX7_times_57 (by decide) ?_
            refine lv_isub hx hb dX7_times_58 ?_
            have K_71 : ∀ (y0_7 : Int32) (_ : R = (F_X7_times_71 x6_2 x5_3 x3_5 x2_6 ((F_X7_times_29 m_isRead1 x1 r13_1) n_29)) y0_7) (ls : Array Slot) (H : Heap) (locs : List Loc) (_ : HS D A s.heap (WM cI cZ cC cH o a_clock a_note a_text a_read a_fit a_shown a_image a_isKept a_row a_best m_told m_isRead1 m_clock m_note m_noted m_bytes m_text m_position m_tokenAt m_token m_digits m_number m_faultAt m_readMany m_readTold m_read r13_1 m_shown m_image m_isKept m_row m_best m_againAt m_againStep m_orderMany m_orderLeast) H locs) (_ : lv_has ls 7 [(6, .int x6_2), (5, .int x5_3), (4, .int x4_4), (3, .int x3_5), (2, .int x2_6), (0, .ref o), (1, .int x1)]), W p l e { frames := 6, cells := 0, slots := 0, locals := 134 } s m args below meth c H locs 0 0 Q (F0 m 71 ls [.int y0_7, .int x5_3]) := by
              intro y0_7 hF ls H locs hh hl
              unfold F_X7_times_71 at hF
              refine lv_iadd hx hb dX7_times_71 ?_
              refine lv_istore (lv' := [(5, .int (x5_3 + y0_7)), (6, .int x6_2), (4, .int x4_4), (3, .int x3_5), (2, .int x2_6), (0, .ref o), (1, .int x1)]) hx hb dX7_times_72 hl (Nat.le_of_ble_eq_true rfl) rfl (fun ls hl => ?_)
              refine lv_iload_n hx hb dX7_times_74 rfl (lv_at hl 4 rfl) ?_
              refine lv_if_ne (tgt := 83) hx hb dX7_times_75 (by decide) (fun c_75 => ?_) (fun c_75 => ?_)
              · replace hF := hF.trans (if_neg c_75)
                have i_75 : ¬ x2_6.toInt = 0 := ti_ne c_75
                refine lv_iload_n hx hb dX7_times_83 rfl (lv_at hl 3 rfl) ?_
                refine lv_istore_n (lv' := [(3, .int x3_5), (5, .int (x5_3 + y0_7)), (6, .int x6_2), (4, .int x4_4), (2, .int x2_6), (0, .ref o), (1, .int x1)]) hx hb dX7_times_84 rfl hl (Nat.le_of_ble_eq_true rfl) rfl (fun ls hl => ?_)
                refine lv_iload hx hb dX7_times_85 (lv_at hl 2 rfl) ?_
                refine lv_istore (lv' := [(4, .int x6_2), (3, .int x3_5), (5, .int (x5_3 + y0_7)), (6, .int x6_2), (2, .int x2_6), (0, .ref o), (1, .int x1)]) hx hb dX7_times_87 hl (Nat.le_of_ble_eq_true rfl) rfl (fun ls hl => ?_)
                refine lv_iinc (v := x2_6 + 1) (lv' := [(2, .int (x2_6 + 1)), (4, .int x6_2), (3, .int x3_5), (5, .int (x5_3 + y0_7)), (6, .int x6_2), (0, .ref o), (1, .int x1)]) hx hb dX7_times_89 hl (k := 4) rfl rfl (Nat.le_of_ble_eq_true rfl) rfl (fun ls hl => ?_)
                refine lv_iinc (v := x6_2 + 1) (lv' := [(6, .int (x6_2 + 1)), (2, .int (x2_6 + 1)), (4, .int x6_2), (3, .int x3_5), (5, .int (x5_3 + y0_7)), (0, .ref o), (1, .int x1)]) hx hb dX7_times_92 hl (k := 4) rfl rfl (Nat.le_of_ble_eq_true rfl) rfl (fun ls hl => ?_)
                refine lv_goto (tgt := 29) hx hb dX7_times_95 (by decide) ?_
                have e_inc : (x6_2 + 1).toInt = x6_2.toInt + 1 := ti_inc (by omega)
                exact ih_29 (x6_2 + 1) (x5_3 + y0_7) x6_2 x3_5 (x2_6 + 1) (by first | with_reducible assumption | omega | decide) (by first | with_reducible assumption | omega | decide) (by omega) hF _ _ _ hh (lv_sub hl [0, 4, 2, 3, 1, 5, 6] rfl)
              · replace hF := hF.trans (if_pos c_75)
                have i_75 : x2_6.toInt = 0 := congrArg Int32.toInt c_75
                refine lv_iload hx hb dX7_times_78 (lv_at hl 1 rfl) ?_
                refine lv_goto (tgt := 84) hx hb dX7_times_80 (by decide) ?_
                refine lv_istore_n (lv' := [(3, .int x6_2), (5, .int (x5_3 + y0_7)), (6, .int x6_2), (4, .int x4_4), (2, .int x2_6), (0, .ref o), (1, .int x1)]) hx hb dX7_times_84 rfl hl (Nat.le_of_ble_eq_true rfl) rfl (fun ls hl => ?_)
                refine lv_iload hx hb dX7_times_85 (lv_at hl 2 rfl) ?_
                refine lv_istore (lv' := [(4, .int x6_2), (3, .int x6_2), (5, .int (x5_3 + y0_7)), (6, .int x6_2), (2, .int x2_6), (0, .ref o), (1, .int x1)]) hx hb dX7_times_87 hl (Nat.le_of_ble_eq_true rfl) rfl (fun ls hl => ?_)
                refine lv_iinc (v := x2_6 + 1) (lv' := [(2, .int (x2_6 + 1)), (4, .int x6_2), (3, .int x6_2), (5, .int (x5_3 + y0_7)), (6, .int x6_2), (0, .ref o), (1, .int x1)]) hx hb dX7_times_89 hl (k := 4) rfl rfl (Nat.le_of_ble_eq_true rfl) rfl (fun ls hl => ?_)
                refine lv_iinc (v := x6_2 + 1) (lv' := [(6, .int (x6_2 + 1)), (2, .int (x2_6 + 1)), (4, .int x6_2), (3, .int x6_2), (5, .int (x5_3 + y0_7)), (0, .ref o), (1, .int x1)]) hx hb dX7_times_92 hl (k := 4) rfl rfl (Nat.le_of_ble_eq_true rfl) rfl (fun ls hl => ?_)
                refine lv_goto (tgt := 29) hx hb dX7_times_95 (by decide) ?_
                have e_inc : (x6_2 + 1).toInt = x6_2.toInt + 1 := ti_inc (by omega)
                exact ih_29 (x6_2 + 1) (x5_3 + y0_7) x6_2 x6_2 (x2_6 + 1) (by first | with_reducible assumption | omega | decide) (by first | with_reducible assumption | omega | decide) (by omega) hF _ _ _ hh (lv_sub hl [0, 4, 2, 3, 1, 5, 6] rfl)
            have K_70 : ∀ (_ : R = (F_X7_times_70 x6_2 x5_3 x3_5 x2_6 ((F_X7_times_29 m_isRead1 x1 r13_1) n_29))) (ls : Array Slot) (H : Heap) (locs : List Loc) (_ : HS D A s.heap (WM cI cZ cC cH o a_clock a_note a_text a_read a_fit a_shown a_image a_isKept a_row a_best m_told m_isRead1 m_clock m_note m_noted m_bytes m_text m_position m_tokenAt m_token m_digits m_number m_faultAt m_readMany m_readTold m_read r13_1 m_shown m_image m_isKept m_row m_best m_againAt m_againStep m_orderMany m_orderLeast) H locs) (_ : lv_has ls 7 [(6, .int x6_2), (5, .int x5_3), (4, .int x4_4), (3, .int x3_5), (2, .int x2_6), (0, .ref o), (1, .int x1)]), W p l e { frames := 6, cells := 0, slots := 0, locals := 134 } s m args below meth c H locs 0 0 Q (F0 m 70 ls [.int x5_3]) := by
              intro  hF ls H locs hh hl
              unfold F_X7_times_70 at hF
              refine lv_iconst (v := 1) hx hb dX7_times_70 (by decide) ?_
              exact K_71 1  hF _ _ _ hh (lv_sub hl [0, 1, 2, 3, 4, 5, 6] rfl)
            refine lv_icmp_ne (tgt := 70) hx hb dX7_times_59 (by decide) (fun c_59 => ?_) (fun c_59 => ?_)
            · replace hF := hF.trans (if_neg c_59)
              have i_59 : ¬ x4_4.toInt = (x6_2 - 1).toInt := ti_ne c_59
              exact K_70   hF _ _ _ hh (lv_sub hl [0, 1, 2, 3, 4, 5, 6] rfl)
            · replace hF := hF.trans (if_pos c_59)
              have i_59 : x4_4.toInt = (x6_2 - 1).toInt := congrArg Int32.toInt c_59
              refine lv_iload_n hx hb dX7_times_62 rfl (lv_at hl 4 rfl) ?_
              refine lv_if_le (tgt := 70) hx hb dX7_times_63 (by decide) (fun c_63 => ?_) (fun c_63 => ?_)
              · replace hF := hF.trans (if_pos c_63)
                have i_63 : x2_6.toInt ≤ 0 := ti_le.mp c_63
                exact K_70   hF _ _ _ hh (lv_sub hl [0, 1, 2, 3, 4, 5, 6] rfl)
              · replace hF := hF.trans (if_neg c_63)
                have i_63 : 0 < x2_6.toInt := ti_nle c_63
                refine lv_iconst (v := 0) hx hb dX7_times_66 (by decide) ?_
                refine lv_goto (tgt := 71) hx hb dX7_times_67 (by decide) ?_
                exact K_71 0  hF _ _ _ hh (lv_sub hl [0, 1, 2, 3, 4, 5, 6] rfl)
    exact L_29 4321 0 0 (-1) (-1) 0 (by first | with_reducible assumption | omega | decide) (by first | with_reducible assumption | omega | decide) (by first | omega | decide | (simp; done)) hF _ _ _ hh (lv_sub hl [0, 1, 2, 3, 4, 5, 6] rfl)
  · replace hF := hF.trans (if_pos c_6)
    refine lv_bipush (v := (-3)) hx hb dX7_times_9 (by decide) ?_
    exact RT _ _ _ _ _ _ hh (by rw [hF]) (Or.inl ⟨_, rfl, by rw [hF], dX7_times_11, Or.inl rfl⟩)
def F_X7_liars_35 (m_isRead1 : Int32) (x1 : Int32) (r13_1 : (Nat → Int32)) : Nat → Int32 → Int32 → Int32 → Int32 × (Nat → Int32)
  | 0, _, _, _ => default
  | n + 1, x4_2, x3_3, x2_4 => (if 4320 ≤ x4_2 then (if x1 = 0 then (F_X7_bits x2_4, r13_1) else (if x1 = 1 then (x2_4, r13_1) else (x3_3, r13_1))) else (if (F_X7_bits (m_isRead1 &&& ((r13_1 x4_2.toNatClampNeg) ^^^ (-1)))) < (F_X7_bits x2_4) then ((F_X7_liars_35 m_isRead1 x1 r13_1 n) (x4_2 + 1) x4_2 (m_isRead1 &&& ((r13_1 x4_2.toNatClampNeg) ^^^ (-1)))) else (if (F_X7_bits (m_isRead1 &&& ((r13_1 x4_2.toNatClampNeg) ^^^ (-1)))) = (F_X7_bits x2_4) then (if x2_4 ≤ (m_isRead1 &&& ((r13_1 x4_2.toNatClampNeg) ^^^ (-1))) then ((F_X7_liars_35 m_isRead1 x1 r13_1 n) (x4_2 + 1) x3_3 x2_4) else ((F_X7_liars_35 m_isRead1 x1 r13_1 n) (x4_2 + 1) x4_2 (m_isRead1 &&& ((r13_1 x4_2.toNatClampNeg) ^^^ (-1))))) else ((F_X7_liars_35 m_isRead1 x1 r13_1 n) (x4_2 + 1) x3_3 x2_4))))
def F_X7_liars_c13 (m_isRead1 : Int32) (x1 : Int32) (r13_1 : (Nat → Int32)) : Int32 × (Nat → Int32) := (F_X7_liars_35 m_isRead1 x1 r13_1 4321 1 0 (m_isRead1 &&& ((r13_1 (0 : Int32).toNatClampNeg) ^^^ (-1))))
def F_X7_liars (m_isRead1 : Int32) (m_clock : Nat → Int32) (m_fit : Nat → Int32) (x1 : Int32) : Int32 × (Nat → Int32) := (if (F_X7_in x1 0 2) = 0 then ((-3), m_fit) else (F_X7_liars_c13 m_isRead1 x1 (F_X7_layFits m_isRead1 m_clock m_fit)))
theorem in_X7_liars_X7 : ∀ x ∈ u_ws RX7 TX7 26, x ∈ wsX7_liars := by decide +kernel
set_option maxHeartbeats 2000000 in
set_option maxRecDepth 100000 in
theorem c_X7_liars (l : Launch) (D : va_G) (cI cZ cC cH : ClassId) (o a_clock a_note a_text a_read a_fit a_shown a_image a_isKept a_row a_best : Nat) (m_told : Int32) (m_isRead1 : Int32) (m_clock : Nat → Int32) (m_note : Nat → Int32) (m_noted : Int32) (m_bytes : Int32) (m_text : Nat → Int32) (m_position : Int32) (m_tokenAt : Int32) (m_token : Int64) (m_digits : Int32) (m_number : Int32) (m_faultAt : Int32) (m_readMany : Int32) (m_readTold : Int32) (m_read : Nat → Int32) (m_fit : Nat → Int32) (m_shown : Nat → Int32) (m_image : Nat → Int32) (m_isKept : Nat → Int32) (m_row : Nat → Int32) (m_best : Nat → Int32) (m_againAt : Int32) (m_againStep : Int32) (m_orderMany : Int32) (m_orderLeast : Int32) (x1 : Int32)  : MC l D (TY cI cZ cC cH) yX7_liars wsX7_liars 6 134 [.ref o, .int x1] (WM cI cZ cC cH o a_clock a_note a_text a_read a_fit a_shown a_image a_isKept a_row a_best m_told m_isRead1 m_clock m_note m_noted m_bytes m_text m_position m_tokenAt m_token m_digits m_number m_faultAt m_readMany m_readTold m_read m_fit m_shown m_image m_isKept m_row m_best m_againAt m_againStep m_orderMany m_orderLeast) (some (.int ((F_X7_liars m_isRead1 m_clock m_fit x1).1))) (WM cI cZ cC cH o a_clock a_note a_text a_read a_fit a_shown a_image a_isKept a_row a_best m_told m_isRead1 m_clock m_note m_noted m_bytes m_text m_position m_tokenAt m_token m_digits m_number m_faultAt m_readMany m_readTold m_read (F_X7_liars m_isRead1 m_clock m_fit x1).2 m_shown m_image m_isKept m_row m_best m_againAt m_againStep m_orderMany m_orderLeast) := by
  obtain ⟨R, hF⟩ : ∃ R, R = F_X7_liars m_isRead1 m_clock m_fit x1 := ⟨_, rfl⟩
  rw [← hF]
  refine MC.of (cc := cX7_liars) (maxL := 6) (ret := (some .int)) RX7 rfl (by decide +kernel) rfl (Nat.le_of_ble_eq_true rfl) ?_
  intro p e s m args below meth c A Q KX RT hh ls hl
  have z0 : (0 : Int32).toInt = 0 := rfl
  have z1 : (1 : Int32).toInt = 1 := rfl
  have zm : (-1 : Int32).toInt = -1 := rfl
  have hx := KX.1
  have hb := KX.2.1
  have hl : lv_has ls 6 [(0, .ref o), (1, .int x1)] := hl
  unfold F_X7_liars at hF
  refine lv_iload_n hx hb dX7_liars_0 rfl (lv_at hl 1 rfl) ?_
  refine lv_iconst (v := 0) hx hb dX7_liars_1 (by decide) ?_
  refine lv_iconst (v := 2) hx hb dX7_liars_2 (by decide) ?_
  refine g_callS (As := [.int x1, .int 0, .int 2]) (rest := []) KX rfl ⟨Nat.le_of_ble_eq_true rfl, Nat.le_of_ble_eq_true rfl⟩ hh hl (c_X7_in l D cI cZ cC cH  x1 0 2 ) JN.no 3 gX7_liars_X7_in rfl (by decide +kernel) ⟨Nat.le_of_ble_eq_true rfl, Nat.le_of_ble_eq_true rfl⟩ rfl rfl (Nat.le_of_ble_eq_true rfl) dX7_liars_3 (fun H locs hh => ?_)
  refine W.eq (g2 := F0 m 6 ls [.int (F_X7_in x1 0 2)]) rfl ?_
  refine lv_if_ne (tgt := 12) hx hb dX7_liars_6 (by decide) (fun c_6 => ?_) (fun c_6 => ?_)
  · replace hF := hF.trans (if_neg c_6)
    obtain ⟨k0_6, k1_6⟩ : (0 : Int) ≤ x1.toInt ∧ x1.toInt ≤ 2 := X7_in_in c_6
    refine lv_aload_n hx hb dX7_liars_12 rfl (lv_at hl 0 rfl) ?_
    refine g_callV (As := []) (rest := []) KX rfl ⟨Nat.le_of_ble_eq_true rfl, Nat.le_of_ble_eq_true rfl⟩ hh hl (c_X7_layFits l D cI cZ cC cH o a_clock a_note a_text a_read a_fit a_shown a_image a_isKept a_row a_best m_told m_isRead1 m_clock m_note m_noted m_bytes m_text m_position m_tokenAt m_token m_digits m_number m_faultAt m_readMany m_readTold m_read m_fit m_shown m_image m_isKept m_row m_best m_againAt m_againStep m_orderMany m_orderLeast  ) JN.all 0 gX7_liars_X7_layFits rfl (by decide +kernel) ⟨Nat.le_of_ble_eq_true rfl, Nat.le_of_ble_eq_true rfl⟩ 0 7 rfl rfl rfl rfl rfl (Nat.le_of_ble_eq_true rfl) dX7_liars_13 (fun H locs hh => ?_)
    refine W.eq (g2 := F0 m 16 ls []) rfl ?_
    generalize q_13 : F_X7_layFits m_isRead1 m_clock m_fit = r13_1 at hh hF ⊢
    unfold F_X7_liars_c13 at hF
    refine lv_aload_n hx hb dX7_liars_16 rfl (lv_at hl 0 rfl) ?_
    refine g_get KX hh in_X7_liars_X7 0 rfl rfl 1 (by decide) rfl (List.mem_of_getElem? (i := 1) rfl) dX7_liars_17 ?_
    refine lv_aload_n hx hb dX7_liars_20 rfl (lv_at hl 0 rfl) ?_
    refine g_get KX hh in_X7_liars_X7 0 rfl rfl 16 (by decide) rfl (List.mem_of_getElem? (i := 2) rfl) dX7_liars_21 ?_
    refine lv_iconst (v := 0) hx hb dX7_liars_24 (by decide) ?_
    refine g_iald KX hh 5 0 rfl rfl (vp_in_iff.mpr (by decide)) dX7_liars_25 ?_
    refine lv_iconst (v := (-1)) hx hb dX7_liars_26 (by decide) ?_
    refine lv_ixor hx hb dX7_liars_27 ?_
    refine lv_iand hx hb dX7_liars_28 ?_
    refine lv_istore_n (lv' := [(2, .int (m_isRead1 &&& ((r13_1 (0 : Int32).toNatClampNeg) ^^^ (-1)))), (0, .ref o), (1, .int x1)]) hx hb dX7_liars_29 rfl hl (Nat.le_of_ble_eq_true rfl) rfl (fun ls hl => ?_)
    refine lv_iconst (v := 0) hx hb dX7_liars_30 (by decide) ?_
    refine lv_istore_n (lv' := [(3, .int 0), (2, .int (m_isRead1 &&& ((r13_1 (0 : Int32).toNatClampNeg) ^^^ (-1)))), (0, .ref o), (1, .int x1)]) hx hb dX7_liars_31 rfl hl (Nat.le_of_ble_eq_true rfl) rfl (fun ls hl => ?_)
    refine lv_iconst (v := 1) hx hb dX7_liars_32 (by decide) ?_
    refine lv_istore (lv' := [(4, .int 1), (3, .int 0), (2, .int (m_isRead1 &&& ((r13_1 (0 : Int32).toNatClampNeg) ^^^ (-1)))), (0, .ref o), (1, .int x1)]) hx hb dX7_liars_33 hl (Nat.le_of_ble_eq_true rfl) rfl (fun ls hl => ?_)
    have L_35 : ∀ (n_35 : Nat) (x4_2 : Int32) (x3_3 : Int32) (x2_4 : Int32) (i0_35 : 0 ≤ x4_2.toInt) (i1_35 : x4_2.toInt ≤ 4320) (_ : (4320 - x4_2.toInt).toNat < n_35) (_ : R = (F_X7_liars_35 m_isRead1 x1 r13_1) n_35 x4_2 x3_3 x2_4) (ls : Array Slot) (H : Heap) (locs : List Loc) (_ : HS D A s.heap (WM cI cZ cC cH o a_clock a_note a_text a_read a_fit a_shown a_image a_isKept a_row a_best m_told m_isRead1 m_clock m_note m_noted m_bytes m_text m_position m_tokenAt m_token m_digits m_number m_faultAt m_readMany m_readTold m_read r13_1 m_shown m_image m_isKept m_row m_best m_againAt m_againStep m_orderMany m_orderLeast) H locs) (_ : lv_has ls 6 [(4, .int x4_2), (3, .int x3_3), (2, .int x2_4), (0, .ref o), (1, .int x1)]), W p l e { frames := 6, cells := 0, slots := 0, locals := 134 } s m args below meth c H locs 0 0 Q (F0 m 35 ls []) := by
      intro n_35
      induction n_35 with
      | zero => intro x4_2 x3_3 x2_4 i0_35 i1_35 hm; exact absurd hm (Nat.not_lt_zero _)
      | succ n_35 ih_35 =>
        intro x4_2 x3_3 x2_4 i0_35 i1_35 hm_35 hF ls H locs hh hl
        rw [F_X7_liars_35.eq_2] at hF
        refine lv_iload hx hb dX7_liars_35 (lv_at hl 0 rfl) ?_
        refine lv_sipush (v := 4320) hx hb dX7_liars_37 (by decide) ?_
        refine lv_icmp_ge (tgt := 101) hx hb dX7_liars_40 (by decide) (fun c_40 => ?_) (fun c_40 => ?_)
        · replace hF := hF.trans (if_pos c_40)
          have i_40 : 4320 ≤ x4_2.toInt := ti_le.mp c_40
          refine lv_iload_n hx hb dX7_liars_101 rfl (lv_at hl 4 rfl) ?_
          refine lv_if_ne (tgt := 112) hx hb dX7_liars_102 (by decide) (fun c_102 => ?_) (fun c_102 => ?_)
          · replace hF := hF.trans (if_neg c_102)
            have i_102 : ¬ x1.toInt = 0 := ti_ne c_102
            refine lv_iload_n hx hb dX7_liars_112 rfl (lv_at hl 4 rfl) ?_
            refine lv_iconst (v := 1) hx hb dX7_liars_113 (by decide) ?_
            refine lv_icmp_ne (tgt := 121) hx hb dX7_liars_114 (by decide) (fun c_114 => ?_) (fun c_114 => ?_)
            · replace hF := hF.trans (if_neg c_114)
              have i_114 : ¬ x1.toInt = 1 := ti_ne c_114
              refine lv_iload_n hx hb dX7_liars_121 rfl (lv_at hl 1 rfl) ?_
              exact RT _ _ _ _ _ _ hh (by rw [hF]) (Or.inl ⟨_, rfl, by rw [hF], dX7_liars_122, Or.inl rfl⟩)
            · replace hF := hF.trans (if_pos c_114)
              have i_114 : x1.toInt = 1 := congrArg Int32.toInt c_114
              refine lv_iload_n hx hb dX7_liars_117 rfl (lv_at hl 2 rfl) ?_
              refine lv_goto (tgt := 122) hx hb dX7_liars_118 (by decide) ?_
              exact RT _ _ _ _ _ _ hh (by rw [hF]) (Or.inl ⟨_, rfl, by rw [hF], dX7_liars_122, Or.inl rfl⟩)
          · replace hF := hF.trans (if_pos c_102)
            have i_102 : x1.toInt = 0 := congrArg Int32.toInt c_102
            refine lv_iload_n hx hb dX7_liars_105 rfl (lv_at hl 2 rfl) ?_
            refine g_callS (As := [.int x2_4]) (rest := []) KX rfl ⟨Nat.le_of_ble_eq_true rfl, Nat.le_of_ble_eq_true rfl⟩ hh hl (c_X7_bits l D cI cZ cC cH  x2_4 ) JN.no 1 gX7_liars_X7_bits rfl (by decide +kernel) ⟨Nat.le_of_ble_eq_true rfl, Nat.le_of_ble_eq_true rfl⟩ rfl rfl (Nat.le_of_ble_eq_true rfl) dX7_liars_106 (fun H locs hh => ?_)
            refine W.eq (g2 := F0 m 109 ls [.int (F_X7_bits x2_4)]) rfl ?_
            refine lv_goto (tgt := 122) hx hb dX7_liars_109 (by decide) ?_
            exact RT _ _ _ _ _ _ hh (by rw [hF]) (Or.inl ⟨_, rfl, by rw [hF], dX7_liars_122, Or.inl rfl⟩)
        · replace hF := hF.trans (if_neg c_40)
          have i_40 : x4_2.toInt < 4320 := ti_nle c_40
          refine lv_aload_n hx hb dX7_liars_43 rfl (lv_at hl 3 rfl) ?_
          refine g_get KX hh in_X7_liars_X7 0 rfl rfl 1 (by decide) rfl (List.mem_of_getElem? (i := 1) rfl) dX7_liars_44 ?_
          refine lv_aload_n hx hb dX7_liars_47 rfl (lv_at hl 3 rfl) ?_
          refine g_get KX hh in_X7_liars_X7 0 rfl rfl 16 (by decide) rfl (List.mem_of_getElem? (i := 2) rfl) dX7_liars_48 ?_
          refine lv_iload hx hb dX7_liars_51 (lv_at hl 0 rfl) ?_
          refine g_iald KX hh 5 0 rfl rfl (vp_in_iff.mpr (by omega)) dX7_liars_53 ?_
          refine lv_iconst (v := (-1)) hx hb dX7_liars_54 (by decide) ?_
          refine lv_ixor hx hb dX7_liars_55 ?_
          refine lv_iand hx hb dX7_liars_56 ?_
          refine lv_istore (lv' := [(5, .int (m_isRead1 &&& ((r13_1 x4_2.toNatClampNeg) ^^^ (-1)))), (4, .int x4_2), (3, .int x3_3), (2, .int x2_4), (0, .ref o), (1, .int x1)]) hx hb dX7_liars_57 hl (Nat.le_of_ble_eq_true rfl) rfl (fun ls hl => ?_)
          refine lv_iload hx hb dX7_liars_59 (lv_at hl 0 rfl) ?_
          refine g_callS (As := [.int (m_isRead1 &&& ((r13_1 x4_2.toNatClampNeg) ^^^ (-1)))]) (rest := []) KX rfl ⟨Nat.le_of_ble_eq_true rfl, Nat.le_of_ble_eq_true rfl⟩ hh hl (c_X7_bits l D cI cZ cC cH  (m_isRead1 &&& ((r13_1 x4_2.toNatClampNeg) ^^^ (-1))) ) JN.no 1 gX7_liars_X7_bits rfl (by decide +kernel) ⟨Nat.le_of_ble_eq_true rfl, Nat.le_of_ble_eq_true rfl⟩ rfl rfl (Nat.le_of_ble_eq_true rfl) dX7_liars_61 (fun H locs hh => ?_)
          refine W.eq (g2 := F0 m 64 ls [.int (F_X7_bits (m_isRead1 &&& ((r13_1 x4_2.toNatClampNeg) ^^^ (-1))))]) rfl ?_
          refine lv_iload_n hx hb dX7_liars_64 rfl (lv_at hl 3 rfl) ?_
          refine g_callS (As := [.int x2_4]) (rest := [.int (F_X7_bits (m_isRead1 &&& ((r13_1 x4_2.toNatClampNeg) ^^^ (-1))))]) KX rfl ⟨Nat.le_of_ble_eq_true rfl, Nat.le_of_ble_eq_true rfl⟩ hh hl (c_X7_bits l D cI cZ cC cH  x2_4 ) JN.no 1 gX7_liars_X7_bits rfl (by decide +kernel) ⟨Nat.le_of_ble_eq_true rfl, Nat.le_of_ble_eq_true rfl⟩ rfl rfl (Nat.le_of_ble_eq_true rfl) dX7_liars_65 (fun H locs hh => ?_)
          refine W.eq (g2 := F0 m 68 ls [.int (F_X7_bits x2_4), .int (F_X7_bits (m_isRead1 &&& ((r13_1 x4_2.toNatClampNeg) ^^^ (-1))))]) rfl ?_
          refine lv_icmp_lt (tgt := 89) hx hb dX7_liars_68 (by decide) (fun c_68 => ?_) (fun c_68 => ?_)
          · replace hF := hF.trans (if_pos c_68)
            refine lv_iload hx hb dX7_liars_89 (lv_at hl 0 rfl) ?_
            refine lv_istore_n (lv' := [(2, .int (m_isRead1 &&& ((r13_1 x4_2.toNatClampNeg) ^^^ (-1)))), (5, .int (m_isRead1 &&& ((r13_1 x4_2.toNatClampNeg) ^^^ (-1)))), (4, .int x4_2), (3, .int x3_3), (0, .ref o), (1, .int x1)]) hx hb dX7_liars_91 rfl hl (Nat.le_of_ble_eq_true rfl) rfl (fun ls hl => ?_)
            refine lv_iload hx hb dX7_liars_92 (lv_at hl 2 rfl) ?_
            refine lv_istore_n (lv' := [(3, .int x4_2), (2, .int (m_isRead1 &&& ((r13_1 x4_2.toNatClampNeg) ^^^ (-1)))), (5, .int (m_isRead1 &&& ((r13_1 x4_2.toNatClampNeg) ^^^ (-1)))), (4, .int x4_2), (0, .ref o), (1, .int x1)]) hx hb dX7_liars_94 rfl hl (Nat.le_of_ble_eq_true rfl) rfl (fun ls hl => ?_)
            refine lv_iinc (v := x4_2 + 1) (lv' := [(4, .int (x4_2 + 1)), (3, .int x4_2), (2, .int (m_isRead1 &&& ((r13_1 x4_2.toNatClampNeg) ^^^ (-1)))), (5, .int (m_isRead1 &&& ((r13_1 x4_2.toNatClampNeg) ^^^ (-1)))), (0, .ref o), (1, .int x1)]) hx hb dX7_liars_95 hl (k := 3) rfl rfl (Nat.le_of_ble_eq_true rfl) rfl (fun ls hl => ?_)
            refine lv_goto (tgt := 35) hx hb dX7_liars_98 (by decide) ?_
            have e_inc : (x4_2 + 1).toInt = x4_2.toInt + 1 := ti_inc (by omega)
            exact ih_35 (x4_2 + 1) x4_2 (m_isRead1 &&& ((r13_1 x4_2.toNatClampNeg) ^^^ (-1))) (by first | with_reducible assumption | omega | decide) (by first | with_reducible assumption | omega | decide) (by omega) hF _ _ _ hh (lv_sub hl [0, 1, 2, 4, 5] rfl)
          · replace hF := hF.trans (if_neg c_68)
            refine lv_iload hx hb dX7_liars_71 (lv_at hl 0 rfl) ?_
            refine g_callS (As := [.int (m_isRead1 &&& ((r13_1 x4_2.toNatClampNeg) ^^^ (-1)))]) (rest := []) KX rfl ⟨Nat.le_of_ble_eq_true rfl, Nat.le_of_ble_eq_true rfl⟩ hh hl (c_X7_bits l D cI cZ cC cH  (m_isRead1 &&& ((r13_1 x4_2.toNatClampNeg) ^^^ (-1))) ) JN.no 1 gX7_liars_X7_bits rfl (by decide +kernel) ⟨Nat.le_of_ble_eq_true rfl, Nat.le_of_ble_eq_true rfl⟩ rfl rfl (Nat.le_of_ble_eq_true rfl) dX7_liars_73 (fun H locs hh => ?_)
            refine W.eq (g2 := F0 m 76 ls [.int (F_X7_bits (m_isRead1 &&& ((r13_1 x4_2.toNatClampNeg) ^^^ (-1))))]) rfl ?_
            refine lv_iload_n hx hb dX7_liars_76 rfl (lv_at hl 3 rfl) ?_
            refine g_callS (As := [.int x2_4]) (rest := [.int (F_X7_bits (m_isRead1 &&& ((r13_1 x4_2.toNatClampNeg) ^^^ (-1))))]) KX rfl ⟨Nat.le_of_ble_eq_true rfl, Nat.le_of_ble_eq_true rfl⟩ hh hl (c_X7_bits l D cI cZ cC cH  x2_4 ) JN.no 1 gX7_liars_X7_bits rfl (by decide +kernel) ⟨Nat.le_of_ble_eq_true rfl, Nat.le_of_ble_eq_true rfl⟩ rfl rfl (Nat.le_of_ble_eq_true rfl) dX7_liars_77 (fun H locs hh => ?_)
            refine W.eq (g2 := F0 m 80 ls [.int (F_X7_bits x2_4), .int (F_X7_bits (m_isRead1 &&& ((r13_1 x4_2.toNatClampNeg) ^^^ (-1))))]) rfl ?_
            refine lv_icmp_ne (tgt := 95) hx hb dX7_liars_80 (by decide) (fun c_80 => ?_) (fun c_80 => ?_)
            · replace hF := hF.trans (if_neg c_80)
              refine lv_iinc (v := x4_2 + 1) (lv' := [(4, .int (x4_2 + 1)), (5, .int (m_isRead1 &&& ((r13_1 x4_2.toNatClampNeg) ^^^ (-1)))), (3, .int x3_3), (2, .int x2_4), (0, .ref o), (1, .int x1)]) hx hb dX7_liars_95 hl (k := 1) rfl rfl (Nat.le_of_ble_eq_true rfl) rfl (fun ls hl => ?_)
              refine lv_goto (tgt := 35) hx hb dX7_liars_98 (by decide) ?_
              have e_inc : (x4_2 + 1).toInt = x4_2.toInt + 1 := ti_inc (by omega)
              exact ih_35 (x4_2 + 1) x3_3 x2_4 (by first | with_reducible assumption | omega | decide) (by first | with_reducible assumption | omega | decide) (by omega) hF _ _ _ hh (lv_sub hl [0, 2, 3, 4, 5] rfl)
            · replace hF := hF.trans (if_pos c_80)
              refine lv_iload hx hb dX7_liars_83 (lv_at hl 0 rfl) ?_
              refine lv_iload_n hx hb dX7_liars_85 rfl (lv_at hl 3 rfl) ?_
              refine lv_icmp_ge (tgt := 95) hx hb dX7_liars_86 (by decide) (fun c_86 => ?_) (fun c_86 => ?_)
              · replace hF := hF.trans (if_pos c_86)
                refine lv_iinc (v := x4_2 + 1) (lv' := [(4, .int (x4_2 + 1)), (5, .int (m_isRead1 &&& ((r13_1 x4_2.toNatClampNeg) ^^^ (-1)))), (3, .int x3_3), (2, .int x2_4), (0, .ref o), (1, .int x1)]) hx hb dX7_liars_95 hl (k := 1) rfl rfl (Nat.le_of_ble_eq_true rfl) rfl (fun ls hl => ?_)
                refine lv_goto (tgt := 35) hx hb dX7_liars_98 (by decide) ?_
                have e_inc : (x4_2 + 1).toInt = x4_2.toInt + 1 := ti_inc (by omega)
                exact ih_35 (x4_2 + 1) x3_3 x2_4 (by first | with_reducible assumption | omega | decide) (by first | with_reducible assumption | omega | decide) (by omega) hF _ _ _ hh (lv_sub hl [0, 2, 3, 4, 5] rfl)
              · replace hF := hF.trans (if_neg c_86)
                refine lv_iload hx hb dX7_liars_89 (lv_at hl 0 rfl) ?_
                refine lv_istore_n (lv' := [(2, .int (m_isRead1 &&& ((r13_1 x4_2.toNatClampNeg) ^^^ (-1)))), (5, .int (m_isRead1 &&& ((r13_1 x4_2.toNatClampNeg) ^^^ (-1)))), (4, .int x4_2), (3, .int x3_3), (0, .ref o), (1, .int x1)]) hx hb dX7_liars_91 rfl hl (Nat.le_of_ble_eq_true rfl) rfl (fun ls hl => ?_)
                refine lv_iload hx hb dX7_liars_92 (lv_at hl 2 rfl) ?_
                refine lv_istore_n (lv' := [(3, .int x4_2), (2, .int (m_isRead1 &&& ((r13_1 x4_2.toNatClampNeg) ^^^ (-1)))), (5, .int (m_isRead1 &&& ((r13_1 x4_2.toNatClampNeg) ^^^ (-1)))), (4, .int x4_2), (0, .ref o), (1, .int x1)]) hx hb dX7_liars_94 rfl hl (Nat.le_of_ble_eq_true rfl) rfl (fun ls hl => ?_)
                refine lv_iinc (v := x4_2 + 1) (lv' := [(4, .int (x4_2 + 1)), (3, .int x4_2), (2, .int (m_isRead1 &&& ((r13_1 x4_2.toNatClampNeg) ^^^ (-1)))), (5, .int (m_isRead1 &&& ((r13_1 x4_2.toNatClampNeg) ^^^ (-1)))), (0, .ref o), (1, .int x1)]) hx hb dX7_liars_95 hl (k := 3) rfl rfl (Nat.le_of_ble_eq_true rfl) rfl (fun ls hl => ?_)
                refine lv_goto (tgt := 35) hx hb dX7_liars_98 (by decide) ?_
                have e_inc : (x4_2 + 1).toInt = x4_2.toInt + 1 := ti_inc (by omega)
                exact ih_35 (x4_2 + 1) x4_2 (m_isRead1 &&& ((r13_1 x4_2.toNatClampNeg) ^^^ (-1))) (by first | with_reducible assumption | omega | decide) (by first | with_reducible assumption | omega | decide) (by omega) hF _ _ _ hh (lv_sub hl [0, 1, 2, 4, 5] rfl)
    exact L_35 4321 1 0 (m_isRead1 &&& ((r13_1 (0 : Int32).toNatClampNeg) ^^^ (-1))) (by first | with_reducible assumption | omega | decide) (by first | with_reducible assumption | omega | decide) (by first | omega | decide | (simp; done)) hF _ _ _ hh (lv_sub hl [0, 1, 2, 3, 4] rfl)
  · replace hF := hF.trans (if_pos c_6)
    refine lv_bipush (v := (-3)) hx hb dX7_liars_9 (by decide) ?_
    exact RT _ _ _ _ _ _ hh (by rw [hF]) (Or.inl ⟨_, rfl, by rw [hF], dX7_liars_11, Or.inl rfl⟩)
def F_X7_isExact (m_told : Int32) (m_clock : Nat → Int32) (x1 : Int32) : Int32 := (if (F_X7_isClock m_told x1) = 0 then 0 else (if (m_clock ((6 * x1) + 3).toNatClampNeg) = (m_clock ((6 * x1) + 4).toNatClampNeg) then 1 else 0))
theorem in_X7_isExact_X7 : ∀ x ∈ u_ws RX7 TX7 26, x ∈ wsX7_isExact := by decide +kernel
set_option maxHeartbeats 2000000 in
set_option maxRecDepth 100000 in
theorem c_X7_isExact (l : Launch) (D : va_G) (cI cZ cC cH : ClassId) (o a_clock a_note a_text a_read a_fit a_shown a_image a_isKept a_row a_best : Nat) (m_told : Int32) (m_isRead1 : Int32) (m_clock : Nat → Int32) (m_note : Nat → Int32) (m_noted : Int32) (m_bytes : Int32) (m_text : Nat → Int32) (m_position : Int32) (m_tokenAt : Int32) (m_token : Int64) (m_digits : Int32) (m_number : Int32) (m_faultAt : Int32) (m_readMany : Int32) (m_readTold : Int32) (m_read : Nat → Int32) (m_fit : Nat → Int32) (m_shown : Nat → Int32) (m_image : Nat → Int32) (m_isKept : Nat → Int32) (m_row : Nat → Int32) (m_best : Nat → Int32) (m_againAt : Int32) (m_againStep : Int32) (m_orderMany : Int32) (m_orderLeast : Int32) (x1 : Int32)  : MC l D (TY cI cZ cC cH) yX7_isExact wsX7_isExact 2 43 [.ref o, .int x1] (WM cI cZ cC cH o a_clock a_note a_text a_read a_fit a_shown a_image a_isKept a_row a_best m_told m_isRead1 m_clock m_note m_noted m_bytes m_text m_position m_tokenAt m_token m_digits m_number m_faultAt m_readMany m_readTold m_read m_fit m_shown m_image m_isKept m_row m_best m_againAt m_againStep m_orderMany m_orderLeast) (some (.int (F_X7_isExact m_told m_clock x1))) (WM cI cZ cC cH o a_clock a_note a_text a_read a_fit a_shown a_image a_isKept a_row a_best m_told m_isRead1 m_clock m_note m_noted m_bytes m_text m_position m_tokenAt m_token m_digits m_number m_faultAt m_readMany m_readTold m_read m_fit m_shown m_image m_isKept m_row m_best m_againAt m_againStep m_orderMany m_orderLeast) := by
  obtain ⟨R, hF⟩ : ∃ R, R = F_X7_isExact m_told m_clock x1 := ⟨_, rfl⟩
  rw [← hF]
  refine MC.of (cc := cX7_isExact) (maxL := 2) (ret := (some .boolean)) RX7 rfl (by decide +kernel) rfl (Nat.le_of_ble_eq_true rfl) ?_
  intro p e s m args below meth c A Q KX RT hh ls hl
  have z0 : (0 : Int32).toInt = 0 := rfl
  have z1 : (1 : Int32).toInt = 1 := rfl
  have zm : (-1 : Int32).toInt = -1 := rfl
  have hx := KX.1
  have hb := KX.2.1
  have hl : lv_has ls 2 [(0, .ref o), (1, .int x1)] := hl
  unfold F_X7_isExact at hF
  refine lv_aload_n hx hb dX7_isExact_0 rfl (lv_at hl 0 rfl) ?_
  refine lv_iload_n hx hb dX7_isExact_1 rfl (lv_at hl 1 rfl) ?_
  refine g_callV (As := [.int x1]) (rest := []) KX rfl ⟨Nat.le_of_ble_eq_true rfl, Nat.le_of_ble_eq_true rfl⟩ hh hl (c_X7_isClock l D cI cZ cC cH o a_clock a_note a_text a_read a_fit a_shown a_image a_isKept a_row a_best m_told m_isRead1 m_clock m_note m_noted m_bytes m_text m_position m_tokenAt m_token m_digits m_number m_faultAt m_readMany m_readTold m_read m_fit m_shown m_image m_isKept m_row m_best m_againAt m_againStep m_orderMany m_orderLeast x1 ) JN.all 1 gX7_isExact_X7_isClock rfl (by decide +kernel) ⟨Nat.le_of_ble_eq_true rfl, Nat.le_of_ble_eq_true rfl⟩ 0 7 rfl rfl rfl rfl rfl (Nat.le_of_ble_eq_true rfl) dX7_isExact_2 (fun H locs hh => ?_)
  refine W.eq (g2 := F0 m 5 ls [.int (F_X7_isClock m_told x1)]) rfl ?_
  refine lv_if_eq (tgt := 37) hx hb dX7_isExact_5 (by decide) (fun c_5 => ?_) (fun c_5 => ?_)
  · replace hF := hF.trans (if_pos c_5)
    refine lv_iconst (v := 0) hx hb dX7_isExact_37 (by decide) ?_
    exact RT _ _ _ _ _ _ hh (rfl) (Or.inl ⟨_, rfl, by rw [hF], dX7_isExact_38, Or.inr (Or.inl ⟨rfl, Or.inl rfl⟩)⟩)
  · replace hF := hF.trans (if_neg c_5)
    obtain ⟨k0_5, k1_5⟩ := X7_isClock_in c_5
    refine lv_aload_n hx hb dX7_isExact_8 rfl (lv_at hl 0 rfl) ?_
    refine g_get KX hh in_X7_isExact_X7 0 rfl rfl 2 (by decide) rfl (List.mem_of_getElem? (i := 1) rfl) dX7_isExact_9 ?_
    refine lv_bipush (v := 6) hx hb dX7_isExact_12 (by decide) ?_
    refine lv_iload_n hx hb dX7_isExact_14 rfl (lv_at hl 1 rfl) ?_
    refine lv_imul hx hb dX7_isExact_15 ?_
    refine lv_iconst (v := 3) hx hb dX7_isExact_16 (by decide) ?_
    refine lv_iadd hx hb dX7_isExact_17 ?_
    refine g_iald KX hh 1 0 rfl rfl (ix6 3 (by omega) (by omega) (by decide)) dX7_isExact_18 ?_
    refine lv_aload_n hx hb dX7_isExact_19 rfl (lv_at hl 0 rfl) ?_
    refine g_get KX hh in_X7_isExact_X7 0 rfl rfl 2 (by decide) rfl (List.mem_of_getElem? (i := 1) rfl) dX7_isExact_20 ?_
    refine lv_bipush (v := 6) hx hb dX7_isExact_23 (by decide) ?_
    refine lv_iload_n hx hb dX7_isExact_25 rfl (lv_at hl 1 rfl) ?_
    refine lv_imul hx hb dX7_isExact_26 ?_
    refine lv_iconst (v := 4) hx hb dX7_isExact_27 (by decide) ?_
    refine lv_iadd hx hb dX7_isExact_28 ?_
    refine g_iald KX hh 1 0 rfl rfl (ix6 4 (by omega) (by omega) (by decide)) dX7_isExact_29 ?_
    refine lv_icmp_ne (tgt := 37) hx hb dX7_isExact_30 (by decide) (fun c_30 => ?_) (fun c_30 => ?_)
    · replace hF := hF.trans (if_neg c_30)
      refine lv_iconst (v := 0) hx hb dX7_isExact_37 (by decide) ?_
      exact RT _ _ _ _ _ _ hh (rfl) (Or.inl ⟨_, rfl, by rw [hF], dX7_isExact_38, Or.inr (Or.inl ⟨rfl, Or.inl rfl⟩)⟩)
    · replace hF := hF.trans (if_pos c_30)
      refine lv_iconst (v := 1) hx hb dX7_isExact_33 (by decide) ?_
      refine lv_goto (tgt := 38) hx hb dX7_isExact_34 (by decide) ?_
      exact RT _ _ _ _ _ _ hh (rfl) (Or.inl ⟨_, rfl, by rw [hF], dX7_isExact_38, Or.inr (Or.inl ⟨rfl, Or.inr rfl⟩)⟩)
theorem z_X7_isExact (m_told : Int32) (m_clock : Nat → Int32) (x1 : Int32) : (F_X7_isExact m_told m_clock x1) = 0 ∨ (F_X7_isExact m_told m_clock x1) = 1 := by
  unfold F_X7_isExact
  split
  · exact Or.inl rfl
  · split
    · exact Or.inr rfl
    · exact Or.inl rfl
theorem X7_isExact_in {t : Int32} {c : Nat → Int32} {k : Int32} (h : ¬ F_X7_isExact t c k = 0) : 0 ≤ k.toInt ∧ k.toInt < 8 := by
  unfold F_X7_isExact at h
  by_cases h1 : F_X7_isClock t k = 0
  · simp [h1] at h
  · exact X7_isClock_in h1
theorem tdiv_le (a b : Int) : (a.tdiv b * b).natAbs ≤ a.natAbs ∧ (a.tdiv b).natAbs ≤ a.natAbs := by
  rw [Int.natAbs_mul, Int.natAbs_tdiv]
  exact ⟨Nat.div_mul_le_self _ _, Nat.div_le_self _ _⟩
theorem q_rem {a b : Int32} (hb : ¬ b = 0) : (a - a / b * b).toInt = a.toInt.tmod b.toInt := by
  have h1 := Int32.le_toInt a
  have h2 := Int32.toInt_lt a
  have key : a.toInt.tmod b.toInt = a.toInt - a.toInt.tdiv b.toInt * b.toInt := by rw [Int.tmod_def, Int.mul_comm]
  obtain ⟨g1, g2⟩ := tdiv_le a.toInt b.toInt
  by_cases hs : a.toInt = -2147483648 ∧ b.toInt = -1
  · have ea : a = -2147483648 := Int32.toInt_inj.mp (hs.1.trans rfl)
    have eb : b = -1 := Int32.toInt_inj.mp (hs.2.trans rfl)
    subst ea; subst eb; rfl
  · have e1 : (a / b).toInt = a.toInt.tdiv b.toInt := by
      rw [Int32.toInt_div]
      refine Int.bmod_eq_of_le ?_ ?_
      · omega
      · by_cases q : a.toInt.tdiv b.toInt < 2147483648
        · omega
        · exfalso
          have ha : a.toInt = -2147483648 := by omega
          have hd : a.toInt.tdiv b.toInt = 2147483648 := by omega
          rw [ha] at hd
          rw [ha, hd] at g1
          have : b.toInt.natAbs ≤ 1 := by
            rw [Int.natAbs_mul] at g1
            have g3 : 2147483648 * b.toInt.natAbs ≤ 2147483648 := g1
            omega
          have h3 : b.toInt = 0 ∨ b.toInt = 1 ∨ b.toInt = -1 := by omega
          rcases h3 with h3 | h3 | h3
          · exact hb (Int32.toInt_inj.mp h3)
          · rw [h3] at hd; exact absurd hd (by decide)
          · exact hs ⟨ha, h3⟩
    have hn : (a.toInt.tmod b.toInt).natAbs ≤ a.toInt.natAbs := by rw [Int.natAbs_tmod]; exact Nat.mod_le _ _
    have e2 : (a / b * b).toInt = a.toInt.tdiv b.toInt * b.toInt := by
      rw [ti_mul (by rw [e1]; omega) (by
        rw [e1]
        by_cases q : a.toInt.tdiv b.toInt * b.toInt < 2147483648
        · exact q
        · exfalso
          have hs2 : a.toInt < 0 := by omega
          have h := Int.tmod_nonneg b.toInt (show 0 ≤ -a.toInt by omega)
          rw [Int.neg_tmod] at h
          omega), e1]
    rw [ti_sub (by rw [e2, ← key]; omega) (by
      rw [e2, ← key]
      by_cases q : a.toInt.tmod b.toInt < 2147483648
      · exact q
      · exfalso
        have h := Int.tmod_nonneg b.toInt (show 0 ≤ -a.toInt by omega)
        rw [Int.neg_tmod] at h
        omega), e2, key]
theorem rest_toInt {v b : Int32} (hb : 0 < b.toInt) : (F_X7_rest v b).toInt = v.toInt % b.toInt := by
  have hne : ¬ b = 0 := fun e => by rw [e] at hb; exact absurd hb (by decide)
  have h2 := Int32.toInt_lt b
  have er := q_rem (a := v) hne
  have hl := Int.tmod_lt_of_pos v.toInt hb
  have hg : -b.toInt < v.toInt.tmod b.toInt := by
    have := Int.natAbs_tmod v.toInt b.toInt
    have h3 : (v.toInt.tmod b.toInt).natAbs < b.toInt.natAbs := by rw [this]; exact Nat.mod_lt _ (by omega)
    omega
  have em : v.toInt % b.toInt = if v.toInt.tmod b.toInt < 0 then v.toInt.tmod b.toInt + b.toInt else v.toInt.tmod b.toInt := by
    have h5 : (v.toInt.tmod b.toInt) % b.toInt = v.toInt % b.toInt := by rw [Int.tmod_def, Int.sub_mul_emod_self_left]
    split
    · rw [← h5]; rw [← Int.add_emod_right, Int.emod_eq_of_lt (by omega) (by omega)]
    · rw [← h5, Int.emod_eq_of_lt (by omega) (by omega)]
  unfold F_X7_rest
  split
  · rename_i hc
    have hc' := ti_le.mp hc
    rw [er] at hc'
    have e0 : (0 : Int32).toInt = 0 := rfl
    rw [er, em, if_neg (by omega)]
  · rename_i hc
    have hc' := ti_nle hc
    rw [er] at hc'
    have e0 : (0 : Int32).toInt = 0 := rfl
    rw [ti_add (by rw [er]; omega) (by rw [er]; omega), er, em, if_pos (by omega)]
theorem rest_in {v b : Int32} {n : Nat} (hb : b.toInt = n) (h0 : 0 < n) : vp_in (F_X7_rest v b) n := by
  refine vp_in_iff.mpr ?_
  rw [rest_toInt (by omega), hb]
  exact ⟨Int.emod_nonneg _ (by omega), Int.emod_lt_of_pos _ (by omega)⟩
def F_X7_next_210 (x4_2 : Int32) (x3_3 : Int32) (k_23 : Int32 → Int32 → Int32 → (Nat → Int32) → Int32 × (Nat → Int32) × (Nat → Int32)) (x5_9 : Int32) (w_m_shown_10 : Nat → Int32) (y0_11 : Int32) (y0_12 : Int32) : Int32 × (Nat → Int32) × (Nat → Int32) := (if y0_11 = 0 then (k_23 (x4_2 + 1) x3_3 y0_12 w_m_shown_10) else (k_23 (x4_2 + 1) x5_9 y0_12 w_m_shown_10))
def F_X7_next_197 (x4_2 : Int32) (x3_3 : Int32) (x2_4 : Int32) (k_23 : Int32 → Int32 → Int32 → (Nat → Int32) → Int32 × (Nat → Int32) × (Nat → Int32)) (x5_9 : Int32) (w_m_shown_10 : Nat → Int32) (y0_11 : Int32) : Int32 × (Nat → Int32) × (Nat → Int32) := (if y0_11 = 0 then (F_X7_next_210 x4_2 x3_3 k_23 x5_9 w_m_shown_10 y0_11 x2_4) else (F_X7_next_210 x4_2 x3_3 k_23 x5_9 w_m_shown_10 y0_11 x4_2))
def F_X7_next_192 (x4_2 : Int32) (x3_3 : Int32) (x2_4 : Int32) (k_23 : Int32 → Int32 → Int32 → (Nat → Int32) → Int32 × (Nat → Int32) × (Nat → Int32)) (x5_9 : Int32) (w_m_shown_10 : Nat → Int32)  : Int32 × (Nat → Int32) × (Nat → Int32) := (F_X7_next_197 x4_2 x3_3 x2_4 k_23 x5_9 w_m_shown_10 1)
def F_X7_next_82 (m_isRead1 : Int32) (m_clock : Nat → Int32) (r13_1 : (Nat → Int32)) (x4_2 : Int32) (x3_3 : Int32) (x2_4 : Int32) (k_23 : Int32 → Int32 → Int32 → (Nat → Int32) → Int32 × (Nat → Int32) × (Nat → Int32)) : Nat → Int32 → Int32 → (Nat → Int32) → Int32 × (Nat → Int32) × (Nat → Int32)
  | 0, _, _, _ => default
  | n + 1, x6_8, x5_9, w_m_shown_10 => (if 4320 ≤ x6_8 then (if x2_4 = (-1) then F_X7_next_192 x4_2 x3_3 x2_4 k_23 x5_9 w_m_shown_10 else (if x3_3 ≤ x5_9 then (F_X7_next_197 x4_2 x3_3 x2_4 k_23 x5_9 w_m_shown_10 0) else F_X7_next_192 x4_2 x3_3 x2_4 k_23 x5_9 w_m_shown_10)) else (if (r13_1 x6_8.toNatClampNeg) = m_isRead1 then (if ((upd w_m_shown_10 (F_X7_rest (F_X7_down (F_X7_hand m_clock x4_2 x6_8 (m_clock ((6 * x4_2) + 3).toNatClampNeg)) 1440) 720).toNatClampNeg ((w_m_shown_10 (F_X7_rest (F_X7_down (F_X7_hand m_clock x4_2 x6_8 (m_clock ((6 * x4_2) + 3).toNatClampNeg)) 1440) 720).toNatClampNeg) + 1)) (F_X7_rest (F_X7_down (F_X7_hand m_clock x4_2 x6_8 (m_clock ((6 * x4_2) + 3).toNatClampNeg)) 1440) 720).toNatClampNeg) ≤ x5_9 then ((F_X7_next_82 m_isRead1 m_clock r13_1 x4_2 x3_3 x2_4 k_23 n) (x6_8 + 1) x5_9 (upd w_m_shown_10 (F_X7_rest (F_X7_down (F_X7_hand m_clock x4_2 x6_8 (m_clock ((6 * x4_2) + 3).toNatClampNeg)) 1440) 720).toNatClampNeg ((w_m_shown_10 (F_X7_rest (F_X7_down (F_X7_hand m_clock x4_2 x6_8 (m_clock ((6 * x4_2) + 3).toNatClampNeg)) 1440) 720).toNatClampNeg) + 1))) else ((F_X7_next_82 m_isRead1 m_clock r13_1 x4_2 x3_3 x2_4 k_23 n) (x6_8 + 1) ((upd w_m_shown_10 (F_X7_rest (F_X7_down (F_X7_hand m_clock x4_2 x6_8 (m_clock ((6 * x4_2) + 3).toNatClampNeg)) 1440) 720).toNatClampNeg ((w_m_shown_10 (F_X7_rest (F_X7_down (F_X7_hand m_clock x4_2 x6_8 (m_clock ((6 * x4_2) + 3).toNatClampNeg)) 1440) 720).toNatClampNeg) + 1)) (F_X7_rest (F_X7_down (F_X7_hand m_clock x4_2 x6_8 (m_clock ((6 * x4_2) + 3).toNatClampNeg)) 1440) 720).toNatClampNeg) (upd w_m_shown_10 (F_X7_rest (F_X7_down (F_X7_hand m_clock x4_2 x6_8 (m_clock ((6 * x4_2) + 3).toNatClampNeg)) 1440) 720).toNatClampNeg ((w_m_shown_10 (F_X7_rest (F_X7_down (F_X7_hand m_clock x4_2 x6_8 (m_clock ((6 * x4_2) + 3).toNatClampNeg)) 1440) 720).toNatClampNeg) + 1)))) else ((F_X7_next_82 m_isRead1 m_clock r13_1 x4_2 x3_3 x2_4 k_23 n) (x6_8 + 1) x5_9 w_m_shown_10)))
def F_X7_next_57 (m_isRead1 : Int32) (m_clock : Nat → Int32) (r13_1 : (Nat → Int32)) (x4_2 : Int32) (x3_3 : Int32) (x2_4 : Int32) (k_23 : Int32 → Int32 → Int32 → (Nat → Int32) → Int32 × (Nat → Int32) × (Nat → Int32)) : Nat → Int32 → (Nat → Int32) → Int32 × (Nat → Int32) × (Nat → Int32)
  | 0, _, _ => default
  | n + 1, x6_6, w_m_shown_7 => (if 720 ≤ x6_6 then (F_X7_next_82 m_isRead1 m_clock r13_1 x4_2 x3_3 x2_4 k_23 4321 0 0 w_m_shown_7) else ((F_X7_next_57 m_isRead1 m_clock r13_1 x4_2 x3_3 x2_4 k_23 n) (x6_6 + 1) (upd w_m_shown_7 x6_6.toNatClampNeg 0)))
def F_X7_next_23 (m_told : Int32) (m_isRead1 : Int32) (m_clock : Nat → Int32) (x1 : Int32) (r13_1 : (Nat → Int32)) : Nat → Int32 → Int32 → Int32 → (Nat → Int32) → Int32 × (Nat → Int32) × (Nat → Int32)
  | 0, _, _, _, _ => default
  | n + 1, x4_2, x3_3, x2_4, w_m_shown_5 => (if 8 ≤ x4_2 then (if x2_4 = (-1) then (x2_4, r13_1, w_m_shown_5) else (if x1 = 0 then (x2_4, r13_1, w_m_shown_5) else (x3_3, r13_1, w_m_shown_5))) else (if (F_X7_isExact m_told m_clock x4_2) = 0 then ((F_X7_next_23 m_told m_isRead1 m_clock x1 r13_1 n) (x4_2 + 1) x3_3 x2_4 w_m_shown_5) else (if (F_X7_has m_isRead1 x4_2) = 0 then (F_X7_next_57 m_isRead1 m_clock r13_1 x4_2 x3_3 x2_4 (F_X7_next_23 m_told m_isRead1 m_clock x1 r13_1 n) 721 0 w_m_shown_5) else ((F_X7_next_23 m_told m_isRead1 m_clock x1 r13_1 n) (x4_2 + 1) x3_3 x2_4 w_m_shown_5))))
def F_X7_next_c13 (m_told : Int32) (m_isRead1 : Int32) (m_clock : Nat → Int32) (m_shown : Nat → Int32) (x1 : Int32) (r13_1 : (Nat → Int32)) : Int32 × (Nat → Int32) × (Nat → Int32) := (F_X7_next_23 m_told m_isRead1 m_clock x1 r13_1 9 0 0 (-1) m_shown)
def F_X7_next (m_told : Int32) (m_isRead1 : Int32) (m_clock : Nat → Int32) (m_fit : Nat → Int32) (m_shown : Nat → Int32) (x1 : Int32) : Int32 × (Nat → Int32) × (Nat → Int32) := (if (F_X7_in x1 0 1) = 0 then ((-3), m_fit, m_shown) else (F_X7_next_c13 m_told m_isRead1 m_clock m_shown x1 (F_X7_layFits m_isRead1 m_clock m_fit)))
theorem in_X7_next_X7 : ∀ x ∈ u_ws RX7 TX7 26, x ∈ wsX7_next := by decide +kernel
set_option maxHeartbeats 2000000 in
set_option maxRecDepth 100000 in
theorem c_X7_next (l : Launch) (D : va_G) (cI cZ cC cH : ClassId) (o a_clock a_note a_text a_read a_fit a_shown a_image a_isKept a_row a_best : Nat) (m_told : Int32) (m_isRead1 : Int32) (m_clock : Nat → Int32) (m_note : Nat → Int32) (m_noted : Int32) (m_bytes : Int32) (m_text : Nat → Int32) (m_position : Int32) (m_tokenAt : Int32) (m_token : Int64) (m_digits : Int32) (m_number : Int32) (m_faultAt : Int32) (m_readMany : Int32) (m_readTold : Int32) (m_read : Nat → Int32) (m_fit : Nat → Int32) (m_shown : Nat → Int32) (m_image : Nat → Int32) (m_isKept : Nat → Int32) (m_row : Nat → Int32) (m_best : Nat → Int32) (m_againAt : Int32) (m_againStep : Int32) (m_orderMany : Int32) (m_orderLeast : Int32) (x1 : Int32)  : MC l D (TY cI cZ cC cH) yX7_next wsX7_next 6 134 [.ref o, .int x1] (WM cI cZ cC cH o a_clock a_note a_text a_read a_fit a_shown a_image a_isKept a_row a_best m_told m_isRead1 m_clock m_note m_noted m_bytes m_text m_position m_tokenAt m_token m_digits m_number m_faultAt m_readMany m_readTold m_read m_fit m_shown m_image m_isKept m_row m_best m_againAt m_againStep m_orderMany m_orderLeast) (some (.int ((F_X7_next m_told m_isRead1 m_clock m_fit m_shown x1).1))) (WM cI cZ cC cH o a_clock a_note a_text a_read a_fit a_shown a_image a_isKept a_row a_best m_told m_isRead1 m_clock m_note m_noted m_bytes m_text m_position m_tokenAt m_token m_digits m_number m_faultAt m_readMany m_readTold m_read (F_X7_next m_told m_isRead1 m_clock m_fit m_shown x1).2.1 (F_X7_next m_told m_isRead1 m_clock m_fit m_shown x1).2.2 m_image m_isKept m_row m_best m_againAt m_againStep m_orderMany m_orderLeast) := by
  obtain ⟨R, hF⟩ : ∃ R, R = F_X7_next m_told m_isRead1 m_clock m_fit m_shown x1 := ⟨_, rfl⟩
  rw [← hF]
  refine MC.of (cc := cX7_next) (maxL := 8) (ret := (some .int)) RX7 rfl (by decide +kernel) rfl (Nat.le_of_ble_eq_true rfl) ?_
  intro p e s m args below meth c A Q KX RT hh ls hl
  have z0 : (0 : Int32).toInt = 0 := rfl
  have z1 : (1 : Int32).toInt = 1 := rfl
  have zm : (-1 : Int32).toInt = -1 := rfl
  have hx := KX.1
  have hb := KX.2.1
  have hl : lv_has ls 8 [(0, .ref o), (1, .int x1)] := hl
  unfold F_X7_next at hF
  refine lv_iload_n hx hb dX7_next_0 rfl (lv_at hl 1 rfl) ?_
  refine lv_iconst (v := 0) hx hb dX7_next_1 (by decide) ?_
  refine lv_iconst (v := 1) hx hb dX7_next_2 (by decide) ?_
  refine g_callS (As := [.int x1, .int 0, .int 1]) (rest := []) KX rfl ⟨Nat.le_of_ble_eq_true rfl, Nat.le_of_ble_eq_true rfl⟩ hh hl (c_X7_in l D cI cZ cC cH  x1 0 1 ) JN.no 3 gX7_next_X7_in rfl (by decide +kernel) ⟨Nat.le_of_ble_eq_true rfl, Nat.le_of_ble_eq_true rfl⟩ rfl rfl (Nat.le_of_ble_eq_true rfl) dX7_next_3 (fun H locs hh => ?_)
  refine W.eq (g2 := F0 m 6 ls [.int (F_X7_in x1 0 1)]) rfl ?_
  refine lv_if_ne (tgt := 12) hx hb dX7_next_6 (by decide) (fun c_6 => ?_) (fun c_6 => ?_)
  · replace hF := hF.trans (if_neg c_6)
    obtain ⟨k0_6, k1_6⟩ : (0 : Int) ≤ x1.toInt ∧ x1.toInt ≤ 1 := X7_in_in c_6
    refine lv_aload_n hx hb dX7_next_12 rfl (lv_at hl 0 rfl) ?_
    refine g_callV (As := []) (rest := []) KX rfl ⟨Nat.le_of_ble_eq_true rfl, Nat.le_of_ble_eq_true rfl⟩ hh hl (c_X7_layFits l D cI cZ cC cH o a_clock a_note a_text a_read a_fit a_shown a_image a_isKept a_row a_best m_told m_isRead1 m_clock m_note m_noted m_bytes m_text m_position m_tokenAt m_token m_digits m_number m_faultAt m_readMany m_readTold m_read m_fit m_shown m_image m_isKept m_row m_best m_againAt m_againStep m_orderMany m_orderLeast  ) JN.all 0 gX7_next_X7_layFits rfl (by decide +kernel) ⟨Nat.le_of_ble_eq_true rfl, Nat.le_of_ble_eq_true rfl⟩ 0 7 rfl rfl rfl rfl rfl (Nat.le_of_ble_eq_true rfl) dX7_next_13 (fun H locs hh => ?_)
    refine W.eq (g2 := F0 m 16 ls []) rfl ?_
    generalize q_13 : F_X7_layFits m_isRead1 m_clock m_fit = r13_1 at hh hF ⊢
    unfold F_X7_next_c13 at hF
    refine lv_iconst (v := (-1)) hx hb dX7_next_16 (by decide) ?_
    refine lv_istore_n (lv' := [(2, .int (-1)), (0, .ref o), (1, .int x1)]) hx hb dX7_next_17 rfl hl (Nat.le_of_ble_eq_true rfl) rfl (fun ls hl => ?_)
    refine lv_iconst (v := 0) hx hb dX7_next_18 (by decide) ?_
    refine lv_istore_n (lv' := [(3, .int 0), (2, .int (-1)), (0, .ref o), (1, .int x1)]) hx hb dX7_next_19 rfl hl (Nat.le_of_ble_eq_true rfl) rfl (fun ls hl => ?_)
    refine lv_iconst (v := 0) hx hb dX7_next_20 (by decide) ?_
    refine lv_istore (lv' := [(4, .int 0), (3, .int 0), (2, .int (-1)), (0, .ref o), (1, .int x1)]) hx hb dX7_next_21 hl (Nat.le_of_ble_eq_true rfl) rfl (fun ls hl => ?_)
    have L_23 : ∀ (n_23 : Nat) (x4_2 : Int32) (x3_3 : Int32) (x2_4 : Int32) (w_m_shown_5 : Nat → Int32) (i0_23 : 0 ≤ x4_2.toInt) (i1_23 : x4_2.toInt ≤ 8) (_ : (8 - x4_2.toInt).toNat < n_23) (_ : R = (F_X7_next_23 m_told m_isRead1 m_clock x1 r13_1) n_23 x4_2 x3_3 x2_4 w_m_shown_5) (ls : Array Slot) (H : Heap) (locs : List Loc) (_ : HS D A s.heap (WM cI cZ cC cH o a_clock a_note a_text a_read a_fit a_shown a_image a_isKept a_row a_best m_told m_isRead1 m_clock m_note m_noted m_bytes m_text m_position m_tokenAt m_token m_digits m_number m_faultAt m_readMany m_readTold m_read r13_1 w_m_shown_5 m_image m_isKept m_row m_best m_againAt m_againStep m_orderMany m_orderLeast) H locs) (_ : lv_has ls 8 [(4, .int x4_2), (3, .int x3_3), (2, .int x2_4), (0, .ref o), (1, .int x1)]), W p l e { frames := 6, cells := 0, slots := 0, locals := 134 } s m args below meth c H locs 0 0 Q (F0 m 23 ls []) := by
      intro n_23
      induction n_23 with
      | zero => intro x4_2 x3_3 x2_4 w_m_shown_5 i0_23 i1_23 hm; exact absurd hm (Nat.not_lt_zero _)
      | succ n_23 ih_23 =>
        intro x4_2 x3_3 x2_4 w_m_shown_5 i0_23 i1_23 hm_23 hF ls H locs hh hl
        rw [F_X7_next_23.eq_2] at hF
        refine lv_iload hx hb dX7_next_23 (lv_at hl 0 rfl) ?_
        refine lv_bipush (v := 8) hx hb dX7_next_25 (by decide) ?_
        refine lv_icmp_ge (tgt := 229) hx hb dX7_next_27 (by decide) (fun c_27 => ?_) (fun c_27 => ?_)
        · replace hF := hF.trans (if_pos c_27)
          have i_27 : 8 ≤ x4_2.toInt := ti_le.mp c_27
          refine lv_iload_n hx hb dX7_next_229 rfl (lv_at hl 2 rfl) ?_
          refine lv_iconst (v := (-1)) hx hb dX7_next_230 (by decide) ?_
          refine lv_icmp_eq (tgt := 238) hx hb dX7_next_231 (by decide) (fun c_231 => ?_) (fun c_231 => ?_)
          · replace hF := hF.trans (if_pos c_231)
            have i_231 : x2_4.toInt = (-1) := congrArg Int32.toInt c_231
            refine lv_iload_n hx hb dX7_next_238 rfl (lv_at hl 2 rfl) ?_
            refine lv_goto (tgt := 243) hx hb dX7_next_239 (by decide) ?_
            exact RT _ _ _ _ _ _ hh (by rw [hF]) (Or.inl ⟨_, rfl, by rw [hF], dX7_next_243, Or.inl rfl⟩)
          · replace hF := hF.trans (if_neg c_231)
            have i_231 : ¬ x2_4.toInt = (-1) := ti_ne c_231
            refine lv_iload_n hx hb dX7_next_234 rfl (lv_at hl 4 rfl) ?_
            refine lv_if_ne (tgt := 242) hx hb dX7_next_235 (by decide) (fun c_235 => ?_) (fun c_235 => ?_)
            · replace hF := hF.trans (if_neg c_235)
              have i_235 : ¬ x1.toInt = 0 := ti_ne c_235
              refine lv_iload_n hx hb dX7_next_242 rfl (lv_at hl 1 rfl) ?_
              exact RT _ _ _ _ _ _ hh (by rw [hF]) (Or.inl ⟨_, rfl, by rw [hF], dX7_next_243, Or.inl rfl⟩)
            · replace hF := hF.trans (if_pos c_235)
              have i_235 : x1.toInt = 0 := congrArg Int32.toInt c_235
              refine lv_iload_n hx hb dX7_next_238 rfl (lv_at hl 2 rfl) ?_
              refine lv_goto (tgt := 243) hx hb dX7_next_239 (by decide) ?_
              exact RT _ _ _ _ _ _ hh (by rw [hF]) (Or.inl ⟨_, rfl, by rw [hF], dX7_next_243, Or.inl rfl⟩)
        · replace hF := hF.trans (if_neg c_27)
          have i_27 : x4_2.toInt < 8 := ti_nle c_27
          refine lv_aload_n hx hb dX7_next_30 rfl (lv_at hl 3 rfl) ?_
          refine lv_iload hx hb dX7_next_31 (lv_at hl 0 rfl) ?_
          refine g_callV (As := [.int x4_2]) (rest := []) KX rfl ⟨Nat.le_of_ble_eq_true rfl, Nat.le_of_ble_eq_true rfl⟩ hh hl (c_X7_isExact l D cI cZ cC cH o a_clock a_note a_text a_read a_fit a_shown a_image a_isKept a_row a_best m_told m_isRead1 m_clock m_note m_noted m_bytes m_text m_position m_tokenAt m_token m_digits m_number m_faultAt m_readMany m_readTold m_read r13_1 w_m_shown_5 m_image m_isKept m_row m_best m_againAt m_againStep m_orderMany m_orderLeast x4_2 ) JN.all 1 gX7_next_X7_isExact rfl (by decide +kernel) ⟨Nat.le_of_ble_eq_true rfl, Nat.le_of_ble_eq_true rfl⟩ 0 7 rfl rfl rfl rfl rfl (Nat.le_of_ble_eq_true rfl) dX7_next_33 (fun H locs hh => ?_)
          refine W.eq (g2 := F0 m 36 ls [.int (F_X7_isExact m_told m_clock x4_2)]) rfl ?_
          refine lv_if_eq (tgt := 223) hx hb dX7_next_36 (by decide) (fun c_36 => ?_) (fun c_36 => ?_)
          · replace hF := hF.trans (if_pos c_36)
            refine lv_iinc (v := x4_2 + 1) (lv' := [(4, .int (x4_2 + 1)), (3, .int x3_3), (2, .int x2_4), (0, .ref o), (1, .int x1)]) hx hb dX7_next_223 hl (k := 0) rfl rfl (Nat.le_of_ble_eq_true rfl) rfl (fun ls hl => ?_)
            refine lv_goto (tgt := 23) hx hb dX7_next_226 (by decide) ?_
            have e_inc : (x4_2 + 1).toInt = x4_2.toInt + 1 := ti_inc (by omega)
            exact ih_23 (x4_2 + 1) x3_3 x2_4 w_m_shown_5 (by first | with_reducible assumption | omega | decide) (by first | with_reducible assumption | omega | decide) (by omega) hF _ _ _ hh (lv_sub hl [0, 1, 2, 3, 4] rfl)
          · replace hF := hF.trans (if_neg c_36)
            obtain ⟨k0_36, k1_36⟩ := X7_isExact_in c_36
            refine lv_aload_n hx hb dX7_next_39 rfl (lv_at hl 3 rfl) ?_
            refine g_get KX hh in_X7_next_X7 0 rfl rfl 1 (by decide) rfl (List.mem_of_getElem? (i := 1) rfl) dX7_next_40 ?_
            refine lv_iload hx hb dX7_next_43 (lv_at hl 0 rfl) ?_
            refine g_callS (As := [.int m_isRead1, .int x4_2]) (rest := []) KX rfl ⟨Nat.le_of_ble_eq_true rfl, Nat.le_of_ble_eq_true rfl⟩ hh hl (c_X7_has l D cI cZ cC cH  m_isRead1 x4_2 ) JN.no 2 gX7_next_X7_has rfl (by decide +kernel) ⟨Nat.le_of_ble_eq_true rfl, Nat.le_of_ble_eq_true rfl⟩ rfl rfl (Nat.le_of_ble_eq_true rfl) dX7_next_45 (fun H locs hh => ?_)
            refine W.eq (g2 := F0 m 48 ls [.int (F_X7_has m_isRead1 x4_2)]) rfl ?_
            refine lv_if_ne (tgt := 223) hx hb dX7_next_48 (by decide) (fun c_48 => ?_) (fun c_48 => ?_)
            · replace hF := hF.trans (if_neg c_48)
              refine lv_iinc (v := x4_2 + 1) (lv' := [(4, .int (x4_2 + 1)), (3, .int x3_3), (2, .int x2_4), (0, .ref o), (1, .int x1)]) hx hb dX7_next_223 hl (k := 0) rfl rfl (Nat.le_of_ble_eq_true rfl) rfl (fun ls hl => ?_)
              refine lv_goto (tgt := 23) hx hb dX7_next_226 (by decide) ?_
              have e_inc : (x4_2 + 1).toInt = x4_2.toInt + 1 := ti_inc (by omega)
              exact ih_23 (x4_2 + 1) x3_3 x2_4 w_m_shown_5 (by first | with_reducible assumption | omega | decide) (by first | with_reducible assumption | omega | decide) (by omega) hF _ _ _ hh (lv_sub hl [0, 1, 2, 3, 4] rfl)
            · replace hF := hF.trans (if_pos c_48)
              refine lv_iconst (v := 0) hx hb dX7_next_51 (by decide) ?_
              refine lv_istore (lv' := [(5, .int 0), (4, .int x4_2), (3, .int x3_3), (2, .int x2_4), (0, .ref o), (1, .int x1)]) hx hb dX7_next_52 hl (Nat.le_of_ble_eq_true rfl) rfl (fun ls hl => ?_)
              refine lv_iconst (v := 0) hx hb dX7_next_54 (by decide) ?_
              refine lv_istore (lv' := [(6, .int 0), (5, .int 0), (4, .int x4_2), (3, .int x3_3), (2, .int x2_4), (0, .ref o), (1, .int x1)]) hx hb dX7_next_55 hl (Nat.le_of_ble_eq_true rfl) rfl (fun ls hl => ?_)
              have L_57 : ∀ (n_57 : Nat) (x6_6 : Int32) (w_m_shown_7 : Nat → Int32) (i0_57 : 0 ≤ x6_6.toInt) (i1_57 : x6_6.toInt ≤ 720) (_ : (720 - x6_6.toInt).toNat < n_57) (_ : R = (F_X7_next_57 m_isRead1 m_clock r13_1 x4_2 x3_3 x2_4 ((F_X7_next_23 m_told m_isRead1 m_clock x1 r13_1) n_23)) n_57 x6_6 w_m_shown_7) (ls : Array Slot) (H : Heap) (locs : List Loc) (_ : HS D A s.heap (WM cI cZ cC cH o a_clock a_note a_text a_read a_fit a_shown a_image a_isKept a_row a_best m_told m_isRead1 m_clock m_note m_noted m_bytes m_text m_position m_tokenAt m_token m_digits m_number m_faultAt m_readMany m_readTold m_read r13_1 w_m_shown_7 m_image m_isKept m_row m_best m_againAt m_againStep m_orderMany m_orderLeast) H locs) (_ : lv_has ls 8 [(6, .int x6_6), (5, .int 0), (4, .int x4_2), (3, .int x3_3), (2, .int x2_4), (0, .ref o), (1, .int x1)]), W p l e { frames := 6, cells := 0, slots := 0, locals := 134 } s m args below meth c H locs 0 0 Q (F0 m 57 ls []) := by
                intro n_57
                induction n_57 with
                | zero => intro x6_6 w_m_shown_7 i0_57 i1_57 hm; exact absurd hm (Nat.not_lt_zero _)
                | succ n_57 ih_57 =>
                  intro x6_6 w_m_shown_7 i0_57 i1_57 hm_57 hF ls H locs hh hl
                  rw [F_X7_next_57.eq_2] at hF
                  refine lv_iload hx hb dX7_next_57 (lv_at hl 0 rfl) ?_
                  refine lv_sipush (v := 720) hx hb dX7_next_59 (by decide) ?_
                  refine lv_icmp_ge (tgt := 79) hx hb dX7_next_62 (by decide) (fun c_62 => ?_) (fun c_62 => ?_)
                  · replace hF := hF.trans (if_pos c_62)
                    have i_62 : 720 ≤ x6_6.toInt := ti_le.mp c_62
                    refine lv_iconst (v := 0) hx hb dX7_next_79 (by decide) ?_
                    refine lv_istore (lv' := [(6, .int 0), (5, .int 0), (4, .int x4_2), (3, .int x3_3), (2, .int x2_4), (0, .ref o), (1, .int x1)]) hx hb dX7_next_80 hl (Nat.le_of_ble_eq_true rfl) rfl (fun ls hl => ?_)
                    have L_82 : ∀ (n_82 : Nat) (x6_8 : Int32) (x5_9 : Int32) (w_m_shown_10 : Nat → Int32) (i0_82 : 0 ≤ x6_8.toInt) (i1_82 : x6_8.toInt ≤ 4320) (_ : (4320 - x6_8.toInt).toNat < n_82) (_ : R = (F_X7_next_82 m_isRead1 m_clock r13_1 x4_2 x3_3 x2_4 ((F_X7_next_23 m_told m_isRead1 m_clock x1 r13_1) n_23)) n_82 x6_8 x5_9 w_m_shown_10) (ls : Array Slot) (H : Heap) (locs : List Loc) (_ : HS D A s.heap (WM cI cZ cC cH o a_clock a_note a_text a_read a_fit a_shown a_image a_isKept a_row a_best m_told m_isRead1 m_clock m_note m_noted m_bytes m_text m_position m_tokenAt m_token m_digits m_number m_faultAt m_readMany m_readTold m_read r13_1 w_m_shown_10 m_image m_isKept m_row m_best m_againAt m_againStep m_orderMany m_orderLeast) H locs) (_ : lv_has ls 8 [(6, .int x6_8), (5, .int x5_9), (4, .int x4_2), (3, .int x3_3), (2, .int x2_4), (0, .ref o), (1, .int x1)]), W p l e { frames := 6, cells := 0, slots := 0, locals := 134 } s m args below meth c H locs 0 0 Q (F0 m 82 ls []) := by
                      intro n_82
                      induction n_82 with
                      | zero => intro x6_8 x5_9 w_m_shown_10 i0_82 i1_82 hm; exact absurd hm (Nat.not_lt_zero _)
                      | succ n_82 ih_82 =>
                        intro x6_8 x5_9 w_m_shown_10 i0_82 i1_82 hm_82 hF ls H locs hh hl
                        rw [F_X7_next_82.eq_2] at hF
                        refine lv_iload hx hb dX7_next_82 (lv_at hl 0 rfl) ?_
                        refine lv_sipush (v := 4320) hx hb dX7_next_84 (by decide) ?_
                        refine lv_icmp_ge (tgt := 181) hx hb dX7_next_87 (by decide) (fun c_87 => ?_) (fun c_87 => ?_)
                        · replace hF := hF.trans (if_pos c_87)
                          have i_87 : 4320 ≤ x6_8.toInt := ti_le.mp c_87
                          refine lv_iload_n hx hb dX7_next_181 rfl (lv_at hl 4 rfl) ?_
                          refine lv_iconst (v := (-1)) hx hb dX7_next_182 (by decide) ?_
                          have K_197 : ∀ (y0_11 : Int32) (_ : R = (F_X7_next_197 x4_2 x3_3 x2_4 ((F_X7_next_23 m_told m_isRead1 m_clock x1 r13_1) n_23) x5_9 w_m_shown_10) y0_11) (ls : Array Slot) (H : Heap) (locs : List Loc) (_ : HS D A s.heap (WM cI cZ cC cH o a_clock a_note a_text a_read a_fit a_shown a_image a_isKept a_row a_best m_told m_isRead1 m_clock m_note m_noted m_bytes m_text m_position m_tokenAt m_token m_digits m_number m_faultAt m_readMany m_readTold m_read r13_1 w_m_shown_10 m_image m_isKept m_row m_best m_againAt m_againStep m_orderMany m_orderLeast) H locs) (_ : lv_has ls 8 [(6, .int x6_8), (5, .int x5_9), (4, .int x4_2), (3, .int x3_3), (2, .int x2_4), (0, .ref o), (1, .int x1)]), W p l e { frames := 6, cells := 0, slots := 0, locals := 134 } s m args below meth c H locs 0 0 Q (F0 m 197 ls [.int y0_11]) := by
                            intro y0_11 hF ls H locs hh hl
                            unfold F_X7_next_197 at hF
                            refine lv_istore (lv' := [(6, .int y0_11), (5, .int x5_9), (4, .int x4_2), (3, .int x3_3), (2, .int x2_4), (0, .ref o), (1, .int x1)]) hx hb dX7_next_197 hl (Nat.le_of_ble_eq_true rfl) rfl (fun ls hl => ?_)
                            refine lv_iload hx hb dX7_next_199 (lv_at hl 0 rfl) ?_
                            have K_210 : ∀ (y0_12 : Int32) (_ : R = (F_X7_next_210 x4_2 x3_3 ((F_X7_next_23 m_told m_isRead1 m_clock x1 r13_1) n_23) x5_9 w_m_shown_10 y0_11) y0_12) (ls : Array Slot) (H : Heap) (locs : List Loc) (_ : HS D A s.heap (WM cI cZ cC cH o a_clock a_note a_text a_read a_fit a_shown a_image a_isKept a_row a_best m_told m_isRead1 m_clock m_note m_noted m_bytes m_text m_position m_tokenAt m_token m_digits m_number m_faultAt m_readMany m_readTold m_read r13_1 w_m_shown_10 m_image m_isKept m_row m_best m_againAt m_againStep m_orderMany m_orderLeast) H locs) (_ : lv_has ls 8 [(6, .int y0_11), (5, .int x5_9), (4, .int x4_2), (3, .int x3_3), (2, .int x2_4), (0, .ref o), (1, .int x1)]), W p l e { frames := 6, cells := 0, slots := 0, locals := 134 } s m args below meth c H locs 0 0 Q (F0 m 210 ls [.int y0_12]) := by
                              intro y0_12 hF ls H locs hh hl
                              unfold F_X7_next_210 at hF
                              refine lv_istore_n (lv' := [(2, .int y0_12), (6, .int y0_11), (5, .int x5_9), (4, .int x4_2), (3, .int x3_3), (0, .ref o), (1, .int x1)]) hx hb dX7_next_210 rfl hl (Nat.le_of_ble_eq_true rfl) rfl (fun ls hl => ?_)
                              refine lv_iload hx hb dX7_next_211 (lv_at hl 1 rfl) ?_
                              refine lv_if_eq (tgt := 221) hx hb dX7_next_213 (by decide) (fun c_213 => ?_) (fun c_213 => ?_)
                              · replace hF := hF.trans (if_pos c_213)
                                have i_213 : y0_11.toInt = 0 := congrArg Int32.toInt c_213
                                refine lv_iload_n hx hb dX7_next_221 rfl (lv_at hl 4 rfl) ?_
                                refine lv_istore_n (lv' := [(3, .int x3_3), (2, .int y0_12), (6, .int y0_11), (5, .int x5_9), (4, .int x4_2), (0, .ref o), (1, .int x1)]) hx hb dX7_next_222 rfl hl (Nat.le_of_ble_eq_true rfl) rfl (fun ls hl => ?_)
                                refine lv_iinc (v := x4_2 + 1) (lv' := [(4, .int (x4_2 + 1)), (3, .int x3_3), (2, .int y0_12), (6, .int y0_11), (5, .int x5_9), (0, .ref o), (1, .int x1)]) hx hb dX7_next_223 hl (k := 4) rfl rfl (Nat.le_of_ble_eq_true rfl) rfl (fun ls hl => ?_)
                                refine lv_goto (tgt := 23) hx hb dX7_next_226 (by decide) ?_
                                have e_inc : (x4_2 + 1).toInt = x4_2.toInt + 1 := ti_inc (by omega)
                                exact ih_23 (x4_2 + 1) x3_3 y0_12 w_m_shown_10 (by first | with_reducible assumption | omega | decide) (by first | with_reducible assumption | omega | decide) (by omega) hF _ _ _ hh (lv_sub hl [0, 1, 2, 5, 6] rfl)
                              · replace hF := hF.trans (if_neg c_213)
                                have i_213 : ¬ y0_11.toInt = 0 := ti_ne c_213
                                refine lv_iload hx hb dX7_next_216 (lv_at hl 2 rfl) ?_
                                refine lv_goto (tgt := 222) hx hb dX7_next_218 (by decide) ?_
                                refine lv_istore_n (lv' := [(3, .int x5_9), (2, .int y0_12), (6, .int y0_11), (5, .int x5_9), (4, .int x4_2), (0, .ref o), (1, .int x1)]) hx hb dX7_next_222 rfl hl (Nat.le_of_ble_eq_true rfl) rfl (fun ls hl => ?_)
                                refine lv_iinc (v := x4_2 + 1) (lv' := [(4, .int (x4_2 + 1)), (3, .int x5_9), (2, .int y0_12), (6, .int y0_11), (5, .int x5_9), (0, .ref o), (1, .int x1)]) hx hb dX7_next_223 hl (k := 4) rfl rfl (Nat.le_of_ble_eq_true rfl) rfl (fun ls hl => ?_)
                                refine lv_goto (tgt := 23) hx hb dX7_next_226 (by decide) ?_
                                have e_inc : (x4_2 + 1).toInt = x4_2.toInt + 1 := ti_inc (by omega)
                                exact ih_23 (x4_2 + 1) x5_9 y0_12 w_m_shown_10 (by first | with_reducible assumption | omega | decide) (by first | with_reducible assumption | omega | decide) (by omega) hF _ _ _ hh (lv_sub hl [0, 1, 2, 5, 6] rfl)
                            refine lv_if_eq (tgt := 209) hx hb dX7_next_201 (by decide) (fun c_201 => ?_) (fun c_201 => ?_)
                            · replace hF := hF.trans (if_pos c_201)
                              have i_201 : y0_11.toInt = 0 := congrArg Int32.toInt c_201
                              refine lv_iload_n hx hb dX7_next_209 rfl (lv_at hl 4 rfl) ?_
                              exact K_210 x2_4  hF _ _ _ hh (lv_sub hl [0, 1, 2, 3, 4, 5, 6] rfl)
                            · replace hF := hF.trans (if_neg c_201)
                              have i_201 : ¬ y0_11.toInt = 0 := ti_ne c_201
                              refine lv_iload hx hb dX7_next_204 (lv_at hl 2 rfl) ?_
                              refine lv_goto (tgt := 210) hx hb dX7_next_206 (by decide) ?_
                              exact K_210 x4_2  hF _ _ _ hh (lv_sub hl [0, 1, 2, 3, 4, 5, 6] rfl)
                          have K_192 : ∀ (_ : R = (F_X7_next_192 x4_2 x3_3 x2_4 ((F_X7_next_23 m_told m_isRead1 m_clock x1 r13_1) n_23) x5_9 w_m_shown_10)) (ls : Array Slot) (H : Heap) (locs : List Loc) (_ : HS D A s.heap (WM cI cZ cC cH o a_clock a_note a_text a_read a_fit a_shown a_image a_isKept a_row a_best m_told m_isRead1 m_clock m_note m_noted m_bytes m_text m_position m_tokenAt m_token m_digits m_number m_faultAt m_readMany m_readTold m_read r13_1 w_m_shown_10 m_image m_isKept m_row m_best m_againAt m_againStep m_orderMany m_orderLeast) H locs) (_ : lv_has ls 8 [(6, .int x6_8), (5, .int x5_9), (4, .int x4_2), (3, .int x3_3), (2, .int x2_4), (0, .ref o), (1, .int x1)]), W p l e { frames := 6, cells := 0, slots := 0, locals := 134 } s m args below meth c H locs 0 0 Q (F0 m 192 ls []) := by
                            intro  hF ls H locs hh hl
                            unfold F_X7_next_192 at hF
                            refine lv_iconst (v := 1) hx hb dX7_next_192 (by decide) ?_
                            refine lv_goto (tgt := 197) hx hb dX7_next_193 (by decide) ?_
                            exact K_197 1  hF _ _ _ hh (lv_sub hl [0, 1, 2, 3, 4, 5, 6] rfl)
                          refine lv_icmp_eq (tgt := 192) hx hb dX7_next_183 (by decide) (fun c_183 => ?_) (fun c_183 => ?_)
                          · replace hF := hF.trans (if_pos c_183)
                            have i_183 : x2_4.toInt = (-1) := congrArg Int32.toInt c_183
                            exact K_192   hF _ _ _ hh (lv_sub hl [0, 1, 2, 3, 4, 5, 6] rfl)
                          · replace hF := hF.trans (if_neg c_183)
                            have i_183 : ¬ x2_4.toInt = (-1) := ti_ne c_183
                            refine lv_iload hx hb dX7_next_186 (lv_at hl 1 rfl) ?_
                            refine lv_iload_n hx hb dX7_next_188 rfl (lv_at hl 3 rfl) ?_
                            refine lv_icmp_ge (tgt := 196) hx hb dX7_next_189 (by decide) (fun c_189 => ?_) (fun c_189 => ?_)
                            · replace hF := hF.trans (if_pos c_189)
                              have i_189 : x3_3.toInt ≤ x5_9.toInt := ti_le.mp c_189
                              refine lv_iconst (v := 0) hx hb dX7_next_196 (by decide) ?_
                              exact K_197 0  hF _ _ _ hh (lv_sub hl [0, 1, 2, 3, 4, 5, 6] rfl)
                            · replace hF := hF.trans (if_neg c_189)
                              have i_189 : x5_9.toInt < x3_3.toInt := ti_nle c_189
                              exact K_192   hF _ _ _ hh (lv_sub hl [0, 1, 2, 3, 4, 5, 6] rfl)
                        · replace hF := hF.trans (if_neg c_87)
                          have i_87 : x6_8.toInt < 4320 := ti_nle c_87
                          refine lv_aload_n hx hb dX7_next_90 rfl (lv_at hl 5 rfl) ?_
                          refine g_get KX hh in_X7_next_X7 0 rfl rfl 16 (by decide) rfl (List.mem_of_getElem? (i := 3) rfl) dX7_next_91 ?_
                          refine lv_iload hx hb dX7_next_94 (lv_at hl 0 rfl) ?_
                          refine g_iald KX hh 5 0 rfl rfl (vp_in_iff.mpr (by omega)) dX7_next_96 ?_
                          refine lv_aload_n hx hb dX7_next_97 rfl (lv_at hl 5 rfl) ?_
                          refine g_get KX hh in_X7_next_X7 0 rfl rfl 1 (by decide) rfl (List.mem_of_getElem? (i := 1) rfl) dX7_next_98 ?_
                          refine lv_icmp_ne (tgt := 175) hx hb dX7_next_101 (by decide) (fun c_101 => ?_) (fun c_101 => ?_)
                          · replace hF := hF.trans (if_neg c_101)
                            refine lv_iinc (v := x6_8 + 1) (lv' := [(6, .int (x6_8 + 1)), (5, .int x5_9), (4, .int x4_2), (3, .int x3_3), (2, .int x2_4), (0, .ref o), (1, .int x1)]) hx hb dX7_next_175 hl (k := 0) rfl rfl (Nat.le_of_ble_eq_true rfl) rfl (fun ls hl => ?_)
                            refine lv_goto (tgt := 82) hx hb dX7_next_178 (by decide) ?_
                            have e_inc : (x6_8 + 1).toInt = x6_8.toInt + 1 := ti_inc (by omega)
                            exact ih_82 (x6_8 + 1) x5_9 w_m_shown_10 (by first | with_reducible assumption | omega | decide) (by first | with_reducible assumption | omega | decide) (by omega) hF _ _ _ hh (lv_sub hl [0, 1, 2, 3, 4, 5, 6] rfl)
                          · replace hF := hF.trans (if_pos c_101)
                            refine lv_aload_n hx hb dX7_next_104 rfl (lv_at hl 5 rfl) ?_
                            refine lv_iload hx hb dX7_next_105 (lv_at hl 2 rfl) ?_
                            refine lv_iload hx hb dX7_next_107 (lv_at hl 0 rfl) ?_
                            refine lv_aload_n hx hb dX7_next_109 rfl (lv_at hl 5 rfl) ?_
                            refine g_get KX hh in_X7_next_X7 0 rfl rfl 2 (by decide) rfl (List.mem_of_getElem? (i := 4) rfl) dX7_next_110 ?_
                            refine lv_bipush (v := 6) hx hb dX7_next_113 (by decide) ?_
                            refine lv_iload hx hb dX7_next_115 (lv_at hl 2 rfl) ?_
                            refine lv_imul hx hb dX7_next_117 ?_
                            refine lv_iconst (v := 3) hx hb dX7_next_118 (by decide) ?_
                            refine lv_iadd hx hb dX7_next_119 ?_
                            refine g_iald KX hh 1 0 rfl rfl (ix6 3 (by omega) (by omega) (by decide)) dX7_next_120 ?_
                            refine g_callV (As := [.int x4_2, .int x6_8, .int (m_clock ((6 * x4_2) + 3).toNatClampNeg)]) (rest := []) KX rfl ⟨Nat.le_of_ble_eq_true rfl, Nat.le_of_ble_eq_true rfl⟩ hh hl (c_X7_hand l D cI cZ cC cH o a_clock a_note a_text a_read a_fit a_shown a_image a_isKept a_row a_best m_told m_isRead1 m_clock m_note m_noted m_bytes m_text m_position m_tokenAt m_token m_digits m_number m_faultAt m_readMany m_readTold m_read r13_1 w_m_shown_10 m_image m_isKept m_row m_best m_againAt m_againStep m_orderMany m_orderLeast x4_2 x6_8 (m_clock ((6 * x4_2) + 3).toNatClampNeg) (by first | with_reducible assumption | omega | decide) (by first | with_reducible assumption | omega | decide)) JN.all 3 gX7_next_X7_hand rfl (by decide +kernel) ⟨Nat.le_of_ble_eq_true rfl, Nat.le_of_ble_eq_true rfl⟩ 0 7 rfl rfl rfl rfl rfl (Nat.le_of_ble_eq_true rfl) dX7_next_121 (fun H locs hh => ?_)
                            refine W.eq (g2 := F0 m 124 ls [.int (F_X7_hand m_clock x4_2 x6_8 (m_clock ((6 * x4_2) + 3).toNatClampNeg))]) rfl ?_
                            refine lv_sipush (v := 1440) hx hb dX7_next_124 (by decide) ?_
                            refine g_callS (As := [.int (F_X7_hand m_clock x4_2 x6_8 (m_clock ((6 * x4_2) + 3).toNatClampNeg)), .int 1440]) (rest := []) KX rfl ⟨Nat.le_of_ble_eq_true rfl, Nat.le_of_ble_eq_true rfl⟩ hh hl (c_X7_down l D cI cZ cC cH  (F_X7_hand m_clock x4_2 x6_8 (m_clock ((6 * x4_2) + 3).toNatClampNeg)) 1440 (by first | with_reducible assumption | omega | decide)) JN.no 2 gX7_next_X7_down rfl (by decide +kernel) ⟨Nat.le_of_ble_eq_true rfl, Nat.le_of_ble_eq_true rfl⟩ rfl rfl (Nat.le_of_ble_eq_true rfl) dX7_next_127 (fun H locs hh => ?_)
                            refine W.eq (g2 := F0 m 130 ls [.int (F_X7_down (F_X7_hand m_clock x4_2 x6_8 (m_clock ((6 * x4_2) + 3).toNatClampNeg)) 1440)]) rfl ?_
                            refine lv_sipush (v := 720) hx hb dX7_next_130 (by decide) ?_
                            refine g_callS (As := [.int (F_X7_down (F_X7_hand m_clock x4_2 x6_8 (m_clock ((6 * x4_2) + 3).toNatClampNeg)) 1440), .int 720]) (rest := []) KX rfl ⟨Nat.le_of_ble_eq_true rfl, Nat.le_of_ble_eq_true rfl⟩ hh hl (c_X7_rest l D cI cZ cC cH  (F_X7_down (F_X7_hand m_clock x4_2 x6_8 (m_clock ((6 * x4_2) + 3).toNatClampNeg)) 1440) 720 (by first | with_reducible assumption | omega | decide)) JN.no 2 gX7_next_X7_rest rfl (by decide +kernel) ⟨Nat.le_of_ble_eq_true rfl, Nat.le_of_ble_eq_true rfl⟩ rfl rfl (Nat.le_of_ble_eq_true rfl) dX7_next_133 (fun H locs hh => ?_)
                            refine W.eq (g2 := F0 m 136 ls [.int (F_X7_rest (F_X7_down (F_X7_hand m_clock x4_2 x6_8 (m_clock ((6 * x4_2) + 3).toNatClampNeg)) 1440) 720)]) rfl ?_
                            refine lv_istore (lv' := [(7, .int (F_X7_rest (F_X7_down (F_X7_hand m_clock x4_2 x6_8 (m_clock ((6 * x4_2) + 3).toNatClampNeg)) 1440) 720)), (6, .int x6_8), (5, .int x5_9), (4, .int x4_2), (3, .int x3_3), (2, .int x2_4), (0, .ref o), (1, .int x1)]) hx hb dX7_next_136 hl (Nat.le_of_ble_eq_true rfl) rfl (fun ls hl => ?_)
                            refine lv_aload_n hx hb dX7_next_138 rfl (lv_at hl 6 rfl) ?_
                            refine g_get KX hh in_X7_next_X7 0 rfl rfl 17 (by decide) rfl (List.mem_of_getElem? (i := 2) rfl) dX7_next_139 ?_
                            refine lv_iload hx hb dX7_next_142 (lv_at hl 0 rfl) ?_
                            refine lv_dup2_11 hx hb dX7_next_144 rfl rfl ?_
                            refine g_iald KX hh 6 0 rfl rfl (rest_in rfl (by decide)) dX7_next_145 ?_
                            refine lv_iconst (v := 1) hx hb dX7_next_146 (by decide) ?_
                            refine lv_iadd hx hb dX7_next_147 ?_
                            refine g_iast KX hh 6 0 rfl rfl (rest_in rfl (by decide)) (w' := (WM cI cZ cC cH o a_clock a_note a_text a_read a_fit a_shown a_image a_isKept a_row a_best m_told m_isRead1 m_clock m_note m_noted m_bytes m_text m_position m_tokenAt m_token m_digits m_number m_faultAt m_readMany m_readTold m_read r13_1 (upd w_m_shown_10 (F_X7_rest (F_X7_down (F_X7_hand m_clock x4_2 x6_8 (m_clock ((6 * x4_2) + 3).toNatClampNeg)) 1440) 720).toNatClampNeg ((w_m_shown_10 (F_X7_rest (F_X7_down (F_X7_hand m_clock x4_2 x6_8 (m_clock ((6 * x4_2) + 3).toNatClampNeg)) 1440) 720).toNatClampNeg) + 1)) m_image m_isKept m_row m_best m_againAt m_againStep m_orderMany m_orderLeast)) rfl dX7_next_148 (fun H locs hh => ?_)
                            refine lv_aload_n hx hb dX7_next_149 rfl (lv_at hl 6 rfl) ?_
                            refine g_get KX hh in_X7_next_X7 0 rfl rfl 17 (by decide) rfl (List.mem_of_getElem? (i := 2) rfl) dX7_next_150 ?_
                            refine lv_iload hx hb dX7_next_153 (lv_at hl 0 rfl) ?_
                            refine g_iald KX hh 6 0 rfl rfl (rest_in rfl (by decide)) dX7_next_155 ?_
                            refine lv_iload hx hb dX7_next_156 (lv_at hl 2 rfl) ?_
                            refine lv_icmp_le (tgt := 171) hx hb dX7_next_158 (by decide) (fun c_158 => ?_) (fun c_158 => ?_)
                            · replace hF := hF.trans (if_pos c_158)
                              refine lv_iload hx hb dX7_next_171 (lv_at hl 2 rfl) ?_
                              refine lv_istore (lv' := [(5, .int x5_9), (7, .int (F_X7_rest (F_X7_down (F_X7_hand m_clock x4_2 x6_8 (m_clock ((6 * x4_2) + 3).toNatClampNeg)) 1440) 720)), (6, .int x6_8), (4, .int x4_2), (3, .int x3_3), (2, .int x2_4), (0, .ref o), (1, .int x1)]) hx hb dX7_next_173 hl (Nat.le_of_ble_eq_true rfl) rfl (fun ls hl => ?_)
                              refine lv_iinc (v := x6_8 + 1) (lv' := [(6, .int (x6_8 + 1)), (5, .int x5_9), (7, .int (F_X7_rest (F_X7_down (F_X7_hand m_clock x4_2 x6_8 (m_clock ((6 * x4_2) + 3).toNatClampNeg)) 1440) 720)), (4, .int x4_2), (3, .int x3_3), (2, .int x2_4), (0, .ref o), (1, .int x1)]) hx hb dX7_next_175 hl (k := 2) rfl rfl (Nat.le_of_ble_eq_true rfl) rfl (fun ls hl => ?_)
                              refine lv_goto (tgt := 82) hx hb dX7_next_178 (by decide) ?_
                              have e_inc : (x6_8 + 1).toInt = x6_8.toInt + 1 := ti_inc (by omega)
                              exact ih_82 (x6_8 + 1) x5_9 (upd w_m_shown_10 (F_X7_rest (F_X7_down (F_X7_hand m_clock x4_2 x6_8 (m_clock ((6 * x4_2) + 3).toNatClampNeg)) 1440) 720).toNatClampNeg ((w_m_shown_10 (F_X7_rest (F_X7_down (F_X7_hand m_clock x4_2 x6_8 (m_clock ((6 * x4_2) + 3).toNatClampNeg)) 1440) 720).toNatClampNeg) + 1)) (by first | with_reducible assumption | omega | decide) (by first | with_reducible assumption | omega | decide) (by omega) hF _ _ _ hh (lv_sub hl [0, 1, 3, 4, 5, 6, 7] rfl)
                            · replace hF := hF.trans (if_neg c_158)
                              refine lv_aload_n hx hb dX7_next_161 rfl (lv_at hl 6 rfl) ?_
                              refine g_get KX hh in_X7_next_X7 0 rfl rfl 17 (by decide) rfl (List.mem_of_getElem? (i := 2) rfl) dX7_next_162 ?_
                              refine lv_iload hx hb dX7_next_165 (lv_at hl 0 rfl) ?_
                              refine g_iald KX hh 6 0 rfl rfl (rest_in rfl (by decide)) dX7_next_167 ?_
                              refine lv_goto (tgt := 173) hx hb dX7_next_168 (by decide) ?_
                              refine lv_istore (lv' := [(5, .int ((upd w_m_shown_10 (F_X7_rest (F_X7_down (F_X7_hand m_clock x4_2 x6_8 (m_clock ((6 * x4_2) + 3).toNatClampNeg)) 1440) 720).toNatClampNeg ((w_m_shown_10 (F_X7_rest (F_X7_down (F_X7_hand m_clock x4_2 x6_8 (m_clock ((6 * x4_2) + 3).toNatClampNeg)) 1440) 720).toNatClampNeg) + 1)) (F_X7_rest (F_X7_down (F_X7_hand m_clock x4_2 x6_8 (m_clock ((6 * x4_2) + 3).toNatClampNeg)) 1440) 720).toNatClampNeg)), (7, .int (F_X7_rest (F_X7_down (F_X7_hand m_clock x4_2 x6_8 (m_clock ((6 * x4_2) + 3).toNatClampNeg)) 1440) 720)), (6, .int x6_8), (4, .int x4_2), (3, .int x3_3), (2, .int x2_4), (0, .ref o), (1, .int x1)]) hx hb dX7_next_173 hl (Nat.le_of_ble_eq_true rfl) rfl (fun ls hl => ?_)
                              refine lv_iinc (v := x6_8 + 1) (lv' := [(6, .int (x6_8 + 1)), (5, .int ((upd w_m_shown_10 (F_X7_rest (F_X7_down (F_X7_hand m_clock x4_2 x6_8 (m_clock ((6 * x4_2) + 3).toNatClampNeg)) 1440) 720).toNatClampNeg ((w_m_shown_10 (F_X7_rest (F_X7_down (F_X7_hand m_clock x4_2 x6_8 (m_clock ((6 * x4_2) + 3).toNatClampNeg)) 1440) 720).toNatClampNeg) + 1)) (F_X7_rest (F_X7_down (F_X7_hand m_clock x4_2 x6_8 (m_clock ((6 * x4_2) + 3).toNatClampNeg)) 1440) 720).toNatClampNeg)), (7, .int (F_X7_rest (F_X7_down (F_X7_hand m_clock x4_2 x6_8 (m_clock ((6 * x4_2) + 3).toNatClampNeg)) 1440) 720)), (4, .int x4_2), (3, .int x3_3), (2, .int x2_4), (0, .ref o), (1, .int x1)]) hx hb dX7_next_175 hl (k := 2) rfl rfl (Nat.le_of_ble_eq_true rfl) rfl (fun ls hl => ?_)
                              refine lv_goto (tgt := 82) hx hb dX7_next_178 (by decide) ?_
                              have e_inc : (x6_8 + 1).toInt = x6_8.toInt + 1 := ti_inc (by omega)
                              exact ih_82 (x6_8 + 1) ((upd w_m_shown_10 (F_X7_rest (F_X7_down (F_X7_hand m_clock x4_2 x6_8 (m_clock ((6 * x4_2) + 3).toNatClampNeg)) 1440) 720).toNatClampNeg ((w_m_shown_10 (F_X7_rest (F_X7_down (F_X7_hand m_clock x4_2 x6_8 (m_clock ((6 * x4_2) + 3).toNatClampNeg)) 1440) 720).toNatClampNeg) + 1)) (F_X7_rest (F_X7_down (F_X7_hand m_clock x4_2 x6_8 (m_clock ((6 * x4_2) + 3).toNatClampNeg)) 1440) 720).toNatClampNeg) (upd w_m_shown_10 (F_X7_rest (F_X7_down (F_X7_hand m_clock x4_2 x6_8 (m_clock ((6 * x4_2) + 3).toNatClampNeg)) 1440) 720).toNatClampNeg ((w_m_shown_10 (F_X7_rest (F_X7_down (F_X7_hand m_clock x4_2 x6_8 (m_clock ((6 * x4_2) + 3).toNatClampNeg)) 1440) 720).toNatClampNeg) + 1)) (by first | with_reducible assumption | omega | decide) (by first | with_reducible assumption | omega | decide) (by omega) hF _ _ _ hh (lv_sub hl [0, 1, 3, 4, 5, 6, 7] rfl)
                    exact L_82 4321 0 0 w_m_shown_7 (by first | with_reducible assumption | omega | decide) (by first | with_reducible assumption | omega | decide) (by first | omega | decide | (simp; done)) hF _ _ _ hh (lv_sub hl [0, 1, 2, 3, 4, 5, 6] rfl)
                  · replace hF := hF.trans (if_neg c_62)
                    have i_62 : x6_6.toInt < 720 := ti_nle c_62
                    refine lv_aload_n hx hb dX7_next_65 rfl (lv_at hl 5 rfl) ?_
                    refine g_get KX hh in_X7_next_X7 0 rfl rfl 17 (by decide) rfl (List.mem_of_getElem? (i := 2) rfl) dX7_next_66 ?_
                    refine lv_iload hx hb dX7_next_69 (lv_at hl 0 rfl) ?_
                    refine lv_iconst (v := 0) hx hb dX7_next_71 (by decide) ?_
                    refine g_iast KX hh 6 0 rfl rfl (vp_in_iff.mpr (by omega)) (w' := (WM cI cZ cC cH o a_clock a_note a_text a_read a_fit a_shown a_image a_isKept a_row a_best m_told m_isRead1 m_clock m_note m_noted m_bytes m_text m_position m_tokenAt m_token m_digits m_number m_faultAt m_readMany m_readTold m_read r13_1 (upd w_m_shown_7 x6_6.toNatClampNeg 0) m_image m_isKept m_row m_best m_againAt m_againStep m_orderMany m_orderLeast)) rfl dX7_next_72 (fun H locs hh => ?_)
                    refine lv_iinc (v := x6_6 + 1) (lv' := [(6, .int (x6_6 + 1)), (5, .int 0), (4, .int x4_2), (3, .int x3_3), (2, .int x2_4), (0, .ref o), (1, .int x1)]) hx hb dX7_next_73 hl (k := 0) rfl rfl (Nat.le_of_ble_eq_true rfl) rfl (fun ls hl => ?_)
                    refine lv_goto (tgt := 57) hx hb dX7_next_76 (by decide) ?_
                    have e_inc : (x6_6 + 1).toInt = x6_6.toInt + 1 := ti_inc (by omega)
                    exact ih_57 (x6_6 + 1) (upd w_m_shown_7 x6_6.toNatClampNeg 0) (by first | with_reducible assumption | omega | decide) (by first | with_reducible assumption | omega | decide) (by omega) hF _ _ _ hh (lv_sub hl [0, 1, 2, 3, 4, 5, 6] rfl)
              exact L_57 721 0 w_m_shown_5 (by first | with_reducible assumption | omega | decide) (by first | with_reducible assumption | omega | decide) (by first | omega | decide | (simp; done)) hF _ _ _ hh (lv_sub hl [0, 1, 2, 3, 4, 5, 6] rfl)
    exact L_23 9 0 0 (-1) m_shown (by first | with_reducible assumption | omega | decide) (by first | with_reducible assumption | omega | decide) (by first | omega | decide | (simp; done)) hF _ _ _ hh (lv_sub hl [0, 1, 2, 3, 4] rfl)
  · replace hF := hF.trans (if_pos c_6)
    refine lv_bipush (v := (-3)) hx hb dX7_next_9 (by decide) ?_
    exact RT _ _ _ _ _ _ hh (by rw [hF]) (Or.inl ⟨_, rfl, by rw [hF], dX7_next_11, Or.inl rfl⟩)
