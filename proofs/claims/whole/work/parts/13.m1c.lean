def F_X7_isLine_c146  (r146_3 : Int32 × Int32 × Int32 × Int64 × Int32 × Int32 × Int32 × Int32 × (Nat → Int32)) : Int32 × Int32 × Int32 × Int64 × Int32 × Int32 × Int32 × Int32 × (Nat → Int32) := (r146_3.1, r146_3.2.1, r146_3.2.2.1, r146_3.2.2.2.1, r146_3.2.2.2.2.1, r146_3.2.2.2.2.2.1, r146_3.2.2.2.2.2.2.1, r146_3.2.2.2.2.2.2.2.1, r146_3.2.2.2.2.2.2.2.2)
def F_X7_isLine_c146_4  (r146_4 : Int32 × Int32 × Int32 × Int64 × Int32 × Int32 × Int32 × Int32 × (Nat → Int32)) : Int32 × Int32 × Int32 × Int64 × Int32 × Int32 × Int32 × Int32 × (Nat → Int32) := (r146_4.1, r146_4.2.1, r146_4.2.2.1, r146_4.2.2.2.1, r146_4.2.2.2.2.1, r146_4.2.2.2.2.2.1, r146_4.2.2.2.2.2.2.1, r146_4.2.2.2.2.2.2.2.1, r146_4.2.2.2.2.2.2.2.2)
def F_X7_isLine_c152  (r152_5 : Int32 × Int32 × Int32 × Int64 × Int32 × Int32 × Int32 × Int32 × (Nat → Int32)) : Int32 × Int32 × Int32 × Int64 × Int32 × Int32 × Int32 × Int32 × (Nat → Int32) := (r152_5.1, r152_5.2.1, r152_5.2.2.1, r152_5.2.2.2.1, r152_5.2.2.2.2.1, r152_5.2.2.2.2.2.1, r152_5.2.2.2.2.2.2.1, r152_5.2.2.2.2.2.2.2.1, r152_5.2.2.2.2.2.2.2.2)
def F_X7_isLine_c158  (r158_6 : Int32 × Int32 × Int32 × Int64 × Int32 × Int32 × Int32 × Int32 × (Nat → Int32)) : Int32 × Int32 × Int32 × Int64 × Int32 × Int32 × Int32 × Int32 × (Nat → Int32) := (r158_6.1, r158_6.2.1, r158_6.2.2.1, r158_6.2.2.2.1, r158_6.2.2.2.2.1, r158_6.2.2.2.2.2.1, r158_6.2.2.2.2.2.2.1, r158_6.2.2.2.2.2.2.2.1, r158_6.2.2.2.2.2.2.2.2)
def F_X7_isLine_c164 (m_readTold : Int32) (r164_7 : Int32 × Int32 × Int32 × Int64 × Int32 × Int32 × Int32 × (Nat → Int32)) : Int32 × Int32 × Int32 × Int64 × Int32 × Int32 × Int32 × Int32 × (Nat → Int32) := (r164_7.1, r164_7.2.1, r164_7.2.2.1, r164_7.2.2.2.1, r164_7.2.2.2.2.1, r164_7.2.2.2.2.2.1, r164_7.2.2.2.2.2.2.1, m_readTold, r164_7.2.2.2.2.2.2.2)
def F_X7_isLine_c171 (m_readTold : Int32) (m_read : Nat → Int32) (x1 : Int32) (r1_1 : Int32 × Int32 × Int64 × Int32 × Int32) (y0_2 : Int32) (r171_8 : Int32 × Int32) : Int32 × Int32 × Int32 × Int64 × Int32 × Int32 × Int32 × Int32 × (Nat → Int32) := (r171_8.1, r1_1.1, r1_1.2.1, r1_1.2.2.1, r1_1.2.2.2.1, r1_1.2.2.2.2, r171_8.2, m_readTold, upd m_read x1.toNatClampNeg y0_2)
def F_X7_isLine_100 (m_bytes : Int32) (m_text : Nat → Int32) (m_faultAt : Int32) (m_readTold : Int32) (m_read : Nat → Int32) (x1 : Int32) (r1_1 : Int32 × Int32 × Int64 × Int32 × Int32) (y0_2 : Int32) : Int32 × Int32 × Int32 × Int64 × Int32 × Int32 × Int32 × Int32 × (Nat → Int32) := (if ((upd m_read x1.toNatClampNeg y0_2) x1.toNatClampNeg) = 0 then (F_X7_isLine_c146 (F_X7_isGoing m_bytes m_text r1_1.1 m_faultAt m_readTold (upd m_read x1.toNatClampNeg y0_2) x1)) else if ((upd m_read x1.toNatClampNeg y0_2) x1.toNatClampNeg) = 1 then (F_X7_isLine_c146_4 (F_X7_isGoing m_bytes m_text r1_1.1 m_faultAt m_readTold (upd m_read x1.toNatClampNeg y0_2) x1)) else if ((upd m_read x1.toNatClampNeg y0_2) x1.toNatClampNeg) = 2 then (F_X7_isLine_c152 (F_X7_isStopped m_bytes m_text r1_1.1 m_faultAt m_readTold (upd m_read x1.toNatClampNeg y0_2) x1)) else if ((upd m_read x1.toNatClampNeg y0_2) x1.toNatClampNeg) = 3 then (F_X7_isLine_c158 (F_X7_isGone m_bytes m_text r1_1.1 m_faultAt m_readTold (upd m_read x1.toNatClampNeg y0_2) x1)) else if ((upd m_read x1.toNatClampNeg y0_2) x1.toNatClampNeg) = 4 then (F_X7_isLine_c164 m_readTold (F_X7_isNow m_bytes m_text r1_1.1 m_faultAt m_readTold (upd m_read x1.toNatClampNeg y0_2) x1)) else if ((upd m_read x1.toNatClampNeg y0_2) x1.toNatClampNeg) = 5 then (1, r1_1.1, r1_1.2.1, r1_1.2.2.1, r1_1.2.2.2.1, r1_1.2.2.2.2, m_faultAt, m_readTold, upd m_read x1.toNatClampNeg y0_2) else (F_X7_isLine_c171 m_readTold m_read x1 r1_1 y0_2 (F_X7_fails r1_1.2.1)))
def F_X7_isLine_c1 (m_bytes : Int32) (m_text : Nat → Int32) (m_faultAt : Int32) (m_readTold : Int32) (m_read : Nat → Int32) (x1 : Int32) (r1_1 : Int32 × Int32 × Int64 × Int32 × Int32) : Int32 × Int32 × Int32 × Int64 × Int32 × Int32 × Int32 × Int32 × (Nat → Int32) := (if (lg_cmp r1_1.2.2.1 4022278) = 0 then (F_X7_isLine_100 m_bytes m_text m_faultAt m_readTold m_read x1 r1_1 0) else (if (lg_cmp r1_1.2.2.1 40187) = 0 then (F_X7_isLine_100 m_bytes m_text m_faultAt m_readTold m_read x1 r1_1 1) else (if (lg_cmp r1_1.2.2.1 7656265777) = 0 then (F_X7_isLine_100 m_bytes m_text m_faultAt m_readTold m_read x1 r1_1 2) else (if (lg_cmp r1_1.2.2.1 149099) = 0 then (F_X7_isLine_100 m_bytes m_text m_faultAt m_readTold m_read x1 r1_1 3) else (if (lg_cmp r1_1.2.2.1 10634) = 0 then (F_X7_isLine_100 m_bytes m_text m_faultAt m_readTold m_read x1 r1_1 4) else (if (lg_cmp r1_1.2.2.1 309125191) = 0 then (F_X7_isLine_100 m_bytes m_text m_faultAt m_readTold m_read x1 r1_1 5) else (F_X7_isLine_100 m_bytes m_text m_faultAt m_readTold m_read x1 r1_1 (-1))))))))
def F_X7_isLine (m_bytes : Int32) (m_text : Nat → Int32) (m_position : Int32) (m_faultAt : Int32) (m_readTold : Int32) (m_read : Nat → Int32) (x1 : Int32) : Int32 × Int32 × Int32 × Int64 × Int32 × Int32 × Int32 × Int32 × (Nat → Int32) := (F_X7_isLine_c1 m_bytes m_text m_faultAt m_readTold m_read x1 (F_X7_nextToken m_bytes m_text m_position))
theorem in_X7_isLine_X7 : ∀ x ∈ u_ws RX7 TX7 26, x ∈ wsX7_isLine := by decide +kernel
set_option maxHeartbeats 2000000 in
set_option maxRecDepth 100000 in
theorem c_X7_isLine (l : Launch) (D : va_G) (cI cZ cC cH : ClassId) (o a_clock a_note a_text a_read a_fit a_shown a_image a_isKept a_row a_best : Nat) (m_told : Int32) (m_isRead1 : Int32) (m_clock : Nat → Int32) (m_note : Nat → Int32) (m_noted : Int32) (m_bytes : Int32) (m_text : Nat → Int32) (m_position : Int32) (m_tokenAt : Int32) (m_token : Int64) (m_digits : Int32) (m_number : Int32) (m_faultAt : Int32) (m_readMany : Int32) (m_readTold : Int32) (m_read : Nat → Int32) (m_fit : Nat → Int32) (m_shown : Nat → Int32) (m_image : Nat → Int32) (m_isKept : Nat → Int32) (m_row : Nat → Int32) (m_best : Nat → Int32) (m_againAt : Int32) (m_againStep : Int32) (m_orderMany : Int32) (m_orderLeast : Int32) (x1 : Int32) (hpos : PosOk m_bytes m_position) (hw0 : 0 ≤ x1.toInt) (hw1 : x1.toInt ≤ 42) : MC l D (TY cI cZ cC cH) yX7_isLine wsX7_isLine 4 87 [.ref o, .int x1] (WM cI cZ cC cH o a_clock a_note a_text a_read a_fit a_shown a_image a_isKept a_row a_best m_told m_isRead1 m_clock m_note m_noted m_bytes m_text m_position m_tokenAt m_token m_digits m_number m_faultAt m_readMany m_readTold m_read m_fit m_shown m_image m_isKept m_row m_best m_againAt m_againStep m_orderMany m_orderLeast) (some (.int ((F_X7_isLine m_bytes m_text m_position m_faultAt m_readTold m_read x1).1))) (WM cI cZ cC cH o a_clock a_note a_text a_read a_fit a_shown a_image a_isKept a_row a_best m_told m_isRead1 m_clock m_note m_noted m_bytes m_text (F_X7_isLine m_bytes m_text m_position m_faultAt m_readTold m_read x1).2.1 (F_X7_isLine m_bytes m_text m_position m_faultAt m_readTold m_read x1).2.2.1 (F_X7_isLine m_bytes m_text m_position m_faultAt m_readTold m_read x1).2.2.2.1 (F_X7_isLine m_bytes m_text m_position m_faultAt m_readTold m_read x1).2.2.2.2.1 (F_X7_isLine m_bytes m_text m_position m_faultAt m_readTold m_read x1).2.2.2.2.2.1 (F_X7_isLine m_bytes m_text m_position m_faultAt m_readTold m_read x1).2.2.2.2.2.2.1 m_readMany (F_X7_isLine m_bytes m_text m_position m_faultAt m_readTold m_read x1).2.2.2.2.2.2.2.1 (F_X7_isLine m_bytes m_text m_position m_faultAt m_readTold m_read x1).2.2.2.2.2.2.2.2 m_fit m_shown m_image m_isKept m_row m_best m_againAt m_againStep m_orderMany m_orderLeast) := by
  obtain ⟨R, hF⟩ : ∃ R, R = F_X7_isLine m_bytes m_text m_position m_faultAt m_readTold m_read x1 := ⟨_, rfl⟩
  rw [← hF]
  refine MC.of (cc := cX7_isLine) (maxL := 2) (ret := (some .boolean)) RX7 rfl (by decide +kernel) rfl (Nat.le_of_ble_eq_true rfl) ?_
  intro p e s m args below meth c A Q KX RT hh ls hl
  have z0 : (0 : Int32).toInt = 0 := rfl
  have z1 : (1 : Int32).toInt = 1 := rfl
  have zm : (-1 : Int32).toInt = -1 := rfl
  have hx := KX.1
  have hb := KX.2.1
  have hl : lv_has ls 2 [(0, .ref o), (1, .int x1)] := hl
  unfold F_X7_isLine at hF
  have e1 := ti_addc x1 1 1 rfl (by omega) (by omega)
  have e2 := ti_addc x1 2 2 rfl (by omega) (by omega)
  have e3 := ti_addc x1 3 3 rfl (by omega) (by omega)
  have e4 := ti_addc x1 4 4 rfl (by omega) (by omega)
  have e5 := ti_addc x1 5 5 rfl (by omega) (by omega)
  refine lv_aload_n hx hb dX7_isLine_0 rfl (lv_at hl 0 rfl) ?_
  refine g_callV (As := []) (rest := []) KX rfl ⟨Nat.le_of_ble_eq_true rfl, Nat.le_of_ble_eq_true rfl⟩ hh hl (c_X7_nextToken l D cI cZ cC cH o a_clock a_note a_text a_read a_fit a_shown a_image a_isKept a_row a_best m_told m_isRead1 m_clock m_note m_noted m_bytes m_text m_position m_tokenAt m_token m_digits m_number m_faultAt m_readMany m_readTold m_read m_fit m_shown m_image m_isKept m_row m_best m_againAt m_againStep m_orderMany m_orderLeast  (by first | with_reducible assumption | omega | decide)) JN.all 0 gX7_isLine_X7_nextToken rfl (by decide +kernel) ⟨Nat.le_of_ble_eq_true rfl, Nat.le_of_ble_eq_true rfl⟩ 0 7 rfl rfl rfl rfl rfl (Nat.le_of_ble_eq_true rfl) dX7_isLine_1 (fun H locs hh => ?_)
  refine W.eq (g2 := F0 m 4 ls []) rfl ?_
  generalize q_1 : F_X7_nextToken m_bytes m_text m_position = r1_1 at hh hF ⊢
  have hpos_1 : PosOk m_bytes r1_1.1 := by rw [← q_1]; exact nt_ok hpos
  unfold F_X7_isLine_c1 at hF
  refine lv_aload_n hx hb dX7_isLine_4 rfl (lv_at hl 0 rfl) ?_
  refine g_get KX hh in_X7_isLine_X7 0 rfl rfl 15 (by decide) rfl (List.mem_of_getElem? (i := 1) rfl) dX7_isLine_5 ?_
  refine lv_iload_n hx hb dX7_isLine_8 rfl (lv_at hl 1 rfl) ?_
  refine lv_aload_n hx hb dX7_isLine_9 rfl (lv_at hl 0 rfl) ?_
  refine g_get KX hh in_X7_isLine_X7 0 rfl rfl 9 (by decide) rfl (List.mem_of_getElem? (i := 2) rfl) dX7_isLine_10 ?_
  refine lv_ldc2 (v := 4022278) hx hb KX.2.2.2.1 (KX.2.2.2.2.1 _ (List.mem_of_getElem? (i := 3) rfl)) dX7_isLine_13 ?_
  refine W.lcmp hx hb dX7_isLine_16 ?_
  have K_100 : ∀ (y0_2 : Int32) (_ : R = (F_X7_isLine_100 m_bytes m_text m_faultAt m_readTold m_read x1 r1_1) y0_2) (ls : Array Slot) (H : Heap) (locs : List Loc) (_ : HS D A s.heap (WM cI cZ cC cH o a_clock a_note a_text a_read a_fit a_shown a_image a_isKept a_row a_best m_told m_isRead1 m_clock m_note m_noted m_bytes m_text r1_1.1 r1_1.2.1 r1_1.2.2.1 r1_1.2.2.2.1 r1_1.2.2.2.2 m_faultAt m_readMany m_readTold m_read m_fit m_shown m_image m_isKept m_row m_best m_againAt m_againStep m_orderMany m_orderLeast) H locs) (_ : lv_has ls 2 [(0, .ref o), (1, .int x1)]), W p l e { frames := 4, cells := 0, slots := 0, locals := 87 } s m args below meth c H locs 0 0 Q (F0 m 100 ls [.int y0_2, .int x1, .ref a_read]) := by
    intro y0_2 hF ls H locs hh hl
    unfold F_X7_isLine_100 at hF
    refine g_iast KX hh 4 0 rfl rfl (vp_in_iff.mpr (by omega)) (w' := (WM cI cZ cC cH o a_clock a_note a_text a_read a_fit a_shown a_image a_isKept a_row a_best m_told m_isRead1 m_clock m_note m_noted m_bytes m_text r1_1.1 r1_1.2.1 r1_1.2.2.1 r1_1.2.2.2.1 r1_1.2.2.2.2 m_faultAt m_readMany m_readTold (upd m_read x1.toNatClampNeg y0_2) m_fit m_shown m_image m_isKept m_row m_best m_againAt m_againStep m_orderMany m_orderLeast)) rfl dX7_isLine_100 (fun H locs hh => ?_)
    refine lv_aload_n hx hb dX7_isLine_101 rfl (lv_at hl 0 rfl) ?_
    refine g_get KX hh in_X7_isLine_X7 0 rfl rfl 15 (by decide) rfl (List.mem_of_getElem? (i := 1) rfl) dX7_isLine_102 ?_
    refine lv_iload_n hx hb dX7_isLine_105 rfl (lv_at hl 1 rfl) ?_
    refine g_iald KX hh 4 0 rfl rfl (vp_in_iff.mpr (by omega)) dX7_isLine_106 ?_
    by_cases c_107_0 : ((upd m_read x1.toNatClampNeg y0_2) x1.toNatClampNeg) = 0
    · replace hF := hF.trans (if_pos c_107_0)
      have i_107_0 : ((upd m_read x1.toNatClampNeg y0_2) x1.toNatClampNeg).toInt = 0 := congrArg Int32.toInt c_107_0
      refine W.eq (g2 := F0 m 107 ls (.int 0 :: [])) (by rw [c_107_0]) ?_
      refine lv_tableIn (tgt := 144) hx hb dX7_isLine_107 (by decide) (by decide) rfl (by decide) ?_
      refine lv_aload_n hx hb dX7_isLine_144 rfl (lv_at hl 0 rfl) ?_
      refine lv_iload_n hx hb dX7_isLine_145 rfl (lv_at hl 1 rfl) ?_
      refine g_callV (As := [.int x1]) (rest := []) KX rfl ⟨Nat.le_of_ble_eq_true rfl, Nat.le_of_ble_eq_true rfl⟩ hh hl (c_X7_isGoing l D cI cZ cC cH o a_clock a_note a_text a_read a_fit a_shown a_image a_isKept a_row a_best m_told m_isRead1 m_clock m_note m_noted m_bytes m_text r1_1.1 r1_1.2.1 r1_1.2.2.1 r1_1.2.2.2.1 r1_1.2.2.2.2 m_faultAt m_readMany m_readTold (upd m_read x1.toNatClampNeg y0_2) m_fit m_shown m_image m_isKept m_row m_best m_againAt m_againStep m_orderMany m_orderLeast x1 (by first | with_reducible assumption | omega | decide) (by first | with_reducible assumption | omega | decide) (by first | with_reducible assumption | omega | decide)) JN.all 1 gX7_isLine_X7_isGoing rfl (by decide +kernel) ⟨Nat.le_of_ble_eq_true rfl, Nat.le_of_ble_eq_true rfl⟩ 0 7 rfl rfl rfl rfl rfl (Nat.le_of_ble_eq_true rfl) dX7_isLine_146 (fun H locs hh => ?_)
      refine W.eq (g2 := F0 m 149 ls [.int ((F_X7_isGoing m_bytes m_text r1_1.1 m_faultAt m_readTold (upd m_read x1.toNatClampNeg y0_2) x1).1)]) rfl ?_
      generalize q_146 : F_X7_isGoing m_bytes m_text r1_1.1 m_faultAt m_readTold (upd m_read x1.toNatClampNeg y0_2) x1 = r146_3 at hh hF ⊢
      have hz_146 : r146_3.1 = 0 ∨ r146_3.1 = 1 := by rw [← q_146]; exact z_X7_isGoing _ _ _ _ _ _ _
      unfold F_X7_isLine_c146 at hF
      exact RT _ _ _ _ _ _ hh (by rw [hF]) (Or.inl ⟨_, rfl, by rw [hF], dX7_isLine_149, Or.inr (Or.inl ⟨rfl, (by first | with_reducible assumption | omega | decide)⟩)⟩)
    replace hF := hF.trans (if_neg c_107_0)
    by_cases c_107_1 : ((upd m_read x1.toNatClampNeg y0_2) x1.toNatClampNeg) = 1
    · replace hF := hF.trans (if_pos c_107_1)
      have i_107_1 : ((upd m_read x1.toNatClampNeg y0_2) x1.toNatClampNeg).toInt = 1 := congrArg Int32.toInt c_107_1
      refine W.eq (g2 := F0 m 107 ls (.int 1 :: [])) (by rw [c_107_1]) ?_
      refine lv_tableIn (tgt := 144) hx hb dX7_isLine_107 (by decide) (by decide) rfl (by decide) ?_
      refine lv_aload_n hx hb dX7_isLine_144 rfl (lv_at hl 0 rfl) ?_
      refine lv_iload_n hx hb dX7_isLine_145 rfl (lv_at hl 1 rfl) ?_
      refine g_callV (As := [.int x1]) (rest := []) KX rfl ⟨Nat.le_of_ble_eq_true rfl, Nat.le_of_ble_eq_true rfl⟩ hh hl (c_X7_isGoing l D cI cZ cC cH o a_clock a_note a_text a_read a_fit a_shown a_image a_isKept a_row a_best m_told m_isRead1 m_clock m_note m_noted m_bytes m_text r1_1.1 r1_1.2.1 r1_1.2.2.1 r1_1.2.2.2.1 r1_1.2.2.2.2 m_faultAt m_readMany m_readTold (upd m_read x1.toNatClampNeg y0_2) m_fit m_shown m_image m_isKept m_row m_best m_againAt m_againStep m_orderMany m_orderLeast x1 (by first | with_reducible assumption | omega | decide) (by first | with_reducible assumption | omega | decide) (by first | with_reducible assumption | omega | decide)) JN.all 1 gX7_isLine_X7_isGoing rfl (by decide +kernel) ⟨Nat.le_of_ble_eq_true rfl, Nat.le_of_ble_eq_true rfl⟩ 0 7 rfl rfl rfl rfl rfl (Nat.le_of_ble_eq_true rfl) dX7_isLine_146 (fun H locs hh => ?_)
      refine W.eq (g2 := F0 m 149 ls [.int ((F_X7_isGoing m_bytes m_text r1_1.1 m_faultAt m_readTold (upd m_read x1.toNatClampNeg y0_2) x1).1)]) rfl ?_
      generalize q_146 : F_X7_isGoing m_bytes m_text r1_1.1 m_faultAt m_readTold (upd m_read x1.toNatClampNeg y0_2) x1 = r146_4 at hh hF ⊢
      have hz_146 : r146_4.1 = 0 ∨ r146_4.1 = 1 := by rw [← q_146]; exact z_X7_isGoing _ _ _ _ _ _ _
      unfold F_X7_isLine_c146_4 at hF
      exact RT _ _ _ _ _ _ hh (by rw [hF]) (Or.inl ⟨_, rfl, by rw [hF], dX7_isLine_149, Or.inr (Or.inl ⟨rfl, (by first | with_reducible assumption | omega | decide)⟩)⟩)
    replace hF := hF.trans (if_neg c_107_1)
    by_cases c_107_2 : ((upd m_read x1.toNatClampNeg y0_2) x1.toNatClampNeg) = 2
    · replace hF := hF.trans (if_pos c_107_2)
      have i_107_2 : ((upd m_read x1.toNatClampNeg y0_2) x1.toNatClampNeg).toInt = 2 := congrArg Int32.toInt c_107_2
      refine W.eq (g2 := F0 m 107 ls (.int 2 :: [])) (by rw [c_107_2]) ?_
      refine lv_tableIn (tgt := 150) hx hb dX7_isLine_107 (by decide) (by decide) rfl (by decide) ?_
      refine lv_aload_n hx hb dX7_isLine_150 rfl (lv_at hl 0 rfl) ?_
      refine lv_iload_n hx hb dX7_isLine_151 rfl (lv_at hl 1 rfl) ?_
      refine g_callV (As := [.int x1]) (rest := []) KX rfl ⟨Nat.le_of_ble_eq_true rfl, Nat.le_of_ble_eq_true rfl⟩ hh hl (c_X7_isStopped l D cI cZ cC cH o a_clock a_note a_text a_read a_fit a_shown a_image a_isKept a_row a_best m_told m_isRead1 m_clock m_note m_noted m_bytes m_text r1_1.1 r1_1.2.1 r1_1.2.2.1 r1_1.2.2.2.1 r1_1.2.2.2.2 m_faultAt m_readMany m_readTold (upd m_read x1.toNatClampNeg y0_2) m_fit m_shown m_image m_isKept m_row m_best m_againAt m_againStep m_orderMany m_orderLeast x1 (by first | with_reducible assumption | omega | decide) (by first | with_reducible assumption | omega | decide) (by first | with_reducible assumption | omega | decide)) JN.all 1 gX7_isLine_X7_isStopped rfl (by decide +kernel) ⟨Nat.le_of_ble_eq_true rfl, Nat.le_of_ble_eq_true rfl⟩ 0 7 rfl rfl rfl rfl rfl (Nat.le_of_ble_eq_true rfl) dX7_isLine_152 (fun H locs hh => ?_)
      refine W.eq (g2 := F0 m 155 ls [.int ((F_X7_isStopped m_bytes m_text r1_1.1 m_faultAt m_readTold (upd m_read x1.toNatClampNeg y0_2) x1).1)]) rfl ?_
      generalize q_152 : F_X7_isStopped m_bytes m_text r1_1.1 m_faultAt m_readTold (upd m_read x1.toNatClampNeg y0_2) x1 = r152_5 at hh hF ⊢
      have hz_152 : r152_5.1 = 0 ∨ r152_5.1 = 1 := by rw [← q_152]; exact z_X7_isStopped _ _ _ _ _ _ _
      unfold F_X7_isLine_c152 at hF
      exact RT _ _ _ _ _ _ hh (by rw [hF]) (Or.inl ⟨_, rfl, by rw [hF], dX7_isLine_155, Or.inr (Or.inl ⟨rfl, (by first | with_reducible assumption | omega | decide)⟩)⟩)
    replace hF := hF.trans (if_neg c_107_2)
    by_cases c_107_3 : ((upd m_read x1.toNatClampNeg y0_2) x1.toNatClampNeg) = 3
    · replace hF := hF.trans (if_pos c_107_3)
      have i_107_3 : ((upd m_read x1.toNatClampNeg y0_2) x1.toNatClampNeg).toInt = 3 := congrArg Int32.toInt c_107_3
      refine W.eq (g2 := F0 m 107 ls (.int 3 :: [])) (by rw [c_107_3]) ?_
      refine lv_tableIn (tgt := 156) hx hb dX7_isLine_107 (by decide) (by decide) rfl (by decide) ?_
      refine lv_aload_n hx hb dX7_isLine_156 rfl (lv_at hl 0 rfl) ?_
      refine lv_iload_n hx hb dX7_isLine_157 rfl (lv_at hl 1 rfl) ?_
      refine g_callV (As := [.int x1]) (rest := []) KX rfl ⟨Nat.le_of_ble_eq_true rfl, Nat.le_of_ble_eq_true rfl⟩ hh hl (c_X7_isGone l D cI cZ cC cH o a_clock a_note a_text a_read a_fit a_shown a_image a_isKept a_row a_best m_told m_isRead1 m_clock m_note m_noted m_bytes m_text r1_1.1 r1_1.2.1 r1_1.2.2.1 r1_1.2.2.2.1 r1_1.2.2.2.2 m_faultAt m_readMany m_readTold (upd m_read x1.toNatClampNeg y0_2) m_fit m_shown m_image m_isKept m_row m_best m_againAt m_againStep m_orderMany m_orderLeast x1 (by first | with_reducible assumption | omega | decide) (by first | with_reducible assumption | omega | decide) (by first | with_reducible assumption | omega | decide)) JN.all 1 gX7_isLine_X7_isGone rfl (by decide +kernel) ⟨Nat.le_of_ble_eq_true rfl, Nat.le_of_ble_eq_true rfl⟩ 0 7 rfl rfl rfl rfl rfl (Nat.le_of_ble_eq_true rfl) dX7_isLine_158 (fun H locs hh => ?_)
      refine W.eq (g2 := F0 m 161 ls [.int ((F_X7_isGone m_bytes m_text r1_1.1 m_faultAt m_readTold (upd m_read x1.toNatClampNeg y0_2) x1).1)]) rfl ?_
      generalize q_158 : F_X7_isGone m_bytes m_text r1_1.1 m_faultAt m_readTold (upd m_read x1.toNatClampNeg y0_2) x1 = r158_6 at hh hF ⊢
      have hz_158 : r158_6.1 = 0 ∨ r158_6.1 = 1 := by rw [← q_158]; exact z_X7_isGone _ _ _ _ _ _ _
      unfold F_X7_isLine_c158 at hF
      exact RT _ _ _ _ _ _ hh (by rw [hF]) (Or.inl ⟨_, rfl, by rw [hF], dX7_isLine_161, Or.inr (Or.inl ⟨rfl, (by first | with_reducible assumption | omega | decide)⟩)⟩)
    replace hF := hF.trans (if_neg c_107_3)
    by_cases c_107_4 : ((upd m_read x1.toNatClampNeg y0_2) x1.toNatClampNeg) = 4
    · replace hF := hF.trans (if_pos c_107_4)
      have i_107_4 : ((upd m_read x1.toNatClampNeg y0_2) x1.toNatClampNeg).toInt = 4 := congrArg Int32.toInt c_107_4
      refine W.eq (g2 := F0 m 107 ls (.int 4 :: [])) (by rw [c_107_4]) ?_
      refine lv_tableIn (tgt := 162) hx hb dX7_isLine_107 (by decide) (by decide) rfl (by decide) ?_
      refine lv_aload_n hx hb dX7_isLine_162 rfl (lv_at hl 0 rfl) ?_
      refine lv_iload_n hx hb dX7_isLine_163 rfl (lv_at hl 1 rfl) ?_
      refine g_callV (As := [.int x1]) (rest := []) KX rfl ⟨Nat.le_of_ble_eq_true rfl, Nat.le_of_ble_eq_true rfl⟩ hh hl (c_X7_isNow l D cI cZ cC cH o a_clock a_note a_text a_read a_fit a_shown a_image a_isKept a_row a_best m_told m_isRead1 m_clock m_note m_noted m_bytes m_text r1_1.1 r1_1.2.1 r1_1.2.2.1 r1_1.2.2.2.1 r1_1.2.2.2.2 m_faultAt m_readMany m_readTold (upd m_read x1.toNatClampNeg y0_2) m_fit m_shown m_image m_isKept m_row m_best m_againAt m_againStep m_orderMany m_orderLeast x1 (by first | with_reducible assumption | omega | decide) (by first | with_reducible assumption | omega | decide) (by first | with_reducible assumption | omega | decide)) JN.all 1 gX7_isLine_X7_isNow rfl (by decide +kernel) ⟨Nat.le_of_ble_eq_true rfl, Nat.le_of_ble_eq_true rfl⟩ 0 7 rfl rfl rfl rfl rfl (Nat.le_of_ble_eq_true rfl) dX7_isLine_164 (fun H locs hh => ?_)
      refine W.eq (g2 := F0 m 167 ls [.int ((F_X7_isNow m_bytes m_text r1_1.1 m_faultAt m_readTold (upd m_read x1.toNatClampNeg y0_2) x1).1)]) rfl ?_
      generalize q_164 : F_X7_isNow m_bytes m_text r1_1.1 m_faultAt m_readTold (upd m_read x1.toNatClampNeg y0_2) x1 = r164_7 at hh hF ⊢
      have hz_164 : r164_7.1 = 0 ∨ r164_7.1 = 1 := by rw [← q_164]; exact z_X7_isNow _ _ _ _ _ _ _
      unfold F_X7_isLine_c164 at hF
      exact RT _ _ _ _ _ _ hh (by rw [hF]) (Or.inl ⟨_, rfl, by rw [hF], dX7_isLine_167, Or.inr (Or.inl ⟨rfl, (by first | with_reducible assumption | omega | decide)⟩)⟩)
    replace hF := hF.trans (if_neg c_107_4)
    by_cases c_107_5 : ((upd m_read x1.toNatClampNeg y0_2) x1.toNatClampNeg) = 5
    · replace hF := hF.trans (if_pos c_107_5)
      have i_107_5 : ((upd m_read x1.toNatClampNeg y0_2) x1.toNatClampNeg).toInt = 5 := congrArg Int32.toInt c_107_5
      refine W.eq (g2 := F0 m 107 ls (.int 5 :: [])) (by rw [c_107_5]) ?_
      refine lv_tableIn (tgt := 168) hx hb dX7_isLine_107 (by decide) (by decide) rfl (by decide) ?_
      refine lv_iconst (v := 1) hx hb dX7_isLine_168 (by decide) ?_
      exact RT _ _ _ _ _ _ hh (by rw [hF]) (Or.inl ⟨_, rfl, by rw [hF], dX7_isLine_169, Or.inr (Or.inl ⟨rfl, Or.inr rfl⟩)⟩)
    replace hF := hF.trans (if_neg c_107_5)
    refine lv_tableOut (tgt := 170) hx hb dX7_isLine_107 (by have h1 := sw_ne (y := 0) (k := 0) c_107_0 rfl; have h2 := sw_ne (y := 1) (k := 1) c_107_1 rfl; have h3 := sw_ne (y := 2) (k := 2) c_107_2 rfl; have h4 := sw_ne (y := 3) (k := 3) c_107_3 rfl; have h5 := sw_ne (y := 4) (k := 4) c_107_4 rfl; have h6 := sw_ne (y := 5) (k := 5) c_107_5 rfl; omega) (by decide) ?_
    refine lv_aload_n hx hb dX7_isLine_170 rfl (lv_at hl 0 rfl) ?_
    refine g_callV (As := []) (rest := []) KX rfl ⟨Nat.le_of_ble_eq_true rfl, Nat.le_of_ble_eq_true rfl⟩ hh hl (c_X7_fails l D cI cZ cC cH o a_clock a_note a_text a_read a_fit a_shown a_image a_isKept a_row a_best m_told m_isRead1 m_clock m_note m_noted m_bytes m_text r1_1.1 r1_1.2.1 r1_1.2.2.1 r1_1.2.2.2.1 r1_1.2.2.2.2 m_faultAt m_readMany m_readTold (upd m_read x1.toNatClampNeg y0_2) m_fit m_shown m_image m_isKept m_row m_best m_againAt m_againStep m_orderMany m_orderLeast  ) JN.all 0 gX7_isLine_X7_fails rfl (by decide +kernel) ⟨Nat.le_of_ble_eq_true rfl, Nat.le_of_ble_eq_true rfl⟩ 0 7 rfl rfl rfl rfl rfl (Nat.le_of_ble_eq_true rfl) dX7_isLine_171 (fun H locs hh => ?_)
    refine W.eq (g2 := F0 m 174 ls [.int ((F_X7_fails r1_1.2.1).1)]) rfl ?_
    generalize q_171 : F_X7_fails r1_1.2.1 = r171_8 at hh hF ⊢
    have hz_171 : r171_8.1 = 0 ∨ r171_8.1 = 1 := by rw [← q_171]; exact z_X7_fails _
    unfold F_X7_isLine_c171 at hF
    exact RT _ _ _ _ _ _ hh (by rw [hF]) (Or.inl ⟨_, rfl, by rw [hF], dX7_isLine_174, Or.inr (Or.inl ⟨rfl, (by first | with_reducible assumption | omega | decide)⟩)⟩)
  refine lv_if_ne (tgt := 24) hx hb dX7_isLine_17 (by decide) (fun c_17 => ?_) (fun c_17 => ?_)
  · replace hF := hF.trans (if_neg c_17)
    refine lv_aload_n hx hb dX7_isLine_24 rfl (lv_at hl 0 rfl) ?_
    refine g_get KX hh in_X7_isLine_X7 0 rfl rfl 9 (by decide) rfl (List.mem_of_getElem? (i := 2) rfl) dX7_isLine_25 ?_
    refine lv_ldc2 (v := 40187) hx hb KX.2.2.2.1 (KX.2.2.2.2.1 _ (List.mem_of_getElem? (i := 4) rfl)) dX7_isLine_28 ?_
    refine W.lcmp hx hb dX7_isLine_31 ?_
    refine lv_if_ne (tgt := 39) hx hb dX7_isLine_32 (by decide) (fun c_32 => ?_) (fun c_32 => ?_)
    · replace hF := hF.trans (if_neg c_32)
      refine lv_aload_n hx hb dX7_isLine_39 rfl (lv_at hl 0 rfl) ?_
      refine g_get KX hh in_X7_isLine_X7 0 rfl rfl 9 (by decide) rfl (List.mem_of_getElem? (i := 2) rfl) dX7_isLine_40 ?_
      refine lv_ldc2 (v := 7656265777) hx hb KX.2.2.2.1 (KX.2.2.2.2.1 _ (List.mem_of_getElem? (i := 5) rfl)) dX7_isLine_43 ?_
      refine W.lcmp hx hb dX7_isLine_46 ?_
      refine lv_if_ne (tgt := 54) hx hb dX7_isLine_47 (by decide) (fun c_47 => ?_) (fun c_47 => ?_)
      · replace hF := hF.trans (if_neg c_47)
        refine lv_aload_n hx hb dX7_isLine_54 rfl (lv_at hl 0 rfl) ?_
        refine g_get KX hh in_X7_isLine_X7 0 rfl rfl 9 (by decide) rfl (List.mem_of_getElem? (i := 2) rfl) dX7_isLine_55 ?_
        refine lv_ldc2 (v := 149099) hx hb KX.2.2.2.1 (KX.2.2.2.2.1 _ (List.mem_of_getElem? (i := 6) rfl)) dX7_isLine_58 ?_
        refine W.lcmp hx hb dX7_isLine_61 ?_
        refine lv_if_ne (tgt := 69) hx hb dX7_isLine_62 (by decide) (fun c_62 => ?_) (fun c_62 => ?_)
        · replace hF := hF.trans (if_neg c_62)
          refine lv_aload_n hx hb dX7_isLine_69 rfl (lv_at hl 0 rfl) ?_
          refine g_get KX hh in_X7_isLine_X7 0 rfl rfl 9 (by decide) rfl (List.mem_of_getElem? (i := 2) rfl) dX7_isLine_70 ?_
          refine lv_ldc2 (v := 10634) hx hb KX.2.2.2.1 (KX.2.2.2.2.1 _ (List.mem_of_getElem? (i := 7) rfl)) dX7_isLine_73 ?_
          refine W.lcmp hx hb dX7_isLine_76 ?_
          refine lv_if_ne (tgt := 84) hx hb dX7_isLine_77 (by decide) (fun c_77 => ?_) (fun c_77 => ?_)
          · replace hF := hF.trans (if_neg c_77)
            refine lv_aload_n hx hb dX7_isLine_84 rfl (lv_at hl 0 rfl) ?_
            refine g_get KX hh in_X7_isLine_X7 0 rfl rfl 9 (by decide) rfl (List.mem_of_getElem? (i := 2) rfl) dX7_isLine_85 ?_
            refine lv_ldc2 (v := 309125191) hx hb KX.2.2.2.1 (KX.2.2.2.2.1 _ (List.mem_of_getElem? (i := 8) rfl)) dX7_isLine_88 ?_
            refine W.lcmp hx hb dX7_isLine_91 ?_
            refine lv_if_ne (tgt := 99) hx hb dX7_isLine_92 (by decide) (fun c_92 => ?_) (fun c_92 => ?_)
            · replace hF := hF.trans (if_neg c_92)
              refine lv_iconst (v := (-1)) hx hb dX7_isLine_99 (by decide) ?_
              exact K_100 (-1)  hF _ _ _ hh (lv_sub hl [0, 1] rfl)
            · replace hF := hF.trans (if_pos c_92)
              refine lv_iconst (v := 5) hx hb dX7_isLine_95 (by decide) ?_
              refine lv_goto (tgt := 100) hx hb dX7_isLine_96 (by decide) ?_
              exact K_100 5  hF _ _ _ hh (lv_sub hl [0, 1] rfl)
          · replace hF := hF.trans (if_pos c_77)
            refine lv_iconst (v := 4) hx hb dX7_isLine_80 (by decide) ?_
            refine lv_goto (tgt := 100) hx hb dX7_isLine_81 (by decide) ?_
            exact K_100 4  hF _ _ _ hh (lv_sub hl [0, 1] rfl)
        · replace hF := hF.trans (if_pos c_62)
          refine lv_iconst (v := 3) hx hb dX7_isLine_65 (by decide) ?_
          refine lv_goto (tgt := 100) hx hb dX7_isLine_66 (by decide) ?_
          exact K_100 3  hF _ _ _ hh (lv_sub hl [0, 1] rfl)
      · replace hF := hF.trans (if_pos c_47)
        refine lv_iconst (v := 2) hx hb dX7_isLine_50 (by decide) ?_
        refine lv_goto (tgt := 100) hx hb dX7_isLine_51 (by decide) ?_
        exact K_100 2  hF _ _ _ hh (lv_sub hl [0, 1] rfl)
    · replace hF := hF.trans (if_pos c_32)
      refine lv_iconst (v := 1) hx hb dX7_isLine_35 (by decide) ?_
      refine lv_goto (tgt := 100) hx hb dX7_isLine_36 (by decide) ?_
      exact K_100 1  hF _ _ _ hh (lv_sub hl [0, 1] rfl)
  · replace hF := hF.trans (if_pos c_17)
    refine lv_iconst (v := 0) hx hb dX7_isLine_20 (by decide) ?_
    refine lv_goto (tgt := 100) hx hb dX7_isLine_21 (by decide) ?_
    exact K_100 0  hF _ _ _ hh (lv_sub hl [0, 1] rfl)
theorem zb_F_X7_isLine_c146  {r146_3 : Int32 × Int32 × Int32 × Int64 × Int32 × Int32 × Int32 × Int32 × (Nat → Int32)} (hz0 : r146_3.1 = 0 ∨ r146_3.1 = 1) : (F_X7_isLine_c146 r146_3).1 = 0 ∨ (F_X7_isLine_c146 r146_3).1 = 1 := by
  unfold F_X7_isLine_c146
  exact hz0
theorem zb_F_X7_isLine_c146_4  {r146_4 : Int32 × Int32 × Int32 × Int64 × Int32 × Int32 × Int32 × Int32 × (Nat → Int32)} (hz0 : r146_4.1 = 0 ∨ r146_4.1 = 1) : (F_X7_isLine_c146_4 r146_4).1 = 0 ∨ (F_X7_isLine_c146_4 r146_4).1 = 1 := by
  unfold F_X7_isLine_c146_4
  exact hz0
theorem zb_F_X7_isLine_c152  {r152_5 : Int32 × Int32 × Int32 × Int64 × Int32 × Int32 × Int32 × Int32 × (Nat → Int32)} (hz0 : r152_5.1 = 0 ∨ r152_5.1 = 1) : (F_X7_isLine_c152 r152_5).1 = 0 ∨ (F_X7_isLine_c152 r152_5).1 = 1 := by
  unfold F_X7_isLine_c152
  exact hz0
theorem zb_F_X7_isLine_c158  {r158_6 : Int32 × Int32 × Int32 × Int64 × Int32 × Int32 × Int32 × Int32 × (Nat → Int32)} (hz0 : r158_6.1 = 0 ∨ r158_6.1 = 1) : (F_X7_isLine_c158 r158_6).1 = 0 ∨ (F_X7_isLine_c158 r158_6).1 = 1 := by
  unfold F_X7_isLine_c158
  exact hz0
theorem zb_F_X7_isLine_c164 {m_readTold : Int32} {r164_7 : Int32 × Int32 × Int32 × Int64 × Int32 × Int32 × Int32 × (Nat → Int32)} (hz0 : r164_7.1 = 0 ∨ r164_7.1 = 1) : (F_X7_isLine_c164 m_readTold r164_7).1 = 0 ∨ (F_X7_isLine_c164 m_readTold r164_7).1 = 1 := by
  unfold F_X7_isLine_c164
  exact hz0
theorem zb_F_X7_isLine_c171 {m_readTold : Int32} {m_read : Nat → Int32} {x1 : Int32} {r1_1 : Int32 × Int32 × Int64 × Int32 × Int32} {y0_2 : Int32} {r171_8 : Int32 × Int32} (hz0 : r171_8.1 = 0 ∨ r171_8.1 = 1) : (F_X7_isLine_c171 m_readTold m_read x1 r1_1 y0_2 r171_8).1 = 0 ∨ (F_X7_isLine_c171 m_readTold m_read x1 r1_1 y0_2 r171_8).1 = 1 := by
  unfold F_X7_isLine_c171
  exact hz0
theorem zb_F_X7_isLine_100 {m_bytes : Int32} {m_text : Nat → Int32} {m_faultAt : Int32} {m_readTold : Int32} {m_read : Nat → Int32} {x1 : Int32} {r1_1 : Int32 × Int32 × Int64 × Int32 × Int32} {y0_2 : Int32} : (F_X7_isLine_100 m_bytes m_text m_faultAt m_readTold m_read x1 r1_1 y0_2).1 = 0 ∨ (F_X7_isLine_100 m_bytes m_text m_faultAt m_readTold m_read x1 r1_1 y0_2).1 = 1 := by
  unfold F_X7_isLine_100
  split
  · exact zb_F_X7_isLine_c146 (z_X7_isGoing _ _ _ _ _ _ _)
  · split
    · exact zb_F_X7_isLine_c146_4 (z_X7_isGoing _ _ _ _ _ _ _)
    · split
      · exact zb_F_X7_isLine_c152 (z_X7_isStopped _ _ _ _ _ _ _)
      · split
        · exact zb_F_X7_isLine_c158 (z_X7_isGone _ _ _ _ _ _ _)
        · split
          · exact zb_F_X7_isLine_c164 (z_X7_isNow _ _ _ _ _ _ _)
          · split
            · exact Or.inr rfl
            · exact zb_F_X7_isLine_c171 (z_X7_fails _)
theorem zb_F_X7_isLine_c1 {m_bytes : Int32} {m_text : Nat → Int32} {m_faultAt : Int32} {m_readTold : Int32} {m_read : Nat → Int32} {x1 : Int32} {r1_1 : Int32 × Int32 × Int64 × Int32 × Int32} : (F_X7_isLine_c1 m_bytes m_text m_faultAt m_readTold m_read x1 r1_1).1 = 0 ∨ (F_X7_isLine_c1 m_bytes m_text m_faultAt m_readTold m_read x1 r1_1).1 = 1 := by
  unfold F_X7_isLine_c1
  split
  · exact zb_F_X7_isLine_100 
  · split
    · exact zb_F_X7_isLine_100 
    · split
      · exact zb_F_X7_isLine_100 
      · split
        · exact zb_F_X7_isLine_100 
        · split
          · exact zb_F_X7_isLine_100 
          · split
            · exact zb_F_X7_isLine_100 
            · exact zb_F_X7_isLine_100 
theorem z_X7_isLine (m_bytes : Int32) (m_text : Nat → Int32) (m_position : Int32) (m_faultAt : Int32) (m_readTold : Int32) (m_read : Nat → Int32) (x1 : Int32) : (F_X7_isLine m_bytes m_text m_position m_faultAt m_readTold m_read x1).1 = 0 ∨ (F_X7_isLine m_bytes m_text m_position m_faultAt m_readTold m_read x1).1 = 1 := by
  unfold F_X7_isLine
  exact zb_F_X7_isLine_c1 
theorem okb_F_X7_isLine_c146 {r146_3 : Int32 × Int32 × Int32 × Int64 × Int32 × Int32 × Int32 × Int32 × (Nat → Int32)} {b_ : Int32} (hq0 : PosOk b_ r146_3.2.1) : PosOk b_ (F_X7_isLine_c146 r146_3).2.1 := by
  unfold F_X7_isLine_c146
  exact hq0
theorem okb_F_X7_isLine_c146_4 {r146_4 : Int32 × Int32 × Int32 × Int64 × Int32 × Int32 × Int32 × Int32 × (Nat → Int32)} {b_ : Int32} (hq0 : PosOk b_ r146_4.2.1) : PosOk b_ (F_X7_isLine_c146_4 r146_4).2.1 := by
  unfold F_X7_isLine_c146_4
  exact hq0
theorem okb_F_X7_isLine_c152 {r152_5 : Int32 × Int32 × Int32 × Int64 × Int32 × Int32 × Int32 × Int32 × (Nat → Int32)} {b_ : Int32} (hq0 : PosOk b_ r152_5.2.1) : PosOk b_ (F_X7_isLine_c152 r152_5).2.1 := by
  unfold F_X7_isLine_c152
  exact hq0
theorem okb_F_X7_isLine_c158 {r158_6 : Int32 × Int32 × Int32 × Int64 × Int32 × Int32 × Int32 × Int32 × (Nat → Int32)} {b_ : Int32} (hq0 : PosOk b_ r158_6.2.1) : PosOk b_ (F_X7_isLine_c158 r158_6).2.1 := by
  unfold F_X7_isLine_c158
  exact hq0
theorem okb_F_X7_isLine_c164 {m_readTold : Int32} {r164_7 : Int32 × Int32 × Int32 × Int64 × Int32 × Int32 × Int32 × (Nat → Int32)} {b_ : Int32} (hq0 : PosOk b_ r164_7.2.1) : PosOk b_ (F_X7_isLine_c164 m_readTold r164_7).2.1 := by
  unfold F_X7_isLine_c164
  exact hq0
theorem okb_F_X7_isLine_c171 {m_readTold : Int32} {m_read : Nat → Int32} {x1 : Int32} {r1_1 : Int32 × Int32 × Int64 × Int32 × Int32} {y0_2 : Int32} {r171_8 : Int32 × Int32} {b_ : Int32} (hq0 : PosOk b_ r1_1.1) : PosOk b_ (F_X7_isLine_c171 m_readTold m_read x1 r1_1 y0_2 r171_8).2.1 := by
  unfold F_X7_isLine_c171
  exact hq0
theorem okb_F_X7_isLine_100 {m_bytes : Int32} {m_text : Nat → Int32} {m_faultAt : Int32} {m_readTold : Int32} {m_read : Nat → Int32} {x1 : Int32} {r1_1 : Int32 × Int32 × Int64 × Int32 × Int32} {y0_2 : Int32} (hq0 : PosOk m_bytes r1_1.1) : PosOk m_bytes (F_X7_isLine_100 m_bytes m_text m_faultAt m_readTold m_read x1 r1_1 y0_2).2.1 := by
  unfold F_X7_isLine_100
  split
  · exact okb_F_X7_isLine_c146 (ok_X7_isGoing (hq0))
  · split
    · exact okb_F_X7_isLine_c146_4 (ok_X7_isGoing (hq0))
    · split
      · exact okb_F_X7_isLine_c152 (ok_X7_isStopped (hq0))
      · split
        · exact okb_F_X7_isLine_c158 (ok_X7_isGone (hq0))
        · split
          · exact okb_F_X7_isLine_c164 (ok_X7_isNow (hq0))
          · split
            · exact hq0
            · exact okb_F_X7_isLine_c171 (hq0)
theorem okb_F_X7_isLine_c1 {m_bytes : Int32} {m_text : Nat → Int32} {m_faultAt : Int32} {m_readTold : Int32} {m_read : Nat → Int32} {x1 : Int32} {r1_1 : Int32 × Int32 × Int64 × Int32 × Int32} (hq0 : PosOk m_bytes r1_1.1) : PosOk m_bytes (F_X7_isLine_c1 m_bytes m_text m_faultAt m_readTold m_read x1 r1_1).2.1 := by
  unfold F_X7_isLine_c1
  split
  · exact okb_F_X7_isLine_100 (hq0)
  · split
    · exact okb_F_X7_isLine_100 (hq0)
    · split
      · exact okb_F_X7_isLine_100 (hq0)
      · split
        · exact okb_F_X7_isLine_100 (hq0)
        · split
          · exact okb_F_X7_isLine_100 (hq0)
          · split
            · exact okb_F_X7_isLine_100 (hq0)
            · exact okb_F_X7_isLine_100 (hq0)
theorem ok_X7_isLine {m_bytes : Int32} {m_text : Nat → Int32} {m_position : Int32} {m_faultAt : Int32} {m_readTold : Int32} {m_read : Nat → Int32} {x1 : Int32} (hq0 : PosOk m_bytes m_position) : PosOk m_bytes (F_X7_isLine m_bytes m_text m_position m_faultAt m_readTold m_read x1).2.1 := by
  unfold F_X7_isLine
  exact okb_F_X7_isLine_c1 (nt_ok (hq0))
def F_X7_isText_c95 (w_m_position_2 : Int32) (w_m_tokenAt_3 : Int32) (w_m_token_4 : Int64) (w_m_digits_5 : Int32) (w_m_number_6 : Int32) (w_m_readMany_8 : Int32) (w_m_readTold_9 : Int32) (w_m_read_10 : Nat → Int32) (r95_11 : Int32 × Int32) : Int32 × Int32 × Int32 × Int64 × Int32 × Int32 × Int32 × Int32 × Int32 × (Nat → Int32) := (if r95_11.1 = 0 then (0, w_m_position_2, w_m_tokenAt_3, w_m_token_4, w_m_digits_5, w_m_number_6, r95_11.2, w_m_readMany_8, w_m_readTold_9, w_m_read_10) else (1, w_m_position_2, w_m_tokenAt_3, w_m_token_4, w_m_digits_5, w_m_number_6, r95_11.2, w_m_readMany_8, w_m_readTold_9, w_m_read_10))
def F_X7_isText_c51 (w_m_readMany_8 : Int32) (k_20 : Int32 → Int32 → Int32 → Int64 → Int32 → Int32 → Int32 → Int32 → Int32 → (Nat → Int32) → Int32 × Int32 × Int32 × Int64 × Int32 × Int32 × Int32 × Int32 × Int32 × (Nat → Int32)) (r32_12 : Int32 × Int32 × Int32 × Int64 × Int32 × Int32 × Int32 × Int32 × (Nat → Int32)) (r51_13 : Int32 × Int32 × Int64 × Int32 × Int32) : Int32 × Int32 × Int32 × Int64 × Int32 × Int32 × Int32 × Int32 × Int32 × (Nat → Int32) := (if (lg_cmp r51_13.2.2.1 (-3)) = 0 then (if 8 ≤ (w_m_readMany_8 + 1) then (k_20 0 r51_13.1 r51_13.2.1 r51_13.2.2.1 r51_13.2.2.2.1 r51_13.2.2.2.2 r32_12.2.2.2.2.2.2.1 (w_m_readMany_8 + 1) r32_12.2.2.2.2.2.2.2.1 r32_12.2.2.2.2.2.2.2.2) else (k_20 1 r51_13.1 r51_13.2.1 r51_13.2.2.1 r51_13.2.2.2.1 r51_13.2.2.2.2 r32_12.2.2.2.2.2.2.1 (w_m_readMany_8 + 1) r32_12.2.2.2.2.2.2.2.1 r32_12.2.2.2.2.2.2.2.2)) else (k_20 0 r51_13.1 r51_13.2.1 r51_13.2.2.1 r51_13.2.2.2.1 r51_13.2.2.2.2 r32_12.2.2.2.2.2.2.1 (w_m_readMany_8 + 1) r32_12.2.2.2.2.2.2.2.1 r32_12.2.2.2.2.2.2.2.2))
def F_X7_isText_c32 (m_bytes : Int32) (m_text : Nat → Int32) (w_m_readMany_8 : Int32) (k_20 : Int32 → Int32 → Int32 → Int64 → Int32 → Int32 → Int32 → Int32 → Int32 → (Nat → Int32) → Int32 × Int32 × Int32 × Int64 × Int32 × Int32 × Int32 × Int32 × Int32 × (Nat → Int32)) (r32_12 : Int32 × Int32 × Int32 × Int64 × Int32 × Int32 × Int32 × Int32 × (Nat → Int32)) : Int32 × Int32 × Int32 × Int64 × Int32 × Int32 × Int32 × Int32 × Int32 × (Nat → Int32) := (if r32_12.1 = 0 then (0, r32_12.2.1, r32_12.2.2.1, r32_12.2.2.2.1, r32_12.2.2.2.2.1, r32_12.2.2.2.2.2.1, r32_12.2.2.2.2.2.2.1, w_m_readMany_8, r32_12.2.2.2.2.2.2.2.1, r32_12.2.2.2.2.2.2.2.2) else (F_X7_isText_c51 w_m_readMany_8 k_20 r32_12 (F_X7_nextToken m_bytes m_text r32_12.2.1)))
def F_X7_isText_20 (m_bytes : Int32) (m_text : Nat → Int32) : Nat → Int32 → Int32 → Int32 → Int64 → Int32 → Int32 → Int32 → Int32 → Int32 → (Nat → Int32) → Int32 × Int32 × Int32 × Int64 × Int32 × Int32 × Int32 × Int32 × Int32 × (Nat → Int32)
  | 0, _, _, _, _, _, _, _, _, _, _ => default
  | n + 1, x1_1, w_m_position_2, w_m_tokenAt_3, w_m_token_4, w_m_digits_5, w_m_number_6, w_m_faultAt_7, w_m_readMany_8, w_m_readTold_9, w_m_read_10 => (if x1_1 = 0 then (if (lg_cmp w_m_token_4 (-2)) = 0 then (1, w_m_position_2, w_m_tokenAt_3, w_m_token_4, w_m_digits_5, w_m_number_6, w_m_faultAt_7, w_m_readMany_8, w_m_readTold_9, w_m_read_10) else (F_X7_isText_c95 w_m_position_2 w_m_tokenAt_3 w_m_token_4 w_m_digits_5 w_m_number_6 w_m_readMany_8 w_m_readTold_9 w_m_read_10 (F_X7_fails w_m_tokenAt_3))) else (F_X7_isText_c32 m_bytes m_text w_m_readMany_8 (F_X7_isText_20 m_bytes m_text n) (F_X7_isLine m_bytes m_text w_m_position_2 w_m_faultAt_7 w_m_readTold_9 w_m_read_10 (6 * w_m_readMany_8))))
def F_X7_isText (m_told : Int32) (m_bytes : Int32) (m_text : Nat → Int32) (m_tokenAt : Int32) (m_token : Int64) (m_digits : Int32) (m_number : Int32) (m_faultAt : Int32) (m_read : Nat → Int32) : Int32 × Int32 × Int32 × Int64 × Int32 × Int32 × Int32 × Int32 × Int32 × (Nat → Int32) := (F_X7_isText_20 m_bytes m_text 9 1 0 m_tokenAt m_token m_digits m_number m_faultAt 0 m_told m_read)
theorem in_X7_isText_X7 : ∀ x ∈ u_ws RX7 TX7 26, x ∈ wsX7_isText := by decide +kernel
set_option maxHeartbeats 2000000 in
set_option maxRecDepth 100000 in
theorem c_X7_isText (l : Launch) (D : va_G) (cI cZ cC cH : ClassId) (o a_clock a_note a_text a_read a_fit a_shown a_image a_isKept a_row a_best : Nat) (m_told : Int32) (m_isRead1 : Int32) (m_clock : Nat → Int32) (m_note : Nat → Int32) (m_noted : Int32) (m_bytes : Int32) (m_text : Nat → Int32) (m_position : Int32) (m_tokenAt : Int32) (m_token : Int64) (m_digits : Int32) (m_number : Int32) (m_faultAt : Int32) (m_readMany : Int32) (m_readTold : Int32) (m_read : Nat → Int32) (m_fit : Nat → Int32) (m_shown : Nat → Int32) (m_image : Nat → Int32) (m_isKept : Nat → Int32) (m_row : Nat → Int32) (m_best : Nat → Int32) (m_againAt : Int32) (m_againStep : Int32) (m_orderMany : Int32) (m_orderLeast : Int32)  (hb0 : 0 ≤ m_bytes.toInt) (hb1 : m_bytes.toInt ≤ 200) : MC l D (TY cI cZ cC cH) yX7_isText wsX7_isText 5 108 [.ref o] (WM cI cZ cC cH o a_clock a_note a_text a_read a_fit a_shown a_image a_isKept a_row a_best m_told m_isRead1 m_clock m_note m_noted m_bytes m_text m_position m_tokenAt m_token m_digits m_number m_faultAt m_readMany m_readTold m_read m_fit m_shown m_image m_isKept m_row m_best m_againAt m_againStep m_orderMany m_orderLeast) (some (.int ((F_X7_isText m_told m_bytes m_text m_tokenAt m_token m_digits m_number m_faultAt m_read).1))) (WM cI cZ cC cH o a_clock a_note a_text a_read a_fit a_shown a_image a_isKept a_row a_best m_told m_isRead1 m_clock m_note m_noted m_bytes m_text (F_X7_isText m_told m_bytes m_text m_tokenAt m_token m_digits m_number m_faultAt m_read).2.1 (F_X7_isText m_told m_bytes m_text m_tokenAt m_token m_digits m_number m_faultAt m_read).2.2.1 (F_X7_isText m_told m_bytes m_text m_tokenAt m_token m_digits m_number m_faultAt m_read).2.2.2.1 (F_X7_isText m_told m_bytes m_text m_tokenAt m_token m_digits m_number m_faultAt m_read).2.2.2.2.1 (F_X7_isText m_told m_bytes m_text m_tokenAt m_token m_digits m_number m_faultAt m_read).2.2.2.2.2.1 (F_X7_isText m_told m_bytes m_text m_tokenAt m_token m_digits m_number m_faultAt m_read).2.2.2.2.2.2.1 (F_X7_isText m_told m_bytes m_text m_tokenAt m_token m_digits m_number m_faultAt m_read).2.2.2.2.2.2.2.1 (F_X7_isText m_told m_bytes m_text m_tokenAt m_token m_digits m_number m_faultAt m_read).2.2.2.2.2.2.2.2.1 (F_X7_isText m_told m_bytes m_text m_tokenAt m_token m_digits m_number m_faultAt m_read).2.2.2.2.2.2.2.2.2 m_fit m_shown m_image m_isKept m_row m_best m_againAt m_againStep m_orderMany m_orderLeast) := by
  obtain ⟨R, hF⟩ : ∃ R, R = F_X7_isText m_told m_bytes m_text m_tokenAt m_token m_digits m_number m_faultAt m_read := ⟨_, rfl⟩
  rw [← hF]
  refine MC.of (cc := cX7_isText) (maxL := 2) (ret := (some .boolean)) RX7 rfl (by decide +kernel) rfl (Nat.le_of_ble_eq_true rfl) ?_
  intro p e s m args below meth c A Q KX RT hh ls hl
  have z0 : (0 : Int32).toInt = 0 := rfl
  have z1 : (1 : Int32).toInt = 1 := rfl
  have zm : (-1 : Int32).toInt = -1 := rfl
  have hx := KX.1
  have hb := KX.2.1
  have hl : lv_has ls 2 [(0, .ref o)] := hl
  unfold F_X7_isText at hF
  refine lv_aload_n hx hb dX7_isText_0 rfl (lv_at hl 0 rfl) ?_
  refine lv_iconst (v := 0) hx hb dX7_isText_1 (by decide) ?_
  refine g_put KX hh in_X7_isText_X7 tyX7 tyX7_ok nmX7 0 rfl rfl 7 (by decide) rfl rfl rfl (Nat.le_of_ble_eq_true rfl) (List.mem_of_getElem? (i := 1) rfl) (w' := (WM cI cZ cC cH o a_clock a_note a_text a_read a_fit a_shown a_image a_isKept a_row a_best m_told m_isRead1 m_clock m_note m_noted m_bytes m_text 0 m_tokenAt m_token m_digits m_number m_faultAt m_readMany m_readTold m_read m_fit m_shown m_image m_isKept m_row m_best m_againAt m_againStep m_orderMany m_orderLeast)) rfl rfl dX7_isText_2 (fun H locs hh => ?_)
  refine lv_aload_n hx hb dX7_isText_5 rfl (lv_at hl 0 rfl) ?_
  refine lv_iconst (v := 0) hx hb dX7_isText_6 (by decide) ?_
  refine g_put KX hh in_X7_isText_X7 tyX7 tyX7_ok nmX7 0 rfl rfl 13 (by decide) rfl rfl rfl (Nat.le_of_ble_eq_true rfl) (List.mem_of_getElem? (i := 2) rfl) (w' := (WM cI cZ cC cH o a_clock a_note a_text a_read a_fit a_shown a_image a_isKept a_row a_best m_told m_isRead1 m_clock m_note m_noted m_bytes m_text 0 m_tokenAt m_token m_digits m_number m_faultAt 0 m_readTold m_read m_fit m_shown m_image m_isKept m_row m_best m_againAt m_againStep m_orderMany m_orderLeast)) rfl rfl dX7_isText_7 (fun H locs hh => ?_)
  refine lv_aload_n hx hb dX7_isText_10 rfl (lv_at hl 0 rfl) ?_
  refine lv_aload_n hx hb dX7_isText_11 rfl (lv_at hl 0 rfl) ?_
  refine g_get KX hh in_X7_isText_X7 0 rfl rfl 0 (by decide) rfl (List.mem_of_getElem? (i := 3) rfl) dX7_isText_12 ?_
  refine g_put KX hh in_X7_isText_X7 tyX7 tyX7_ok nmX7 0 rfl rfl 14 (by decide) rfl rfl rfl (Nat.le_of_ble_eq_true rfl) (List.mem_of_getElem? (i := 4) rfl) (w' := (WM cI cZ cC cH o a_clock a_note a_text a_read a_fit a_shown a_image a_isKept a_row a_best m_told m_isRead1 m_clock m_note m_noted m_bytes m_text 0 m_tokenAt m_token m_digits m_number m_faultAt 0 m_told m_read m_fit m_shown m_image m_isKept m_row m_best m_againAt m_againStep m_orderMany m_orderLeast)) rfl rfl dX7_isText_15 (fun H locs hh => ?_)
  refine lv_iconst (v := 1) hx hb dX7_isText_18 (by decide) ?_
  refine lv_istore_n (lv' := [(1, .int 1), (0, .ref o)]) hx hb dX7_isText_19 rfl hl (Nat.le_of_ble_eq_true rfl) rfl (fun ls hl => ?_)
  have L_20 : ∀ (n_20 : Nat) (x1_1 : Int32) (w_m_position_2 : Int32) (w_m_tokenAt_3 : Int32) (w_m_token_4 : Int64) (w_m_digits_5 : Int32) (w_m_number_6 : Int32) (w_m_faultAt_7 : Int32) (w_m_readMany_8 : Int32) (w_m_readTold_9 : Int32) (w_m_read_10 : Nat → Int32) (hp_20 : PosOk m_bytes w_m_position_2) (hr0_20 : 0 ≤ w_m_readMany_8.toInt) (hr1_20 : w_m_readMany_8.toInt ≤ 8) (hq_20 : (x1_1 = 1 ∧ w_m_readMany_8.toInt < 8) ∨ x1_1 = 0) (_ : (8 - w_m_readMany_8.toInt).toNat < n_20) (_ : R = (F_X7_isText_20 m_bytes m_text) n_20 x1_1 w_m_position_2 w_m_tokenAt_3 w_m_token_4 w_m_digits_5 w_m_number_6 w_m_faultAt_7 w_m_readMany_8 w_m_readTold_9 w_m_read_10) (ls : Array Slot) (H : Heap) (locs : List Loc) (_ : HS D A s.heap (WM cI cZ cC cH o a_clock a_note a_text a_read a_fit a_shown a_image a_isKept a_row a_best m_told m_isRead1 m_clock m_note m_noted m_bytes m_text w_m_position_2 w_m_tokenAt_3 w_m_token_4 w_m_digits_5 w_m_number_6 w_m_faultAt_7 w_m_readMany_8 w_m_readTold_9 w_m_read_10 m_fit m_shown m_image m_isKept m_row m_best m_againAt m_againStep m_orderMany m_orderLeast) H locs) (_ : lv_has ls 2 [(1, .int x1_1), (0, .ref o)]), W p l e { frames := 5, cells := 0, slots := 0, locals := 108 } s m args below meth c H locs 0 0 Q (F0 m 20 ls []) := by
    intro n_20
    induction n_20 with
    | zero => intro x1_1 w_m_position_2 w_m_tokenAt_3 w_m_token_4 w_m_digits_5 w_m_number_6 w_m_faultAt_7 w_m_readMany_8 w_m_readTold_9 w_m_read_10 hp_20 hr0_20 hr1_20 hq_20 hm; exact absurd hm (Nat.not_lt_zero _)
    | succ n_20 ih_20 =>
      intro x1_1 w_m_position_2 w_m_tokenAt_3 w_m_token_4 w_m_digits_5 w_m_number_6 w_m_faultAt_7 w_m_readMany_8 w_m_readTold_9 w_m_read_10 hp_20 hr0_20 hr1_20 hq_20 hm_20 hF ls H locs hh hl
      rw [F_X7_isText_20.eq_2] at hF
      refine lv_iload_n hx hb dX7_isText_20 rfl (lv_at hl 0 rfl) ?_
      refine lv_if_eq (tgt := 83) hx hb dX7_isText_21 (by decide) (fun c_21 => ?_) (fun c_21 => ?_)
      · replace hF := hF.trans (if_pos c_21)
        have i_21 : x1_1.toInt = 0 := congrArg Int32.toInt c_21
        refine lv_aload_n hx hb dX7_isText_83 rfl (lv_at hl 1 rfl) ?_
        refine g_get KX hh in_X7_isText_X7 0 rfl rfl 9 (by decide) rfl (List.mem_of_getElem? (i := 5) rfl) dX7_isText_84 ?_
        refine lv_ldc2 (v := (-2)) hx hb KX.2.2.2.1 (KX.2.2.2.2.1 _ (List.mem_of_getElem? (i := 7) rfl)) dX7_isText_87 ?_
        refine W.lcmp hx hb dX7_isText_90 ?_
        refine lv_if_eq (tgt := 101) hx hb dX7_isText_91 (by decide) (fun c_91 => ?_) (fun c_91 => ?_)
        · replace hF := hF.trans (if_pos c_91)
          refine lv_iconst (v := 1) hx hb dX7_isText_101 (by decide) ?_
          refine lv_goto (tgt := 106) hx hb dX7_isText_102 (by decide) ?_
          exact RT _ _ _ _ _ _ hh (by rw [hF]) (Or.inl ⟨_, rfl, by rw [hF], dX7_isText_106, Or.inr (Or.inl ⟨rfl, Or.inr rfl⟩)⟩)
        · replace hF := hF.trans (if_neg c_91)
          refine lv_aload_n hx hb dX7_isText_94 rfl (lv_at hl 1 rfl) ?_
          refine g_callV (As := []) (rest := []) KX rfl ⟨Nat.le_of_ble_eq_true rfl, Nat.le_of_ble_eq_true rfl⟩ hh hl (c_X7_fails l D cI cZ cC cH o a_clock a_note a_text a_read a_fit a_shown a_image a_isKept a_row a_best m_told m_isRead1 m_clock m_note m_noted m_bytes m_text w_m_position_2 w_m_tokenAt_3 w_m_token_4 w_m_digits_5 w_m_number_6 w_m_faultAt_7 w_m_readMany_8 w_m_readTold_9 w_m_read_10 m_fit m_shown m_image m_isKept m_row m_best m_againAt m_againStep m_orderMany m_orderLeast  ) JN.all 0 gX7_isText_X7_fails rfl (by decide +kernel) ⟨Nat.le_of_ble_eq_true rfl, Nat.le_of_ble_eq_true rfl⟩ 0 7 rfl rfl rfl rfl rfl (Nat.le_of_ble_eq_true rfl) dX7_isText_95 (fun H locs hh => ?_)
          refine W.eq (g2 := F0 m 98 ls [.int ((F_X7_fails w_m_tokenAt_3).1)]) rfl ?_
          generalize q_95 : F_X7_fails w_m_tokenAt_3 = r95_11 at hh hF ⊢
          have hz_95 : r95_11.1 = 0 ∨ r95_11.1 = 1 := by rw [← q_95]; exact z_X7_fails _
          unfold F_X7_isText_c95 at hF
          refine lv_if_eq (tgt := 105) hx hb dX7_isText_98 (by decide) (fun c_98 => ?_) (fun c_98 => ?_)
          · replace hF := hF.trans (if_pos c_98)
            have i_98 : r95_11.1.toInt = 0 := congrArg Int32.toInt c_98
            refine lv_iconst (v := 0) hx hb dX7_isText_105 (by decide) ?_
            exact RT _ _ _ _ _ _ hh (by rw [hF]) (Or.inl ⟨_, rfl, by rw [hF], dX7_isText_106, Or.inr (Or.inl ⟨rfl, Or.inl rfl⟩)⟩)
          · replace hF := hF.trans (if_neg c_98)
            have i_98 : ¬ r95_11.1.toInt = 0 := ti_ne c_98
            refine lv_iconst (v := 1) hx hb dX7_isText_101 (by decide) ?_
            refine lv_goto (tgt := 106) hx hb dX7_isText_102 (by decide) ?_
            exact RT _ _ _ _ _ _ hh (by rw [hF]) (Or.inl ⟨_, rfl, by rw [hF], dX7_isText_106, Or.inr (Or.inl ⟨rfl, Or.inr rfl⟩)⟩)
      · replace hF := hF.trans (if_neg c_21)
        have i_21 : ¬ x1_1.toInt = 0 := ti_ne c_21
        obtain ⟨hm1, hm2⟩ := hq_20.resolve_right c_21
        have e6 := ti_mulc w_m_readMany_8 6 6 rfl (by omega) (by omega)
        refine lv_aload_n hx hb dX7_isText_24 rfl (lv_at hl 1 rfl) ?_
        refine lv_bipush (v := 6) hx hb dX7_isText_25 (by decide) ?_
        refine lv_aload_n hx hb dX7_isText_27 rfl (lv_at hl 1 rfl) ?_
        refine g_get KX hh in_X7_isText_X7 0 rfl rfl 13 (by decide) rfl (List.mem_of_getElem? (i := 2) rfl) dX7_isText_28 ?_
        refine lv_imul hx hb dX7_isText_31 ?_
        refine g_callV (As := [.int (6 * w_m_readMany_8)]) (rest := []) KX rfl ⟨Nat.le_of_ble_eq_true rfl, Nat.le_of_ble_eq_true rfl⟩ hh hl (c_X7_isLine l D cI cZ cC cH o a_clock a_note a_text a_read a_fit a_shown a_image a_isKept a_row a_best m_told m_isRead1 m_clock m_note m_noted m_bytes m_text w_m_position_2 w_m_tokenAt_3 w_m_token_4 w_m_digits_5 w_m_number_6 w_m_faultAt_7 w_m_readMany_8 w_m_readTold_9 w_m_read_10 m_fit m_shown m_image m_isKept m_row m_best m_againAt m_againStep m_orderMany m_orderLeast (6 * w_m_readMany_8) (by first | with_reducible assumption | omega | decide) (by first | with_reducible assumption | omega | decide) (by first | with_reducible assumption | omega | decide)) JN.all 1 gX7_isText_X7_isLine rfl (by decide +kernel) ⟨Nat.le_of_ble_eq_true rfl, Nat.le_of_ble_eq_true rfl⟩ 0 7 rfl rfl rfl rfl rfl (Nat.le_of_ble_eq_true rfl) dX7_isText_32 (fun H locs hh => ?_)
        refine W.eq (g2 := F0 m 35 ls [.int ((F_X7_isLine m_bytes m_text w_m_position_2 w_m_faultAt_7 w_m_readTold_9 w_m_read_10 (6 * w_m_readMany_8)).1)]) rfl ?_
        generalize q_32 : F_X7_isLine m_bytes m_text w_m_position_2 w_m_faultAt_7 w_m_readTold_9 w_m_read_10 (6 * w_m_readMany_8) = r32_12 at hh hF ⊢
        have hz_32 : r32_12.1 = 0 ∨ r32_12.1 = 1 := by rw [← q_32]; exact z_X7_isLine _ _ _ _ _ _ _
        have hpos_32 : PosOk m_bytes r32_12.2.1 := by rw [← q_32]; exact ok_X7_isLine hp_20
        unfold F_X7_isText_c32 at hF
        refine lv_if_ne (tgt := 40) hx hb dX7_isText_35 (by decide) (fun c_35 => ?_) (fun c_35 => ?_)
        · replace hF := hF.trans (if_neg c_35)
          have i_35 : ¬ r32_12.1.toInt = 0 := ti_ne c_35
          have e_inc : (w_m_readMany_8 + 1).toInt = w_m_readMany_8.toInt + 1 := ti_inc (by omega)
          refine lv_aload_n hx hb dX7_isText_40 rfl (lv_at hl 1 rfl) ?_
          refine lv_dup hx hb dX7_isText_41 rfl ?_
          refine g_get KX hh in_X7_isText_X7 0 rfl rfl 13 (by decide) rfl (List.mem_of_getElem? (i := 2) rfl) dX7_isText_42 ?_
          refine lv_iconst (v := 1) hx hb dX7_isText_45 (by decide) ?_
          refine lv_iadd hx hb dX7_isText_46 ?_
          refine g_put KX hh in_X7_isText_X7 tyX7 tyX7_ok nmX7 0 rfl rfl 13 (by decide) rfl rfl rfl (Nat.le_of_ble_eq_true rfl) (List.mem_of_getElem? (i := 2) rfl) (w' := (WM cI cZ cC cH o a_clock a_note a_text a_read a_fit a_shown a_image a_isKept a_row a_best m_told m_isRead1 m_clock m_note m_noted m_bytes m_text r32_12.2.1 r32_12.2.2.1 r32_12.2.2.2.1 r32_12.2.2.2.2.1 r32_12.2.2.2.2.2.1 r32_12.2.2.2.2.2.2.1 (w_m_readMany_8 + 1) r32_12.2.2.2.2.2.2.2.1 r32_12.2.2.2.2.2.2.2.2 m_fit m_shown m_image m_isKept m_row m_best m_againAt m_againStep m_orderMany m_orderLeast)) rfl rfl dX7_isText_47 (fun H locs hh => ?_)
          refine lv_aload_n hx hb dX7_isText_50 rfl (lv_at hl 1 rfl) ?_
          refine g_callV (As := []) (rest := []) KX rfl ⟨Nat.le_of_ble_eq_true rfl, Nat.le_of_ble_eq_true rfl⟩ hh hl (c_X7_nextToken l D cI cZ cC cH o a_clock a_note a_text a_read a_fit a_shown a_image a_isKept a_row a_best m_told m_isRead1 m_clock m_note m_noted m_bytes m_text r32_12.2.1 r32_12.2.2.1 r32_12.2.2.2.1 r32_12.2.2.2.2.1 r32_12.2.2.2.2.2.1 r32_12.2.2.2.2.2.2.1 (w_m_readMany_8 + 1) r32_12.2.2.2.2.2.2.2.1 r32_12.2.2.2.2.2.2.2.2 m_fit m_shown m_image m_isKept m_row m_best m_againAt m_againStep m_orderMany m_orderLeast  (by first | with_reducible assumption | omega | decide)) JN.all 0 gX7_isText_X7_nextToken rfl (by decide +kernel) ⟨Nat.le_of_ble_eq_true rfl, Nat.le_of_ble_eq_true rfl⟩ 0 7 rfl rfl rfl rfl rfl (Nat.le_of_ble_eq_true rfl) dX7_isText_51 (fun H locs hh => ?_)
          refine W.eq (g2 := F0 m 54 ls []) rfl ?_
          generalize q_51 : F_X7_nextToken m_bytes m_text r32_12.2.1 = r51_13 at hh hF ⊢
          have hpos_51 : PosOk m_bytes r51_13.1 := by rw [← q_51]; exact nt_ok hpos_32
          unfold F_X7_isText_c51 at hF
          refine lv_aload_n hx hb dX7_isText_54 rfl (lv_at hl 1 rfl) ?_
          refine g_get KX hh in_X7_isText_X7 0 rfl rfl 9 (by decide) rfl (List.mem_of_getElem? (i := 5) rfl) dX7_isText_55 ?_
          refine lv_ldc2 (v := (-3)) hx hb KX.2.2.2.1 (KX.2.2.2.2.1 _ (List.mem_of_getElem? (i := 6) rfl)) dX7_isText_58 ?_
          refine W.lcmp hx hb dX7_isText_61 ?_
          refine lv_if_ne (tgt := 78) hx hb dX7_isText_62 (by decide) (fun c_62 => ?_) (fun c_62 => ?_)
          · replace hF := hF.trans (if_neg c_62)
            refine lv_iconst (v := 0) hx hb dX7_isText_78 (by decide) ?_
            refine lv_istore_n (lv' := [(1, .int 0), (0, .ref o)]) hx hb dX7_isText_79 rfl hl (Nat.le_of_ble_eq_true rfl) rfl (fun ls hl => ?_)
            refine lv_goto (tgt := 20) hx hb dX7_isText_80 (by decide) ?_
            exact ih_20 0 r51_13.1 r51_13.2.1 r51_13.2.2.1 r51_13.2.2.2.1 r51_13.2.2.2.2 r32_12.2.2.2.2.2.2.1 (w_m_readMany_8 + 1) r32_12.2.2.2.2.2.2.2.1 r32_12.2.2.2.2.2.2.2.2 (by first | with_reducible assumption | exact ⟨by decide, hb0, hb1⟩) (by first | with_reducible assumption | omega | decide) (by first | with_reducible assumption | omega | decide) (by first | exact Or.inr rfl | exact Or.inl ⟨rfl, by first | omega | decide⟩) (by omega) hF _ _ _ hh (lv_sub hl [0, 1] rfl)
          · replace hF := hF.trans (if_pos c_62)
            refine lv_aload_n hx hb dX7_isText_65 rfl (lv_at hl 1 rfl) ?_
            refine g_get KX hh in_X7_isText_X7 0 rfl rfl 13 (by decide) rfl (List.mem_of_getElem? (i := 2) rfl) dX7_isText_66 ?_
            refine lv_bipush (v := 8) hx hb dX7_isText_69 (by decide) ?_
            refine lv_icmp_ge (tgt := 78) hx hb dX7_isText_71 (by decide) (fun c_71 => ?_) (fun c_71 => ?_)
            · replace hF := hF.trans (if_pos c_71)
              have i_71 : 8 ≤ (w_m_readMany_8 + 1).toInt := ti_le.mp c_71
              refine lv_iconst (v := 0) hx hb dX7_isText_78 (by decide) ?_
              refine lv_istore_n (lv' := [(1, .int 0), (0, .ref o)]) hx hb dX7_isText_79 rfl hl (Nat.le_of_ble_eq_true rfl) rfl (fun ls hl => ?_)
              refine lv_goto (tgt := 20) hx hb dX7_isText_80 (by decide) ?_
              exact ih_20 0 r51_13.1 r51_13.2.1 r51_13.2.2.1 r51_13.2.2.2.1 r51_13.2.2.2.2 r32_12.2.2.2.2.2.2.1 (w_m_readMany_8 + 1) r32_12.2.2.2.2.2.2.2.1 r32_12.2.2.2.2.2.2.2.2 (by first | with_reducible assumption | exact ⟨by decide, hb0, hb1⟩) (by first | with_reducible assumption | omega | decide) (by first | with_reducible assumption | omega | decide) (by first | exact Or.inr rfl | exact Or.inl ⟨rfl, by first | omega | decide⟩) (by omega) hF _ _ _ hh (lv_sub hl [0, 1] rfl)
            · replace hF := hF.trans (if_neg c_71)
              have i_71 : (w_m_readMany_8 + 1).toInt < 8 := ti_nle c_71
              refine lv_iconst (v := 1) hx hb dX7_isText_74 (by decide) ?_
              refine lv_goto (tgt := 79) hx hb dX7_isText_75 (by decide) ?_
              refine lv_istore_n (lv' := [(1, .int 1), (0, .ref o)]) hx hb dX7_isText_79 rfl hl (Nat.le_of_ble_eq_true rfl) rfl (fun ls hl => ?_)
              refine lv_goto (tgt := 20) hx hb dX7_isText_80 (by decide) ?_
              exact ih_20 1 r51_13.1 r51_13.2.1 r51_13.2.2.1 r51_13.2.2.2.1 r51_13.2.2.2.2 r32_12.2.2.2.2.2.2.1 (w_m_readMany_8 + 1) r32_12.2.2.2.2.2.2.2.1 r32_12.2.2.2.2.2.2.2.2 (by first | with_reducible assumption | exact ⟨by decide, hb0, hb1⟩) (by first | with_reducible assumption | omega | decide) (by first | with_reducible assumption | omega | decide) (by first | exact Or.inr rfl | exact Or.inl ⟨rfl, by first | omega | decide⟩) (by omega) hF _ _ _ hh (lv_sub hl [0, 1] rfl)
        · replace hF := hF.trans (if_pos c_35)
          have i_35 : r32_12.1.toInt = 0 := congrArg Int32.toInt c_35
          refine lv_iconst (v := 0) hx hb dX7_isText_38 (by decide) ?_
          exact RT _ _ _ _ _ _ hh (by rw [hF]) (Or.inl ⟨_, rfl, by rw [hF], dX7_isText_39, Or.inr (Or.inl ⟨rfl, Or.inl rfl⟩)⟩)
  exact L_20 9 1 0 m_tokenAt m_token m_digits m_number m_faultAt 0 m_told m_read (by first | with_reducible assumption | exact ⟨by decide, hb0, hb1⟩) (by first | with_reducible assumption | omega | decide) (by first | with_reducible assumption | omega | decide) (by first | exact Or.inr rfl | exact Or.inl ⟨rfl, by first | omega | decide⟩) (by first | omega | decide) hF _ _ _ hh (lv_sub hl [0, 1] rfl)
theorem zb_F_X7_isText_c95 {w_m_position_2 : Int32} {w_m_tokenAt_3 : Int32} {w_m_token_4 : Int64} {w_m_digits_5 : Int32} {w_m_number_6 : Int32} {w_m_readMany_8 : Int32} {w_m_readTold_9 : Int32} {w_m_read_10 : Nat → Int32} {r95_11 : Int32 × Int32} (hz0 : r95_11.1 = 0 ∨ r95_11.1 = 1) : (F_X7_isText_c95 w_m_position_2 w_m_tokenAt_3 w_m_token_4 w_m_digits_5 w_m_number_6 w_m_readMany_8 w_m_readTold_9 w_m_read_10 r95_11).1 = 0 ∨ (F_X7_isText_c95 w_m_position_2 w_m_tokenAt_3 w_m_token_4 w_m_digits_5 w_m_number_6 w_m_readMany_8 w_m_readTold_9 w_m_read_10 r95_11).1 = 1 := by
  unfold F_X7_isText_c95
  split
  · exact Or.inl rfl
  · exact Or.inr rfl
theorem zb_F_X7_isText_c51 {w_m_readMany_8 : Int32} {k_20 : Int32 → Int32 → Int32 → Int64 → Int32 → Int32 → Int32 → Int32 → Int32 → (Nat → Int32) → Int32 × Int32 × Int32 × Int64 × Int32 × Int32 × Int32 × Int32 × Int32 × (Nat → Int32)} {r32_12 : Int32 × Int32 × Int32 × Int64 × Int32 × Int32 × Int32 × Int32 × (Nat → Int32)} {r51_13 : Int32 × Int32 × Int64 × Int32 × Int32} (hk : ∀ a0 a1 a2 a3 a4 a5 a6 a7 a8 a9, (k_20 a0 a1 a2 a3 a4 a5 a6 a7 a8 a9).1 = 0 ∨ (k_20 a0 a1 a2 a3 a4 a5 a6 a7 a8 a9).1 = 1) : (F_X7_isText_c51 w_m_readMany_8 k_20 r32_12 r51_13).1 = 0 ∨ (F_X7_isText_c51 w_m_readMany_8 k_20 r32_12 r51_13).1 = 1 := by
  unfold F_X7_isText_c51
  split
  · split
    · exact hk _ _ _ _ _ _ _ _ _ _
    · exact hk _ _ _ _ _ _ _ _ _ _
  · exact hk _ _ _ _ _ _ _ _ _ _
theorem zb_F_X7_isText_c32 {m_bytes : Int32} {m_text : Nat → Int32} {w_m_readMany_8 : Int32} {k_20 : Int32 → Int32 → Int32 → Int64 → Int32 → Int32 → Int32 → Int32 → Int32 → (Nat → Int32) → Int32 × Int32 × Int32 × Int64 × Int32 × Int32 × Int32 × Int32 × Int32 × (Nat → Int32)} {r32_12 : Int32 × Int32 × Int32 × Int64 × Int32 × Int32 × Int32 × Int32 × (Nat → Int32)} (hk : ∀ a0 a1 a2 a3 a4 a5 a6 a7 a8 a9, (k_20 a0 a1 a2 a3 a4 a5 a6 a7 a8 a9).1 = 0 ∨ (k_20 a0 a1 a2 a3 a4 a5 a6 a7 a8 a9).1 = 1) (hz0 : r32_12.1 = 0 ∨ r32_12.1 = 1) : (F_X7_isText_c32 m_bytes m_text w_m_readMany_8 k_20 r32_12).1 = 0 ∨ (F_X7_isText_c32 m_bytes m_text w_m_readMany_8 k_20 r32_12).1 = 1 := by
  unfold F_X7_isText_c32
  split
  · exact Or.inl rfl
  · exact zb_F_X7_isText_c51 hk
theorem zb_F_X7_isText_20 {m_bytes : Int32} {m_text : Nat → Int32} : ∀ (n : Nat) (x1_1 : Int32) (w_m_position_2 : Int32) (w_m_tokenAt_3 : Int32) (w_m_token_4 : Int64) (w_m_digits_5 : Int32) (w_m_number_6 : Int32) (w_m_faultAt_7 : Int32) (w_m_readMany_8 : Int32) (w_m_readTold_9 : Int32) (w_m_read_10 : Nat → Int32), (F_X7_isText_20 m_bytes m_text n x1_1 w_m_position_2 w_m_tokenAt_3 w_m_token_4 w_m_digits_5 w_m_number_6 w_m_faultAt_7 w_m_readMany_8 w_m_readTold_9 w_m_read_10).1 = 0 ∨ (F_X7_isText_20 m_bytes m_text n x1_1 w_m_position_2 w_m_tokenAt_3 w_m_token_4 w_m_digits_5 w_m_number_6 w_m_faultAt_7 w_m_readMany_8 w_m_readTold_9 w_m_read_10).1 = 1 := by
  intro n
  induction n with
  | zero => intros; exact Or.inl rfl
  | succ n ih =>
    intros
    rw [F_X7_isText_20.eq_2]
    split
    · split
      · exact Or.inr rfl
      · exact zb_F_X7_isText_c95 (z_X7_fails _)
    · exact zb_F_X7_isText_c32 ih (z_X7_isLine _ _ _ _ _ _ _)
theorem z_X7_isText (m_told : Int32) (m_bytes : Int32) (m_text : Nat → Int32) (m_tokenAt : Int32) (m_token : Int64) (m_digits : Int32) (m_number : Int32) (m_faultAt : Int32) (m_read : Nat → Int32) : (F_X7_isText m_told m_bytes m_text m_tokenAt m_token m_digits m_number m_faultAt m_read).1 = 0 ∨ (F_X7_isText m_told m_bytes m_text m_tokenAt m_token m_digits m_number m_faultAt m_read).1 = 1 := by
  unfold F_X7_isText
  exact zb_F_X7_isText_20 _ _ _ _ _ _ _ _ _ _ _
def F_X7_fault_c1  (r1_1 : Int32 × Int32 × Int32 × Int64 × Int32 × Int32 × Int32 × Int32 × Int32 × (Nat → Int32)) : Int32 × Int32 × Int32 × Int64 × Int32 × Int32 × Int32 × Int32 × Int32 × (Nat → Int32) := (if r1_1.1 = 0 then (r1_1.2.2.2.2.2.2.1, r1_1.2.1, r1_1.2.2.1, r1_1.2.2.2.1, r1_1.2.2.2.2.1, r1_1.2.2.2.2.2.1, r1_1.2.2.2.2.2.2.1, r1_1.2.2.2.2.2.2.2.1, r1_1.2.2.2.2.2.2.2.2.1, r1_1.2.2.2.2.2.2.2.2.2) else ((-1), r1_1.2.1, r1_1.2.2.1, r1_1.2.2.2.1, r1_1.2.2.2.2.1, r1_1.2.2.2.2.2.1, r1_1.2.2.2.2.2.2.1, r1_1.2.2.2.2.2.2.2.1, r1_1.2.2.2.2.2.2.2.2.1, r1_1.2.2.2.2.2.2.2.2.2))
def F_X7_fault (m_told : Int32) (m_bytes : Int32) (m_text : Nat → Int32) (m_tokenAt : Int32) (m_token : Int64) (m_digits : Int32) (m_number : Int32) (m_faultAt : Int32) (m_read : Nat → Int32) : Int32 × Int32 × Int32 × Int64 × Int32 × Int32 × Int32 × Int32 × Int32 × (Nat → Int32) := (F_X7_fault_c1 (F_X7_isText m_told m_bytes m_text m_tokenAt m_token m_digits m_number m_faultAt m_read))
theorem in_X7_fault_X7 : ∀ x ∈ u_ws RX7 TX7 26, x ∈ wsX7_fault := by decide +kernel
set_option maxHeartbeats 2000000 in
set_option maxRecDepth 100000 in
theorem c_X7_fault (l : Launch) (D : va_G) (cI cZ cC cH : ClassId) (o a_clock a_note a_text a_read a_fit a_shown a_image a_isKept a_row a_best : Nat) (m_told : Int32) (m_isRead1 : Int32) (m_clock : Nat → Int32) (m_note : Nat → Int32) (m_noted : Int32) (m_bytes : Int32) (m_text : Nat → Int32) (m_position : Int32) (m_tokenAt : Int32) (m_token : Int64) (m_digits : Int32) (m_number : Int32) (m_faultAt : Int32) (m_readMany : Int32) (m_readTold : Int32) (m_read : Nat → Int32) (m_fit : Nat → Int32) (m_shown : Nat → Int32) (m_image : Nat → Int32) (m_isKept : Nat → Int32) (m_row : Nat → Int32) (m_best : Nat → Int32) (m_againAt : Int32) (m_againStep : Int32) (m_orderMany : Int32) (m_orderLeast : Int32)  (hb0 : 0 ≤ m_bytes.toInt) (hb1 : m_bytes.toInt ≤ 200) : MC l D (TY cI cZ cC cH) yX7_fault wsX7_fault 6 129 [.ref o] (WM cI cZ cC cH o a_clock a_note a_text a_read a_fit a_shown a_image a_isKept a_row a_best m_told m_isRead1 m_clock m_note m_noted m_bytes m_text m_position m_tokenAt m_token m_digits m_number m_faultAt m_readMany m_readTold m_read m_fit m_shown m_image m_isKept m_row m_best m_againAt m_againStep m_orderMany m_orderLeast) (some (.int ((F_X7_fault m_told m_bytes m_text m_tokenAt m_token m_digits m_number m_faultAt m_read).1))) (WM cI cZ cC cH o a_clock a_note a_text a_read a_fit a_shown a_image a_isKept a_row a_best m_told m_isRead1 m_clock m_note m_noted m_bytes m_text (F_X7_fault m_told m_bytes m_text m_tokenAt m_token m_digits m_number m_faultAt m_read).2.1 (F_X7_fault m_told m_bytes m_text m_tokenAt m_token m_digits m_number m_faultAt m_read).2.2.1 (F_X7_fault m_told m_bytes m_text m_tokenAt m_token m_digits m_number m_faultAt m_read).2.2.2.1 (F_X7_fault m_told m_bytes m_text m_tokenAt m_token m_digits m_number m_faultAt m_read).2.2.2.2.1 (F_X7_fault m_told m_bytes m_text m_tokenAt m_token m_digits m_number m_faultAt m_read).2.2.2.2.2.1 (F_X7_fault m_told m_bytes m_text m_tokenAt m_token m_digits m_number m_faultAt m_read).2.2.2.2.2.2.1 (F_X7_fault m_told m_bytes m_text m_tokenAt m_token m_digits m_number m_faultAt m_read).2.2.2.2.2.2.2.1 (F_X7_fault m_told m_bytes m_text m_tokenAt m_token m_digits m_number m_faultAt m_read).2.2.2.2.2.2.2.2.1 (F_X7_fault m_told m_bytes m_text m_tokenAt m_token m_digits m_number m_faultAt m_read).2.2.2.2.2.2.2.2.2 m_fit m_shown m_image m_isKept m_row m_best m_againAt m_againStep m_orderMany m_orderLeast) := by
  obtain ⟨R, hF⟩ : ∃ R, R = F_X7_fault m_told m_bytes m_text m_tokenAt m_token m_digits m_number m_faultAt m_read := ⟨_, rfl⟩
  rw [← hF]
  refine MC.of (cc := cX7_fault) (maxL := 1) (ret := (some .int)) RX7 rfl (by decide +kernel) rfl (Nat.le_of_ble_eq_true rfl) ?_
  intro p e s m args below meth c A Q KX RT hh ls hl
  have z0 : (0 : Int32).toInt = 0 := rfl
  have z1 : (1 : Int32).toInt = 1 := rfl
  have zm : (-1 : Int32).toInt = -1 := rfl
  have hx := KX.1
  have hb := KX.2.1
  have hl : lv_has ls 1 [(0, .ref o)] := hl
  unfold F_X7_fault at hF
  refine lv_aload_n hx hb dX7_fault_0 rfl (lv_at hl 0 rfl) ?_
  refine g_callV (As := []) (rest := []) KX rfl ⟨Nat.le_of_ble_eq_true rfl, Nat.le_of_ble_eq_true rfl⟩ hh hl (c_X7_isText l D cI cZ cC cH o a_clock a_note a_text a_read a_fit a_shown a_image a_isKept a_row a_best m_told m_isRead1 m_clock m_note m_noted m_bytes m_text m_position m_tokenAt m_token m_digits m_number m_faultAt m_readMany m_readTold m_read m_fit m_shown m_image m_isKept m_row m_best m_againAt m_againStep m_orderMany m_orderLeast  (by first | with_reducible assumption | omega | decide) (by first | with_reducible assumption | omega | decide)) JN.all 0 gX7_fault_X7_isText rfl (by decide +kernel) ⟨Nat.le_of_ble_eq_true rfl, Nat.le_of_ble_eq_true rfl⟩ 0 7 rfl rfl rfl rfl rfl (Nat.le_of_ble_eq_true rfl) dX7_fault_1 (fun H locs hh => ?_)
  refine W.eq (g2 := F0 m 4 ls [.int ((F_X7_isText m_told m_bytes m_text m_tokenAt m_token m_digits m_number m_faultAt m_read).1)]) rfl ?_
  generalize q_1 : F_X7_isText m_told m_bytes m_text m_tokenAt m_token m_digits m_number m_faultAt m_read = r1_1 at hh hF ⊢
  have hz_1 : r1_1.1 = 0 ∨ r1_1.1 = 1 := by rw [← q_1]; exact z_X7_isText _ _ _ _ _ _ _ _ _
  unfold F_X7_fault_c1 at hF
  refine lv_if_eq (tgt := 11) hx hb dX7_fault_4 (by decide) (fun c_4 => ?_) (fun c_4 => ?_)
  · replace hF := hF.trans (if_pos c_4)
    have i_4 : r1_1.1.toInt = 0 := congrArg Int32.toInt c_4
    refine lv_aload_n hx hb dX7_fault_11 rfl (lv_at hl 0 rfl) ?_
    refine g_get KX hh in_X7_fault_X7 0 rfl rfl 12 (by decide) rfl (List.mem_of_getElem? (i := 1) rfl) dX7_fault_12 ?_
    exact RT _ _ _ _ _ _ hh (by rw [hF]) (Or.inl ⟨_, rfl, by rw [hF], dX7_fault_15, Or.inl rfl⟩)
  · replace hF := hF.trans (if_neg c_4)
    have i_4 : ¬ r1_1.1.toInt = 0 := ti_ne c_4
    refine lv_iconst (v := (-1)) hx hb dX7_fault_7 (by decide) ?_
    refine lv_goto (tgt := 15) hx hb dX7_fault_8 (by decide) ?_
    exact RT _ _ _ _ _ _ hh (by rw [hF]) (Or.inl ⟨_, rfl, by rw [hF], dX7_fault_15, Or.inl rfl⟩)
