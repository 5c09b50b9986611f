def F_X7_stopped_72 (m_clock : Nat → Int32) (x1 : Int32) (x2 : Int32) (x3 : Int32) : Nat → Int32 → Int32 → Int32 → Int32 → Int32
  | 0, _, _, _, _ => default
  | n + 1, x7_1, x6_2, x5_3, x4_4 => (if 4320 ≤ x7_1 then (if x3 = 0 then x4_4 else (if x3 = 1 then x5_3 else x6_2)) else (if (F_X7_canShow m_clock x2 x7_1 (m_clock ((6 * x1) + 2).toNatClampNeg)) = 0 then ((F_X7_stopped_72 m_clock x1 x2 x3 n) (x7_1 + 1) x6_2 x5_3 x4_4) else (if x4_4 = 0 then ((F_X7_stopped_72 m_clock x1 x2 x3 n) (x7_1 + 1) x7_1 x7_1 (x4_4 + 1)) else ((F_X7_stopped_72 m_clock x1 x2 x3 n) (x7_1 + 1) x7_1 x5_3 (x4_4 + 1)))))
def F_X7_stopped (m_told : Int32) (m_clock : Nat → Int32) (x1 : Int32) (x2 : Int32) (x3 : Int32) : Int32 := (if (F_X7_isClock m_told x1) = 0 then (-2) else (if (F_X7_isClock m_told x2) = 0 then (-2) else (if (F_X7_in x3 0 2) = 0 then (-3) else (if (m_clock (6 * x1).toNatClampNeg) = 2 then (if (m_clock (6 * x2).toNatClampNeg) = 2 then (-4) else (F_X7_stopped_72 m_clock x1 x2 x3 4321 0 (-1) (-1) 0)) else (-4)))))
theorem in_X7_stopped_X7 : ∀ x ∈ u_ws RX7 TX7 26, x ∈ wsX7_stopped := by decide +kernel
set_option maxHeartbeats 2000000 in
set_option maxRecDepth 100000 in
theorem c_X7_stopped (l : Launch) (D : va_G) (cI cZ cC cH : ClassId) (o a_clock a_note a_text a_read a_fit a_shown a_image a_isKept a_row a_best : Nat) (m_told : Int32) (m_isRead1 : Int32) (m_clock : Nat → Int32) (m_note : Nat → Int32) (m_noted : Int32) (m_bytes : Int32) (m_text : Nat → Int32) (m_position : Int32) (m_tokenAt : Int32) (m_token : Int64) (m_digits : Int32) (m_number : Int32) (m_faultAt : Int32) (m_readMany : Int32) (m_readTold : Int32) (m_read : Nat → Int32) (m_fit : Nat → Int32) (m_shown : Nat → Int32) (m_image : Nat → Int32) (m_isKept : Nat → Int32) (m_row : Nat → Int32) (m_best : Nat → Int32) (m_againAt : Int32) (m_againStep : Int32) (m_orderMany : Int32) (m_orderLeast : Int32) (x1 : Int32) (x2 : Int32) (x3 : Int32)  : MC l D (TY cI cZ cC cH) yX7_stopped wsX7_stopped 4 90 [.ref o, .int x1, .int x2, .int x3] (WM cI cZ cC cH o a_clock a_note a_text a_read a_fit a_shown a_image a_isKept a_row a_best m_told m_isRead1 m_clock m_note m_noted m_bytes m_text m_position m_tokenAt m_token m_digits m_number m_faultAt m_readMany m_readTold m_read m_fit m_shown m_image m_isKept m_row m_best m_againAt m_againStep m_orderMany m_orderLeast) (some (.int (F_X7_stopped m_told m_clock x1 x2 x3))) (WM cI cZ cC cH o a_clock a_note a_text a_read a_fit a_shown a_image a_isKept a_row a_best m_told m_isRead1 m_clock m_note m_noted m_bytes m_text m_position m_tokenAt m_token m_digits m_number m_faultAt m_readMany m_readTold m_read m_fit m_shown m_image m_isKept m_row m_best m_againAt m_againStep m_orderMany m_orderLeast) := by
  obtain ⟨R, hF⟩ : ∃ R, R = F_X7_stopped m_told m_clock x1 x2 x3 := ⟨_, rfl⟩
  rw [← hF]
  refine MC.of (cc := cX7_stopped) (maxL := 8) (ret := (some .int)) RX7 rfl (by decide +kernel) rfl (Nat.le_of_ble_eq_true rfl) ?_
  intro p e s m args below meth c A Q KX RT hh ls hl
  have z0 : (0 : Int32).toInt = 0 := rfl
  have z1 : (1 : Int32).toInt = 1 := rfl
  have zm : (-1 : Int32).toInt = -1 := rfl
  have hx := KX.1
  have hb := KX.2.1
  have hl : lv_has ls 8 [(0, .ref o), (1, .int x1), (2, .int x2), (3, .int x3)] := hl
  unfold F_X7_stopped at hF
  refine lv_aload_n hx hb dX7_stopped_0 rfl (lv_at hl 0 rfl) ?_
  refine lv_iload_n hx hb dX7_stopped_1 rfl (lv_at hl 1 rfl) ?_
  refine g_callV (As := [.int x1]) (rest := []) KX rfl ⟨Nat.le_of_ble_eq_true rfl, Nat.le_of_ble_eq_true rfl⟩ hh hl (c_X7_isClock l D cI cZ cC cH o a_clock a_note a_text a_read a_fit a_shown a_image a_isKept a_row a_best m_told m_isRead1 m_clock m_note m_noted m_bytes m_text m_position m_tokenAt m_token m_digits m_number m_faultAt m_readMany m_readTold m_read m_fit m_shown m_image m_isKept m_row m_best m_againAt m_againStep m_orderMany m_orderLeast x1 ) JN.all 1 gX7_stopped_X7_isClock rfl (by decide +kernel) ⟨Nat.le_of_ble_eq_true rfl, Nat.le_of_ble_eq_true rfl⟩ 0 7 rfl rfl rfl rfl rfl (Nat.le_of_ble_eq_true rfl) dX7_stopped_2 (fun H locs hh => ?_)
  refine W.eq (g2 := F0 m 5 ls [.int (F_X7_isClock m_told x1)]) rfl ?_
  refine lv_if_eq (tgt := 16) hx hb dX7_stopped_5 (by decide) (fun c_5 => ?_) (fun c_5 => ?_)
  · replace hF := hF.trans (if_pos c_5)
    refine lv_bipush (v := (-2)) hx hb dX7_stopped_16 (by decide) ?_
    exact RT _ _ _ _ _ _ hh (rfl) (Or.inl ⟨_, rfl, by rw [hF], dX7_stopped_18, Or.inl rfl⟩)
  · replace hF := hF.trans (if_neg c_5)
    obtain ⟨k0_5, k1_5⟩ := X7_isClock_in c_5
    refine lv_aload_n hx hb dX7_stopped_8 rfl (lv_at hl 0 rfl) ?_
    refine lv_iload_n hx hb dX7_stopped_9 rfl (lv_at hl 2 rfl) ?_
    refine g_callV (As := [.int x2]) (rest := []) KX rfl ⟨Nat.le_of_ble_eq_true rfl, Nat.le_of_ble_eq_true rfl⟩ hh hl (c_X7_isClock l D cI cZ cC cH o a_clock a_note a_text a_read a_fit a_shown a_image a_isKept a_row a_best m_told m_isRead1 m_clock m_note m_noted m_bytes m_text m_position m_tokenAt m_token m_digits m_number m_faultAt m_readMany m_readTold m_read m_fit m_shown m_image m_isKept m_row m_best m_againAt m_againStep m_orderMany m_orderLeast x2 ) JN.all 1 gX7_stopped_X7_isClock rfl (by decide +kernel) ⟨Nat.le_of_ble_eq_true rfl, Nat.le_of_ble_eq_true rfl⟩ 0 7 rfl rfl rfl rfl rfl (Nat.le_of_ble_eq_true rfl) dX7_stopped_10 (fun H locs hh => ?_)
    refine W.eq (g2 := F0 m 13 ls [.int (F_X7_isClock m_told x2)]) rfl ?_
    refine lv_if_ne (tgt := 19) hx hb dX7_stopped_13 (by decide) (fun c_13 => ?_) (fun c_13 => ?_)
    · replace hF := hF.trans (if_neg c_13)
      obtain ⟨k0_13, k1_13⟩ := X7_isClock_in c_13
      refine lv_iload_n hx hb dX7_stopped_19 rfl (lv_at hl 3 rfl) ?_
      refine lv_iconst (v := 0) hx hb dX7_stopped_20 (by decide) ?_
      refine lv_iconst (v := 2) hx hb dX7_stopped_21 (by decide) ?_
      refine g_callS (As := [.int x3, .int 0, .int 2]) (rest := []) KX rfl ⟨Nat.le_of_ble_eq_true rfl, Nat.le_of_ble_eq_true rfl⟩ hh hl (c_X7_in l D cI cZ cC cH  x3 0 2 ) JN.no 3 gX7_stopped_X7_in rfl (by decide +kernel) ⟨Nat.le_of_ble_eq_true rfl, Nat.le_of_ble_eq_true rfl⟩ rfl rfl (Nat.le_of_ble_eq_true rfl) dX7_stopped_22 (fun H locs hh => ?_)
      refine W.eq (g2 := F0 m 25 ls [.int (F_X7_in x3 0 2)]) rfl ?_
      refine lv_if_ne (tgt := 31) hx hb dX7_stopped_25 (by decide) (fun c_25 => ?_) (fun c_25 => ?_)
      · replace hF := hF.trans (if_neg c_25)
        obtain ⟨k0_25, k1_25⟩ : (0 : Int) ≤ x3.toInt ∧ x3.toInt ≤ 2 := X7_in_in c_25
        refine lv_aload_n hx hb dX7_stopped_31 rfl (lv_at hl 0 rfl) ?_
        refine g_get KX hh in_X7_stopped_X7 0 rfl rfl 2 (by decide) rfl (List.mem_of_getElem? (i := 1) rfl) dX7_stopped_32 ?_
        refine lv_bipush (v := 6) hx hb dX7_stopped_35 (by decide) ?_
        refine lv_iload_n hx hb dX7_stopped_37 rfl (lv_at hl 1 rfl) ?_
        refine lv_imul hx hb dX7_stopped_38 ?_
        refine g_iald KX hh 1 0 rfl rfl (ix60 (by omega) (by omega)) dX7_stopped_39 ?_
        refine lv_iconst (v := 2) hx hb dX7_stopped_40 (by decide) ?_
        refine lv_icmp_ne (tgt := 57) hx hb dX7_stopped_41 (by decide) (fun c_41 => ?_) (fun c_41 => ?_)
        · replace hF := hF.trans (if_neg c_41)
          refine lv_bipush (v := (-4)) hx hb dX7_stopped_57 (by decide) ?_
          exact RT _ _ _ _ _ _ hh (rfl) (Or.inl ⟨_, rfl, by rw [hF], dX7_stopped_59, Or.inl rfl⟩)
        · replace hF := hF.trans (if_pos c_41)
          refine lv_aload_n hx hb dX7_stopped_44 rfl (lv_at hl 0 rfl) ?_
          refine g_get KX hh in_X7_stopped_X7 0 rfl rfl 2 (by decide) rfl (List.mem_of_getElem? (i := 1) rfl) dX7_stopped_45 ?_
          refine lv_bipush (v := 6) hx hb dX7_stopped_48 (by decide) ?_
          refine lv_iload_n hx hb dX7_stopped_50 rfl (lv_at hl 2 rfl) ?_
          refine lv_imul hx hb dX7_stopped_51 ?_
          refine g_iald KX hh 1 0 rfl rfl (ix60 (by omega) (by omega)) dX7_stopped_52 ?_
          refine lv_iconst (v := 2) hx hb dX7_stopped_53 (by decide) ?_
          refine lv_icmp_ne (tgt := 60) hx hb dX7_stopped_54 (by decide) (fun c_54 => ?_) (fun c_54 => ?_)
          · replace hF := hF.trans (if_neg c_54)
            refine lv_iconst (v := 0) hx hb dX7_stopped_60 (by decide) ?_
            refine lv_istore (lv' := [(4, .int 0), (0, .ref o), (1, .int x1), (2, .int x2), (3, .int x3)]) hx hb dX7_stopped_61 hl (Nat.le_of_ble_eq_true rfl) rfl (fun ls hl => ?_)
            refine lv_iconst (v := (-1)) hx hb dX7_stopped_63 (by decide) ?_
            refine lv_istore (lv' := [(5, .int (-1)), (4, .int 0), (0, .ref o), (1, .int x1), (2, .int x2), (3, .int x3)]) hx hb dX7_stopped_64 hl (Nat.le_of_ble_eq_true rfl) rfl (fun ls hl => ?_)
            refine lv_iconst (v := (-1)) hx hb dX7_stopped_66 (by decide) ?_
            refine lv_istore (lv' := [(6, .int (-1)), (5, .int (-1)), (4, .int 0), (0, .ref o), (1, .int x1), (2, .int x2), (3, .int x3)]) hx hb dX7_stopped_67 hl (Nat.le_of_ble_eq_true rfl) rfl (fun ls hl => ?_)
            refine lv_iconst (v := 0) hx hb dX7_stopped_69 (by decide) ?_
            refine lv_istore (lv' := [(7, .int 0), (6, .int (-1)), (5, .int (-1)), (4, .int 0), (0, .ref o), (1, .int x1), (2, .int x2), (3, .int x3)]) hx hb dX7_stopped_70 hl (Nat.le_of_ble_eq_true rfl) rfl (fun ls hl => ?_)
            have L_72 : ∀ (n_72 : Nat) (x7_1 : Int32) (x6_2 : Int32) (x5_3 : Int32) (x4_4 : Int32) (i0_72 : 0 ≤ x7_1.toInt) (i1_72 : x7_1.toInt ≤ 4320) (_ : (4320 - x7_1.toInt).toNat < n_72) (_ : R = (F_X7_stopped_72 m_clock x1 x2 x3) n_72 x7_1 x6_2 x5_3 x4_4) (ls : Array Slot) (H : Heap) (locs : List Loc) (_ : HS D A s.heap (WM cI cZ cC cH o a_clock a_note a_text a_read a_fit a_shown a_image a_isKept a_row a_best m_told m_isRead1 m_clock m_note m_noted m_bytes m_text m_position m_tokenAt m_token m_digits m_number m_faultAt m_readMany m_readTold m_read m_fit m_shown m_image m_isKept m_row m_best m_againAt m_againStep m_orderMany m_orderLeast) H locs) (_ : lv_has ls 8 [(7, .int x7_1), (6, .int x6_2), (5, .int x5_3), (4, .int x4_4), (0, .ref o), (1, .int x1), (2, .int x2), (3, .int x3)]), W p l e { frames := 4, cells := 0, slots := 0, locals := 90 } s m args below meth c H locs 0 0 Q (F0 m 72 ls []) := by
              intro n_72
              induction n_72 with
              | zero => intro x7_1 x6_2 x5_3 x4_4 i0_72 i1_72 hm; exact absurd hm (Nat.not_lt_zero _)
              | succ n_72 ih_72 =>
                intro x7_1 x6_2 x5_3 x4_4 i0_72 i1_72 hm_72 hF ls H locs hh hl
                rw [F_X7_stopped_72.eq_2] at hF
                refine lv_iload hx hb dX7_stopped_72 (lv_at hl 0 rfl) ?_
                refine lv_sipush (v := 4320) hx hb dX7_stopped_74 (by decide) ?_
                refine lv_icmp_ge (tgt := 128) hx hb dX7_stopped_77 (by decide) (fun c_77 => ?_) (fun c_77 => ?_)
                · replace hF := hF.trans (if_pos c_77)
                  have i_77 : 4320 ≤ x7_1.toInt := ti_le.mp c_77
                  refine lv_iload_n hx hb dX7_stopped_128 rfl (lv_at hl 7 rfl) ?_
                  refine lv_if_ne (tgt := 137) hx hb dX7_stopped_129 (by decide) (fun c_129 => ?_) (fun c_129 => ?_)
                  · replace hF := hF.trans (if_neg c_129)
                    have i_129 : ¬ x3.toInt = 0 := ti_ne c_129
                    refine lv_iload_n hx hb dX7_stopped_137 rfl (lv_at hl 7 rfl) ?_
                    refine lv_iconst (v := 1) hx hb dX7_stopped_138 (by decide) ?_
                    refine lv_icmp_ne (tgt := 147) hx hb dX7_stopped_139 (by decide) (fun c_139 => ?_) (fun c_139 => ?_)
                    · replace hF := hF.trans (if_neg c_139)
                      have i_139 : ¬ x3.toInt = 1 := ti_ne c_139
                      refine lv_iload hx hb dX7_stopped_147 (lv_at hl 1 rfl) ?_
                      exact RT _ _ _ _ _ _ hh (rfl) (Or.inl ⟨_, rfl, by rw [hF], dX7_stopped_149, Or.inl rfl⟩)
                    · replace hF := hF.trans (if_pos c_139)
                      have i_139 : x3.toInt = 1 := congrArg Int32.toInt c_139
                      refine lv_iload hx hb dX7_stopped_142 (lv_at hl 2 rfl) ?_
                      refine lv_goto (tgt := 149) hx hb dX7_stopped_144 (by decide) ?_
                      exact RT _ _ _ _ _ _ hh (rfl) (Or.inl ⟨_, rfl, by rw [hF], dX7_stopped_149, Or.inl rfl⟩)
                  · replace hF := hF.trans (if_pos c_129)
                    have i_129 : x3.toInt = 0 := congrArg Int32.toInt c_129
                    refine lv_iload hx hb dX7_stopped_132 (lv_at hl 3 rfl) ?_
                    refine lv_goto (tgt := 149) hx hb dX7_stopped_134 (by decide) ?_
                    exact RT _ _ _ _ _ _ hh (rfl) (Or.inl ⟨_, rfl, by rw [hF], dX7_stopped_149, Or.inl rfl⟩)
                · replace hF := hF.trans (if_neg c_77)
                  have i_77 : x7_1.toInt < 4320 := ti_nle c_77
                  refine lv_aload_n hx hb dX7_stopped_80 rfl (lv_at hl 4 rfl) ?_
                  refine lv_iload_n hx hb dX7_stopped_81 rfl (lv_at hl 6 rfl) ?_
                  refine lv_iload hx hb dX7_stopped_82 (lv_at hl 0 rfl) ?_
                  refine lv_aload_n hx hb dX7_stopped_84 rfl (lv_at hl 4 rfl) ?_
                  refine g_get KX hh in_X7_stopped_X7 0 rfl rfl 2 (by decide) rfl (List.mem_of_getElem? (i := 1) rfl) dX7_stopped_85 ?_
                  refine lv_bipush (v := 6) hx hb dX7_stopped_88 (by decide) ?_
                  refine lv_iload_n hx hb dX7_stopped_90 rfl (lv_at hl 5 rfl) ?_
                  refine lv_imul hx hb dX7_stopped_91 ?_
                  refine lv_iconst (v := 2) hx hb dX7_stopped_92 (by decide) ?_
                  refine lv_iadd hx hb dX7_stopped_93 ?_
                  refine g_iald KX hh 1 0 rfl rfl (ix6 2 (by omega) (by omega) (by decide)) dX7_stopped_94 ?_
                  refine g_callV (As := [.int x2, .int x7_1, .int (m_clock ((6 * x1) + 2).toNatClampNeg)]) (rest := []) KX rfl ⟨Nat.le_of_ble_eq_true rfl, Nat.le_of_ble_eq_true rfl⟩ hh hl (c_X7_canShow l D cI cZ cC cH o a_clock a_note a_text a_read a_fit a_shown a_image a_isKept a_row a_best m_told m_isRead1 m_clock m_note m_noted m_bytes m_text m_position m_tokenAt m_token m_digits m_number m_faultAt m_readMany m_readTold m_read m_fit m_shown m_image m_isKept m_row m_best m_againAt m_againStep m_orderMany m_orderLeast x2 x7_1 (m_clock ((6 * x1) + 2).toNatClampNeg) (by first | with_reducible assumption | omega | decide) (by first | with_reducible assumption | omega | decide)) JN.all 3 gX7_stopped_X7_canShow rfl (by decide +kernel) ⟨Nat.le_of_ble_eq_true rfl, Nat.le_of_ble_eq_true rfl⟩ 0 7 rfl rfl rfl rfl rfl (Nat.le_of_ble_eq_true rfl) dX7_stopped_95 (fun H locs hh => ?_)
                  refine W.eq (g2 := F0 m 98 ls [.int (F_X7_canShow m_clock x2 x7_1 (m_clock ((6 * x1) + 2).toNatClampNeg))]) rfl ?_
                  refine lv_if_eq (tgt := 122) hx hb dX7_stopped_98 (by decide) (fun c_98 => ?_) (fun c_98 => ?_)
                  · replace hF := hF.trans (if_pos c_98)
                    refine lv_iinc (v := x7_1 + 1) (lv' := [(7, .int (x7_1 + 1)), (6, .int x6_2), (5, .int x5_3), (4, .int x4_4), (0, .ref o), (1, .int x1), (2, .int x2), (3, .int x3)]) hx hb dX7_stopped_122 hl (k := 0) rfl rfl (Nat.le_of_ble_eq_true rfl) rfl (fun ls hl => ?_)
                    refine lv_goto (tgt := 72) hx hb dX7_stopped_125 (by decide) ?_
                    have e_inc : (x7_1 + 1).toInt = x7_1.toInt + 1 := ti_inc (by omega)
                    exact ih_72 (x7_1 + 1) x6_2 x5_3 x4_4 (by first | with_reducible assumption | omega | decide) (by first | with_reducible assumption | omega | decide) (by omega) hF _ _ _ hh (lv_sub hl [0, 1, 2, 3, 4, 5, 6, 7] rfl)
                  · replace hF := hF.trans (if_neg c_98)
                    refine lv_iload hx hb dX7_stopped_101 (lv_at hl 3 rfl) ?_
                    refine lv_if_ne (tgt := 111) hx hb dX7_stopped_103 (by decide) (fun c_103 => ?_) (fun c_103 => ?_)
                    · replace hF := hF.trans (if_neg c_103)
                      have i_103 : ¬ x4_4.toInt = 0 := ti_ne c_103
                      refine lv_iload hx hb dX7_stopped_111 (lv_at hl 2 rfl) ?_
                      refine lv_istore (lv' := [(5, .int x5_3), (7, .int x7_1), (6, .int x6_2), (4, .int x4_4), (0, .ref o), (1, .int x1), (2, .int x2), (3, .int x3)]) hx hb dX7_stopped_113 hl (Nat.le_of_ble_eq_true rfl) rfl (fun ls hl => ?_)
                      refine lv_iload hx hb dX7_stopped_115 (lv_at hl 1 rfl) ?_
                      refine lv_istore (lv' := [(6, .int x7_1), (5, .int x5_3), (7, .int x7_1), (4, .int x4_4), (0, .ref o), (1, .int x1), (2, .int x2), (3, .int x3)]) hx hb dX7_stopped_117 hl (Nat.le_of_ble_eq_true rfl) rfl (fun ls hl => ?_)
                      refine lv_iinc (v := x4_4 + 1) (lv' := [(4, .int (x4_4 + 1)), (6, .int x7_1), (5, .int x5_3), (7, .int x7_1), (0, .ref o), (1, .int x1), (2, .int x2), (3, .int x3)]) hx hb dX7_stopped_119 hl (k := 3) rfl rfl (Nat.le_of_ble_eq_true rfl) rfl (fun ls hl => ?_)
                      refine lv_iinc (v := x7_1 + 1) (lv' := [(7, .int (x7_1 + 1)), (4, .int (x4_4 + 1)), (6, .int x7_1), (5, .int x5_3), (0, .ref o), (1, .int x1), (2, .int x2), (3, .int x3)]) hx hb dX7_stopped_122 hl (k := 3) rfl rfl (Nat.le_of_ble_eq_true rfl) rfl (fun ls hl => ?_)
                      refine lv_goto (tgt := 72) hx hb dX7_stopped_125 (by decide) ?_
                      have e_inc : (x7_1 + 1).toInt = x7_1.toInt + 1 := ti_inc (by omega)
                      exact ih_72 (x7_1 + 1) x7_1 x5_3 (x4_4 + 1) (by first | with_reducible assumption | omega | decide) (by first | with_reducible assumption | omega | decide) (by omega) hF _ _ _ hh (lv_sub hl [0, 2, 3, 1, 4, 5, 6, 7] rfl)
                    · replace hF := hF.trans (if_pos c_103)
                      have i_103 : x4_4.toInt = 0 := congrArg Int32.toInt c_103
                      refine lv_iload hx hb dX7_stopped_106 (lv_at hl 0 rfl) ?_
                      refine lv_goto (tgt := 113) hx hb dX7_stopped_108 (by decide) ?_
                      refine lv_istore (lv' := [(5, .int x7_1), (7, .int x7_1), (6, .int x6_2), (4, .int x4_4), (0, .ref o), (1, .int x1), (2, .int x2), (3, .int x3)]) hx hb dX7_stopped_113 hl (Nat.le_of_ble_eq_true rfl) rfl (fun ls hl => ?_)
                      refine lv_iload hx hb dX7_stopped_115 (lv_at hl 1 rfl) ?_
                      refine lv_istore (lv' := [(6, .int x7_1), (5, .int x7_1), (7, .int x7_1), (4, .int x4_4), (0, .ref o), (1, .int x1), (2, .int x2), (3, .int x3)]) hx hb dX7_stopped_117 hl (Nat.le_of_ble_eq_true rfl) rfl (fun ls hl => ?_)
                      refine lv_iinc (v := x4_4 + 1) (lv' := [(4, .int (x4_4 + 1)), (6, .int x7_1), (5, .int x7_1), (7, .int x7_1), (0, .ref o), (1, .int x1), (2, .int x2), (3, .int x3)]) hx hb dX7_stopped_119 hl (k := 3) rfl rfl (Nat.le_of_ble_eq_true rfl) rfl (fun ls hl => ?_)
                      refine lv_iinc (v := x7_1 + 1) (lv' := [(7, .int (x7_1 + 1)), (4, .int (x4_4 + 1)), (6, .int x7_1), (5, .int x7_1), (0, .ref o), (1, .int x1), (2, .int x2), (3, .int x3)]) hx hb dX7_stopped_122 hl (k := 3) rfl rfl (Nat.le_of_ble_eq_true rfl) rfl (fun ls hl => ?_)
                      refine lv_goto (tgt := 72) hx hb dX7_stopped_125 (by decide) ?_
                      have e_inc : (x7_1 + 1).toInt = x7_1.toInt + 1 := ti_inc (by omega)
                      exact ih_72 (x7_1 + 1) x7_1 x7_1 (x4_4 + 1) (by first | with_reducible assumption | omega | decide) (by first | with_reducible assumption | omega | decide) (by omega) hF _ _ _ hh (lv_sub hl [0, 2, 3, 1, 4, 5, 6, 7] rfl)
            exact L_72 4321 0 (-1) (-1) 0 (by first | with_reducible assumption | omega | decide) (by first | with_reducible assumption | omega | decide) (by first | omega | decide | (simp; done)) hF _ _ _ hh (lv_sub hl [0, 1, 2, 3, 4, 5, 6, 7] rfl)
          · replace hF := hF.trans (if_pos c_54)
            refine lv_bipush (v := (-4)) hx hb dX7_stopped_57 (by decide) ?_
            exact RT _ _ _ _ _ _ hh (rfl) (Or.inl ⟨_, rfl, by rw [hF], dX7_stopped_59, Or.inl rfl⟩)
      · replace hF := hF.trans (if_pos c_25)
        refine lv_bipush (v := (-3)) hx hb dX7_stopped_28 (by decide) ?_
        exact RT _ _ _ _ _ _ hh (rfl) (Or.inl ⟨_, rfl, by rw [hF], dX7_stopped_30, Or.inl rfl⟩)
    · replace hF := hF.trans (if_pos c_13)
      refine lv_bipush (v := (-2)) hx hb dX7_stopped_16 (by decide) ?_
      exact RT _ _ _ _ _ _ hh (rfl) (Or.inl ⟨_, rfl, by rw [hF], dX7_stopped_18, Or.inl rfl⟩)
def F_X7_setBy_100 (m_clock : Nat → Int32) (x1 : Int32) (x2 : Int32) (x3 : Int32) (x4 : Int32) : Nat → Int32 → Int32 → Int32 → Int32
  | 0, _, _, _ => default
  | n + 1, x7_1, x6_2, x5_3 => (if x3 < x7_1 then (if x4 = 0 then x5_3 else x6_2) else (if ((F_X7_rest (F_X7_hand m_clock x2 x7_1 (m_clock ((6 * x2) + 3).toNatClampNeg)) 1036800) - (F_X7_rest (F_X7_hand m_clock x2 x7_1 (m_clock ((6 * x2) + 3).toNatClampNeg)) 1036800) / 86400 * 86400) = 0 then (if (F_X7_isBetween ((F_X7_rest (F_X7_hand m_clock x2 x7_1 (m_clock ((6 * x2) + 3).toNatClampNeg)) 1036800) + ((x3 - x7_1) * (1440 + (m_clock ((6 * x1) + 3).toNatClampNeg)))) ((F_X7_rest (F_X7_hand m_clock x2 x7_1 (m_clock ((6 * x2) + 3).toNatClampNeg)) 1036800) + ((x3 - x7_1) * (1440 + (m_clock ((6 * x1) + 4).toNatClampNeg)))) (m_clock ((6 * x1) + 5).toNatClampNeg)) = 0 then ((F_X7_setBy_100 m_clock x1 x2 x3 x4 n) (x7_1 + 1) x6_2 x5_3) else (if x5_3 = 0 then ((F_X7_setBy_100 m_clock x1 x2 x3 x4 n) (x7_1 + 1) x7_1 (x5_3 + 1)) else ((F_X7_setBy_100 m_clock x1 x2 x3 x4 n) (x7_1 + 1) x6_2 (x5_3 + 1)))) else ((F_X7_setBy_100 m_clock x1 x2 x3 x4 n) (x7_1 + 1) x6_2 x5_3)))
def F_X7_setBy (m_told : Int32) (m_isRead1 : Int32) (m_clock : Nat → Int32) (x1 : Int32) (x2 : Int32) (x3 : Int32) (x4 : Int32) : Int32 := (if (F_X7_isClock m_told x1) = 0 then (-2) else (if (F_X7_isClock m_told x2) = 0 then (-2) else (if x1 = x2 then (-3) else (if (F_X7_isMinute x3) = 0 then (-3) else (if (F_X7_in x4 0 1) = 0 then (-3) else (if (m_clock (6 * x1).toNatClampNeg) = 0 then (if (F_X7_has m_isRead1 x1) = 0 then (-4) else (if (m_clock (6 * x2).toNatClampNeg) = 2 then (-4) else (if (F_X7_isExact m_told m_clock x2) = 0 then (-4) else (F_X7_setBy_100 m_clock x1 x2 x3 x4 4321 0 (-1) 0)))) else (-4)))))))
theorem in_X7_setBy_X7 : ∀ x ∈ u_ws RX7 TX7 26, x ∈ wsX7_setBy := by decide +kernel
set_option maxHeartbeats 2000000 in
set_option maxRecDepth 100000 in
theorem c_X7_setBy (l : Launch) (D : va_G) (cI cZ cC cH : ClassId) (o a_clock a_note a_text a_read a_fit a_shown a_image a_isKept a_row a_best : Nat) (m_told : Int32) (m_isRead1 : Int32) (m_clock : Nat → Int32) (m_note : Nat → Int32) (m_noted : Int32) (m_bytes : Int32) (m_text : Nat → Int32) (m_position : Int32) (m_tokenAt : Int32) (m_token : Int64) (m_digits : Int32) (m_number : Int32) (m_faultAt : Int32) (m_readMany : Int32) (m_readTold : Int32) (m_read : Nat → Int32) (m_fit : Nat → Int32) (m_shown : Nat → Int32) (m_image : Nat → Int32) (m_isKept : Nat → Int32) (m_row : Nat → Int32) (m_best : Nat → Int32) (m_againAt : Int32) (m_againStep : Int32) (m_orderMany : Int32) (m_orderLeast : Int32) (x1 : Int32) (x2 : Int32) (x3 : Int32) (x4 : Int32)  : MC l D (TY cI cZ cC cH) yX7_setBy wsX7_setBy 3 67 [.ref o, .int x1, .int x2, .int x3, .int x4] (WM cI cZ cC cH o a_clock a_note a_text a_read a_fit a_shown a_image a_isKept a_row a_best m_told m_isRead1 m_clock m_note m_noted m_bytes m_text m_position m_tokenAt m_token m_digits m_number m_faultAt m_readMany m_readTold m_read m_fit m_shown m_image m_isKept m_row m_best m_againAt m_againStep m_orderMany m_orderLeast) (some (.int (F_X7_setBy m_told m_isRead1 m_clock x1 x2 x3 x4))) (WM cI cZ cC cH o a_clock a_note a_text a_read a_fit a_shown a_image a_isKept a_row a_best m_told m_isRead1 m_clock m_note m_noted m_bytes m_text m_position m_tokenAt m_token m_digits m_number m_faultAt m_readMany m_readTold m_read m_fit m_shown m_image m_isKept m_row m_best m_againAt m_againStep m_orderMany m_orderLeast) := by
  obtain ⟨R, hF⟩ : ∃ R, R = F_X7_setBy m_told m_isRead1 m_clock x1 x2 x3 x4 := ⟨_, rfl⟩
  rw [← hF]
  refine MC.of (cc := cX7_setBy) (maxL := 9) (ret := (some .int)) RX7 rfl (by decide +kernel) rfl (Nat.le_of_ble_eq_true rfl) ?_
  intro p e s m args below meth c A Q KX RT hh ls hl
  have z0 : (0 : Int32).toInt = 0 := rfl
  have z1 : (1 : Int32).toInt = 1 := rfl
  have zm : (-1 : Int32).toInt = -1 := rfl
  have hx := KX.1
  have hb := KX.2.1
  have hl : lv_has ls 9 [(0, .ref o), (1, .int x1), (2, .int x2), (3, .int x3), (4, .int x4)] := hl
  unfold F_X7_setBy at hF
  refine lv_aload_n hx hb dX7_setBy_0 rfl (lv_at hl 0 rfl) ?_
  refine lv_iload_n hx hb dX7_setBy_1 rfl (lv_at hl 1 rfl) ?_
  refine g_callV (As := [.int x1]) (rest := []) KX rfl ⟨Nat.le_of_ble_eq_true rfl, Nat.le_of_ble_eq_true rfl⟩ hh hl (c_X7_isClock l D cI cZ cC cH o a_clock a_note a_text a_read a_fit a_shown a_image a_isKept a_row a_best m_told m_isRead1 m_clock m_note m_noted m_bytes m_text m_position m_tokenAt m_token m_digits m_number m_faultAt m_readMany m_readTold m_read m_fit m_shown m_image m_isKept m_row m_best m_againAt m_againStep m_orderMany m_orderLeast x1 ) JN.all 1 gX7_setBy_X7_isClock rfl (by decide +kernel) ⟨Nat.le_of_ble_eq_true rfl, Nat.le_of_ble_eq_true rfl⟩ 0 7 rfl rfl rfl rfl rfl (Nat.le_of_ble_eq_true rfl) dX7_setBy_2 (fun H locs hh => ?_)
  refine W.eq (g2 := F0 m 5 ls [.int (F_X7_isClock m_told x1)]) rfl ?_
  refine lv_if_eq (tgt := 16) hx hb dX7_setBy_5 (by decide) (fun c_5 => ?_) (fun c_5 => ?_)
  · replace hF := hF.trans (if_pos c_5)
    refine lv_bipush (v := (-2)) hx hb dX7_setBy_16 (by decide) ?_
    exact RT _ _ _ _ _ _ hh (rfl) (Or.inl ⟨_, rfl, by rw [hF], dX7_setBy_18, Or.inl rfl⟩)
  · replace hF := hF.trans (if_neg c_5)
    obtain ⟨k0_5, k1_5⟩ := X7_isClock_in c_5
    refine lv_aload_n hx hb dX7_setBy_8 rfl (lv_at hl 0 rfl) ?_
    refine lv_iload_n hx hb dX7_setBy_9 rfl (lv_at hl 2 rfl) ?_
    refine g_callV (As := [.int x2]) (rest := []) KX rfl ⟨Nat.le_of_ble_eq_true rfl, Nat.le_of_ble_eq_true rfl⟩ hh hl (c_X7_isClock l D cI cZ cC cH o a_clock a_note a_text a_read a_fit a_shown a_image a_isKept a_row a_best m_told m_isRead1 m_clock m_note m_noted m_bytes m_text m_position m_tokenAt m_token m_digits m_number m_faultAt m_readMany m_readTold m_read m_fit m_shown m_image m_isKept m_row m_best m_againAt m_againStep m_orderMany m_orderLeast x2 ) JN.all 1 gX7_setBy_X7_isClock rfl (by decide +kernel) ⟨Nat.le_of_ble_eq_true rfl, Nat.le_of_ble_eq_true rfl⟩ 0 7 rfl rfl rfl rfl rfl (Nat.le_of_ble_eq_true rfl) dX7_setBy_10 (fun H locs hh => ?_)
    refine W.eq (g2 := F0 m 13 ls [.int (F_X7_isClock m_told x2)]) rfl ?_
    refine lv_if_ne (tgt := 19) hx hb dX7_setBy_13 (by decide) (fun c_13 => ?_) (fun c_13 => ?_)
    · replace hF := hF.trans (if_neg c_13)
      obtain ⟨k0_13, k1_13⟩ := X7_isClock_in c_13
      refine lv_iload_n hx hb dX7_setBy_19 rfl (lv_at hl 1 rfl) ?_
      refine lv_iload_n hx hb dX7_setBy_20 rfl (lv_at hl 2 rfl) ?_
      refine lv_icmp_eq (tgt := 41) hx hb dX7_setBy_21 (by decide) (fun c_21 => ?_) (fun c_21 => ?_)
      · replace hF := hF.trans (if_pos c_21)
        have i_21 : x1.toInt = x2.toInt := congrArg Int32.toInt c_21
        refine lv_bipush (v := (-3)) hx hb dX7_setBy_41 (by decide) ?_
        exact RT _ _ _ _ _ _ hh (rfl) (Or.inl ⟨_, rfl, by rw [hF], dX7_setBy_43, Or.inl rfl⟩)
      · replace hF := hF.trans (if_neg c_21)
        have i_21 : ¬ x1.toInt = x2.toInt := ti_ne c_21
        refine lv_iload_n hx hb dX7_setBy_24 rfl (lv_at hl 3 rfl) ?_
        refine g_callS (As := [.int x3]) (rest := []) KX rfl ⟨Nat.le_of_ble_eq_true rfl, Nat.le_of_ble_eq_true rfl⟩ hh hl (c_X7_isMinute l D cI cZ cC cH  x3 ) JN.no 1 gX7_setBy_X7_isMinute rfl (by decide +kernel) ⟨Nat.le_of_ble_eq_true rfl, Nat.le_of_ble_eq_true rfl⟩ rfl rfl (Nat.le_of_ble_eq_true rfl) dX7_setBy_25 (fun H locs hh => ?_)
        refine W.eq (g2 := F0 m 28 ls [.int (F_X7_isMinute x3)]) rfl ?_
        refine lv_if_eq (tgt := 41) hx hb dX7_setBy_28 (by decide) (fun c_28 => ?_) (fun c_28 => ?_)
        · replace hF := hF.trans (if_pos c_28)
          refine lv_bipush (v := (-3)) hx hb dX7_setBy_41 (by decide) ?_
          exact RT _ _ _ _ _ _ hh (rfl) (Or.inl ⟨_, rfl, by rw [hF], dX7_setBy_43, Or.inl rfl⟩)
        · replace hF := hF.trans (if_neg c_28)
          obtain ⟨k0_28, k1_28⟩ := X7_isMinute_in c_28
          refine lv_iload hx hb dX7_setBy_31 (lv_at hl 4 rfl) ?_
          refine lv_iconst (v := 0) hx hb dX7_setBy_33 (by decide) ?_
          refine lv_iconst (v := 1) hx hb dX7_setBy_34 (by decide) ?_
          refine g_callS (As := [.int x4, .int 0, .int 1]) (rest := []) KX rfl ⟨Nat.le_of_ble_eq_true rfl, Nat.le_of_ble_eq_true rfl⟩ hh hl (c_X7_in l D cI cZ cC cH  x4 0 1 ) JN.no 3 gX7_setBy_X7_in rfl (by decide +kernel) ⟨Nat.le_of_ble_eq_true rfl, Nat.le_of_ble_eq_true rfl⟩ rfl rfl (Nat.le_of_ble_eq_true rfl) dX7_setBy_35 (fun H locs hh => ?_)
          refine W.eq (g2 := F0 m 38 ls [.int (F_X7_in x4 0 1)]) rfl ?_
          refine lv_if_ne (tgt := 44) hx hb dX7_setBy_38 (by decide) (fun c_38 => ?_) (fun c_38 => ?_)
          · replace hF := hF.trans (if_neg c_38)
            obtain ⟨k0_38, k1_38⟩ : (0 : Int) ≤ x4.toInt ∧ x4.toInt ≤ 1 := X7_in_in c_38
            refine lv_aload_n hx hb dX7_setBy_44 rfl (lv_at hl 0 rfl) ?_
            refine g_get KX hh in_X7_setBy_X7 0 rfl rfl 2 (by decide) rfl (List.mem_of_getElem? (i := 1) rfl) dX7_setBy_45 ?_
            refine lv_bipush (v := 6) hx hb dX7_setBy_48 (by decide) ?_
            refine lv_iload_n hx hb dX7_setBy_50 rfl (lv_at hl 1 rfl) ?_
            refine lv_imul hx hb dX7_setBy_51 ?_
            refine g_iald KX hh 1 0 rfl rfl (ix60 (by omega) (by omega)) dX7_setBy_52 ?_
            refine lv_if_ne (tgt := 88) hx hb dX7_setBy_53 (by decide) (fun c_53 => ?_) (fun c_53 => ?_)
            · replace hF := hF.trans (if_neg c_53)
              refine lv_bipush (v := (-4)) hx hb dX7_setBy_88 (by decide) ?_
              exact RT _ _ _ _ _ _ hh (rfl) (Or.inl ⟨_, rfl, by rw [hF], dX7_setBy_90, Or.inl rfl⟩)
            · replace hF := hF.trans (if_pos c_53)
              refine lv_aload_n hx hb dX7_setBy_56 rfl (lv_at hl 0 rfl) ?_
              refine g_get KX hh in_X7_setBy_X7 0 rfl rfl 1 (by decide) rfl (List.mem_of_getElem? (i := 2) rfl) dX7_setBy_57 ?_
              refine lv_iload_n hx hb dX7_setBy_60 rfl (lv_at hl 1 rfl) ?_
              refine g_callS (As := [.int m_isRead1, .int x1]) (rest := []) KX rfl ⟨Nat.le_of_ble_eq_true rfl, Nat.le_of_ble_eq_true rfl⟩ hh hl (c_X7_has l D cI cZ cC cH  m_isRead1 x1 ) JN.no 2 gX7_setBy_X7_has rfl (by decide +kernel) ⟨Nat.le_of_ble_eq_true rfl, Nat.le_of_ble_eq_true rfl⟩ rfl rfl (Nat.le_of_ble_eq_true rfl) dX7_setBy_61 (fun H locs hh => ?_)
              refine W.eq (g2 := F0 m 64 ls [.int (F_X7_has m_isRead1 x1)]) rfl ?_
              refine lv_if_eq (tgt := 88) hx hb dX7_setBy_64 (by decide) (fun c_64 => ?_) (fun c_64 => ?_)
              · replace hF := hF.trans (if_pos c_64)
                refine lv_bipush (v := (-4)) hx hb dX7_setBy_88 (by decide) ?_
                exact RT _ _ _ _ _ _ hh (rfl) (Or.inl ⟨_, rfl, by rw [hF], dX7_setBy_90, Or.inl rfl⟩)
              · replace hF := hF.trans (if_neg c_64)
                refine lv_aload_n hx hb dX7_setBy_67 rfl (lv_at hl 0 rfl) ?_
                refine g_get KX hh in_X7_setBy_X7 0 rfl rfl 2 (by decide) rfl (List.mem_of_getElem? (i := 1) rfl) dX7_setBy_68 ?_
                refine lv_bipush (v := 6) hx hb dX7_setBy_71 (by decide) ?_
                refine lv_iload_n hx hb dX7_setBy_73 rfl (lv_at hl 2 rfl) ?_
                refine lv_imul hx hb dX7_setBy_74 ?_
                refine g_iald KX hh 1 0 rfl rfl (ix60 (by omega) (by omega)) dX7_setBy_75 ?_
                refine lv_iconst (v := 2) hx hb dX7_setBy_76 (by decide) ?_
                refine lv_icmp_eq (tgt := 88) hx hb dX7_setBy_77 (by decide) (fun c_77 => ?_) (fun c_77 => ?_)
                · replace hF := hF.trans (if_pos c_77)
                  refine lv_bipush (v := (-4)) hx hb dX7_setBy_88 (by decide) ?_
                  exact RT _ _ _ _ _ _ hh (rfl) (Or.inl ⟨_, rfl, by rw [hF], dX7_setBy_90, Or.inl rfl⟩)
                · replace hF := hF.trans (if_neg c_77)
                  refine lv_aload_n hx hb dX7_setBy_80 rfl (lv_at hl 0 rfl) ?_
                  refine lv_iload_n hx hb dX7_setBy_81 rfl (lv_at hl 2 rfl) ?_
                  refine g_callV (As := [.int x2]) (rest := []) KX rfl ⟨Nat.le_of_ble_eq_true rfl, Nat.le_of_ble_eq_true rfl⟩ hh hl (c_X7_isExact l D cI cZ cC cH o a_clock a_note a_text a_read a_fit a_shown a_image a_isKept a_row a_best m_told m_isRead1 m_clock m_note m_noted m_bytes m_text m_position m_tokenAt m_token m_digits m_number m_faultAt m_readMany m_readTold m_read m_fit m_shown m_image m_isKept m_row m_best m_againAt m_againStep m_orderMany m_orderLeast x2 ) JN.all 1 gX7_setBy_X7_isExact rfl (by decide +kernel) ⟨Nat.le_of_ble_eq_true rfl, Nat.le_of_ble_eq_true rfl⟩ 0 7 rfl rfl rfl rfl rfl (Nat.le_of_ble_eq_true rfl) dX7_setBy_82 (fun H locs hh => ?_)
                  refine W.eq (g2 := F0 m 85 ls [.int (F_X7_isExact m_told m_clock x2)]) rfl ?_
                  refine lv_if_ne (tgt := 91) hx hb dX7_setBy_85 (by decide) (fun c_85 => ?_) (fun c_85 => ?_)
                  · replace hF := hF.trans (if_neg c_85)
                    obtain ⟨k0_85, k1_85⟩ := X7_isExact_in c_85
                    refine lv_iconst (v := 0) hx hb dX7_setBy_91 (by decide) ?_
                    refine lv_istore (lv' := [(5, .int 0), (0, .ref o), (1, .int x1), (2, .int x2), (3, .int x3), (4, .int x4)]) hx hb dX7_setBy_92 hl (Nat.le_of_ble_eq_true rfl) rfl (fun ls hl => ?_)
                    refine lv_iconst (v := (-1)) hx hb dX7_setBy_94 (by decide) ?_
                    refine lv_istore (lv' := [(6, .int (-1)), (5, .int 0), (0, .ref o), (1, .int x1), (2, .int x2), (3, .int x3), (4, .int x4)]) hx hb dX7_setBy_95 hl (Nat.le_of_ble_eq_true rfl) rfl (fun ls hl => ?_)
                    refine lv_iconst (v := 0) hx hb dX7_setBy_97 (by decide) ?_
                    refine lv_istore (lv' := [(7, .int 0), (6, .int (-1)), (5, .int 0), (0, .ref o), (1, .int x1), (2, .int x2), (3, .int x3), (4, .int x4)]) hx hb dX7_setBy_98 hl (Nat.le_of_ble_eq_true rfl) rfl (fun ls hl => ?_)
                    have L_100 : ∀ (n_100 : Nat) (x7_1 : Int32) (x6_2 : Int32) (x5_3 : Int32) (i0_100 : 0 ≤ x7_1.toInt) (i1_100 : x7_1.toInt ≤ x3.toInt + 1) (_ : (x3.toInt + 1 - x7_1.toInt).toNat < n_100) (_ : R = (F_X7_setBy_100 m_clock x1 x2 x3 x4) n_100 x7_1 x6_2 x5_3) (ls : Array Slot) (H : Heap) (locs : List Loc) (_ : HS D A s.heap (WM cI cZ cC cH o a_clock a_note a_text a_read a_fit a_shown a_image a_isKept a_row a_best m_told m_isRead1 m_clock m_note m_noted m_bytes m_text m_position m_tokenAt m_token m_digits m_number m_faultAt m_readMany m_readTold m_read m_fit m_shown m_image m_isKept m_row m_best m_againAt m_againStep m_orderMany m_orderLeast) H locs) (_ : lv_has ls 9 [(7, .int x7_1), (6, .int x6_2), (5, .int x5_3), (0, .ref o), (1, .int x1), (2, .int x2), (3, .int x3), (4, .int x4)]), W p l e { frames := 3, cells := 0, slots := 0, locals := 67 } s m args below meth c H locs 0 0 Q (F0 m 100 ls []) := by
                      intro n_100
                      induction n_100 with
                      | zero => intro x7_1 x6_2 x5_3 i0_100 i1_100 hm; exact absurd hm (Nat.not_lt_zero _)
                      | succ n_100 ih_100 =>
                        intro x7_1 x6_2 x5_3 i0_100 i1_100 hm_100 hF ls H locs hh hl
                        rw [F_X7_setBy_100.eq_2] at hF
                        refine lv_iload hx hb dX7_setBy_100 (lv_at hl 0 rfl) ?_
                        refine lv_iload_n hx hb dX7_setBy_102 rfl (lv_at hl 6 rfl) ?_
                        refine lv_icmp_gt (tgt := 225) hx hb dX7_setBy_103 (by decide) (fun c_103 => ?_) (fun c_103 => ?_)
                        · replace hF := hF.trans (if_pos c_103)
                          have i_103 : x3.toInt < x7_1.toInt := ti_lt.mp c_103
                          refine lv_iload hx hb dX7_setBy_225 (lv_at hl 7 rfl) ?_
                          refine lv_if_ne (tgt := 235) hx hb dX7_setBy_227 (by decide) (fun c_227 => ?_) (fun c_227 => ?_)
                          · replace hF := hF.trans (if_neg c_227)
                            have i_227 : ¬ x4.toInt = 0 := ti_ne c_227
                            refine lv_iload hx hb dX7_setBy_235 (lv_at hl 1 rfl) ?_
                            exact RT _ _ _ _ _ _ hh (rfl) (Or.inl ⟨_, rfl, by rw [hF], dX7_setBy_237, Or.inl rfl⟩)
                          · replace hF := hF.trans (if_pos c_227)
                            have i_227 : x4.toInt = 0 := congrArg Int32.toInt c_227
                            refine lv_iload hx hb dX7_setBy_230 (lv_at hl 2 rfl) ?_
                            refine lv_goto (tgt := 237) hx hb dX7_setBy_232 (by decide) ?_
                            exact RT _ _ _ _ _ _ hh (rfl) (Or.inl ⟨_, rfl, by rw [hF], dX7_setBy_237, Or.inl rfl⟩)
                        · replace hF := hF.trans (if_neg c_103)
                          have i_103 : x7_1.toInt ≤ x3.toInt := ti_nlt c_103
                          refine lv_aload_n hx hb dX7_setBy_106 rfl (lv_at hl 3 rfl) ?_
                          refine lv_iload_n hx hb dX7_setBy_107 rfl (lv_at hl 5 rfl) ?_
                          refine lv_iload hx hb dX7_setBy_108 (lv_at hl 0 rfl) ?_
                          refine lv_aload_n hx hb dX7_setBy_110 rfl (lv_at hl 3 rfl) ?_
                          refine g_get KX hh in_X7_setBy_X7 0 rfl rfl 2 (by decide) rfl (List.mem_of_getElem? (i := 1) rfl) dX7_setBy_111 ?_
                          refine lv_bipush (v := 6) hx hb dX7_setBy_114 (by decide) ?_
                          refine lv_iload_n hx hb dX7_setBy_116 rfl (lv_at hl 5 rfl) ?_
                          refine lv_imul hx hb dX7_setBy_117 ?_
                          refine lv_iconst (v := 3) hx hb dX7_setBy_118 (by decide) ?_
                          refine lv_iadd hx hb dX7_setBy_119 ?_
                          refine g_iald KX hh 1 0 rfl rfl (ix6 3 (by omega) (by omega) (by decide)) dX7_setBy_120 ?_
                          refine g_callV (As := [.int x2, .int x7_1, .int (m_clock ((6 * x2) + 3).toNatClampNeg)]) (rest := []) KX rfl ⟨Nat.le_of_ble_eq_true rfl, Nat.le_of_ble_eq_true rfl⟩ hh hl (c_X7_hand l D cI cZ cC cH o a_clock a_note a_text a_read a_fit a_shown a_image a_isKept a_row a_best m_told m_isRead1 m_clock m_note m_noted m_bytes m_text m_position m_tokenAt m_token m_digits m_number m_faultAt m_readMany m_readTold m_read m_fit m_shown m_image m_isKept m_row m_best m_againAt m_againStep m_orderMany m_orderLeast x2 x7_1 (m_clock ((6 * x2) + 3).toNatClampNeg) (by first | with_reducible assumption | omega | decide) (by first | with_reducible assumption | omega | decide)) JN.all 3 gX7_setBy_X7_hand rfl (by decide +kernel) ⟨Nat.le_of_ble_eq_true rfl, Nat.le_of_ble_eq_true rfl⟩ 0 7 rfl rfl rfl rfl rfl (Nat.le_of_ble_eq_true rfl) dX7_setBy_121 (fun H locs hh => ?_)
                          refine W.eq (g2 := F0 m 124 ls [.int (F_X7_hand m_clock x2 x7_1 (m_clock ((6 * x2) + 3).toNatClampNeg))]) rfl ?_
                          refine lv_ldc (v := 1036800) hx hb KX.2.2.2.1 (KX.2.2.2.2.1 _ (List.mem_of_getElem? (i := 3) rfl)) dX7_setBy_124 ?_
                          refine g_callS (As := [.int (F_X7_hand m_clock x2 x7_1 (m_clock ((6 * x2) + 3).toNatClampNeg)), .int 1036800]) (rest := []) KX rfl ⟨Nat.le_of_ble_eq_true rfl, Nat.le_of_ble_eq_true rfl⟩ hh hl (c_X7_rest l D cI cZ cC cH  (F_X7_hand m_clock x2 x7_1 (m_clock ((6 * x2) + 3).toNatClampNeg)) 1036800 (by first | with_reducible assumption | omega | decide)) JN.no 2 gX7_setBy_X7_rest rfl (by decide +kernel) ⟨Nat.le_of_ble_eq_true rfl, Nat.le_of_ble_eq_true rfl⟩ rfl rfl (Nat.le_of_ble_eq_true rfl) dX7_setBy_126 (fun H locs hh => ?_)
                          refine W.eq (g2 := F0 m 129 ls [.int (F_X7_rest (F_X7_hand m_clock x2 x7_1 (m_clock ((6 * x2) + 3).toNatClampNeg)) 1036800)]) rfl ?_
                          refine lv_istore (lv' := [(8, .int (F_X7_rest (F_X7_hand m_clock x2 x7_1 (m_clock ((6 * x2) + 3).toNatClampNeg)) 1036800)), (7, .int x7_1), (6, .int x6_2), (5, .int x5_3), (0, .ref o), (1, .int x1), (2, .int x2), (3, .int x3), (4, .int x4)]) hx hb dX7_setBy_129 hl (Nat.le_of_ble_eq_true rfl) rfl (fun ls hl => ?_)
                          refine lv_iload hx hb dX7_setBy_131 (lv_at hl 0 rfl) ?_
                          refine lv_ldc (v := 86400) hx hb KX.2.2.2.1 (KX.2.2.2.2.1 _ (List.mem_of_getElem? (i := 4) rfl)) dX7_setBy_133 ?_
                          refine lv_irem hx hb dX7_setBy_135 (by decide) ?_
                          refine lv_if_ne (tgt := 219) hx hb dX7_setBy_136 (by decide) (fun c_136 => ?_) (fun c_136 => ?_)
                          · replace hF := hF.trans (if_neg c_136)
                            refine lv_iinc (v := x7_1 + 1) (lv' := [(7, .int (x7_1 + 1)), (8, .int (F_X7_rest (F_X7_hand m_clock x2 x7_1 (m_clock ((6 * x2) + 3).toNatClampNeg)) 1036800)), (6, .int x6_2), (5, .int x5_3), (0, .ref o), (1, .int x1), (2, .int x2), (3, .int x3), (4, .int x4)]) hx hb dX7_setBy_219 hl (k := 1) rfl rfl (Nat.le_of_ble_eq_true rfl) rfl (fun ls hl => ?_)
                            refine lv_goto (tgt := 100) hx hb dX7_setBy_222 (by decide) ?_
                            have e_inc : (x7_1 + 1).toInt = _ := ti_inc (by omega)
                            exact ih_100 (x7_1 + 1) x6_2 x5_3 (by first | with_reducible assumption | omega | decide) (by first | with_reducible assumption | omega | decide) (by omega) hF _ _ _ hh (lv_sub hl [0, 2, 3, 4, 5, 6, 7, 8] rfl)
                          · replace hF := hF.trans (if_pos c_136)
                            refine lv_iload hx hb dX7_setBy_139 (lv_at hl 0 rfl) ?_
                            refine lv_iload_n hx hb dX7_setBy_141 rfl (lv_at hl 7 rfl) ?_
                            refine lv_iload hx hb dX7_setBy_142 (lv_at hl 1 rfl) ?_
                            refine lv_isub hx hb dX7_setBy_144 ?_
                            refine lv_sipush (v := 1440) hx hb dX7_setBy_145 (by decide) ?_
                            refine lv_aload_n hx hb dX7_setBy_148 rfl (lv_at hl 4 rfl) ?_
                            refine g_get KX hh in_X7_setBy_X7 0 rfl rfl 2 (by decide) rfl (List.mem_of_getElem? (i := 1) rfl) dX7_setBy_149 ?_
                            refine lv_bipush (v := 6) hx hb dX7_setBy_152 (by decide) ?_
                            refine lv_iload_n hx hb dX7_setBy_154 rfl (lv_at hl 5 rfl) ?_
                            refine lv_imul hx hb dX7_setBy_155 ?_
                            refine lv_iconst (v := 3) hx hb dX7_setBy_156 (by decide) ?_
                            refine lv_iadd hx hb dX7_setBy_157 ?_
                            refine g_iald KX hh 1 0 rfl rfl (ix6 3 (by omega) (by omega) (by decide)) dX7_setBy_158 ?_
                            refine lv_iadd hx hb dX7_setBy_159 ?_
                            refine lv_imul hx hb dX7_setBy_160 ?_
                            refine lv_iadd hx hb dX7_setBy_161 ?_
                            refine lv_iload hx hb dX7_setBy_162 (lv_at hl 0 rfl) ?_
                            refine lv_iload_n hx hb dX7_setBy_164 rfl (lv_at hl 7 rfl) ?_
                            refine lv_iload hx hb dX7_setBy_165 (lv_at hl 1 rfl) ?_
                            refine lv_isub hx hb dX7_setBy_167 ?_
                            refine lv_sipush (v := 1440) hx hb dX7_setBy_168 (by decide) ?_
                            refine lv_aload_n hx hb dX7_setBy_171 rfl (lv_at hl 4 rfl) ?_
                            refine g_get KX hh in_X7_setBy_X7 0 rfl rfl 2 (by decide) rfl (List.mem_of_getElem? (i := 1) rfl) dX7_setBy_172 ?_
                            refine lv_bipush (v := 6) hx hb dX7_setBy_175 (by decide) ?_
                            refine lv_iload_n hx hb dX7_setBy_177 rfl (lv_at hl 5 rfl) ?_
                            refine lv_imul hx hb dX7_setBy_178 ?_
                            refine lv_iconst (v := 4) hx hb dX7_setBy_179 (by decide) ?_
                            refine lv_iadd hx hb dX7_setBy_180 ?_
                            refine g_iald KX hh 1 0 rfl rfl (ix6 4 (by omega) (by omega) (by decide)) dX7_setBy_181 ?_
                            refine lv_iadd hx hb dX7_setBy_182 ?_
                            refine lv_imul hx hb dX7_setBy_183 ?_
                            refine lv_iadd hx hb dX7_setBy_184 ?_
                            refine lv_aload_n hx hb dX7_setBy_185 rfl (lv_at hl 4 rfl) ?_
                            refine g_get KX hh in_X7_setBy_X7 0 rfl rfl 2 (by decide) rfl (List.mem_of_getElem? (i := 1) rfl) dX7_setBy_186 ?_
                            refine lv_bipush (v := 6) hx hb dX7_setBy_189 (by decide) ?_
                            refine lv_iload_n hx hb dX7_setBy_191 rfl (lv_at hl 5 rfl) ?_
                            refine lv_imul hx hb dX7_setBy_192 ?_
                            refine lv_iconst (v := 5) hx hb dX7_setBy_193 (by decide) ?_
                            refine lv_iadd hx hb dX7_setBy_194 ?_
                            refine g_iald KX hh 1 0 rfl rfl (ix6 5 (by omega) (by omega) (by decide)) dX7_setBy_195 ?_
                            refine g_callS (As := [.int ((F_X7_rest (F_X7_hand m_clock x2 x7_1 (m_clock ((6 * x2) + 3).toNatClampNeg)) 1036800) + ((x3 - x7_1) * (1440 + (m_clock ((6 * x1) + 3).toNatClampNeg)))), .int ((F_X7_rest (F_X7_hand m_clock x2 x7_1 (m_clock ((6 * x2) + 3).toNatClampNeg)) 1036800) + ((x3 - x7_1) * (1440 + (m_clock ((6 * x1) + 4).toNatClampNeg)))), .int (m_clock ((6 * x1) + 5).toNatClampNeg)]) (rest := []) KX rfl ⟨Nat.le_of_ble_eq_true rfl, Nat.le_of_ble_eq_true rfl⟩ hh hl (c_X7_isBetween l D cI cZ cC cH  ((F_X7_rest (F_X7_hand m_clock x2 x7_1 (m_clock ((6 * x2) + 3).toNatClampNeg)) 1036800) + ((x3 - x7_1) * (1440 + (m_clock ((6 * x1) + 3).toNatClampNeg)))) ((F_X7_rest (F_X7_hand m_clock x2 x7_1 (m_clock ((6 * x2) + 3).toNatClampNeg)) 1036800) + ((x3 - x7_1) * (1440 + (m_clock ((6 * x1) + 4).toNatClampNeg)))) (m_clock ((6 * x1) + 5).toNatClampNeg) ) JN.no 3 gX7_setBy_X7_isBetween rfl (by decide +kernel) ⟨Nat.le_of_ble_eq_true rfl, Nat.le_of_ble_eq_true rfl⟩ rfl rfl (Nat.le_of_ble_eq_true rfl) dX7_setBy_196 (fun H locs hh => ?_)
                            refine W.eq (g2 := F0 m 199 ls [.int (F_X7_isBetween ((F_X7_rest (F_X7_hand m_clock x2 x7_1 (m_clock ((6 * x2) + 3).toNatClampNeg)) 1036800) + ((x3 - x7_1) * (1440 + (m_clock ((6 * x1) + 3).toNatClampNeg)))) ((F_X7_rest (F_X7_hand m_clock x2 x7_1 (m_clock ((6 * x2) + 3).toNatClampNeg)) 1036800) + ((x3 - x7_1) * (1440 + (m_clock ((6 * x1) + 4).toNatClampNeg)))) (m_clock ((6 * x1) + 5).toNatClampNeg))]) rfl ?_
                            refine lv_if_eq (tgt := 219) hx hb dX7_setBy_199 (by decide) (fun c_199 => ?_) (fun c_199 => ?_)
                            · replace hF := hF.trans (if_pos c_199)
                              refine lv_iinc (v := x7_1 + 1) (lv' := [(7, .int (x7_1 + 1)), (8, .int (F_X7_rest (F_X7_hand m_clock x2 x7_1 (m_clock ((6 * x2) + 3).toNatClampNeg)) 1036800)), (6, .int x6_2), (5, .int x5_3), (0, .ref o), (1, .int x1), (2, .int x2), (3, .int x3), (4, .int x4)]) hx hb dX7_setBy_219 hl (k := 1) rfl rfl (Nat.le_of_ble_eq_true rfl) rfl (fun ls hl => ?_)
                              refine lv_goto (tgt := 100) hx hb dX7_setBy_222 (by decide) ?_
                              have e_inc : (x7_1 + 1).toInt = _ := ti_inc (by omega)
                              exact ih_100 (x7_1 + 1) x6_2 x5_3 (by first | with_reducible assumption | omega | decide) (by first | with_reducible assumption | omega | decide) (by omega) hF _ _ _ hh (lv_sub hl [0, 2, 3, 4, 5, 6, 7, 8] rfl)
                            · replace hF := hF.trans (if_neg c_199)
                              refine lv_iload hx hb dX7_setBy_202 (lv_at hl 3 rfl) ?_
                              refine lv_if_ne (tgt := 212) hx hb dX7_setBy_204 (by decide) (fun c_204 => ?_) (fun c_204 => ?_)
                              · replace hF := hF.trans (if_neg c_204)
                                have i_204 : ¬ x5_3.toInt = 0 := ti_ne c_204
                                refine lv_iload hx hb dX7_setBy_212 (lv_at hl 2 rfl) ?_
                                refine lv_istore (lv' := [(6, .int x6_2), (8, .int (F_X7_rest (F_X7_hand m_clock x2 x7_1 (m_clock ((6 * x2) + 3).toNatClampNeg)) 1036800)), (7, .int x7_1), (5, .int x5_3), (0, .ref o), (1, .int x1), (2, .int x2), (3, .int x3), (4, .int x4)]) hx hb dX7_setBy_214 hl (Nat.le_of_ble_eq_true rfl) rfl (fun ls hl => ?_)
                                refine lv_iinc (v := x5_3 + 1) (lv' := [(5, .int (x5_3 + 1)), (6, .int x6_2), (8, .int (F_X7_rest (F_X7_hand m_clock x2 x7_1 (m_clock ((6 * x2) + 3).toNatClampNeg)) 1036800)), (7, .int x7_1), (0, .ref o), (1, .int x1), (2, .int x2), (3, .int x3), (4, .int x4)]) hx hb dX7_setBy_216 hl (k := 3) rfl rfl (Nat.le_of_ble_eq_true rfl) rfl (fun ls hl => ?_)
                                refine lv_iinc (v := x7_1 + 1) (lv' := [(7, .int (x7_1 + 1)), (5, .int (x5_3 + 1)), (6, .int x6_2), (8, .int (F_X7_rest (F_X7_hand m_clock x2 x7_1 (m_clock ((6 * x2) + 3).toNatClampNeg)) 1036800)), (0, .ref o), (1, .int x1), (2, .int x2), (3, .int x3), (4, .int x4)]) hx hb dX7_setBy_219 hl (k := 3) rfl rfl (Nat.le_of_ble_eq_true rfl) rfl (fun ls hl => ?_)
                                refine lv_goto (tgt := 100) hx hb dX7_setBy_222 (by decide) ?_
                                have e_inc : (x7_1 + 1).toInt = _ := ti_inc (by omega)
                                exact ih_100 (x7_1 + 1) x6_2 (x5_3 + 1) (by first | with_reducible assumption | omega | decide) (by first | with_reducible assumption | omega | decide) (by omega) hF _ _ _ hh (lv_sub hl [0, 2, 1, 4, 5, 6, 7, 8] rfl)
                              · replace hF := hF.trans (if_pos c_204)
                                have i_204 : x5_3.toInt = 0 := congrArg Int32.toInt c_204
                                refine lv_iload hx hb dX7_setBy_207 (lv_at hl 1 rfl) ?_
                                refine lv_goto (tgt := 214) hx hb dX7_setBy_209 (by decide) ?_
                                refine lv_istore (lv' := [(6, .int x7_1), (8, .int (F_X7_rest (F_X7_hand m_clock x2 x7_1 (m_clock ((6 * x2) + 3).toNatClampNeg)) 1036800)), (7, .int x7_1), (5, .int x5_3), (0, .ref o), (1, .int x1), (2, .int x2), (3, .int x3), (4, .int x4)]) hx hb dX7_setBy_214 hl (Nat.le_of_ble_eq_true rfl) rfl (fun ls hl => ?_)
                                refine lv_iinc (v := x5_3 + 1) (lv' := [(5, .int (x5_3 + 1)), (6, .int x7_1), (8, .int (F_X7_rest (F_X7_hand m_clock x2 x7_1 (m_clock ((6 * x2) + 3).toNatClampNeg)) 1036800)), (7, .int x7_1), (0, .ref o), (1, .int x1), (2, .int x2), (3, .int x3), (4, .int x4)]) hx hb dX7_setBy_216 hl (k := 3) rfl rfl (Nat.le_of_ble_eq_true rfl) rfl (fun ls hl => ?_)
                                refine lv_iinc (v := x7_1 + 1) (lv' := [(7, .int (x7_1 + 1)), (5, .int (x5_3 + 1)), (6, .int x7_1), (8, .int (F_X7_rest (F_X7_hand m_clock x2 x7_1 (m_clock ((6 * x2) + 3).toNatClampNeg)) 1036800)), (0, .ref o), (1, .int x1), (2, .int x2), (3, .int x3), (4, .int x4)]) hx hb dX7_setBy_219 hl (k := 3) rfl rfl (Nat.le_of_ble_eq_true rfl) rfl (fun ls hl => ?_)
                                refine lv_goto (tgt := 100) hx hb dX7_setBy_222 (by decide) ?_
                                have e_inc : (x7_1 + 1).toInt = _ := ti_inc (by omega)
                                exact ih_100 (x7_1 + 1) x7_1 (x5_3 + 1) (by first | with_reducible assumption | omega | decide) (by first | with_reducible assumption | omega | decide) (by omega) hF _ _ _ hh (lv_sub hl [0, 2, 1, 4, 5, 6, 7, 8] rfl)
                    exact L_100 4321 0 (-1) 0 (by first | with_reducible assumption | omega | decide) (by first | with_reducible assumption | omega | decide) (by have e0 : (0 : Int32).toInt = 0 := rfl; omega) hF _ _ _ hh (lv_sub hl [0, 1, 2, 3, 4, 5, 6, 7] rfl)
                  · replace hF := hF.trans (if_pos c_85)
                    refine lv_bipush (v := (-4)) hx hb dX7_setBy_88 (by decide) ?_
                    exact RT _ _ _ _ _ _ hh (rfl) (Or.inl ⟨_, rfl, by rw [hF], dX7_setBy_90, Or.inl rfl⟩)
          · replace hF := hF.trans (if_pos c_38)
            refine lv_bipush (v := (-3)) hx hb dX7_setBy_41 (by decide) ?_
            exact RT _ _ _ _ _ _ hh (rfl) (Or.inl ⟨_, rfl, by rw [hF], dX7_setBy_43, Or.inl rfl⟩)
    · replace hF := hF.trans (if_pos c_13)
      refine lv_bipush (v := (-2)) hx hb dX7_setBy_16 (by decide) ?_
      exact RT _ _ _ _ _ _ hh (rfl) (Or.inl ⟨_, rfl, by rw [hF], dX7_setBy_18, Or.inl rfl⟩)
def F_X7_toWhole_37  (y0_1 : Int32) : Int32 := F_X7_rest y0_1 1440
def F_X7_toWhole (m_clock : Nat → Int32) (x1 : Int32) (x2 : Int32) : Int32 := (if (m_clock (6 * x1).toNatClampNeg) = 1 then (F_X7_toWhole_37 (F_X7_hand m_clock x1 x2 (m_clock ((6 * x1) + 3).toNatClampNeg))) else (F_X7_toWhole_37 (-(F_X7_hand m_clock x1 x2 (m_clock ((6 * x1) + 3).toNatClampNeg)))))
theorem in_X7_toWhole_X7 : ∀ x ∈ u_ws RX7 TX7 26, x ∈ wsX7_toWhole := by decide +kernel
set_option maxHeartbeats 2000000 in
set_option maxRecDepth 100000 in
theorem c_X7_toWhole (l : Launch) (D : va_G) (cI cZ cC cH : ClassId) (o a_clock a_note a_text a_read a_fit a_shown a_image a_isKept a_row a_best : Nat) (m_told : Int32) (m_isRead1 : Int32) (m_clock : Nat → Int32) (m_note : Nat → Int32) (m_noted : Int32) (m_bytes : Int32) (m_text : Nat → Int32) (m_position : Int32) (m_tokenAt : Int32) (m_token : Int64) (m_digits : Int32) (m_number : Int32) (m_faultAt : Int32) (m_readMany : Int32) (m_readTold : Int32) (m_read : Nat → Int32) (m_fit : Nat → Int32) (m_shown : Nat → Int32) (m_image : Nat → Int32) (m_isKept : Nat → Int32) (m_row : Nat → Int32) (m_best : Nat → Int32) (m_againAt : Int32) (m_againStep : Int32) (m_orderMany : Int32) (m_orderLeast : Int32) (x1 : Int32) (x2 : Int32) (hk0 : 0 ≤ x1.toInt) (hk1 : x1.toInt < 8) : MC l D (TY cI cZ cC cH) yX7_toWhole wsX7_toWhole 1 24 [.ref o, .int x1, .int x2] (WM cI cZ cC cH o a_clock a_note a_text a_read a_fit a_shown a_image a_isKept a_row a_best m_told m_isRead1 m_clock m_note m_noted m_bytes m_text m_position m_tokenAt m_token m_digits m_number m_faultAt m_readMany m_readTold m_read m_fit m_shown m_image m_isKept m_row m_best m_againAt m_againStep m_orderMany m_orderLeast) (some (.int (F_X7_toWhole m_clock x1 x2))) (WM cI cZ cC cH o a_clock a_note a_text a_read a_fit a_shown a_image a_isKept a_row a_best m_told m_isRead1 m_clock m_note m_noted m_bytes m_text m_position m_tokenAt m_token m_digits m_number m_faultAt m_readMany m_readTold m_read m_fit m_shown m_image m_isKept m_row m_best m_againAt m_againStep m_orderMany m_orderLeast) := by
  obtain ⟨R, hF⟩ : ∃ R, R = F_X7_toWhole m_clock x1 x2 := ⟨_, rfl⟩
  rw [← hF]
  refine MC.of (cc := cX7_toWhole) (maxL := 4) (ret := (some .int)) RX7 rfl (by decide +kernel) rfl (Nat.le_of_ble_eq_true rfl) ?_
  intro p e s m args below meth c A Q KX RT hh ls hl
  have z0 : (0 : Int32).toInt = 0 := rfl
  have z1 : (1 : Int32).toInt = 1 := rfl
  have zm : (-1 : Int32).toInt = -1 := rfl
  have hx := KX.1
  have hb := KX.2.1
  have hl : lv_has ls 4 [(0, .ref o), (1, .int x1), (2, .int x2)] := hl
  unfold F_X7_toWhole at hF
  refine lv_aload_n hx hb dX7_toWhole_0 rfl (lv_at hl 0 rfl) ?_
  refine lv_iload_n hx hb dX7_toWhole_1 rfl (lv_at hl 1 rfl) ?_
  refine lv_iload_n hx hb dX7_toWhole_2 rfl (lv_at hl 2 rfl) ?_
  refine lv_aload_n hx hb dX7_toWhole_3 rfl (lv_at hl 0 rfl) ?_
  refine g_get KX hh in_X7_toWhole_X7 0 rfl rfl 2 (by decide) rfl (List.mem_of_getElem? (i := 1) rfl) dX7_toWhole_4 ?_
  refine lv_bipush (v := 6) hx hb dX7_toWhole_7 (by decide) ?_
  refine lv_iload_n hx hb dX7_toWhole_9 rfl (lv_at hl 1 rfl) ?_
  refine lv_imul hx hb dX7_toWhole_10 ?_
  refine lv_iconst (v := 3) hx hb dX7_toWhole_11 (by decide) ?_
  refine lv_iadd hx hb dX7_toWhole_12 ?_
  refine g_iald KX hh 1 0 rfl rfl (ix6 3 (by omega) (by omega) (by decide)) dX7_toWhole_13 ?_
  refine g_callV (As := [.int x1, .int x2, .int (m_clock ((6 * x1) + 3).toNatClampNeg)]) (rest := []) KX rfl ⟨Nat.le_of_ble_eq_true rfl, Nat.le_of_ble_eq_true rfl⟩ hh hl (c_X7_hand l D cI cZ cC cH o a_clock a_note a_text a_read a_fit a_shown a_image a_isKept a_row a_best m_told m_isRead1 m_clock m_note m_noted m_bytes m_text m_position m_tokenAt m_token m_digits m_number m_faultAt m_readMany m_readTold m_read m_fit m_shown m_image m_isKept m_row m_best m_againAt m_againStep m_orderMany m_orderLeast x1 x2 (m_clock ((6 * x1) + 3).toNatClampNeg) (by first | with_reducible assumption | omega | decide) (by first | with_reducible assumption | omega | decide)) JN.all 3 gX7_toWhole_X7_hand rfl (by decide +kernel) ⟨Nat.le_of_ble_eq_true rfl, Nat.le_of_ble_eq_true rfl⟩ 0 7 rfl rfl rfl rfl rfl (Nat.le_of_ble_eq_true rfl) dX7_toWhole_14 (fun H locs hh => ?_)
  refine W.eq (g2 := F0 m 17 ls [.int (F_X7_hand m_clock x1 x2 (m_clock ((6 * x1) + 3).toNatClampNeg))]) rfl ?_
  refine lv_istore_n (lv' := [(3, .int (F_X7_hand m_clock x1 x2 (m_clock ((6 * x1) + 3).toNatClampNeg))), (0, .ref o), (1, .int x1), (2, .int x2)]) hx hb dX7_toWhole_17 rfl hl (Nat.le_of_ble_eq_true rfl) rfl (fun ls hl => ?_)
  refine lv_aload_n hx hb dX7_toWhole_18 rfl (lv_at hl 1 rfl) ?_
  refine g_get KX hh in_X7_toWhole_X7 0 rfl rfl 2 (by decide) rfl (List.mem_of_getElem? (i := 1) rfl) dX7_toWhole_19 ?_
  refine lv_bipush (v := 6) hx hb dX7_toWhole_22 (by decide) ?_
  refine lv_iload_n hx hb dX7_toWhole_24 rfl (lv_at hl 2 rfl) ?_
  refine lv_imul hx hb dX7_toWhole_25 ?_
  refine g_iald KX hh 1 0 rfl rfl (ix60 (by omega) (by omega)) dX7_toWhole_26 ?_
  refine lv_iconst (v := 1) hx hb dX7_toWhole_27 (by decide) ?_
  have K_37 : ∀ (y0_1 : Int32) (_ : R = (F_X7_toWhole_37) y0_1) (ls : Array Slot) (H : Heap) (locs : List Loc) (_ : HS D A s.heap (WM cI cZ cC cH o a_clock a_note a_text a_read a_fit a_shown a_image a_isKept a_row a_best m_told m_isRead1 m_clock m_note m_noted m_bytes m_text m_position m_tokenAt m_token m_digits m_number m_faultAt m_readMany m_readTold m_read m_fit m_shown m_image m_isKept m_row m_best m_againAt m_againStep m_orderMany m_orderLeast) H locs) (_ : lv_has ls 4 [(3, .int (F_X7_hand m_clock x1 x2 (m_clock ((6 * x1) + 3).toNatClampNeg))), (0, .ref o), (1, .int x1), (2, .int x2)]), W p l e { frames := 1, cells := 0, slots := 0, locals := 24 } s m args below meth c H locs 0 0 Q (F0 m 37 ls [.int y0_1]) := by
    intro y0_1 hF ls H locs hh hl
    unfold F_X7_toWhole_37 at hF
    refine lv_sipush (v := 1440) hx hb dX7_toWhole_37 (by decide) ?_
    refine g_callS (As := [.int y0_1, .int 1440]) (rest := []) KX rfl ⟨Nat.le_of_ble_eq_true rfl, Nat.le_of_ble_eq_true rfl⟩ hh hl (c_X7_rest l D cI cZ cC cH  y0_1 1440 (by first | with_reducible assumption | omega | decide)) JN.no 2 gX7_toWhole_X7_rest rfl (by decide +kernel) ⟨Nat.le_of_ble_eq_true rfl, Nat.le_of_ble_eq_true rfl⟩ rfl rfl (Nat.le_of_ble_eq_true rfl) dX7_toWhole_40 (fun H locs hh => ?_)
    refine W.eq (g2 := F0 m 43 ls [.int (F_X7_rest y0_1 1440)]) rfl ?_
    exact RT _ _ _ _ _ _ hh (rfl) (Or.inl ⟨_, rfl, by rw [hF], dX7_toWhole_43, Or.inl rfl⟩)
  refine lv_icmp_ne (tgt := 35) hx hb dX7_toWhole_28 (by decide) (fun c_28 => ?_) (fun c_28 => ?_)
  · replace hF := hF.trans (if_neg c_28)
    refine lv_iload_n hx hb dX7_toWhole_35 rfl (lv_at hl 0 rfl) ?_
    refine lv_ineg hx hb dX7_toWhole_36 ?_
    exact K_37 (-(F_X7_hand m_clock x1 x2 (m_clock ((6 * x1) + 3).toNatClampNeg)))  hF _ _ _ hh (lv_sub hl [0, 1, 2, 3] rfl)
  · replace hF := hF.trans (if_pos c_28)
    refine lv_iload_n hx hb dX7_toWhole_31 rfl (lv_at hl 0 rfl) ?_
    refine lv_goto (tgt := 37) hx hb dX7_toWhole_32 (by decide) ?_
    exact K_37 (F_X7_hand m_clock x1 x2 (m_clock ((6 * x1) + 3).toNatClampNeg))  hF _ _ _ hh (lv_sub hl [0, 1, 2, 3] rfl)
theorem rem_abs64 {a b : Int64} (hb : ¬ b = 0) : (a - a / b * b).toInt.natAbs < b.toInt.natAbs := by
  have hb' : b.toInt ≠ 0 := fun e => hb (Int64.toInt_inj.mp (e.trans rfl))
  have h1 := Int64.le_toInt a
  have h2 := Int64.toInt_lt a
  have h3 := Int64.le_toInt b
  have h4 := Int64.toInt_lt b
  have key : a.toInt.tmod b.toInt = a.toInt - a.toInt.tdiv b.toInt * b.toInt := by rw [Int.tmod_def, Int.mul_comm]
  have hn : (a.toInt.tmod b.toInt).natAbs < b.toInt.natAbs := by rw [Int.natAbs_tmod]; exact Nat.mod_lt _ (by omega)
  have e : (a - a / b * b).toInt = a.toInt.tmod b.toInt := by
    rw [Int64.toInt_sub, Int64.toInt_mul, Int64.toInt_div, key]
    rw [Int.bmod_mul_bmod, Int.sub_bmod_bmod, ← key]
    exact Int.bmod_eq_of_le (by omega) (by omega)
  rw [e]; exact hn
