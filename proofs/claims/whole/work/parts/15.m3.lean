theorem ix3 {k c : Int32} (n : Int) (h0 : 0 ≤ k.toInt) (h1 : k.toInt < 12) (hc : c.toInt = n) (g0 : 0 ≤ n) (g1 : n < 3) : vp_in (3 * k + c) 36 := by
  have e1 := ti_mulc k 3 3 rfl (by omega) (by omega)
  refine vp_in_iff.mpr ?_
  rw [ti_addc (3 * k) c n hc (by omega) (by omega), e1]
  omega
theorem ix30 {k : Int32} (h0 : 0 ≤ k.toInt) (h1 : k.toInt < 12) : vp_in (3 * k) 36 := by
  have e1 := ti_mulc k 3 3 rfl (by omega) (by omega)
  exact vp_in_iff.mpr (by omega)
def F_X7_note (m_told : Int32) (m_note : Nat → Int32) (m_noted : Int32) (x1 : Int32) (x2 : Int32) (x3 : Int32) : Int32 × (Nat → Int32) × Int32 := (if (F_X7_isClock m_told x1) = 0 then ((-2), m_note, m_noted) else (if (F_X7_isMinute x2) = 0 then ((-3), m_note, m_noted) else (if (F_X7_in x3 0 719) = 0 then ((-3), m_note, m_noted) else (if m_noted = 12 then ((-5), m_note, m_noted) else (m_noted + 1, upd (upd (upd m_note (3 * m_noted).toNatClampNeg x1) ((3 * m_noted) + 1).toNatClampNeg x2) ((3 * m_noted) + 2).toNatClampNeg x3, m_noted + 1)))))
theorem in_X7_note_X7 : ∀ x ∈ u_ws RX7 TX7 26, x ∈ wsX7_note := by decide +kernel
set_option maxHeartbeats 2000000 in
set_option maxRecDepth 100000 in
theorem c_X7_note (l : Launch) (D : va_G) (cI cZ cC cH : ClassId) (o a_clock a_note a_text a_read a_fit a_shown a_image a_isKept a_row a_best : Nat) (m_told : Int32) (m_isRead1 : Int32) (m_clock : Nat → Int32) (m_note : Nat → Int32) (m_noted : Int32) (m_bytes : Int32) (m_text : Nat → Int32) (m_position : Int32) (m_tokenAt : Int32) (m_token : Int64) (m_digits : Int32) (m_number : Int32) (m_faultAt : Int32) (m_readMany : Int32) (m_readTold : Int32) (m_read : Nat → Int32) (m_fit : Nat → Int32) (m_shown : Nat → Int32) (m_image : Nat → Int32) (m_isKept : Nat → Int32) (m_row : Nat → Int32) (m_best : Nat → Int32) (m_againAt : Int32) (m_againStep : Int32) (m_orderMany : Int32) (m_orderLeast : Int32) (x1 : Int32) (x2 : Int32) (x3 : Int32) (hn0 : 0 ≤ m_noted.toInt) (hn1 : m_noted.toInt ≤ 12) : MC l D (TY cI cZ cC cH) yX7_note wsX7_note 2 43 [.ref o, .int x1, .int x2, .int x3] (WM cI cZ cC cH o a_clock a_note a_text a_read a_fit a_shown a_image a_isKept a_row a_best m_told m_isRead1 m_clock m_note m_noted m_bytes m_text m_position m_tokenAt m_token m_digits m_number m_faultAt m_readMany m_readTold m_read m_fit m_shown m_image m_isKept m_row m_best m_againAt m_againStep m_orderMany m_orderLeast) (some (.int ((F_X7_note m_told m_note m_noted x1 x2 x3).1))) (WM cI cZ cC cH o a_clock a_note a_text a_read a_fit a_shown a_image a_isKept a_row a_best m_told m_isRead1 m_clock (F_X7_note m_told m_note m_noted x1 x2 x3).2.1 (F_X7_note m_told m_note m_noted x1 x2 x3).2.2 m_bytes m_text m_position m_tokenAt m_token m_digits m_number m_faultAt m_readMany m_readTold m_read m_fit m_shown m_image m_isKept m_row m_best m_againAt m_againStep m_orderMany m_orderLeast) := by
  obtain ⟨R, hF⟩ : ∃ R, R = F_X7_note m_told m_note m_noted x1 x2 x3 := ⟨_, rfl⟩
  rw [← hF]
  refine MC.of (cc := cX7_note) (maxL := 4) (ret := (some .int)) RX7 rfl (by decide +kernel) rfl (Nat.le_of_ble_eq_true rfl) ?_
  intro p e s m args below meth c A Q KX RT hh ls hl
  have z0 : (0 : Int32).toInt = 0 := rfl
  have z1 : (1 : Int32).toInt = 1 := rfl
  have zm : (-1 : Int32).toInt = -1 := rfl
  have hx := KX.1
  have hb := KX.2.1
  have hl : lv_has ls 4 [(0, .ref o), (1, .int x1), (2, .int x2), (3, .int x3)] := hl
  unfold F_X7_note at hF
  refine lv_aload_n hx hb dX7_note_0 rfl (lv_at hl 0 rfl) ?_
  refine lv_iload_n hx hb dX7_note_1 rfl (lv_at hl 1 rfl) ?_
  refine g_callV (As := [.int x1]) (rest := []) KX rfl ⟨Nat.le_of_ble_eq_true rfl, Nat.le_of_ble_eq_true rfl⟩ hh hl (c_X7_isClock l D cI cZ cC cH o a_clock a_note a_text a_read a_fit a_shown a_image a_isKept a_row a_best m_told m_isRead1 m_clock m_note m_noted m_bytes m_text m_position m_tokenAt m_token m_digits m_number m_faultAt m_readMany m_readTold m_read m_fit m_shown m_image m_isKept m_row m_best m_againAt m_againStep m_orderMany m_orderLeast x1 ) JN.all 1 gX7_note_X7_isClock rfl (by decide +kernel) ⟨Nat.le_of_ble_eq_true rfl, Nat.le_of_ble_eq_true rfl⟩ 0 7 rfl rfl rfl rfl rfl (Nat.le_of_ble_eq_true rfl) dX7_note_2 (fun H locs hh => ?_)
  refine W.eq (g2 := F0 m 5 ls [.int (F_X7_isClock m_told x1)]) rfl ?_
  refine lv_if_ne (tgt := 11) hx hb dX7_note_5 (by decide) (fun c_5 => ?_) (fun c_5 => ?_)
  · replace hF := hF.trans (if_neg c_5)
    obtain ⟨k0_5, k1_5⟩ := X7_isClock_in c_5
    refine lv_iload_n hx hb dX7_note_11 rfl (lv_at hl 2 rfl) ?_
    refine g_callS (As := [.int x2]) (rest := []) KX rfl ⟨Nat.le_of_ble_eq_true rfl, Nat.le_of_ble_eq_true rfl⟩ hh hl (c_X7_isMinute l D cI cZ cC cH  x2 ) JN.no 1 gX7_note_X7_isMinute rfl (by decide +kernel) ⟨Nat.le_of_ble_eq_true rfl, Nat.le_of_ble_eq_true rfl⟩ rfl rfl (Nat.le_of_ble_eq_true rfl) dX7_note_12 (fun H locs hh => ?_)
    refine W.eq (g2 := F0 m 15 ls [.int (F_X7_isMinute x2)]) rfl ?_
    refine lv_if_eq (tgt := 29) hx hb dX7_note_15 (by decide) (fun c_15 => ?_) (fun c_15 => ?_)
    · replace hF := hF.trans (if_pos c_15)
      refine lv_bipush (v := (-3)) hx hb dX7_note_29 (by decide) ?_
      exact RT _ _ _ _ _ _ hh (by rw [hF]) (Or.inl ⟨_, rfl, by rw [hF], dX7_note_31, Or.inl rfl⟩)
    · replace hF := hF.trans (if_neg c_15)
      obtain ⟨k0_15, k1_15⟩ := X7_isMinute_in c_15
      refine lv_iload_n hx hb dX7_note_18 rfl (lv_at hl 3 rfl) ?_
      refine lv_iconst (v := 0) hx hb dX7_note_19 (by decide) ?_
      refine lv_sipush (v := 719) hx hb dX7_note_20 (by decide) ?_
      refine g_callS (As := [.int x3, .int 0, .int 719]) (rest := []) KX rfl ⟨Nat.le_of_ble_eq_true rfl, Nat.le_of_ble_eq_true rfl⟩ hh hl (c_X7_in l D cI cZ cC cH  x3 0 719 ) JN.no 3 gX7_note_X7_in rfl (by decide +kernel) ⟨Nat.le_of_ble_eq_true rfl, Nat.le_of_ble_eq_true rfl⟩ rfl rfl (Nat.le_of_ble_eq_true rfl) dX7_note_23 (fun H locs hh => ?_)
      refine W.eq (g2 := F0 m 26 ls [.int (F_X7_in x3 0 719)]) rfl ?_
      refine lv_if_ne (tgt := 32) hx hb dX7_note_26 (by decide) (fun c_26 => ?_) (fun c_26 => ?_)
      · replace hF := hF.trans (if_neg c_26)
        obtain ⟨k0_26, k1_26⟩ : (0 : Int) ≤ x3.toInt ∧ x3.toInt ≤ 719 := X7_in_in c_26
        refine lv_aload_n hx hb dX7_note_32 rfl (lv_at hl 0 rfl) ?_
        refine g_get KX hh in_X7_note_X7 0 rfl rfl 4 (by decide) rfl (List.mem_of_getElem? (i := 1) rfl) dX7_note_33 ?_
        refine lv_bipush (v := 12) hx hb dX7_note_36 (by decide) ?_
        refine lv_icmp_ne (tgt := 44) hx hb dX7_note_38 (by decide) (fun c_38 => ?_) (fun c_38 => ?_)
        · replace hF := hF.trans (if_neg c_38)
          have i_38 : ¬ m_noted.toInt = 12 := ti_ne c_38
          refine lv_aload_n hx hb dX7_note_44 rfl (lv_at hl 0 rfl) ?_
          refine g_get KX hh in_X7_note_X7 0 rfl rfl 3 (by decide) rfl (List.mem_of_getElem? (i := 2) rfl) dX7_note_45 ?_
          refine lv_iconst (v := 3) hx hb dX7_note_48 (by decide) ?_
          refine lv_aload_n hx hb dX7_note_49 rfl (lv_at hl 0 rfl) ?_
          refine g_get KX hh in_X7_note_X7 0 rfl rfl 4 (by decide) rfl (List.mem_of_getElem? (i := 1) rfl) dX7_note_50 ?_
          refine lv_imul hx hb dX7_note_53 ?_
          refine lv_iload_n hx hb dX7_note_54 rfl (lv_at hl 1 rfl) ?_
          refine g_iast KX hh 2 0 rfl rfl (ix30 (by omega) (by omega)) (w' := (WM cI cZ cC cH o a_clock a_note a_text a_read a_fit a_shown a_image a_isKept a_row a_best m_told m_isRead1 m_clock (upd m_note (3 * m_noted).toNatClampNeg x1) m_noted m_bytes m_text m_position m_tokenAt m_token m_digits m_number m_faultAt m_readMany m_readTold m_read m_fit m_shown m_image m_isKept m_row m_best m_againAt m_againStep m_orderMany m_orderLeast)) rfl dX7_note_55 (fun H locs hh => ?_)
          refine lv_aload_n hx hb dX7_note_56 rfl (lv_at hl 0 rfl) ?_
          refine g_get KX hh in_X7_note_X7 0 rfl rfl 3 (by decide) rfl (List.mem_of_getElem? (i := 2) rfl) dX7_note_57 ?_
          refine lv_iconst (v := 3) hx hb dX7_note_60 (by decide) ?_
          refine lv_aload_n hx hb dX7_note_61 rfl (lv_at hl 0 rfl) ?_
          refine g_get KX hh in_X7_note_X7 0 rfl rfl 4 (by decide) rfl (List.mem_of_getElem? (i := 1) rfl) dX7_note_62 ?_
          refine lv_imul hx hb dX7_note_65 ?_
          refine lv_iconst (v := 1) hx hb dX7_note_66 (by decide) ?_
          refine lv_iadd hx hb dX7_note_67 ?_
          refine lv_iload_n hx hb dX7_note_68 rfl (lv_at hl 2 rfl) ?_
          refine g_iast KX hh 2 0 rfl rfl (ix3 1 (by omega) (by omega) rfl (by decide) (by decide)) (w' := (WM cI cZ cC cH o a_clock a_note a_text a_read a_fit a_shown a_image a_isKept a_row a_best m_told m_isRead1 m_clock (upd (upd m_note (3 * m_noted).toNatClampNeg x1) ((3 * m_noted) + 1).toNatClampNeg x2) m_noted m_bytes m_text m_position m_tokenAt m_token m_digits m_number m_faultAt m_readMany m_readTold m_read m_fit m_shown m_image m_isKept m_row m_best m_againAt m_againStep m_orderMany m_orderLeast)) rfl dX7_note_69 (fun H locs hh => ?_)
          refine lv_aload_n hx hb dX7_note_70 rfl (lv_at hl 0 rfl) ?_
          refine g_get KX hh in_X7_note_X7 0 rfl rfl 3 (by decide) rfl (List.mem_of_getElem? (i := 2) rfl) dX7_note_71 ?_
          refine lv_iconst (v := 3) hx hb dX7_note_74 (by decide) ?_
          refine lv_aload_n hx hb dX7_note_75 rfl (lv_at hl 0 rfl) ?_
          refine g_get KX hh in_X7_note_X7 0 rfl rfl 4 (by decide) rfl (List.mem_of_getElem? (i := 1) rfl) dX7_note_76 ?_
          refine lv_imul hx hb dX7_note_79 ?_
          refine lv_iconst (v := 2) hx hb dX7_note_80 (by decide) ?_
          refine lv_iadd hx hb dX7_note_81 ?_
          refine lv_iload_n hx hb dX7_note_82 rfl (lv_at hl 3 rfl) ?_
          refine g_iast KX hh 2 0 rfl rfl (ix3 2 (by omega) (by omega) rfl (by decide) (by decide)) (w' := (WM cI cZ cC cH o a_clock a_note a_text a_read a_fit a_shown a_image a_isKept a_row a_best m_told m_isRead1 m_clock (upd (upd (upd m_note (3 * m_noted).toNatClampNeg x1) ((3 * m_noted) + 1).toNatClampNeg x2) ((3 * m_noted) + 2).toNatClampNeg x3) m_noted m_bytes m_text m_position m_tokenAt m_token m_digits m_number m_faultAt m_readMany m_readTold m_read m_fit m_shown m_image m_isKept m_row m_best m_againAt m_againStep m_orderMany m_orderLeast)) rfl dX7_note_83 (fun H locs hh => ?_)
          refine lv_aload_n hx hb dX7_note_84 rfl (lv_at hl 0 rfl) ?_
          refine lv_dup hx hb dX7_note_85 rfl ?_
          refine g_get KX hh in_X7_note_X7 0 rfl rfl 4 (by decide) rfl (List.mem_of_getElem? (i := 1) rfl) dX7_note_86 ?_
          refine lv_iconst (v := 1) hx hb dX7_note_89 (by decide) ?_
          refine lv_iadd hx hb dX7_note_90 ?_
          refine g_put KX hh in_X7_note_X7 tyX7 tyX7_ok nmX7 0 rfl rfl 4 (by decide) rfl rfl rfl (Nat.le_of_ble_eq_true rfl) (List.mem_of_getElem? (i := 1) rfl) (w' := (WM cI cZ cC cH o a_clock a_note a_text a_read a_fit a_shown a_image a_isKept a_row a_best m_told m_isRead1 m_clock (upd (upd (upd m_note (3 * m_noted).toNatClampNeg x1) ((3 * m_noted) + 1).toNatClampNeg x2) ((3 * m_noted) + 2).toNatClampNeg x3) (m_noted + 1) m_bytes m_text m_position m_tokenAt m_token m_digits m_number m_faultAt m_readMany m_readTold m_read m_fit m_shown m_image m_isKept m_row m_best m_againAt m_againStep m_orderMany m_orderLeast)) rfl rfl dX7_note_91 (fun H locs hh => ?_)
          refine lv_aload_n hx hb dX7_note_94 rfl (lv_at hl 0 rfl) ?_
          refine g_get KX hh in_X7_note_X7 0 rfl rfl 4 (by decide) rfl (List.mem_of_getElem? (i := 1) rfl) dX7_note_95 ?_
          exact RT _ _ _ _ _ _ hh (by rw [hF]) (Or.inl ⟨_, rfl, by rw [hF], dX7_note_98, Or.inl rfl⟩)
        · replace hF := hF.trans (if_pos c_38)
          have i_38 : m_noted.toInt = 12 := congrArg Int32.toInt c_38
          refine lv_bipush (v := (-5)) hx hb dX7_note_41 (by decide) ?_
          exact RT _ _ _ _ _ _ hh (by rw [hF]) (Or.inl ⟨_, rfl, by rw [hF], dX7_note_43, Or.inl rfl⟩)
      · replace hF := hF.trans (if_pos c_26)
        refine lv_bipush (v := (-3)) hx hb dX7_note_29 (by decide) ?_
        exact RT _ _ _ _ _ _ hh (by rw [hF]) (Or.inl ⟨_, rfl, by rw [hF], dX7_note_31, Or.inl rfl⟩)
  · replace hF := hF.trans (if_pos c_5)
    refine lv_bipush (v := (-2)) hx hb dX7_note_8 (by decide) ?_
    exact RT _ _ _ _ _ _ hh (by rw [hF]) (Or.inl ⟨_, rfl, by rw [hF], dX7_note_10, Or.inl rfl⟩)
def F_X7_burn (m_noted : Int32) : Int32 × Int32 := (m_noted, 0)
theorem in_X7_burn_X7 : ∀ x ∈ u_ws RX7 TX7 26, x ∈ wsX7_burn := by decide +kernel
set_option maxHeartbeats 2000000 in
set_option maxRecDepth 100000 in
theorem c_X7_burn (l : Launch) (D : va_G) (cI cZ cC cH : ClassId) (o a_clock a_note a_text a_read a_fit a_shown a_image a_isKept a_row a_best : Nat) (m_told : Int32) (m_isRead1 : Int32) (m_clock : Nat → Int32) (m_note : Nat → Int32) (m_noted : Int32) (m_bytes : Int32) (m_text : Nat → Int32) (m_position : Int32) (m_tokenAt : Int32) (m_token : Int64) (m_digits : Int32) (m_number : Int32) (m_faultAt : Int32) (m_readMany : Int32) (m_readTold : Int32) (m_read : Nat → Int32) (m_fit : Nat → Int32) (m_shown : Nat → Int32) (m_image : Nat → Int32) (m_isKept : Nat → Int32) (m_row : Nat → Int32) (m_best : Nat → Int32) (m_againAt : Int32) (m_againStep : Int32) (m_orderMany : Int32) (m_orderLeast : Int32)   : MC l D (TY cI cZ cC cH) yX7_burn wsX7_burn 0 0 [.ref o] (WM cI cZ cC cH o a_clock a_note a_text a_read a_fit a_shown a_image a_isKept a_row a_best m_told m_isRead1 m_clock m_note m_noted m_bytes m_text m_position m_tokenAt m_token m_digits m_number m_faultAt m_readMany m_readTold m_read m_fit m_shown m_image m_isKept m_row m_best m_againAt m_againStep m_orderMany m_orderLeast) (some (.int ((F_X7_burn m_noted).1))) (WM cI cZ cC cH o a_clock a_note a_text a_read a_fit a_shown a_image a_isKept a_row a_best m_told m_isRead1 m_clock m_note (F_X7_burn m_noted).2 m_bytes m_text m_position m_tokenAt m_token m_digits m_number m_faultAt m_readMany m_readTold m_read m_fit m_shown m_image m_isKept m_row m_best m_againAt m_againStep m_orderMany m_orderLeast) := by
  obtain ⟨R, hF⟩ : ∃ R, R = F_X7_burn m_noted := ⟨_, rfl⟩
  rw [← hF]
  refine MC.of (cc := cX7_burn) (maxL := 2) (ret := (some .int)) RX7 rfl (by decide +kernel) rfl (Nat.le_of_ble_eq_true rfl) ?_
  intro p e s m args below meth c A Q KX RT hh ls hl
  have z0 : (0 : Int32).toInt = 0 := rfl
  have z1 : (1 : Int32).toInt = 1 := rfl
  have zm : (-1 : Int32).toInt = -1 := rfl
  have hx := KX.1
  have hb := KX.2.1
  have hl : lv_has ls 2 [(0, .ref o)] := hl
  unfold F_X7_burn at hF
  refine lv_aload_n hx hb dX7_burn_0 rfl (lv_at hl 0 rfl) ?_
  refine g_get KX hh in_X7_burn_X7 0 rfl rfl 4 (by decide) rfl (List.mem_of_getElem? (i := 1) rfl) dX7_burn_1 ?_
  refine lv_istore_n (lv' := [(1, .int m_noted), (0, .ref o)]) hx hb dX7_burn_4 rfl hl (Nat.le_of_ble_eq_true rfl) rfl (fun ls hl => ?_)
  refine lv_aload_n hx hb dX7_burn_5 rfl (lv_at hl 1 rfl) ?_
  refine lv_iconst (v := 0) hx hb dX7_burn_6 (by decide) ?_
  refine g_put KX hh in_X7_burn_X7 tyX7 tyX7_ok nmX7 0 rfl rfl 4 (by decide) rfl rfl rfl (Nat.le_of_ble_eq_true rfl) (List.mem_of_getElem? (i := 1) rfl) (w' := (WM cI cZ cC cH o a_clock a_note a_text a_read a_fit a_shown a_image a_isKept a_row a_best m_told m_isRead1 m_clock m_note 0 m_bytes m_text m_position m_tokenAt m_token m_digits m_number m_faultAt m_readMany m_readTold m_read m_fit m_shown m_image m_isKept m_row m_best m_againAt m_againStep m_orderMany m_orderLeast)) rfl rfl dX7_burn_7 (fun H locs hh => ?_)
  refine lv_iload_n hx hb dX7_burn_10 rfl (lv_at hl 0 rfl) ?_
  exact RT _ _ _ _ _ _ hh (by rw [hF]) (Or.inl ⟨_, rfl, by rw [hF], dX7_burn_11, Or.inl rfl⟩)
def F_X7_isNoted_169 (x6_1 : Int32) (x5_2 : Int32) (k_11 : Int32 → Int32 → Int32 → Int32 → Int32) (y0_7 : Int32) (y0_8 : Int32) (y0_9 : Int32) : Int32 := (if y0_8 ≤ x5_2 then (k_11 (x6_1 + 1) x5_2 y0_9 y0_7) else (k_11 (x6_1 + 1) y0_8 y0_9 y0_7))
def F_X7_isNoted_153 (x6_1 : Int32) (x5_2 : Int32) (x4_3 : Int32) (k_11 : Int32 → Int32 → Int32 → Int32 → Int32) (y0_7 : Int32) (y0_8 : Int32) : Int32 := (if x4_3 ≤ y0_8 then (F_X7_isNoted_169 x6_1 x5_2 k_11 y0_7 y0_8 x4_3) else (F_X7_isNoted_169 x6_1 x5_2 k_11 y0_7 y0_8 y0_8))
def F_X7_isNoted_124 (m_note : Nat → Int32) (x6_1 : Int32) (x5_2 : Int32) (x4_3 : Int32) (k_11 : Int32 → Int32 → Int32 → Int32 → Int32) (y0_6 : Int32) (y0_7 : Int32) : Int32 := (if (F_X7_rest ((F_X7_rest ((1440 * (m_note ((3 * x6_1) + 2).toNatClampNeg)) + y0_6) 1036800) - y0_7) 1036800) ≤ 518400 then (F_X7_isNoted_153 x6_1 x5_2 x4_3 k_11 y0_7 (F_X7_rest ((F_X7_rest ((1440 * (m_note ((3 * x6_1) + 2).toNatClampNeg)) + y0_6) 1036800) - y0_7) 1036800)) else (F_X7_isNoted_153 x6_1 x5_2 x4_3 k_11 y0_7 ((F_X7_rest ((F_X7_rest ((1440 * (m_note ((3 * x6_1) + 2).toNatClampNeg)) + y0_6) 1036800) - y0_7) 1036800) - 1036800)))
def F_X7_isNoted_105 (m_note : Nat → Int32) (x6_1 : Int32) (x5_2 : Int32) (x4_3 : Int32) (x3_4 : Int32) (k_11 : Int32 → Int32 → Int32 → Int32 → Int32) (y0_6 : Int32) : Int32 := (if x3_4 = (-1) then (F_X7_isNoted_124 m_note x6_1 x5_2 x4_3 k_11 y0_6 (F_X7_rest ((1440 * (m_note ((3 * x6_1) + 2).toNatClampNeg)) + y0_6) 1036800)) else (F_X7_isNoted_124 m_note x6_1 x5_2 x4_3 k_11 y0_6 x3_4))
def F_X7_isNoted_66 (m_clock : Nat → Int32) (m_note : Nat → Int32) (x1 : Int32) (x6_1 : Int32) (x5_2 : Int32) (x4_3 : Int32) (x3_4 : Int32) (k_11 : Int32 → Int32 → Int32 → Int32 → Int32) (y0_5 : Int32) : Int32 := (if (m_clock (6 * x1).toNatClampNeg) = 1 then (F_X7_isNoted_105 m_note x6_1 x5_2 x4_3 x3_4 k_11 ((m_note ((3 * x6_1) + 1).toNatClampNeg) * y0_5)) else (F_X7_isNoted_105 m_note x6_1 x5_2 x4_3 x3_4 k_11 (-((m_note ((3 * x6_1) + 1).toNatClampNeg) * y0_5))))
def F_X7_isNoted_11 (m_clock : Nat → Int32) (m_note : Nat → Int32) (m_noted : Int32) (x1 : Int32) (x2 : Int32) : Nat → Int32 → Int32 → Int32 → Int32 → Int32
  | 0, _, _, _, _ => default
  | n + 1, x6_1, x5_2, x4_3, x3_4 => (if m_noted ≤ x6_1 then (if 1440 ≤ (x5_2 - x4_3) then 0 else 1) else (if (m_note (3 * x6_1).toNatClampNeg) = x1 then (if (m_clock (6 * x1).toNatClampNeg) = 2 then (F_X7_isNoted_66 m_clock m_note x1 x6_1 x5_2 x4_3 x3_4 (F_X7_isNoted_11 m_clock m_note m_noted x1 x2 n) 0) else (F_X7_isNoted_66 m_clock m_note x1 x6_1 x5_2 x4_3 x3_4 (F_X7_isNoted_11 m_clock m_note m_noted x1 x2 n) (1440 + x2))) else ((F_X7_isNoted_11 m_clock m_note m_noted x1 x2 n) (x6_1 + 1) x5_2 x4_3 x3_4)))
def F_X7_isNoted (m_clock : Nat → Int32) (m_note : Nat → Int32) (m_noted : Int32) (x1 : Int32) (x2 : Int32) : Int32 := (F_X7_isNoted_11 m_clock m_note m_noted x1 x2 13 0 0 0 (-1))
theorem in_X7_isNoted_X7 : ∀ x ∈ u_ws RX7 TX7 26, x ∈ wsX7_isNoted := by decide +kernel
set_option maxHeartbeats 2000000 in
set_option maxRecDepth 100000 in
theorem c_X7_isNoted (l : Launch) (D : va_G) (cI cZ cC cH : ClassId) (o a_clock a_note a_text a_read a_fit a_shown a_image a_isKept a_row a_best : Nat) (m_told : Int32) (m_isRead1 : Int32) (m_clock : Nat → Int32) (m_note : Nat → Int32) (m_noted : Int32) (m_bytes : Int32) (m_text : Nat → Int32) (m_position : Int32) (m_tokenAt : Int32) (m_token : Int64) (m_digits : Int32) (m_number : Int32) (m_faultAt : Int32) (m_readMany : Int32) (m_readTold : Int32) (m_read : Nat → Int32) (m_fit : Nat → Int32) (m_shown : Nat → Int32) (m_image : Nat → Int32) (m_isKept : Nat → Int32) (m_row : Nat → Int32) (m_best : Nat → Int32) (m_againAt : Int32) (m_againStep : Int32) (m_orderMany : Int32) (m_orderLeast : Int32) (x1 : Int32) (x2 : Int32) (hk0 : 0 ≤ x1.toInt) (hk1 : x1.toInt < 8) (hn0 : 0 ≤ m_noted.toInt) (hn1 : m_noted.toInt ≤ 12) : MC l D (TY cI cZ cC cH) yX7_isNoted wsX7_isNoted 1 22 [.ref o, .int x1, .int x2] (WM cI cZ cC cH o a_clock a_note a_text a_read a_fit a_shown a_image a_isKept a_row a_best m_told m_isRead1 m_clock m_note m_noted m_bytes m_text m_position m_tokenAt m_token m_digits m_number m_faultAt m_readMany m_readTold m_read m_fit m_shown m_image m_isKept m_row m_best m_againAt m_againStep m_orderMany m_orderLeast) (some (.int (F_X7_isNoted m_clock m_note m_noted x1 x2))) (WM cI cZ cC cH o a_clock a_note a_text a_read a_fit a_shown a_image a_isKept a_row a_best m_told m_isRead1 m_clock m_note m_noted m_bytes m_text m_position m_tokenAt m_token m_digits m_number m_faultAt m_readMany m_readTold m_read m_fit m_shown m_image m_isKept m_row m_best m_againAt m_againStep m_orderMany m_orderLeast) := by
  obtain ⟨R, hF⟩ : ∃ R, R = F_X7_isNoted m_clock m_note m_noted x1 x2 := ⟨_, rfl⟩
  rw [← hF]
  refine MC.of (cc := cX7_isNoted) (maxL := 10) (ret := (some .boolean)) RX7 rfl (by decide +kernel) rfl (Nat.le_of_ble_eq_true rfl) ?_
  intro p e s m args below meth c A Q KX RT hh ls hl
  have z0 : (0 : Int32).toInt = 0 := rfl
  have z1 : (1 : Int32).toInt = 1 := rfl
  have zm : (-1 : Int32).toInt = -1 := rfl
  have hx := KX.1
  have hb := KX.2.1
  have hl : lv_has ls 10 [(0, .ref o), (1, .int x1), (2, .int x2)] := hl
  unfold F_X7_isNoted at hF
  refine lv_iconst (v := (-1)) hx hb dX7_isNoted_0 (by decide) ?_
  refine lv_istore_n (lv' := [(3, .int (-1)), (0, .ref o), (1, .int x1), (2, .int x2)]) hx hb dX7_isNoted_1 rfl hl (Nat.le_of_ble_eq_true rfl) rfl (fun ls hl => ?_)
  refine lv_iconst (v := 0) hx hb dX7_isNoted_2 (by decide) ?_
  refine lv_istore (lv' := [(4, .int 0), (3, .int (-1)), (0, .ref o), (1, .int x1), (2, .int x2)]) hx hb dX7_isNoted_3 hl (Nat.le_of_ble_eq_true rfl) rfl (fun ls hl => ?_)
  refine lv_iconst (v := 0) hx hb dX7_isNoted_5 (by decide) ?_
  refine lv_istore (lv' := [(5, .int 0), (4, .int 0), (3, .int (-1)), (0, .ref o), (1, .int x1), (2, .int x2)]) hx hb dX7_isNoted_6 hl (Nat.le_of_ble_eq_true rfl) rfl (fun ls hl => ?_)
  refine lv_iconst (v := 0) hx hb dX7_isNoted_8 (by decide) ?_
  refine lv_istore (lv' := [(6, .int 0), (5, .int 0), (4, .int 0), (3, .int (-1)), (0, .ref o), (1, .int x1), (2, .int x2)]) hx hb dX7_isNoted_9 hl (Nat.le_of_ble_eq_true rfl) rfl (fun ls hl => ?_)
  have L_11 : ∀ (n_11 : Nat) (x6_1 : Int32) (x5_2 : Int32) (x4_3 : Int32) (x3_4 : Int32) (i0_11 : 0 ≤ x6_1.toInt) (i1_11 : x6_1.toInt ≤ m_noted.toInt) (_ : (m_noted.toInt - x6_1.toInt).toNat < n_11) (_ : R = (F_X7_isNoted_11 m_clock m_note m_noted x1 x2) n_11 x6_1 x5_2 x4_3 x3_4) (ls : Array Slot) (H : Heap) (locs : List Loc) (_ : HS D A s.heap (WM cI cZ cC cH o a_clock a_note a_text a_read a_fit a_shown a_image a_isKept a_row a_best m_told m_isRead1 m_clock m_note m_noted m_bytes m_text m_position m_tokenAt m_token m_digits m_number m_faultAt m_readMany m_readTold m_read m_fit m_shown m_image m_isKept m_row m_best m_againAt m_againStep m_orderMany m_orderLeast) H locs) (_ : lv_has ls 10 [(6, .int x6_1), (5, .int x5_2), (4, .int x4_3), (3, .int x3_4), (0, .ref o), (1, .int x1), (2, .int x2)]), W p l e { frames := 1, cells := 0, slots := 0, locals := 22 } s m args below meth c H locs 0 0 Q (F0 m 11 ls []) := by
    intro n_11
    induction n_11 with
    | zero => intro x6_1 x5_2 x4_3 x3_4 i0_11 i1_11 hm; exact absurd hm (Nat.not_lt_zero _)
    | succ n_11 ih_11 =>
      intro x6_1 x5_2 x4_3 x3_4 i0_11 i1_11 hm_11 hF ls H locs hh hl
      rw [F_X7_isNoted_11.eq_2] at hF
      refine lv_iload hx hb dX7_isNoted_11 (lv_at hl 0 rfl) ?_
      refine lv_aload_n hx hb dX7_isNoted_13 rfl (lv_at hl 4 rfl) ?_
      refine g_get KX hh in_X7_isNoted_X7 0 rfl rfl 4 (by decide) rfl (List.mem_of_getElem? (i := 1) rfl) dX7_isNoted_14 ?_
      refine lv_icmp_ge (tgt := 193) hx hb dX7_isNoted_17 (by decide) (fun c_17 => ?_) (fun c_17 => ?_)
      · replace hF := hF.trans (if_pos c_17)
        have i_17 : m_noted.toInt ≤ x6_1.toInt := ti_le.mp c_17
        refine lv_iload hx hb dX7_isNoted_193 (lv_at hl 1 rfl) ?_
        refine lv_iload hx hb dX7_isNoted_195 (lv_at hl 2 rfl) ?_
        refine lv_isub hx hb dX7_isNoted_197 ?_
        refine lv_sipush (v := 1440) hx hb dX7_isNoted_198 (by decide) ?_
        refine lv_icmp_ge (tgt := 208) hx hb dX7_isNoted_201 (by decide) (fun c_201 => ?_) (fun c_201 => ?_)
        · replace hF := hF.trans (if_pos c_201)
          have i_201 : 1440 ≤ (x5_2 - x4_3).toInt := ti_le.mp c_201
          refine lv_iconst (v := 0) hx hb dX7_isNoted_208 (by decide) ?_
          exact RT _ _ _ _ _ _ hh (rfl) (Or.inl ⟨_, rfl, by rw [hF], dX7_isNoted_209, Or.inr (Or.inl ⟨rfl, Or.inl rfl⟩)⟩)
        · replace hF := hF.trans (if_neg c_201)
          have i_201 : (x5_2 - x4_3).toInt < 1440 := ti_nle c_201
          refine lv_iconst (v := 1) hx hb dX7_isNoted_204 (by decide) ?_
          refine lv_goto (tgt := 209) hx hb dX7_isNoted_205 (by decide) ?_
          exact RT _ _ _ _ _ _ hh (rfl) (Or.inl ⟨_, rfl, by rw [hF], dX7_isNoted_209, Or.inr (Or.inl ⟨rfl, Or.inr rfl⟩)⟩)
      · replace hF := hF.trans (if_neg c_17)
        have i_17 : x6_1.toInt < m_noted.toInt := ti_nle c_17
        refine lv_aload_n hx hb dX7_isNoted_20 rfl (lv_at hl 4 rfl) ?_
        refine g_get KX hh in_X7_isNoted_X7 0 rfl rfl 3 (by decide) rfl (List.mem_of_getElem? (i := 2) rfl) dX7_isNoted_21 ?_
        refine lv_iconst (v := 3) hx hb dX7_isNoted_24 (by decide) ?_
        refine lv_iload hx hb dX7_isNoted_25 (lv_at hl 0 rfl) ?_
        refine lv_imul hx hb dX7_isNoted_27 ?_
        refine g_iald KX hh 2 0 rfl rfl (ix30 (by omega) (by omega)) dX7_isNoted_28 ?_
        refine lv_iload_n hx hb dX7_isNoted_29 rfl (lv_at hl 5 rfl) ?_
        refine lv_icmp_ne (tgt := 187) hx hb dX7_isNoted_30 (by decide) (fun c_30 => ?_) (fun c_30 => ?_)
        · replace hF := hF.trans (if_neg c_30)
          refine lv_iinc (v := x6_1 + 1) (lv' := [(6, .int (x6_1 + 1)), (5, .int x5_2), (4, .int x4_3), (3, .int x3_4), (0, .ref o), (1, .int x1), (2, .int x2)]) hx hb dX7_isNoted_187 hl (k := 0) rfl rfl (Nat.le_of_ble_eq_true rfl) rfl (fun ls hl => ?_)
          refine lv_goto (tgt := 11) hx hb dX7_isNoted_190 (by decide) ?_
          have e_inc : (x6_1 + 1).toInt = _ := ti_inc (by omega)
          exact ih_11 (x6_1 + 1) x5_2 x4_3 x3_4 (by first | with_reducible assumption | omega | decide) (by first | with_reducible assumption | omega | decide) (by omega) hF _ _ _ hh (lv_sub hl [0, 1, 2, 3, 4, 5, 6] rfl)
        · replace hF := hF.trans (if_pos c_30)
          refine lv_aload_n hx hb dX7_isNoted_33 rfl (lv_at hl 4 rfl) ?_
          refine g_get KX hh in_X7_isNoted_X7 0 rfl rfl 3 (by decide) rfl (List.mem_of_getElem? (i := 2) rfl) dX7_isNoted_34 ?_
          refine lv_iconst (v := 3) hx hb dX7_isNoted_37 (by decide) ?_
          refine lv_iload hx hb dX7_isNoted_38 (lv_at hl 0 rfl) ?_
          refine lv_imul hx hb dX7_isNoted_40 ?_
          refine lv_iconst (v := 1) hx hb dX7_isNoted_41 (by decide) ?_
          refine lv_iadd hx hb dX7_isNoted_42 ?_
          refine g_iald KX hh 2 0 rfl rfl (ix3 1 (by omega) (by omega) rfl (by decide) (by decide)) dX7_isNoted_43 ?_
          refine lv_aload_n hx hb dX7_isNoted_44 rfl (lv_at hl 4 rfl) ?_
          refine g_get KX hh in_X7_isNoted_X7 0 rfl rfl 2 (by decide) rfl (List.mem_of_getElem? (i := 3) rfl) dX7_isNoted_45 ?_
          refine lv_bipush (v := 6) hx hb dX7_isNoted_48 (by decide) ?_
          refine lv_iload_n hx hb dX7_isNoted_50 rfl (lv_at hl 5 rfl) ?_
          refine lv_imul hx hb dX7_isNoted_51 ?_
          refine g_iald KX hh 1 0 rfl rfl (ix60 (by omega) (by omega)) dX7_isNoted_52 ?_
          refine lv_iconst (v := 2) hx hb dX7_isNoted_53 (by decide) ?_
          have K_66 : ∀ (y0_5 : Int32) (_ : R = (F_X7_isNoted_66 m_clock m_note x1 x6_1 x5_2 x4_3 x3_4 ((F_X7_isNoted_11 m_clock m_note m_noted x1 x2) n_11)) y0_5) (ls : Array Slot) (H : Heap) (locs : List Loc) (_ : HS D A s.heap (WM cI cZ cC cH o a_clock a_note a_text a_read a_fit a_shown a_image a_isKept a_row a_best m_told m_isRead1 m_clock m_note m_noted m_bytes m_text m_position m_tokenAt m_token m_digits m_number m_faultAt m_readMany m_readTold m_read m_fit m_shown m_image m_isKept m_row m_best m_againAt m_againStep m_orderMany m_orderLeast) H locs) (_ : lv_has ls 10 [(6, .int x6_1), (5, .int x5_2), (4, .int x4_3), (3, .int x3_4), (0, .ref o), (1, .int x1), (2, .int x2)]), W p l e { frames := 1, cells := 0, slots := 0, locals := 22 } s m args below meth c H locs 0 0 Q (F0 m 66 ls [.int y0_5, .int (m_note ((3 * x6_1) + 1).toNatClampNeg)]) := by
            intro y0_5 hF ls H locs hh hl
            unfold F_X7_isNoted_66 at hF
            refine lv_imul hx hb dX7_isNoted_66 ?_
            refine lv_istore (lv' := [(7, .int ((m_note ((3 * x6_1) + 1).toNatClampNeg) * y0_5)), (6, .int x6_1), (5, .int x5_2), (4, .int x4_3), (3, .int x3_4), (0, .ref o), (1, .int x1), (2, .int x2)]) hx hb dX7_isNoted_67 hl (Nat.le_of_ble_eq_true rfl) rfl (fun ls hl => ?_)
            refine lv_sipush (v := 1440) hx hb dX7_isNoted_69 (by decide) ?_
            refine lv_aload_n hx hb dX7_isNoted_72 rfl (lv_at hl 5 rfl) ?_
            refine g_get KX hh in_X7_isNoted_X7 0 rfl rfl 3 (by decide) rfl (List.mem_of_getElem? (i := 2) rfl) dX7_isNoted_73 ?_
            refine lv_iconst (v := 3) hx hb dX7_isNoted_76 (by decide) ?_
            refine lv_iload hx hb dX7_isNoted_77 (lv_at hl 1 rfl) ?_
            refine lv_imul hx hb dX7_isNoted_79 ?_
            refine lv_iconst (v := 2) hx hb dX7_isNoted_80 (by decide) ?_
            refine lv_iadd hx hb dX7_isNoted_81 ?_
            refine g_iald KX hh 2 0 rfl rfl (ix3 2 (by omega) (by omega) rfl (by decide) (by decide)) dX7_isNoted_82 ?_
            refine lv_imul hx hb dX7_isNoted_83 ?_
            refine lv_aload_n hx hb dX7_isNoted_84 rfl (lv_at hl 5 rfl) ?_
            refine g_get KX hh in_X7_isNoted_X7 0 rfl rfl 2 (by decide) rfl (List.mem_of_getElem? (i := 3) rfl) dX7_isNoted_85 ?_
            refine lv_bipush (v := 6) hx hb dX7_isNoted_88 (by decide) ?_
            refine lv_iload_n hx hb dX7_isNoted_90 rfl (lv_at hl 6 rfl) ?_
            refine lv_imul hx hb dX7_isNoted_91 ?_
            refine g_iald KX hh 1 0 rfl rfl (ix60 (by omega) (by omega)) dX7_isNoted_92 ?_
            refine lv_iconst (v := 1) hx hb dX7_isNoted_93 (by decide) ?_
            have K_105 : ∀ (y0_6 : Int32) (_ : R = (F_X7_isNoted_105 m_note x6_1 x5_2 x4_3 x3_4 ((F_X7_isNoted_11 m_clock m_note m_noted x1 x2) n_11)) y0_6) (ls : Array Slot) (H : Heap) (locs : List Loc) (_ : HS D A s.heap (WM cI cZ cC cH o a_clock a_note a_text a_read a_fit a_shown a_image a_isKept a_row a_best m_told m_isRead1 m_clock m_note m_noted m_bytes m_text m_position m_tokenAt m_token m_digits m_number m_faultAt m_readMany m_readTold m_read m_fit m_shown m_image m_isKept m_row m_best m_againAt m_againStep m_orderMany m_orderLeast) H locs) (_ : lv_has ls 10 [(7, .int ((m_note ((3 * x6_1) + 1).toNatClampNeg) * y0_5)), (6, .int x6_1), (5, .int x5_2), (4, .int x4_3), (3, .int x3_4), (0, .ref o), (1, .int x1), (2, .int x2)]), W p l e { frames := 1, cells := 0, slots := 0, locals := 22 } s m args below meth c H locs 0 0 Q (F0 m 105 ls [.int y0_6, .int (1440 * (m_note ((3 * x6_1) + 2).toNatClampNeg))]) := by
              intro y0_6 hF ls H locs hh hl
              unfold F_X7_isNoted_105 at hF
              refine lv_iadd hx hb dX7_isNoted_105 ?_
              refine lv_ldc (v := 1036800) hx hb KX.2.2.2.1 (KX.2.2.2.2.1 _ (List.mem_of_getElem? (i := 4) rfl)) dX7_isNoted_106 ?_
              refine g_callS (As := [.int ((1440 * (m_note ((3 * x6_1) + 2).toNatClampNeg)) + y0_6), .int 1036800]) (rest := []) KX rfl ⟨Nat.le_of_ble_eq_true rfl, Nat.le_of_ble_eq_true rfl⟩ hh hl (c_X7_rest l D cI cZ cC cH  ((1440 * (m_note ((3 * x6_1) + 2).toNatClampNeg)) + y0_6) 1036800 (by first | with_reducible assumption | omega | decide)) JN.no 2 gX7_isNoted_X7_rest rfl (by decide +kernel) ⟨Nat.le_of_ble_eq_true rfl, Nat.le_of_ble_eq_true rfl⟩ rfl rfl (Nat.le_of_ble_eq_true rfl) dX7_isNoted_108 (fun H locs hh => ?_)
              refine W.eq (g2 := F0 m 111 ls [.int (F_X7_rest ((1440 * (m_note ((3 * x6_1) + 2).toNatClampNeg)) + y0_6) 1036800)]) rfl ?_
              refine lv_istore (lv' := [(8, .int (F_X7_rest ((1440 * (m_note ((3 * x6_1) + 2).toNatClampNeg)) + y0_6) 1036800)), (7, .int ((m_note ((3 * x6_1) + 1).toNatClampNeg) * y0_5)), (6, .int x6_1), (5, .int x5_2), (4, .int x4_3), (3, .int x3_4), (0, .ref o), (1, .int x1), (2, .int x2)]) hx hb dX7_isNoted_111 hl (Nat.le_of_ble_eq_true rfl) rfl (fun ls hl => ?_)
              refine lv_iload_n hx hb dX7_isNoted_113 rfl (lv_at hl 5 rfl) ?_
              refine lv_iconst (v := (-1)) hx hb dX7_isNoted_114 (by decide) ?_
              have K_124 : ∀ (y0_7 : Int32) (_ : R = (F_X7_isNoted_124 m_note x6_1 x5_2 x4_3 ((F_X7_isNoted_11 m_clock m_note m_noted x1 x2) n_11) y0_6) y0_7) (ls : Array Slot) (H : Heap) (locs : List Loc) (_ : HS D A s.heap (WM cI cZ cC cH o a_clock a_note a_text a_read a_fit a_shown a_image a_isKept a_row a_best m_told m_isRead1 m_clock m_note m_noted m_bytes m_text m_position m_tokenAt m_token m_digits m_number m_faultAt m_readMany m_readTold m_read m_fit m_shown m_image m_isKept m_row m_best m_againAt m_againStep m_orderMany m_orderLeast) H locs) (_ : lv_has ls 10 [(8, .int (F_X7_rest ((1440 * (m_note ((3 * x6_1) + 2).toNatClampNeg)) + y0_6) 1036800)), (7, .int ((m_note ((3 * x6_1) + 1).toNatClampNeg) * y0_5)), (6, .int x6_1), (5, .int x5_2), (4, .int x4_3), (3, .int x3_4), (0, .ref o), (1, .int x1), (2, .int x2)]), W p l e { frames := 1, cells := 0, slots := 0, locals := 22 } s m args below meth c H locs 0 0 Q (F0 m 124 ls [.int y0_7]) := by
                intro y0_7 hF ls H locs hh hl
                unfold F_X7_isNoted_124 at hF
                refine lv_istore_n (lv' := [(3, .int y0_7), (8, .int (F_X7_rest ((1440 * (m_note ((3 * x6_1) + 2).toNatClampNeg)) + y0_6) 1036800)), (7, .int ((m_note ((3 * x6_1) + 1).toNatClampNeg) * y0_5)), (6, .int x6_1), (5, .int x5_2), (4, .int x4_3), (0, .ref o), (1, .int x1), (2, .int x2)]) hx hb dX7_isNoted_124 rfl hl (Nat.le_of_ble_eq_true rfl) rfl (fun ls hl => ?_)
                refine lv_iload hx hb dX7_isNoted_125 (lv_at hl 1 rfl) ?_
                refine lv_iload_n hx hb dX7_isNoted_127 rfl (lv_at hl 0 rfl) ?_
                refine lv_isub hx hb dX7_isNoted_128 ?_
                refine lv_ldc (v := 1036800) hx hb KX.2.2.2.1 (KX.2.2.2.2.1 _ (List.mem_of_getElem? (i := 4) rfl)) dX7_isNoted_129 ?_
                refine g_callS (As := [.int ((F_X7_rest ((1440 * (m_note ((3 * x6_1) + 2).toNatClampNeg)) + y0_6) 1036800) - y0_7), .int 1036800]) (rest := []) KX rfl ⟨Nat.le_of_ble_eq_true rfl, Nat.le_of_ble_eq_true rfl⟩ hh hl (c_X7_rest l D cI cZ cC cH  ((F_X7_rest ((1440 * (m_note ((3 * x6_1) + 2).toNatClampNeg)) + y0_6) 1036800) - y0_7) 1036800 (by first | with_reducible assumption | omega | decide)) JN.no 2 gX7_isNoted_X7_rest rfl (by decide +kernel) ⟨Nat.le_of_ble_eq_true rfl, Nat.le_of_ble_eq_true rfl⟩ rfl rfl (Nat.le_of_ble_eq_true rfl) dX7_isNoted_131 (fun H locs hh => ?_)
                refine W.eq (g2 := F0 m 134 ls [.int (F_X7_rest ((F_X7_rest ((1440 * (m_note ((3 * x6_1) + 2).toNatClampNeg)) + y0_6) 1036800) - y0_7) 1036800)]) rfl ?_
                refine lv_istore (lv' := [(9, .int (F_X7_rest ((F_X7_rest ((1440 * (m_note ((3 * x6_1) + 2).toNatClampNeg)) + y0_6) 1036800) - y0_7) 1036800)), (3, .int y0_7), (8, .int (F_X7_rest ((1440 * (m_note ((3 * x6_1) + 2).toNatClampNeg)) + y0_6) 1036800)), (7, .int ((m_note ((3 * x6_1) + 1).toNatClampNeg) * y0_5)), (6, .int x6_1), (5, .int x5_2), (4, .int x4_3), (0, .ref o), (1, .int x1), (2, .int x2)]) hx hb dX7_isNoted_134 hl (Nat.le_of_ble_eq_true rfl) rfl (fun ls hl => ?_)
                refine lv_iload hx hb dX7_isNoted_136 (lv_at hl 0 rfl) ?_
                refine lv_ldc (v := 518400) hx hb KX.2.2.2.1 (KX.2.2.2.2.1 _ (List.mem_of_getElem? (i := 5) rfl)) dX7_isNoted_138 ?_
                have K_153 : ∀ (y0_8 : Int32) (_ : R = (F_X7_isNoted_153 x6_1 x5_2 x4_3 ((F_X7_isNoted_11 m_clock m_note m_noted x1 x2) n_11) y0_7) y0_8) (ls : Array Slot) (H : Heap) (locs : List Loc) (_ : HS D A s.heap (WM cI cZ cC cH o a_clock a_note a_text a_read a_fit a_shown a_image a_isKept a_row a_best m_told m_isRead1 m_clock m_note m_noted m_bytes m_text m_position m_tokenAt m_token m_digits m_number m_faultAt m_readMany m_readTold m_read m_fit m_shown m_image m_isKept m_row m_best m_againAt m_againStep m_orderMany m_orderLeast) H locs) (_ : lv_has ls 10 [(9, .int (F_X7_rest ((F_X7_rest ((1440 * (m_note ((3 * x6_1) + 2).toNatClampNeg)) + y0_6) 1036800) - y0_7) 1036800)), (3, .int y0_7), (8, .int (F_X7_rest ((1440 * (m_note ((3 * x6_1) + 2).toNatClampNeg)) + y0_6) 1036800)), (7, .int ((m_note ((3 * x6_1) + 1).toNatClampNeg) * y0_5)), (6, .int x6_1), (5, .int x5_2), (4, .int x4_3), (0, .ref o), (1, .int x1), (2, .int x2)]), W p l e { frames := 1, cells := 0, slots := 0, locals := 22 } s m args below meth c H locs 0 0 Q (F0 m 153 ls [.int y0_8]) := by
                  intro y0_8 hF ls H locs hh hl
                  unfold F_X7_isNoted_153 at hF
                  refine lv_istore (lv' := [(9, .int y0_8), (3, .int y0_7), (8, .int (F_X7_rest ((1440 * (m_note ((3 * x6_1) + 2).toNatClampNeg)) + y0_6) 1036800)), (7, .int ((m_note ((3 * x6_1) + 1).toNatClampNeg) * y0_5)), (6, .int x6_1), (5, .int x5_2), (4, .int x4_3), (0, .ref o), (1, .int x1), (2, .int x2)]) hx hb dX7_isNoted_153 hl (Nat.le_of_ble_eq_true rfl) rfl (fun ls hl => ?_)
                  refine lv_iload hx hb dX7_isNoted_155 (lv_at hl 0 rfl) ?_
                  refine lv_iload hx hb dX7_isNoted_157 (lv_at hl 6 rfl) ?_
                  have K_169 : ∀ (y0_9 : Int32) (_ : R = (F_X7_isNoted_169 x6_1 x5_2 ((F_X7_isNoted_11 m_clock m_note m_noted x1 x2) n_11) y0_7 y0_8) y0_9) (ls : Array Slot) (H : Heap) (locs : List Loc) (_ : HS D A s.heap (WM cI cZ cC cH o a_clock a_note a_text a_read a_fit a_shown a_image a_isKept a_row a_best m_told m_isRead1 m_clock m_note m_noted m_bytes m_text m_position m_tokenAt m_token m_digits m_number m_faultAt m_readMany m_readTold m_read m_fit m_shown m_image m_isKept m_row m_best m_againAt m_againStep m_orderMany m_orderLeast) H locs) (_ : lv_has ls 10 [(9, .int y0_8), (3, .int y0_7), (8, .int (F_X7_rest ((1440 * (m_note ((3 * x6_1) + 2).toNatClampNeg)) + y0_6) 1036800)), (7, .int ((m_note ((3 * x6_1) + 1).toNatClampNeg) * y0_5)), (6, .int x6_1), (5, .int x5_2), (4, .int x4_3), (0, .ref o), (1, .int x1), (2, .int x2)]), W p l e { frames := 1, cells := 0, slots := 0, locals := 22 } s m args below meth c H locs 0 0 Q (F0 m 169 ls [.int y0_9]) := by
                    intro y0_9 hF ls H locs hh hl
                    unfold F_X7_isNoted_169 at hF
                    refine lv_istore (lv' := [(4, .int y0_9), (9, .int y0_8), (3, .int y0_7), (8, .int (F_X7_rest ((1440 * (m_note ((3 * x6_1) + 2).toNatClampNeg)) + y0_6) 1036800)), (7, .int ((m_note ((3 * x6_1) + 1).toNatClampNeg) * y0_5)), (6, .int x6_1), (5, .int x5_2), (0, .ref o), (1, .int x1), (2, .int x2)]) hx hb dX7_isNoted_169 hl (Nat.le_of_ble_eq_true rfl) rfl (fun ls hl => ?_)
                    refine lv_iload hx hb dX7_isNoted_171 (lv_at hl 1 rfl) ?_
                    refine lv_iload hx hb dX7_isNoted_173 (lv_at hl 6 rfl) ?_
                    refine lv_icmp_le (tgt := 183) hx hb dX7_isNoted_175 (by decide) (fun c_175 => ?_) (fun c_175 => ?_)
                    · replace hF := hF.trans (if_pos c_175)
                      have i_175 : y0_8.toInt ≤ x5_2.toInt := ti_le.mp c_175
                      refine lv_iload hx hb dX7_isNoted_183 (lv_at hl 6 rfl) ?_
                      refine lv_istore (lv' := [(5, .int x5_2), (4, .int y0_9), (9, .int y0_8), (3, .int y0_7), (8, .int (F_X7_rest ((1440 * (m_note ((3 * x6_1) + 2).toNatClampNeg)) + y0_6) 1036800)), (7, .int ((m_note ((3 * x6_1) + 1).toNatClampNeg) * y0_5)), (6, .int x6_1), (0, .ref o), (1, .int x1), (2, .int x2)]) hx hb dX7_isNoted_185 hl (Nat.le_of_ble_eq_true rfl) rfl (fun ls hl => ?_)
                      refine lv_iinc (v := x6_1 + 1) (lv' := [(6, .int (x6_1 + 1)), (5, .int x5_2), (4, .int y0_9), (9, .int y0_8), (3, .int y0_7), (8, .int (F_X7_rest ((1440 * (m_note ((3 * x6_1) + 2).toNatClampNeg)) + y0_6) 1036800)), (7, .int ((m_note ((3 * x6_1) + 1).toNatClampNeg) * y0_5)), (0, .ref o), (1, .int x1), (2, .int x2)]) hx hb dX7_isNoted_187 hl (k := 6) rfl rfl (Nat.le_of_ble_eq_true rfl) rfl (fun ls hl => ?_)
                      refine lv_goto (tgt := 11) hx hb dX7_isNoted_190 (by decide) ?_
                      have e_inc : (x6_1 + 1).toInt = _ := ti_inc (by omega)
                      exact ih_11 (x6_1 + 1) x5_2 y0_9 y0_7 (by first | with_reducible assumption | omega | decide) (by first | with_reducible assumption | omega | decide) (by omega) hF _ _ _ hh (lv_sub hl [0, 1, 2, 4, 7, 8, 9] rfl)
                    · replace hF := hF.trans (if_neg c_175)
                      have i_175 : x5_2.toInt < y0_8.toInt := ti_nle c_175
                      refine lv_iload hx hb dX7_isNoted_178 (lv_at hl 1 rfl) ?_
                      refine lv_goto (tgt := 185) hx hb dX7_isNoted_180 (by decide) ?_
                      refine lv_istore (lv' := [(5, .int y0_8), (4, .int y0_9), (9, .int y0_8), (3, .int y0_7), (8, .int (F_X7_rest ((1440 * (m_note ((3 * x6_1) + 2).toNatClampNeg)) + y0_6) 1036800)), (7, .int ((m_note ((3 * x6_1) + 1).toNatClampNeg) * y0_5)), (6, .int x6_1), (0, .ref o), (1, .int x1), (2, .int x2)]) hx hb dX7_isNoted_185 hl (Nat.le_of_ble_eq_true rfl) rfl (fun ls hl => ?_)
                      refine lv_iinc (v := x6_1 + 1) (lv' := [(6, .int (x6_1 + 1)), (5, .int y0_8), (4, .int y0_9), (9, .int y0_8), (3, .int y0_7), (8, .int (F_X7_rest ((1440 * (m_note ((3 * x6_1) + 2).toNatClampNeg)) + y0_6) 1036800)), (7, .int ((m_note ((3 * x6_1) + 1).toNatClampNeg) * y0_5)), (0, .ref o), (1, .int x1), (2, .int x2)]) hx hb dX7_isNoted_187 hl (k := 6) rfl rfl (Nat.le_of_ble_eq_true rfl) rfl (fun ls hl => ?_)
                      refine lv_goto (tgt := 11) hx hb dX7_isNoted_190 (by decide) ?_
                      have e_inc : (x6_1 + 1).toInt = _ := ti_inc (by omega)
                      exact ih_11 (x6_1 + 1) y0_8 y0_9 y0_7 (by first | with_reducible assumption | omega | decide) (by first | with_reducible assumption | omega | decide) (by omega) hF _ _ _ hh (lv_sub hl [0, 1, 2, 4, 7, 8, 9] rfl)
                  refine lv_icmp_ge (tgt := 167) hx hb dX7_isNoted_159 (by decide) (fun c_159 => ?_) (fun c_159 => ?_)
                  · replace hF := hF.trans (if_pos c_159)
                    have i_159 : x4_3.toInt ≤ y0_8.toInt := ti_le.mp c_159
                    refine lv_iload hx hb dX7_isNoted_167 (lv_at hl 6 rfl) ?_
                    exact K_169 x4_3  hF _ _ _ hh (lv_sub hl [0, 1, 2, 3, 4, 5, 6, 7, 8, 9] rfl)
                  · replace hF := hF.trans (if_neg c_159)
                    have i_159 : y0_8.toInt < x4_3.toInt := ti_nle c_159
                    refine lv_iload hx hb dX7_isNoted_162 (lv_at hl 0 rfl) ?_
                    refine lv_goto (tgt := 169) hx hb dX7_isNoted_164 (by decide) ?_
                    exact K_169 y0_8  hF _ _ _ hh (lv_sub hl [0, 1, 2, 3, 4, 5, 6, 7, 8, 9] rfl)
                refine lv_icmp_le (tgt := 151) hx hb dX7_isNoted_140 (by decide) (fun c_140 => ?_) (fun c_140 => ?_)
                · replace hF := hF.trans (if_pos c_140)
                  refine lv_iload hx hb dX7_isNoted_151 (lv_at hl 0 rfl) ?_
                  exact K_153 (F_X7_rest ((F_X7_rest ((1440 * (m_note ((3 * x6_1) + 2).toNatClampNeg)) + y0_6) 1036800) - y0_7) 1036800)  hF _ _ _ hh (lv_sub hl [0, 1, 2, 3, 4, 5, 6, 7, 8, 9] rfl)
                · replace hF := hF.trans (if_neg c_140)
                  refine lv_iload hx hb dX7_isNoted_143 (lv_at hl 0 rfl) ?_
                  refine lv_ldc (v := 1036800) hx hb KX.2.2.2.1 (KX.2.2.2.2.1 _ (List.mem_of_getElem? (i := 4) rfl)) dX7_isNoted_145 ?_
                  refine lv_isub hx hb dX7_isNoted_147 ?_
                  refine lv_goto (tgt := 153) hx hb dX7_isNoted_148 (by decide) ?_
                  exact K_153 ((F_X7_rest ((F_X7_rest ((1440 * (m_note ((3 * x6_1) + 2).toNatClampNeg)) + y0_6) 1036800) - y0_7) 1036800) - 1036800)  hF _ _ _ hh (lv_sub hl [0, 1, 2, 3, 4, 5, 6, 7, 8, 9] rfl)
              refine lv_icmp_ne (tgt := 123) hx hb dX7_isNoted_115 (by decide) (fun c_115 => ?_) (fun c_115 => ?_)
              · replace hF := hF.trans (if_neg c_115)
                have i_115 : ¬ x3_4.toInt = (-1) := ti_ne c_115
                refine lv_iload_n hx hb dX7_isNoted_123 rfl (lv_at hl 5 rfl) ?_
                exact K_124 x3_4  hF _ _ _ hh (lv_sub hl [0, 1, 2, 3, 4, 5, 6, 7, 8] rfl)
              · replace hF := hF.trans (if_pos c_115)
                have i_115 : x3_4.toInt = (-1) := congrArg Int32.toInt c_115
                refine lv_iload hx hb dX7_isNoted_118 (lv_at hl 0 rfl) ?_
                refine lv_goto (tgt := 124) hx hb dX7_isNoted_120 (by decide) ?_
                exact K_124 (F_X7_rest ((1440 * (m_note ((3 * x6_1) + 2).toNatClampNeg)) + y0_6) 1036800)  hF _ _ _ hh (lv_sub hl [0, 1, 2, 3, 4, 5, 6, 7, 8] rfl)
            refine lv_icmp_ne (tgt := 102) hx hb dX7_isNoted_94 (by decide) (fun c_94 => ?_) (fun c_94 => ?_)
            · replace hF := hF.trans (if_neg c_94)
              refine lv_iload hx hb dX7_isNoted_102 (lv_at hl 0 rfl) ?_
              refine lv_ineg hx hb dX7_isNoted_104 ?_
              exact K_105 (-((m_note ((3 * x6_1) + 1).toNatClampNeg) * y0_5))  hF _ _ _ hh (lv_sub hl [0, 1, 2, 3, 4, 5, 6, 7] rfl)
            · replace hF := hF.trans (if_pos c_94)
              refine lv_iload hx hb dX7_isNoted_97 (lv_at hl 0 rfl) ?_
              refine lv_goto (tgt := 105) hx hb dX7_isNoted_99 (by decide) ?_
              exact K_105 ((m_note ((3 * x6_1) + 1).toNatClampNeg) * y0_5)  hF _ _ _ hh (lv_sub hl [0, 1, 2, 3, 4, 5, 6, 7] rfl)
          refine lv_icmp_ne (tgt := 61) hx hb dX7_isNoted_54 (by decide) (fun c_54 => ?_) (fun c_54 => ?_)
          · replace hF := hF.trans (if_neg c_54)
            refine lv_sipush (v := 1440) hx hb dX7_isNoted_61 (by decide) ?_
            refine lv_iload_n hx hb dX7_isNoted_64 rfl (lv_at hl 6 rfl) ?_
            refine lv_iadd hx hb dX7_isNoted_65 ?_
            exact K_66 (1440 + x2)  hF _ _ _ hh (lv_sub hl [0, 1, 2, 3, 4, 5, 6] rfl)
          · replace hF := hF.trans (if_pos c_54)
            refine lv_iconst (v := 0) hx hb dX7_isNoted_57 (by decide) ?_
            refine lv_goto (tgt := 66) hx hb dX7_isNoted_58 (by decide) ?_
            exact K_66 0  hF _ _ _ hh (lv_sub hl [0, 1, 2, 3, 4, 5, 6] rfl)
  exact L_11 13 0 0 0 (-1) (by first | with_reducible assumption | omega | decide) (by first | with_reducible assumption | omega | decide) (by first | omega | decide | (simp; done)) hF _ _ _ hh (lv_sub hl [0, 1, 2, 3, 4, 5, 6] rfl)
theorem zb_F_X7_isNoted_169 {x6_1 : Int32} {x5_2 : Int32} {k_11 : Int32 → Int32 → Int32 → Int32 → Int32} {y0_7 : Int32} {y0_8 : Int32} {y0_9 : Int32} (hk : ∀ a0 a1 a2 a3, (k_11 a0 a1 a2 a3) = 0 ∨ (k_11 a0 a1 a2 a3) = 1) : (F_X7_isNoted_169 x6_1 x5_2 k_11 y0_7 y0_8 y0_9) = 0 ∨ (F_X7_isNoted_169 x6_1 x5_2 k_11 y0_7 y0_8 y0_9) = 1 := by
  unfold F_X7_isNoted_169
  split
  · exact hk _ _ _ _
  · exact hk _ _ _ _
theorem zb_F_X7_isNoted_153 {x6_1 : Int32} {x5_2 : Int32} {x4_3 : Int32} {k_11 : Int32 → Int32 → Int32 → Int32 → Int32} {y0_7 : Int32} {y0_8 : Int32} (hk : ∀ a0 a1 a2 a3, (k_11 a0 a1 a2 a3) = 0 ∨ (k_11 a0 a1 a2 a3) = 1) : (F_X7_isNoted_153 x6_1 x5_2 x4_3 k_11 y0_7 y0_8) = 0 ∨ (F_X7_isNoted_153 x6_1 x5_2 x4_3 k_11 y0_7 y0_8) = 1 := by
  unfold F_X7_isNoted_153
  split
  · exact zb_F_X7_isNoted_169 hk
  · exact zb_F_X7_isNoted_169 hk
theorem zb_F_X7_isNoted_124 {m_note : Nat → Int32} {x6_1 : Int32} {x5_2 : Int32} {x4_3 : Int32} {k_11 : Int32 → Int32 → Int32 → Int32 → Int32} {y0_6 : Int32} {y0_7 : Int32} (hk : ∀ a0 a1 a2 a3, (k_11 a0 a1 a2 a3) = 0 ∨ (k_11 a0 a1 a2 a3) = 1) : (F_X7_isNoted_124 m_note x6_1 x5_2 x4_3 k_11 y0_6 y0_7) = 0 ∨ (F_X7_isNoted_124 m_note x6_1 x5_2 x4_3 k_11 y0_6 y0_7) = 1 := by
  unfold F_X7_isNoted_124
  split
  · exact zb_F_X7_isNoted_153 hk
  · exact zb_F_X7_isNoted_153 hk
theorem zb_F_X7_isNoted_105 {m_note : Nat → Int32} {x6_1 : Int32} {x5_2 : Int32} {x4_3 : Int32} {x3_4 : Int32} {k_11 : Int32 → Int32 → Int32 → Int32 → Int32} {y0_6 : Int32} (hk : ∀ a0 a1 a2 a3, (k_11 a0 a1 a2 a3) = 0 ∨ (k_11 a0 a1 a2 a3) = 1) : (F_X7_isNoted_105 m_note x6_1 x5_2 x4_3 x3_4 k_11 y0_6) = 0 ∨ (F_X7_isNoted_105 m_note x6_1 x5_2 x4_3 x3_4 k_11 y0_6) = 1 := by
  unfold F_X7_isNoted_105
  split
  · exact zb_F_X7_isNoted_124 hk
  · exact zb_F_X7_isNoted_124 hk
theorem zb_F_X7_isNoted_66 {m_clock : Nat → Int32} {m_note : Nat → Int32} {x1 : Int32} {x6_1 : Int32} {x5_2 : Int32} {x4_3 : Int32} {x3_4 : Int32} {k_11 : Int32 → Int32 → Int32 → Int32 → Int32} {y0_5 : Int32} (hk : ∀ a0 a1 a2 a3, (k_11 a0 a1 a2 a3) = 0 ∨ (k_11 a0 a1 a2 a3) = 1) : (F_X7_isNoted_66 m_clock m_note x1 x6_1 x5_2 x4_3 x3_4 k_11 y0_5) = 0 ∨ (F_X7_isNoted_66 m_clock m_note x1 x6_1 x5_2 x4_3 x3_4 k_11 y0_5) = 1 := by
  unfold F_X7_isNoted_66
  split
  · exact zb_F_X7_isNoted_105 hk
  · exact zb_F_X7_isNoted_105 hk
theorem zb_F_X7_isNoted_11 {m_clock : Nat → Int32} {m_note : Nat → Int32} {m_noted : Int32} {x1 : Int32} {x2 : Int32} : ∀ (n : Nat) (x6_1 : Int32) (x5_2 : Int32) (x4_3 : Int32) (x3_4 : Int32), (F_X7_isNoted_11 m_clock m_note m_noted x1 x2 n x6_1 x5_2 x4_3 x3_4) = 0 ∨ (F_X7_isNoted_11 m_clock m_note m_noted x1 x2 n x6_1 x5_2 x4_3 x3_4) = 1 := by
  intro n
  induction n with
  | zero => intros; exact Or.inl rfl
  | succ n ih =>
    intros
    rw [F_X7_isNoted_11.eq_2]
    split
    · split
      · exact Or.inl rfl
      · exact Or.inr rfl
    · split
      · split
        · exact zb_F_X7_isNoted_66 ih
        · exact zb_F_X7_isNoted_66 ih
      · exact ih _ _ _ _
theorem z_X7_isNoted (m_clock : Nat → Int32) (m_note : Nat → Int32) (m_noted : Int32) (x1 : Int32) (x2 : Int32) : (F_X7_isNoted m_clock m_note m_noted x1 x2) = 0 ∨ (F_X7_isNoted m_clock m_note m_noted x1 x2) = 1 := by
  unfold F_X7_isNoted
  exact zb_F_X7_isNoted_11 _ _ _ _ _
def F_X7_rates_66 (x6_1 : Int32) (x3_4 : Int32) (k_35 : Int32 → Int32 → Int32 → Int32 → Int32) (y0_5 : Int32) : Int32 := (k_35 (x6_1 + 1) (x6_1 + 120) y0_5 (x3_4 + 1))
def F_X7_rates_35 (m_clock : Nat → Int32) (m_note : Nat → Int32) (m_noted : Int32) (x1 : Int32) (x2 : Int32) : Nat → Int32 → Int32 → Int32 → Int32 → Int32
  | 0, _, _, _, _ => default
  | n + 1, x6_1, x5_2, x4_3, x3_4 => (if 121 ≤ x6_1 then (if x2 = 0 then x3_4 else (if x2 = 1 then x4_3 else x5_2)) else (if (F_X7_isNoted m_clock m_note m_noted x1 x6_1) = 0 then ((F_X7_rates_35 m_clock m_note m_noted x1 x2 n) (x6_1 + 1) x5_2 x4_3 x3_4) else (if x3_4 = 0 then (F_X7_rates_66 x6_1 x3_4 (F_X7_rates_35 m_clock m_note m_noted x1 x2 n) (x6_1 + 120)) else (F_X7_rates_66 x6_1 x3_4 (F_X7_rates_35 m_clock m_note m_noted x1 x2 n) x4_3))))
def F_X7_rates (m_told : Int32) (m_clock : Nat → Int32) (m_note : Nat → Int32) (m_noted : Int32) (x1 : Int32) (x2 : Int32) : Int32 := (if (F_X7_isClock m_told x1) = 0 then (-2) else (if (F_X7_in x2 0 2) = 0 then (-3) else (F_X7_rates_35 m_clock m_note m_noted x1 x2 242 (-120) (-1) (-1) 0)))
set_option maxHeartbeats 2000000 in
set_option maxRecDepth 100000 in
theorem c_X7_rates (l : Launch) (D : va_G) (cI cZ cC cH : ClassId) (o a_clock a_note a_text a_read a_fit a_shown a_image a_isKept a_row a_best : Nat) (m_told : Int32) (m_isRead1 : Int32) (m_clock : Nat → Int32) (m_note : Nat → Int32) (m_noted : Int32) (m_bytes : Int32) (m_text : Nat → Int32) (m_position : Int32) (m_tokenAt : Int32) (m_token : Int64) (m_digits : Int32) (m_number : Int32) (m_faultAt : Int32) (m_readMany : Int32) (m_readTold : Int32) (m_read : Nat → Int32) (m_fit : Nat → Int32) (m_shown : Nat → Int32) (m_image : Nat → Int32) (m_isKept : Nat → Int32) (m_row : Nat → Int32) (m_best : Nat → Int32) (m_againAt : Int32) (m_againStep : Int32) (m_orderMany : Int32) (m_orderLeast : Int32) (x1 : Int32) (x2 : Int32) (hn0 : 0 ≤ m_noted.toInt) (hn1 : m_noted.toInt ≤ 12) : MC l D (TY cI cZ cC cH) yX7_rates wsX7_rates 2 51 [.ref o, .int x1, .int x2] (WM cI cZ cC cH o a_clock a_note a_text a_read a_fit a_shown a_image a_isKept a_row a_best m_told m_isRead1 m_clock m_note m_noted m_bytes m_text m_position m_tokenAt m_token m_digits m_number m_faultAt m_readMany m_readTold m_read m_fit m_shown m_image m_isKept m_row m_best m_againAt m_againStep m_orderMany m_orderLeast) (some (.int (F_X7_rates m_told m_clock m_note m_noted x1 x2))) (WM cI cZ cC cH o a_clock a_note a_text a_read a_fit a_shown a_image a_isKept a_row a_best m_told m_isRead1 m_clock m_note m_noted m_bytes m_text m_position m_tokenAt m_token m_digits m_number m_faultAt m_readMany m_readTold m_read m_fit m_shown m_image m_isKept m_row m_best m_againAt m_againStep m_orderMany m_orderLeast) := by
  obtain ⟨R, hF⟩ : ∃ R, R = F_X7_rates m_told m_clock m_note m_noted x1 x2 := ⟨_, rfl⟩
  rw [← hF]
  refine MC.of (cc := cX7_rates) (maxL := 7) (ret := (some .int)) RX7 rfl (by decide +kernel) rfl (Nat.le_of_ble_eq_true rfl) ?_
  intro p e s m args below meth c A Q KX RT hh ls hl
  have z0 : (0 : Int32).toInt = 0 := rfl
  have z1 : (1 : Int32).toInt = 1 := rfl
  have zm : (-1 : Int32).toInt = -1 := rfl
  have hx := KX.1
  have hb := KX.2.1
  have hl : lv_has ls 7 [(0, .ref o), (1, .int x1), (2, .int x2)] := hl
  unfold F_X7_rates at hF
  refine lv_aload_n hx hb dX7_rates_0 rfl (lv_at hl 0 rfl) ?_
  refine lv_iload_n hx hb dX7_rates_1 rfl (lv_at hl 1 rfl) ?_
  refine g_callV (As := [.int x1]) (rest := []) KX rfl ⟨Nat.le_of_ble_eq_true rfl, Nat.le_of_ble_eq_true rfl⟩ hh hl (c_X7_isClock l D cI cZ cC cH o a_clock a_note a_text a_read a_fit a_shown a_image a_isKept a_row a_best m_told m_isRead1 m_clock m_note m_noted m_bytes m_text m_position m_tokenAt m_token m_digits m_number m_faultAt m_readMany m_readTold m_read m_fit m_shown m_image m_isKept m_row m_best m_againAt m_againStep m_orderMany m_orderLeast x1 ) JN.all 1 gX7_rates_X7_isClock rfl (by decide +kernel) ⟨Nat.le_of_ble_eq_true rfl, Nat.le_of_ble_eq_true rfl⟩ 0 7 rfl rfl rfl rfl rfl (Nat.le_of_ble_eq_true rfl) dX7_rates_2 (fun H locs hh => ?_)
  refine W.eq (g2 := F0 m 5 ls [.int (F_X7_isClock m_told x1)]) rfl ?_
  refine lv_if_ne (tgt := 11) hx hb dX7_rates_5 (by decide) (fun c_5 => ?_) (fun c_5 => ?_)
  · replace hF := hF.trans (if_neg c_5)
    obtain ⟨k0_5, k1_5⟩ := X7_isClock_in c_5
    refine lv_iload_n hx hb dX7_rates_11 rfl (lv_at hl 2 rfl) ?_
    refine lv_iconst (v := 0) hx hb dX7_rates_12 (by decide) ?_
    refine lv_iconst (v := 2) hx hb dX7_rates_13 (by decide) ?_
    refine g_callS (As := [.int x2, .int 0, .int 2]) (rest := []) KX rfl ⟨Nat.le_of_ble_eq_true rfl, Nat.le_of_ble_eq_true rfl⟩ hh hl (c_X7_in l D cI cZ cC cH  x2 0 2 ) JN.no 3 gX7_rates_X7_in rfl (by decide +kernel) ⟨Nat.le_of_ble_eq_true rfl, Nat.le_of_ble_eq_true rfl⟩ rfl rfl (Nat.le_of_ble_eq_true rfl) dX7_rates_14 (fun H locs hh => ?_)
    refine W.eq (g2 := F0 m 17 ls [.int (F_X7_in x2 0 2)]) rfl ?_
    refine lv_if_ne (tgt := 23) hx hb dX7_rates_17 (by decide) (fun c_17 => ?_) (fun c_17 => ?_)
    · replace hF := hF.trans (if_neg c_17)
      obtain ⟨k0_17, k1_17⟩ : (0 : Int) ≤ x2.toInt ∧ x2.toInt ≤ 2 := X7_in_in c_17
      refine lv_iconst (v := 0) hx hb dX7_rates_23 (by decide) ?_
      refine lv_istore_n (lv' := [(3, .int 0), (0, .ref o), (1, .int x1), (2, .int x2)]) hx hb dX7_rates_24 rfl hl (Nat.le_of_ble_eq_true rfl) rfl (fun ls hl => ?_)
      refine lv_iconst (v := (-1)) hx hb dX7_rates_25 (by decide) ?_
      refine lv_istore (lv' := [(4, .int (-1)), (3, .int 0), (0, .ref o), (1, .int x1), (2, .int x2)]) hx hb dX7_rates_26 hl (Nat.le_of_ble_eq_true rfl) rfl (fun ls hl => ?_)
      refine lv_iconst (v := (-1)) hx hb dX7_rates_28 (by decide) ?_
      refine lv_istore (lv' := [(5, .int (-1)), (4, .int (-1)), (3, .int 0), (0, .ref o), (1, .int x1), (2, .int x2)]) hx hb dX7_rates_29 hl (Nat.le_of_ble_eq_true rfl) rfl (fun ls hl => ?_)
      refine lv_bipush (v := (-120)) hx hb dX7_rates_31 (by decide) ?_
      refine lv_istore (lv' := [(6, .int (-120)), (5, .int (-1)), (4, .int (-1)), (3, .int 0), (0, .ref o), (1, .int x1), (2, .int x2)]) hx hb dX7_rates_33 hl (Nat.le_of_ble_eq_true rfl) rfl (fun ls hl => ?_)
      have L_35 : ∀ (n_35 : Nat) (x6_1 : Int32) (x5_2 : Int32) (x4_3 : Int32) (x3_4 : Int32) (i0_35 : -120 ≤ x6_1.toInt) (i1_35 : x6_1.toInt ≤ 121) (_ : (121 - x6_1.toInt).toNat < n_35) (_ : R = (F_X7_rates_35 m_clock m_note m_noted x1 x2) n_35 x6_1 x5_2 x4_3 x3_4) (ls : Array Slot) (H : Heap) (locs : List Loc) (_ : HS D A s.heap (WM cI cZ cC cH o a_clock a_note a_text a_read a_fit a_shown a_image a_isKept a_row a_best m_told m_isRead1 m_clock m_note m_noted m_bytes m_text m_position m_tokenAt m_token m_digits m_number m_faultAt m_readMany m_readTold m_read m_fit m_shown m_image m_isKept m_row m_best m_againAt m_againStep m_orderMany m_orderLeast) H locs) (_ : lv_has ls 7 [(6, .int x6_1), (5, .int x5_2), (4, .int x4_3), (3, .int x3_4), (0, .ref o), (1, .int x1), (2, .int x2)]), W p l e { frames := 2, cells := 0, slots := 0, locals := 51 } s m args below meth c H locs 0 0 Q (F0 m 35 ls []) := by
        intro n_35
        induction n_35 with
        | zero => intro x6_1 x5_2 x4_3 x3_4 i0_35 i1_35 hm; exact absurd hm (Nat.not_lt_zero _)
        | succ n_35 ih_35 =>
          intro x6_1 x5_2 x4_3 x3_4 i0_35 i1_35 hm_35 hF ls H locs hh hl
          rw [F_X7_rates_35.eq_2] at hF
          refine lv_iload hx hb dX7_rates_35 (lv_at hl 0 rfl) ?_
          refine lv_bipush (v := 121) hx hb dX7_rates_37 (by decide) ?_
          refine lv_icmp_ge (tgt := 84) hx hb dX7_rates_39 (by decide) (fun c_39 => ?_) (fun c_39 => ?_)
          · replace hF := hF.trans (if_pos c_39)
            have i_39 : 121 ≤ x6_1.toInt := ti_le.mp c_39
            refine lv_iload_n hx hb dX7_rates_84 rfl (lv_at hl 6 rfl) ?_
            refine lv_if_ne (tgt := 92) hx hb dX7_rates_85 (by decide) (fun c_85 => ?_) (fun c_85 => ?_)
            · replace hF := hF.trans (if_neg c_85)
              have i_85 : ¬ x2.toInt = 0 := ti_ne c_85
              refine lv_iload_n hx hb dX7_rates_92 rfl (lv_at hl 6 rfl) ?_
              refine lv_iconst (v := 1) hx hb dX7_rates_93 (by decide) ?_
              refine lv_icmp_ne (tgt := 102) hx hb dX7_rates_94 (by decide) (fun c_94 => ?_) (fun c_94 => ?_)
              · replace hF := hF.trans (if_neg c_94)
                have i_94 : ¬ x2.toInt = 1 := ti_ne c_94
                refine lv_iload hx hb dX7_rates_102 (lv_at hl 1 rfl) ?_
                exact RT _ _ _ _ _ _ hh (rfl) (Or.inl ⟨_, rfl, by rw [hF], dX7_rates_104, Or.inl rfl⟩)
              · replace hF := hF.trans (if_pos c_94)
                have i_94 : x2.toInt = 1 := congrArg Int32.toInt c_94
                refine lv_iload hx hb dX7_rates_97 (lv_at hl 2 rfl) ?_
                refine lv_goto (tgt := 104) hx hb dX7_rates_99 (by decide) ?_
                exact RT _ _ _ _ _ _ hh (rfl) (Or.inl ⟨_, rfl, by rw [hF], dX7_rates_104, Or.inl rfl⟩)
            · replace hF := hF.trans (if_pos c_85)
              have i_85 : x2.toInt = 0 := congrArg Int32.toInt c_85
              refine lv_iload_n hx hb dX7_rates_88 rfl (lv_at hl 3 rfl) ?_
              refine lv_goto (tgt := 104) hx hb dX7_rates_89 (by decide) ?_
              exact RT _ _ _ _ _ _ hh (rfl) (Or.inl ⟨_, rfl, by rw [hF], dX7_rates_104, Or.inl rfl⟩)
          · replace hF := hF.trans (if_neg c_39)
            have i_39 : x6_1.toInt < 121 := ti_nle c_39
            refine lv_aload_n hx hb dX7_rates_42 rfl (lv_at hl 4 rfl) ?_
            refine lv_iload_n hx hb dX7_rates_43 rfl (lv_at hl 5 rfl) ?_
            refine lv_iload hx hb dX7_rates_44 (lv_at hl 0 rfl) ?_
            refine g_callV (As := [.int x1, .int x6_1]) (rest := []) KX rfl ⟨Nat.le_of_ble_eq_true rfl, Nat.le_of_ble_eq_true rfl⟩ hh hl (c_X7_isNoted l D cI cZ cC cH o a_clock a_note a_text a_read a_fit a_shown a_image a_isKept a_row a_best m_told m_isRead1 m_clock m_note m_noted m_bytes m_text m_position m_tokenAt m_token m_digits m_number m_faultAt m_readMany m_readTold m_read m_fit m_shown m_image m_isKept m_row m_best m_againAt m_againStep m_orderMany m_orderLeast x1 x6_1 (by first | with_reducible assumption | omega | decide) (by first | with_reducible assumption | omega | decide) (by first | with_reducible assumption | omega | decide) (by first | with_reducible assumption | omega | decide)) JN.all 2 gX7_rates_X7_isNoted rfl (by decide +kernel) ⟨Nat.le_of_ble_eq_true rfl, Nat.le_of_ble_eq_true rfl⟩ 0 7 rfl rfl rfl rfl rfl (Nat.le_of_ble_eq_true rfl) dX7_rates_46 (fun H locs hh => ?_)
            refine W.eq (g2 := F0 m 49 ls [.int (F_X7_isNoted m_clock m_note m_noted x1 x6_1)]) rfl ?_
            refine lv_if_eq (tgt := 78) hx hb dX7_rates_49 (by decide) (fun c_49 => ?_) (fun c_49 => ?_)
            · replace hF := hF.trans (if_pos c_49)
              refine lv_iinc (v := x6_1 + 1) (lv' := [(6, .int (x6_1 + 1)), (5, .int x5_2), (4, .int x4_3), (3, .int x3_4), (0, .ref o), (1, .int x1), (2, .int x2)]) hx hb dX7_rates_78 hl (k := 0) rfl rfl (Nat.le_of_ble_eq_true rfl) rfl (fun ls hl => ?_)
              refine lv_goto (tgt := 35) hx hb dX7_rates_81 (by decide) ?_
              have e_inc : (x6_1 + 1).toInt = _ := ti_inc (by omega)
              exact ih_35 (x6_1 + 1) x5_2 x4_3 x3_4 (by first | with_reducible assumption | omega | decide) (by first | with_reducible assumption | omega | decide) (by omega) hF _ _ _ hh (lv_sub hl [0, 1, 2, 3, 4, 5, 6] rfl)
            · replace hF := hF.trans (if_neg c_49)
              refine lv_iload_n hx hb dX7_rates_52 rfl (lv_at hl 3 rfl) ?_
              have K_66 : ∀ (y0_5 : Int32) (_ : R = (F_X7_rates_66 x6_1 x3_4 ((F_X7_rates_35 m_clock m_note m_noted x1 x2) n_35)) y0_5) (ls : Array Slot) (H : Heap) (locs : List Loc) (_ : HS D A s.heap (WM cI cZ cC cH o a_clock a_note a_text a_read a_fit a_shown a_image a_isKept a_row a_best m_told m_isRead1 m_clock m_note m_noted m_bytes m_text m_position m_tokenAt m_token m_digits m_number m_faultAt m_readMany m_readTold m_read m_fit m_shown m_image m_isKept m_row m_best m_againAt m_againStep m_orderMany m_orderLeast) H locs) (_ : lv_has ls 7 [(6, .int x6_1), (5, .int x5_2), (4, .int x4_3), (3, .int x3_4), (0, .ref o), (1, .int x1), (2, .int x2)]), W p l e { frames := 2, cells := 0, slots := 0, locals := 51 } s m args below meth c H locs 0 0 Q (F0 m 66 ls [.int y0_5]) := by
                intro y0_5 hF ls H locs hh hl
                unfold F_X7_rates_66 at hF
                refine lv_istore (lv' := [(4, .int y0_5), (6, .int x6_1), (5, .int x5_2), (3, .int x3_4), (0, .ref o), (1, .int x1), (2, .int x2)]) hx hb dX7_rates_66 hl (Nat.le_of_ble_eq_true rfl) rfl (fun ls hl => ?_)
                refine lv_iload hx hb dX7_rates_68 (lv_at hl 1 rfl) ?_
                refine lv_bipush (v := 120) hx hb dX7_rates_70 (by decide) ?_
                refine lv_iadd hx hb dX7_rates_72 ?_
                refine lv_istore (lv' := [(5, .int (x6_1 + 120)), (4, .int y0_5), (6, .int x6_1), (3, .int x3_4), (0, .ref o), (1, .int x1), (2, .int x2)]) hx hb dX7_rates_73 hl (Nat.le_of_ble_eq_true rfl) rfl (fun ls hl => ?_)
                refine lv_iinc (v := x3_4 + 1) (lv' := [(3, .int (x3_4 + 1)), (5, .int (x6_1 + 120)), (4, .int y0_5), (6, .int x6_1), (0, .ref o), (1, .int x1), (2, .int x2)]) hx hb dX7_rates_75 hl (k := 3) rfl rfl (Nat.le_of_ble_eq_true rfl) rfl (fun ls hl => ?_)
                refine lv_iinc (v := x6_1 + 1) (lv' := [(6, .int (x6_1 + 1)), (3, .int (x3_4 + 1)), (5, .int (x6_1 + 120)), (4, .int y0_5), (0, .ref o), (1, .int x1), (2, .int x2)]) hx hb dX7_rates_78 hl (k := 3) rfl rfl (Nat.le_of_ble_eq_true rfl) rfl (fun ls hl => ?_)
                refine lv_goto (tgt := 35) hx hb dX7_rates_81 (by decide) ?_
                have e_inc : (x6_1 + 1).toInt = _ := ti_inc (by omega)
                exact ih_35 (x6_1 + 1) (x6_1 + 120) y0_5 (x3_4 + 1) (by first | with_reducible assumption | omega | decide) (by first | with_reducible assumption | omega | decide) (by omega) hF _ _ _ hh (lv_sub hl [0, 2, 3, 1, 4, 5, 6] rfl)
              refine lv_if_ne (tgt := 64) hx hb dX7_rates_53 (by decide) (fun c_53 => ?_) (fun c_53 => ?_)
              · replace hF := hF.trans (if_neg c_53)
                have i_53 : ¬ x3_4.toInt = 0 := ti_ne c_53
                refine lv_iload hx hb dX7_rates_64 (lv_at hl 2 rfl) ?_
                exact K_66 x4_3  hF _ _ _ hh (lv_sub hl [0, 1, 2, 3, 4, 5, 6] rfl)
              · replace hF := hF.trans (if_pos c_53)
                have i_53 : x3_4.toInt = 0 := congrArg Int32.toInt c_53
                refine lv_iload hx hb dX7_rates_56 (lv_at hl 0 rfl) ?_
                refine lv_bipush (v := 120) hx hb dX7_rates_58 (by decide) ?_
                refine lv_iadd hx hb dX7_rates_60 ?_
                refine lv_goto (tgt := 66) hx hb dX7_rates_61 (by decide) ?_
                exact K_66 (x6_1 + 120)  hF _ _ _ hh (lv_sub hl [0, 1, 2, 3, 4, 5, 6] rfl)
      exact L_35 242 (-120) (-1) (-1) 0 (by first | with_reducible assumption | omega | decide) (by first | with_reducible assumption | omega | decide) (by first | omega | decide | (simp; done)) hF _ _ _ hh (lv_sub hl [0, 1, 2, 3, 4, 5, 6] rfl)
    · replace hF := hF.trans (if_pos c_17)
      refine lv_bipush (v := (-3)) hx hb dX7_rates_20 (by decide) ?_
      exact RT _ _ _ _ _ _ hh (rfl) (Or.inl ⟨_, rfl, by rw [hF], dX7_rates_22, Or.inl rfl⟩)
  · replace hF := hF.trans (if_pos c_5)
    refine lv_bipush (v := (-2)) hx hb dX7_rates_8 (by decide) ?_
    exact RT _ _ _ _ _ _ hh (rfl) (Or.inl ⟨_, rfl, by rw [hF], dX7_rates_10, Or.inl rfl⟩)
theorem rem_abs {a b : Int32} (hb : ¬ b = 0) : (a - a / b * b).toInt.natAbs < b.toInt.natAbs := by
  have hb' : b.toInt ≠ 0 := fun e => hb (Int32.toInt_inj.mp (e.trans rfl))
  rw [q_rem hb, Int.natAbs_tmod]
  exact Nat.mod_lt _ (by omega)
def F_X7_common_4  : Nat → Int32 → Int32 → Int32
  | 0, _, _ => default
  | n + 1, x3_1, x2_2 => (if x3_1 = 0 then x2_2 else ((F_X7_common_4 n) (x2_2 - x2_2 / x3_1 * x3_1) x3_1))
def F_X7_common (x0 : Int32) (x1 : Int32) : Int32 := (F_X7_common_4 (x1.toInt.natAbs + 1) x1 x0)
set_option maxHeartbeats 2000000 in
set_option maxRecDepth 100000 in
theorem c_X7_common (l : Launch) (D : va_G) (cI cZ cC cH : ClassId)  (x0 : Int32) (x1 : Int32)  : MC l D (TY cI cZ cC cH) yX7_common wsX7_common 0 0 [.int x0, .int x1] [] (some (.int (F_X7_common x0 x1))) [] := by
  obtain ⟨R, hF⟩ : ∃ R, R = F_X7_common x0 x1 := ⟨_, rfl⟩
  rw [← hF]
  refine MC.of (cc := cX7_common) (maxL := 5) (ret := (some .int)) RX7 rfl (by decide +kernel) rfl (Nat.le_of_ble_eq_true rfl) ?_
  intro p e s m args below meth c A Q KX RT hh ls hl
  have z0 : (0 : Int32).toInt = 0 := rfl
  have z1 : (1 : Int32).toInt = 1 := rfl
  have zm : (-1 : Int32).toInt = -1 := rfl
  have hx := KX.1
  have hb := KX.2.1
  have hl : lv_has ls 5 [(0, .int x0), (1, .int x1)] := hl
  unfold F_X7_common at hF
  refine lv_iload_n hx hb dX7_common_0 rfl (lv_at hl 0 rfl) ?_
  refine lv_istore_n (lv' := [(2, .int x0), (0, .int x0), (1, .int x1)]) hx hb dX7_common_1 rfl hl (Nat.le_of_ble_eq_true rfl) rfl (fun ls hl => ?_)
  refine lv_iload_n hx hb dX7_common_2 rfl (lv_at hl 2 rfl) ?_
  refine lv_istore_n (lv' := [(3, .int x1), (2, .int x0), (0, .int x0), (1, .int x1)]) hx hb dX7_common_3 rfl hl (Nat.le_of_ble_eq_true rfl) rfl (fun ls hl => ?_)
  have L_4 : ∀ (n_4 : Nat) (x3_1 : Int32) (x2_2 : Int32) (_ : x3_1.toInt.natAbs < n_4) (_ : R = (F_X7_common_4) n_4 x3_1 x2_2) (ls : Array Slot) (H : Heap) (locs : List Loc) (_ : HS D A s.heap [] H locs) (_ : lv_has ls 5 [(3, .int x3_1), (2, .int x2_2), (0, .int x0), (1, .int x1)]), W p l e { frames := 0, cells := 0, slots := 0, locals := 0 } s m args below meth c H locs 0 0 Q (F0 m 4 ls []) := by
    intro n_4
    induction n_4 with
    | zero => intro x3_1 x2_2 hm; exact absurd hm (Nat.not_lt_zero _)
    | succ n_4 ih_4 =>
      intro x3_1 x2_2 hm_4 hF ls H locs hh hl
      rw [F_X7_common_4.eq_2] at hF
      refine lv_iload_n hx hb dX7_common_4 rfl (lv_at hl 0 rfl) ?_
      refine lv_if_eq (tgt := 21) hx hb dX7_common_5 (by decide) (fun c_5 => ?_) (fun c_5 => ?_)
      · replace hF := hF.trans (if_pos c_5)
        have i_5 : x3_1.toInt = 0 := congrArg Int32.toInt c_5
        refine lv_iload_n hx hb dX7_common_21 rfl (lv_at hl 1 rfl) ?_
        exact RT _ _ _ _ _ _ hh (rfl) (Or.inl ⟨_, rfl, by rw [hF], dX7_common_22, Or.inl rfl⟩)
      · replace hF := hF.trans (if_neg c_5)
        have i_5 : ¬ x3_1.toInt = 0 := ti_ne c_5
        refine lv_iload_n hx hb dX7_common_8 rfl (lv_at hl 1 rfl) ?_
        refine lv_iload_n hx hb dX7_common_9 rfl (lv_at hl 0 rfl) ?_
        refine lv_irem hx hb dX7_common_10 (c_5) ?_
        refine lv_istore (lv' := [(4, .int (x2_2 - x2_2 / x3_1 * x3_1)), (3, .int x3_1), (2, .int x2_2), (0, .int x0), (1, .int x1)]) hx hb dX7_common_11 hl (Nat.le_of_ble_eq_true rfl) rfl (fun ls hl => ?_)
        refine lv_iload_n hx hb dX7_common_13 rfl (lv_at hl 1 rfl) ?_
        refine lv_istore_n (lv' := [(2, .int x3_1), (4, .int (x2_2 - x2_2 / x3_1 * x3_1)), (3, .int x3_1), (0, .int x0), (1, .int x1)]) hx hb dX7_common_14 rfl hl (Nat.le_of_ble_eq_true rfl) rfl (fun ls hl => ?_)
        refine lv_iload hx hb dX7_common_15 (lv_at hl 1 rfl) ?_
        refine lv_istore_n (lv' := [(3, .int (x2_2 - x2_2 / x3_1 * x3_1)), (2, .int x3_1), (4, .int (x2_2 - x2_2 / x3_1 * x3_1)), (0, .int x0), (1, .int x1)]) hx hb dX7_common_17 rfl hl (Nat.le_of_ble_eq_true rfl) rfl (fun ls hl => ?_)
        refine lv_goto (tgt := 4) hx hb dX7_common_18 (by decide) ?_
        exact ih_4 (x2_2 - x2_2 / x3_1 * x3_1) x3_1  (Nat.lt_of_lt_of_le (rem_abs c_5) (by omega)) hF _ _ _ hh (lv_sub hl [0, 1, 3, 4] rfl)
  exact L_4 (x1.toInt.natAbs + 1) x1 x0  (by omega) hF _ _ _ hh (lv_sub hl [0, 1, 2, 3] rfl)
/-- what a clock's six places hold, told or not -/
def CkR (c : Nat → Int32) : Prop := ∀ k, k < 8 → (0 ≤ (c (6 * k)).toInt ∧ (c (6 * k)).toInt ≤ 2) ∧ (0 ≤ (c (6 * k + 1)).toInt ∧ (c (6 * k + 1)).toInt ≤ 4319) ∧ (0 ≤ (c (6 * k + 2)).toInt ∧ (c (6 * k + 2)).toInt ≤ 719) ∧ (-1440 ≤ (c (6 * k + 3)).toInt ∧ (c (6 * k + 3)).toInt ≤ 120) ∧ (-1440 ≤ (c (6 * k + 4)).toInt ∧ (c (6 * k + 4)).toInt ≤ 120) ∧ (¬ c (6 * k) = 2 → -120 ≤ (c (6 * k + 3)).toInt ∧ -120 ≤ (c (6 * k + 4)).toInt)
theorem tn_of {x : Int32} (h : 0 ≤ x.toInt) : (x.toNatClampNeg : Int) = x.toInt := by
  rw [← Int32.toNat_toInt]; omega
theorem ix_c {k c : Int32} (n : Nat) (h0 : 0 ≤ k.toInt) (h1 : k.toInt < 8) (hc : c.toInt = (n : Int)) (hn : n < 6) : (6 * k + c).toNatClampNeg = 6 * k.toNatClampNeg + n := by
  have e1 := ti_mulc k 6 6 rfl (by omega) (by omega)
  have e2 := ti_addc (6 * k) c n hc (by omega) (by omega)
  have e3 := tn_of h0
  have e4 := tn_of (x := 6 * k + c) (by omega)
  omega
theorem ix_0 {k : Int32} (h0 : 0 ≤ k.toInt) (h1 : k.toInt < 8) : (6 * k).toNatClampNeg = 6 * k.toNatClampNeg := by
  have e1 := ti_mulc k 6 6 rfl (by omega) (by omega)
  have e3 := tn_of h0
  have e4 := tn_of (x := 6 * k) (by omega)
  omega
theorem tn_lt {k : Int32} {n : Nat} (h0 : 0 ≤ k.toInt) (h1 : k.toInt < n) : k.toNatClampNeg < n := by
  have e3 := tn_of h0
  omega
theorem CkR.low {c : Nat → Int32} (h : CkR c) {k : Int32} (h0 : 0 ≤ k.toInt) (h1 : k.toInt < 8) : -1440 ≤ (c (6 * k + 3).toNatClampNeg).toInt ∧ (c (6 * k + 3).toNatClampNeg).toInt ≤ 120 := by
  rw [ix_c 3 h0 h1 rfl (by decide)]
  exact (h _ (tn_lt h0 h1)).2.2.2.1
theorem CkR.fast {c : Nat → Int32} (h : CkR c) {k : Int32} (h0 : 0 ≤ k.toInt) (h1 : k.toInt < 8) (hn : ¬ c (6 * k).toNatClampNeg = 2) : -120 ≤ (c (6 * k + 3).toNatClampNeg).toInt ∧ (c (6 * k + 3).toNatClampNeg).toInt ≤ 120 := by
  rw [ix_0 h0 h1] at hn
  rw [ix_c 3 h0 h1 rfl (by decide)]
  have := h _ (tn_lt h0 h1)
  exact ⟨(this.2.2.2.2.2 hn).1, this.2.2.2.1.2⟩
theorem ti_neg {a : Int32} (h : -2147483648 < a.toInt) : (-a).toInt = -a.toInt := by
  have h2 := Int32.toInt_lt a
  rw [Int32.toInt_neg]; exact Int.bmod_eq_of_le (by omega) (by omega)
theorem ti_div {a b : Int32} (ha : 0 ≤ a.toInt) (hb : 0 < b.toInt) : (a / b).toInt = a.toInt / b.toInt := by
  have h2 := Int32.toInt_lt a
  rw [Int32.toInt_div, Int.tdiv_eq_ediv_of_nonneg ha]
  have h3 := Int.ediv_nonneg ha (Int.le_of_lt hb)
  have h4 := Int.ediv_le_self b.toInt ha
  exact Int.bmod_eq_of_le (by omega) (by omega)
theorem common_4 : ∀ (n : Nat) (x y : Int32), 0 ≤ x.toInt → 0 ≤ y.toInt → y.toInt.natAbs < n → (F_X7_common_4 n y x).toInt = (Nat.gcd x.toInt.toNat y.toInt.toNat : Nat) := by
  intro n
  induction n with
  | zero => intro x y _ _ h; exact absurd h (Nat.not_lt_zero _)
  | succ n ih =>
    intro x y hx hy hm
    rw [F_X7_common_4.eq_2]
    split
    · rename_i h0
      rw [h0]
      have e0 : (0 : Int32).toInt.toNat = 0 := rfl
      rw [e0, Nat.gcd_zero_right]
      omega
    · rename_i h0
      have hne : ¬ y.toInt = 0 := ti_ne h0
      have hr := q_rem (a := x) h0
      rw [Int.tmod_eq_emod_of_nonneg hx] at hr
      have h1 := Int.emod_nonneg x.toInt hne
      have h2 := Int.emod_lt_of_pos x.toInt (show 0 < y.toInt by omega)
      rw [ih _ _ hy (by rw [hr]; exact h1) (by rw [hr]; omega), hr]
      have e : (x.toInt % y.toInt).toNat = x.toInt.toNat % y.toInt.toNat := Int.toNat_emod hx hy
      rw [e, Nat.gcd_comm _ (x.toInt.toNat % y.toInt.toNat), ← Nat.gcd_rec, Nat.gcd_comm]
theorem common_gcd {a b : Int32} (ha : 0 ≤ a.toInt) (hb : 0 ≤ b.toInt) : (F_X7_common a b).toInt = (Nat.gcd a.toInt.toNat b.toInt.toNat : Nat) := common_4 _ _ _ ha hb (Nat.lt_succ_self _)
theorem common_pos {a b : Int32} (ha : 0 < a.toInt) (hb : 0 ≤ b.toInt) : 0 < (F_X7_common a b).toInt ∧ (F_X7_common a b).toInt ≤ a.toInt := by
  rw [common_gcd (by omega) hb]
  have h1 := Nat.gcd_pos_of_pos_left b.toInt.toNat (show 0 < a.toInt.toNat by omega)
  have h2 := Nat.gcd_le_left b.toInt.toNat (show 0 < a.toInt.toNat by omega)
  omega
theorem ne_of_pos {a : Int32} (h : 0 < a.toInt) : ¬ a = 0 := fun e => by rw [e] at h; exact absurd h (by decide)
theorem div_pos {a b : Int32} (hb : 0 < b.toInt) (h : b.toInt ≤ a.toInt) : 0 < (a / b).toInt ∧ (a / b).toInt ≤ a.toInt := by
  rw [ti_div (by omega) hb]
  have h1 := Int.ediv_le_self b.toInt (show 0 ≤ a.toInt by omega)
  have h2 : 1 ≤ a.toInt / b.toInt := (Int.le_ediv_iff_mul_le hb).mpr (by omega)
  omega
/-- a step between meetings: it goes into the round -/
def AS (m : Int32) : Prop := 0 < m.toInt ∧ m.toInt.toNat ∣ 1036800
theorem half_lt {k : Int32} (h : 0 < k.toInt) : (k / 2).toInt.toNat < k.toInt.toNat := by
  have e : (2 : Int32).toInt = 2 := rfl
  rw [ti_div (by omega) (by rw [e]; omega), e]
  omega
theorem ne64 {a : Int32} (h : 0 < a.toInt) : ¬ a.toInt64 = 0 := fun e => by
  have h2 : a.toInt64.toInt = (0 : Int64).toInt := by rw [e]
  rw [Int32.toInt_toInt64] at h2
  have e0 : (0 : Int64).toInt = 0 := rfl
  omega
def F_X7_isAgain_103 (m_againStep : Int32) (x4_1 : Int32) (x3_2 : Int32) (x5_4 : Int32) (x6_5 : Int32) : Nat → Int32 → Int32 → Int32 × Int32 × Int32
  | 0, _, _ => default
  | n + 1, x7_6, w_m_againAt_7 => (if x6_5 ≤ x7_6 then (0, w_m_againAt_7, m_againStep) else (if (lg_cmp ((x4_1.toInt64 + (x3_2.toInt64 * w_m_againAt_7.toInt64)) - (x4_1.toInt64 + (x3_2.toInt64 * w_m_againAt_7.toInt64)) / 1036800 * 1036800) 0) = 0 then (1, w_m_againAt_7, (m_againStep / (F_X7_common m_againStep x5_4)) * x5_4) else ((F_X7_isAgain_103 m_againStep x4_1 x3_2 x5_4 x6_5 n) (x7_6 + 1) (w_m_againAt_7 + m_againStep))))
def F_X7_isAgain_100 (m_againAt : Int32) (m_againStep : Int32) (x4_1 : Int32) (x3_2 : Int32) (x5_4 : Int32) (x6_5 : Int32) : Int32 × Int32 × Int32 := (F_X7_isAgain_103 m_againStep x4_1 x3_2 x5_4 x6_5 (x6_5.toInt.toNat + 1) 0 m_againAt)
def F_X7_isAgain_86 (m_againAt : Int32) (m_againStep : Int32) (x4_1 : Int32) (x3_2 : Int32) (x5_4 : Int32) : Int32 × Int32 × Int32 := (F_X7_isAgain_100 m_againAt m_againStep x4_1 x3_2 x5_4 (x5_4 / (F_X7_common m_againStep x5_4)))
def F_X7_isAgain_80 (m_againAt : Int32) (m_againStep : Int32) (x4_1 : Int32) (x3_2 : Int32) (y0_3 : Int32) : Int32 × Int32 × Int32 := (F_X7_isAgain_86 m_againAt m_againStep x4_1 x3_2 (1036800 / (F_X7_common 1036800 y0_3)))
def F_X7_isAgain_66 (m_againAt : Int32) (m_againStep : Int32) (x4_1 : Int32) (x3_2 : Int32) : Int32 × Int32 × Int32 := (if 0 ≤ x3_2 then (F_X7_isAgain_80 m_againAt m_againStep x4_1 x3_2 x3_2) else (F_X7_isAgain_80 m_againAt m_againStep x4_1 x3_2 (-x3_2)))
def F_X7_isAgain (m_clock : Nat → Int32) (m_againAt : Int32) (m_againStep : Int32) (x1 : Int32) (x2 : Int32) : Int32 × Int32 × Int32 := (F_X7_isAgain_66 m_againAt m_againStep (F_X7_rest ((F_X7_hand m_clock x2 0 (m_clock ((6 * x2) + 3).toNatClampNeg)) - (F_X7_hand m_clock x1 0 (m_clock ((6 * x1) + 3).toNatClampNeg))) 1036800) ((m_clock ((6 * x2) + 3).toNatClampNeg) - (m_clock ((6 * x1) + 3).toNatClampNeg)))
theorem in_X7_isAgain_X7 : ∀ x ∈ u_ws RX7 TX7 26, x ∈ wsX7_isAgain := by decide +kernel
set_option maxHeartbeats 2000000 in
set_option maxRecDepth 100000 in
theorem c_X7_isAgain (l : Launch) (D : va_G) (cI cZ cC cH : ClassId) (o a_clock a_note a_text a_read a_fit a_shown a_image a_isKept a_row a_best : Nat) (m_told : Int32) (m_isRead1 : Int32) (m_clock : Nat → Int32) (m_note : Nat → Int32) (m_noted : Int32) (m_bytes : Int32) (m_text : Nat → Int32) (m_position : Int32) (m_tokenAt : Int32) (m_token : Int64) (m_digits : Int32) (m_number : Int32) (m_faultAt : Int32) (m_readMany : Int32) (m_readTold : Int32) (m_read : Nat → Int32) (m_fit : Nat → Int32) (m_shown : Nat → Int32) (m_image : Nat → Int32) (m_isKept : Nat → Int32) (m_row : Nat → Int32) (m_best : Nat → Int32) (m_againAt : Int32) (m_againStep : Int32) (m_orderMany : Int32) (m_orderLeast : Int32) (x1 : Int32) (x2 : Int32) (hk0 : 0 ≤ x1.toInt) (hk1 : x1.toInt < 8) (hj0 : 0 ≤ x2.toInt) (hj1 : x2.toInt < 8) (hc : CkR m_clock) (hs : AS m_againStep) : MC l D (TY cI cZ cC cH) yX7_isAgain wsX7_isAgain 1 24 [.ref o, .int x1, .int x2] (WM cI cZ cC cH o a_clock a_note a_text a_read a_fit a_shown a_image a_isKept a_row a_best m_told m_isRead1 m_clock m_note m_noted m_bytes m_text m_position m_tokenAt m_token m_digits m_number m_faultAt m_readMany m_readTold m_read m_fit m_shown m_image m_isKept m_row m_best m_againAt m_againStep m_orderMany m_orderLeast) (some (.int ((F_X7_isAgain m_clock m_againAt m_againStep x1 x2).1))) (WM cI cZ cC cH o a_clock a_note a_text a_read a_fit a_shown a_image a_isKept a_row a_best m_told m_isRead1 m_clock m_note m_noted m_bytes m_text m_position m_tokenAt m_token m_digits m_number m_faultAt m_readMany m_readTold m_read m_fit m_shown m_image m_isKept m_row m_best (F_X7_isAgain m_clock m_againAt m_againStep x1 x2).2.1 (F_X7_isAgain m_clock m_againAt m_againStep x1 x2).2.2 m_orderMany m_orderLeast) := by
  obtain ⟨R, hF⟩ : ∃ R, R = F_X7_isAgain m_clock m_againAt m_againStep x1 x2 := ⟨_, rfl⟩
  rw [← hF]
  refine MC.of (cc := cX7_isAgain) (maxL := 8) (ret := (some .boolean)) RX7 rfl (by decide +kernel) rfl (Nat.le_of_ble_eq_true rfl) ?_
  intro p e s m args below meth c A Q KX RT hh ls hl
  have z0 : (0 : Int32).toInt = 0 := rfl
  have z1 : (1 : Int32).toInt = 1 := rfl
  have zm : (-1 : Int32).toInt = -1 := rfl
  have hx := KX.1
  have hb := KX.2.1
  have hl : lv_has ls 8 [(0, .ref o), (1, .int x1), (2, .int x2)] := hl
  unfold F_X7_isAgain at hF
  refine lv_aload_n hx hb dX7_isAgain_0 rfl (lv_at hl 0 rfl) ?_
  refine g_get KX hh in_X7_isAgain_X7 0 rfl rfl 2 (by decide) rfl (List.mem_of_getElem? (i := 1) rfl) dX7_isAgain_1 ?_
  refine lv_bipush (v := 6) hx hb dX7_isAgain_4 (by decide) ?_
  refine lv_iload_n hx hb dX7_isAgain_6 rfl (lv_at hl 2 rfl) ?_
  refine lv_imul hx hb dX7_isAgain_7 ?_
  refine lv_iconst (v := 3) hx hb dX7_isAgain_8 (by decide) ?_
  refine lv_iadd hx hb dX7_isAgain_9 ?_
  refine g_iald KX hh 1 0 rfl rfl (ix6 3 (by omega) (by omega) (by decide)) dX7_isAgain_10 ?_
  refine lv_aload_n hx hb dX7_isAgain_11 rfl (lv_at hl 0 rfl) ?_
  refine g_get KX hh in_X7_isAgain_X7 0 rfl rfl 2 (by decide) rfl (List.mem_of_getElem? (i := 1) rfl) dX7_isAgain_12 ?_
  refine lv_bipush (v := 6) hx hb dX7_isAgain_15 (by decide) ?_
  refine lv_iload_n hx hb dX7_isAgain_17 rfl (lv_at hl 1 rfl) ?_
  refine lv_imul hx hb dX7_isAgain_18 ?_
  refine lv_iconst (v := 3) hx hb dX7_isAgain_19 (by decide) ?_
  refine lv_iadd hx hb dX7_isAgain_20 ?_
  refine g_iald KX hh 1 0 rfl rfl (ix6 3 (by omega) (by omega) (by decide)) dX7_isAgain_21 ?_
  refine lv_isub hx hb dX7_isAgain_22 ?_
  refine lv_istore_n (lv' := [(3, .int ((m_clock ((6 * x2) + 3).toNatClampNeg) - (m_clock ((6 * x1) + 3).toNatClampNeg))), (0, .ref o), (1, .int x1), (2, .int x2)]) hx hb dX7_isAgain_23 rfl hl (Nat.le_of_ble_eq_true rfl) rfl (fun ls hl => ?_)
  obtain ⟨r1, r2⟩ := hc.low hj0 hj1
  obtain ⟨r3, r4⟩ := hc.low hk0 hk1
  have eby : ((m_clock ((6 * x2) + 3).toNatClampNeg) - (m_clock ((6 * x1) + 3).toNatClampNeg)).toInt = _ := ti_sub (by omega) (by omega)
  refine lv_aload_n hx hb dX7_isAgain_24 rfl (lv_at hl 1 rfl) ?_
  refine lv_iload_n hx hb dX7_isAgain_25 rfl (lv_at hl 3 rfl) ?_
  refine lv_iconst (v := 0) hx hb dX7_isAgain_26 (by decide) ?_
  refine lv_aload_n hx hb dX7_isAgain_27 rfl (lv_at hl 1 rfl) ?_
  refine g_get KX hh in_X7_isAgain_X7 0 rfl rfl 2 (by decide) rfl (List.mem_of_getElem? (i := 1) rfl) dX7_isAgain_28 ?_
  refine lv_bipush (v := 6) hx hb dX7_isAgain_31 (by decide) ?_
  refine lv_iload_n hx hb dX7_isAgain_33 rfl (lv_at hl 3 rfl) ?_
  refine lv_imul hx hb dX7_isAgain_34 ?_
  refine lv_iconst (v := 3) hx hb dX7_isAgain_35 (by decide) ?_
  refine lv_iadd hx hb dX7_isAgain_36 ?_
  refine g_iald KX hh 1 0 rfl rfl (ix6 3 (by omega) (by omega) (by decide)) dX7_isAgain_37 ?_
  refine g_callV (As := [.int x2, .int 0, .int (m_clock ((6 * x2) + 3).toNatClampNeg)]) (rest := []) KX rfl ⟨Nat.le_of_ble_eq_true rfl, Nat.le_of_ble_eq_true rfl⟩ hh hl (c_X7_hand l D cI cZ cC cH o a_clock a_note a_text a_read a_fit a_shown a_image a_isKept a_row a_best m_told m_isRead1 m_clock m_note m_noted m_bytes m_text m_position m_tokenAt m_token m_digits m_number m_faultAt m_readMany m_readTold m_read m_fit m_shown m_image m_isKept m_row m_best m_againAt m_againStep m_orderMany m_orderLeast x2 0 (m_clock ((6 * x2) + 3).toNatClampNeg) (by first | with_reducible assumption | omega | decide) (by first | with_reducible assumption | omega | decide)) JN.all 3 gX7_isAgain_X7_hand rfl (by decide +kernel) ⟨Nat.le_of_ble_eq_true rfl, Nat.le_of_ble_eq_true rfl⟩ 0 7 rfl rfl rfl rfl rfl (Nat.le_of_ble_eq_true rfl) dX7_isAgain_38 (fun H locs hh => ?_)
  refine W.eq (g2 := F0 m 41 ls [.int (F_X7_hand m_clock x2 0 (m_clock ((6 * x2) + 3).toNatClampNeg))]) rfl ?_
  refine lv_aload_n hx hb dX7_isAgain_41 rfl (lv_at hl 1 rfl) ?_
  refine lv_iload_n hx hb dX7_isAgain_42 rfl (lv_at hl 2 rfl) ?_
  refine lv_iconst (v := 0) hx hb dX7_isAgain_43 (by decide) ?_
  refine lv_aload_n hx hb dX7_isAgain_44 rfl (lv_at hl 1 rfl) ?_
  refine g_get KX hh in_X7_isAgain_X7 0 rfl rfl 2 (by decide) rfl (List.mem_of_getElem? (i := 1) rfl) dX7_isAgain_45 ?_
  refine lv_bipush (v := 6) hx hb dX7_isAgain_48 (by decide) ?_
  refine lv_iload_n hx hb dX7_isAgain_50 rfl (lv_at hl 2 rfl) ?_
  refine lv_imul hx hb dX7_isAgain_51 ?_
  refine lv_iconst (v := 3) hx hb dX7_isAgain_52 (by decide) ?_
  refine lv_iadd hx hb dX7_isAgain_53 ?_
  refine g_iald KX hh 1 0 rfl rfl (ix6 3 (by omega) (by omega) (by decide)) dX7_isAgain_54 ?_
  refine g_callV (As := [.int x1, .int 0, .int (m_clock ((6 * x1) + 3).toNatClampNeg)]) (rest := [.int (F_X7_hand m_clock x2 0 (m_clock ((6 * x2) + 3).toNatClampNeg))]) KX rfl ⟨Nat.le_of_ble_eq_true rfl, Nat.le_of_ble_eq_true rfl⟩ hh hl (c_X7_hand l D cI cZ cC cH o a_clock a_note a_text a_read a_fit a_shown a_image a_isKept a_row a_best m_told m_isRead1 m_clock m_note m_noted m_bytes m_text m_position m_tokenAt m_token m_digits m_number m_faultAt m_readMany m_readTold m_read m_fit m_shown m_image m_isKept m_row m_best m_againAt m_againStep m_orderMany m_orderLeast x1 0 (m_clock ((6 * x1) + 3).toNatClampNeg) (by first | with_reducible assumption | omega | decide) (by first | with_reducible assumption | omega | decide)) JN.all 3 gX7_isAgain_X7_hand rfl (by decide +kernel) ⟨Nat.le_of_ble_eq_true rfl, Nat.le_of_ble_eq_true rfl⟩ 0 7 rfl rfl rfl rfl rfl (Nat.le_of_ble_eq_true rfl) dX7_isAgain_55 (fun H locs hh => ?_)
  refine W.eq (g2 := F0 m 58 ls [.int (F_X7_hand m_clock x1 0 (m_clock ((6 * x1) + 3).toNatClampNeg)), .int (F_X7_hand m_clock x2 0 (m_clock ((6 * x2) + 3).toNatClampNeg))]) rfl ?_
  refine lv_isub hx hb dX7_isAgain_58 ?_
  refine lv_ldc (v := 1036800) hx hb KX.2.2.2.1 (KX.2.2.2.2.1 _ (List.mem_of_getElem? (i := 2) rfl)) dX7_isAgain_59 ?_
  refine g_callS (As := [.int ((F_X7_hand m_clock x2 0 (m_clock ((6 * x2) + 3).toNatClampNeg)) - (F_X7_hand m_clock x1 0 (m_clock ((6 * x1) + 3).toNatClampNeg))), .int 1036800]) (rest := []) KX rfl ⟨Nat.le_of_ble_eq_true rfl, Nat.le_of_ble_eq_true rfl⟩ hh hl (c_X7_rest l D cI cZ cC cH  ((F_X7_hand m_clock x2 0 (m_clock ((6 * x2) + 3).toNatClampNeg)) - (F_X7_hand m_clock x1 0 (m_clock ((6 * x1) + 3).toNatClampNeg))) 1036800 (by first | with_reducible assumption | omega | decide)) JN.no 2 gX7_isAgain_X7_rest rfl (by decide +kernel) ⟨Nat.le_of_ble_eq_true rfl, Nat.le_of_ble_eq_true rfl⟩ rfl rfl (Nat.le_of_ble_eq_true rfl) dX7_isAgain_61 (fun H locs hh => ?_)
  refine W.eq (g2 := F0 m 64 ls [.int (F_X7_rest ((F_X7_hand m_clock x2 0 (m_clock ((6 * x2) + 3).toNatClampNeg)) - (F_X7_hand m_clock x1 0 (m_clock ((6 * x1) + 3).toNatClampNeg))) 1036800)]) rfl ?_
  refine lv_istore (lv' := [(4, .int (F_X7_rest ((F_X7_hand m_clock x2 0 (m_clock ((6 * x2) + 3).toNatClampNeg)) - (F_X7_hand m_clock x1 0 (m_clock ((6 * x1) + 3).toNatClampNeg))) 1036800)), (3, .int ((m_clock ((6 * x2) + 3).toNatClampNeg) - (m_clock ((6 * x1) + 3).toNatClampNeg))), (0, .ref o), (1, .int x1), (2, .int x2)]) hx hb dX7_isAgain_64 hl (Nat.le_of_ble_eq_true rfl) rfl (fun ls hl => ?_)
  have K_66 : ∀ (x4_1 : Int32) (x3_2 : Int32) (eb0 : -2000 ≤ x3_2.toInt) (eb1 : x3_2.toInt ≤ 2000) (_ : R = (F_X7_isAgain_66 m_againAt m_againStep) x4_1 x3_2) (ls : Array Slot) (H : Heap) (locs : List Loc) (_ : HS D A s.heap (WM cI cZ cC cH o a_clock a_note a_text a_read a_fit a_shown a_image a_isKept a_row a_best m_told m_isRead1 m_clock m_note m_noted m_bytes m_text m_position m_tokenAt m_token m_digits m_number m_faultAt m_readMany m_readTold m_read m_fit m_shown m_image m_isKept m_row m_best m_againAt m_againStep m_orderMany m_orderLeast) H locs) (_ : lv_has ls 8 [(4, .int x4_1), (3, .int x3_2), (0, .ref o), (1, .int x1), (2, .int x2)]), W p l e { frames := 1, cells := 0, slots := 0, locals := 24 } s m args below meth c H locs 0 0 Q (F0 m 66 ls []) := by
    intro x4_1 x3_2 eb0 eb1 hF ls H locs hh hl
    unfold F_X7_isAgain_66 at hF
    refine lv_ldc (v := 1036800) hx hb KX.2.2.2.1 (KX.2.2.2.2.1 _ (List.mem_of_getElem? (i := 2) rfl)) dX7_isAgain_66 ?_
    refine lv_ldc (v := 1036800) hx hb KX.2.2.2.1 (KX.2.2.2.2.1 _ (List.mem_of_getElem? (i := 2) rfl)) dX7_isAgain_68 ?_
    refine lv_iload_n hx hb dX7_isAgain_70 rfl (lv_at hl 1 rfl) ?_
    have K_80 : ∀ (y0_3 : Int32) (hby0 : 0 ≤ y0_3.toInt) (_ : R = (F_X7_isAgain_80 m_againAt m_againStep x4_1 x3_2) y0_3) (ls : Array Slot) (H : Heap) (locs : List Loc) (_ : HS D A s.heap (WM cI cZ cC cH o a_clock a_note a_text a_read a_fit a_shown a_image a_isKept a_row a_best m_told m_isRead1 m_clock m_note m_noted m_bytes m_text m_position m_tokenAt m_token m_digits m_number m_faultAt m_readMany m_readTold m_read m_fit m_shown m_image m_isKept m_row m_best m_againAt m_againStep m_orderMany m_orderLeast) H locs) (_ : lv_has ls 8 [(4, .int x4_1), (3, .int x3_2), (0, .ref o), (1, .int x1), (2, .int x2)]), W p l e { frames := 1, cells := 0, slots := 0, locals := 24 } s m args below meth c H locs 0 0 Q (F0 m 80 ls [.int y0_3, .int 1036800, .int 1036800]) := by
      intro y0_3 hby0 hF ls H locs hh hl
      unfold F_X7_isAgain_80 at hF
      refine g_callS (As := [.int 1036800, .int y0_3]) (rest := [.int 1036800]) KX rfl ⟨Nat.le_of_ble_eq_true rfl, Nat.le_of_ble_eq_true rfl⟩ hh hl (c_X7_common l D cI cZ cC cH  1036800 y0_3 ) JN.no 2 gX7_isAgain_X7_common rfl (by decide +kernel) ⟨Nat.le_of_ble_eq_true rfl, Nat.le_of_ble_eq_true rfl⟩ rfl rfl (Nat.le_of_ble_eq_true rfl) dX7_isAgain_80 (fun H locs hh => ?_)
      refine W.eq (g2 := F0 m 83 ls [.int (F_X7_common 1036800 y0_3), .int 1036800]) rfl ?_
      refine lv_idiv hx hb dX7_isAgain_83 (ne_of_pos (common_pos (by decide) hby0).1) ?_
      obtain ⟨pp1, pp2⟩ := common_pos (a := 1036800) (by decide) hby0
      obtain ⟨ev1, ev2⟩ : 0 < (1036800 / (F_X7_common 1036800 y0_3)).toInt ∧ (1036800 / (F_X7_common 1036800 y0_3)).toInt ≤ 1036800 := div_pos (a := 1036800) pp1 pp2
      refine lv_istore (lv' := [(5, .int (1036800 / (F_X7_common 1036800 y0_3))), (4, .int x4_1), (3, .int x3_2), (0, .ref o), (1, .int x1), (2, .int x2)]) hx hb dX7_isAgain_84 hl (Nat.le_of_ble_eq_true rfl) rfl (fun ls hl => ?_)
      have K_86 : ∀ (x5_4 : Int32) (ev1 : 0 < x5_4.toInt) (ev2 : x5_4.toInt ≤ 1036800) (_ : R = (F_X7_isAgain_86 m_againAt m_againStep x4_1 x3_2) x5_4) (ls : Array Slot) (H : Heap) (locs : List Loc) (_ : HS D A s.heap (WM cI cZ cC cH o a_clock a_note a_text a_read a_fit a_shown a_image a_isKept a_row a_best m_told m_isRead1 m_clock m_note m_noted m_bytes m_text m_position m_tokenAt m_token m_digits m_number m_faultAt m_readMany m_readTold m_read m_fit m_shown m_image m_isKept m_row m_best m_againAt m_againStep m_orderMany m_orderLeast) H locs) (_ : lv_has ls 8 [(5, .int x5_4), (4, .int x4_1), (3, .int x3_2), (0, .ref o), (1, .int x1), (2, .int x2)]), W p l e { frames := 1, cells := 0, slots := 0, locals := 24 } s m args below meth c H locs 0 0 Q (F0 m 86 ls []) := by
        intro x5_4 ev1 ev2 hF ls H locs hh hl
        unfold F_X7_isAgain_86 at hF
        refine lv_iload hx hb dX7_isAgain_86 (lv_at hl 0 rfl) ?_
        refine lv_aload_n hx hb dX7_isAgain_88 rfl (lv_at hl 3 rfl) ?_
        refine g_get KX hh in_X7_isAgain_X7 0 rfl rfl 23 (by decide) rfl (List.mem_of_getElem? (i := 3) rfl) dX7_isAgain_89 ?_
        refine lv_iload hx hb dX7_isAgain_92 (lv_at hl 0 rfl) ?_
        refine g_callS (As := [.int m_againStep, .int x5_4]) (rest := [.int x5_4]) KX rfl ⟨Nat.le_of_ble_eq_true rfl, Nat.le_of_ble_eq_true rfl⟩ hh hl (c_X7_common l D cI cZ cC cH  m_againStep x5_4 ) JN.no 2 gX7_isAgain_X7_common rfl (by decide +kernel) ⟨Nat.le_of_ble_eq_true rfl, Nat.le_of_ble_eq_true rfl⟩ rfl rfl (Nat.le_of_ble_eq_true rfl) dX7_isAgain_94 (fun H locs hh => ?_)
        refine W.eq (g2 := F0 m 97 ls [.int (F_X7_common m_againStep x5_4), .int x5_4]) rfl ?_
        refine lv_idiv hx hb dX7_isAgain_97 (ne_of_pos (common_pos hs.1 (Int.le_of_lt ev1)).1) ?_
        refine lv_istore (lv' := [(6, .int (x5_4 / (F_X7_common m_againStep x5_4))), (5, .int x5_4), (4, .int x4_1), (3, .int x3_2), (0, .ref o), (1, .int x1), (2, .int x2)]) hx hb dX7_isAgain_98 hl (Nat.le_of_ble_eq_true rfl) rfl (fun ls hl => ?_)
        have K_100 : ∀ (x6_5 : Int32) (_ : R = (F_X7_isAgain_100 m_againAt m_againStep x4_1 x3_2 x5_4) x6_5) (ls : Array Slot) (H : Heap) (locs : List Loc) (_ : HS D A s.heap (WM cI cZ cC cH o a_clock a_note a_text a_read a_fit a_shown a_image a_isKept a_row a_best m_told m_isRead1 m_clock m_note m_noted m_bytes m_text m_position m_tokenAt m_token m_digits m_number m_faultAt m_readMany m_readTold m_read m_fit m_shown m_image m_isKept m_row m_best m_againAt m_againStep m_orderMany m_orderLeast) H locs) (_ : lv_has ls 8 [(6, .int x6_5), (5, .int x5_4), (4, .int x4_1), (3, .int x3_2), (0, .ref o), (1, .int x1), (2, .int x2)]), W p l e { frames := 1, cells := 0, slots := 0, locals := 24 } s m args below meth c H locs 0 0 Q (F0 m 100 ls []) := by
          intro x6_5 hF ls H locs hh hl
          unfold F_X7_isAgain_100 at hF
          refine lv_iconst (v := 0) hx hb dX7_isAgain_100 (by decide) ?_
          refine lv_istore (lv' := [(7, .int 0), (6, .int x6_5), (5, .int x5_4), (4, .int x4_1), (3, .int x3_2), (0, .ref o), (1, .int x1), (2, .int x2)]) hx hb dX7_isAgain_101 hl (Nat.le_of_ble_eq_true rfl) rfl (fun ls hl => ?_)
          have L_103 : ∀ (n_103 : Nat) (x7_6 : Int32) (w_m_againAt_7 : Int32) (i0_103 : 0 ≤ x7_6.toInt) (_ : (x6_5.toInt - x7_6.toInt).toNat < n_103) (_ : R = (F_X7_isAgain_103 m_againStep x4_1 x3_2 x5_4 x6_5) n_103 x7_6 w_m_againAt_7) (ls : Array Slot) (H : Heap) (locs : List Loc) (_ : HS D A s.heap (WM cI cZ cC cH o a_clock a_note a_text a_read a_fit a_shown a_image a_isKept a_row a_best m_told m_isRead1 m_clock m_note m_noted m_bytes m_text m_position m_tokenAt m_token m_digits m_number m_faultAt m_readMany m_readTold m_read m_fit m_shown m_image m_isKept m_row m_best w_m_againAt_7 m_againStep m_orderMany m_orderLeast) H locs) (_ : lv_has ls 8 [(7, .int x7_6), (6, .int x6_5), (5, .int x5_4), (4, .int x4_1), (3, .int x3_2), (0, .ref o), (1, .int x1), (2, .int x2)]), W p l e { frames := 1, cells := 0, slots := 0, locals := 24 } s m args below meth c H locs 0 0 Q (F0 m 103 ls []) := by
            intro n_103
            induction n_103 with
            | zero => intro x7_6 w_m_againAt_7 i0_103 hm; exact absurd hm (Nat.not_lt_zero _)
            | succ n_103 ih_103 =>
              intro x7_6 w_m_againAt_7 i0_103 hm_103 hF ls H locs hh hl
              rw [F_X7_isAgain_103.eq_2] at hF
              refine lv_iload hx hb dX7_isAgain_103 (lv_at hl 0 rfl) ?_
              refine lv_iload hx hb dX7_isAgain_105 (lv_at hl 1 rfl) ?_
              refine lv_icmp_ge (tgt := 173) hx hb dX7_isAgain_107 (by decide) (fun c_107 => ?_) (fun c_107 => ?_)
              · replace hF := hF.trans (if_pos c_107)
                have i_107 : x6_5.toInt ≤ x7_6.toInt := ti_le.mp c_107
                refine lv_iconst (v := 0) hx hb dX7_isAgain_173 (by decide) ?_
                exact RT _ _ _ _ _ _ hh (by rw [hF]) (Or.inl ⟨_, rfl, by rw [hF], dX7_isAgain_174, Or.inr (Or.inl ⟨rfl, Or.inl rfl⟩)⟩)
              · replace hF := hF.trans (if_neg c_107)
                have i_107 : x7_6.toInt < x6_5.toInt := ti_nle c_107
                refine lv_iload hx hb dX7_isAgain_110 (lv_at hl 3 rfl) ?_
                refine lv_i2l hx hb dX7_isAgain_112 rfl ?_
                refine lv_iload_n hx hb dX7_isAgain_113 rfl (lv_at hl 4 rfl) ?_
                refine lv_i2l hx hb dX7_isAgain_114 rfl ?_
                refine lv_aload_n hx hb dX7_isAgain_115 rfl (lv_at hl 5 rfl) ?_
                refine g_get KX hh in_X7_isAgain_X7 0 rfl rfl 22 (by decide) rfl (List.mem_of_getElem? (i := 4) rfl) dX7_isAgain_116 ?_
                refine lv_i2l hx hb dX7_isAgain_119 rfl ?_
                refine lv_lmul hx hb dX7_isAgain_120 ?_
                refine lv_ladd hx hb dX7_isAgain_121 ?_
                refine lv_ldc2 (v := 1036800) hx hb KX.2.2.2.1 (KX.2.2.2.2.1 _ (List.mem_of_getElem? (i := 5) rfl)) dX7_isAgain_122 ?_
                refine lv_lrem hx hb dX7_isAgain_125 (by decide) ?_
                refine lv_lconst (v := 0) hx hb dX7_isAgain_126 (by decide) ?_
                refine W.lcmp hx hb dX7_isAgain_127 ?_
                refine lv_if_ne (tgt := 154) hx hb dX7_isAgain_128 (by decide) (fun c_128 => ?_) (fun c_128 => ?_)
                · replace hF := hF.trans (if_neg c_128)
                  refine lv_aload_n hx hb dX7_isAgain_154 rfl (lv_at hl 5 rfl) ?_
                  refine lv_dup hx hb dX7_isAgain_155 rfl ?_
                  refine g_get KX hh in_X7_isAgain_X7 0 rfl rfl 22 (by decide) rfl (List.mem_of_getElem? (i := 4) rfl) dX7_isAgain_156 ?_
                  refine lv_aload_n hx hb dX7_isAgain_159 rfl (lv_at hl 5 rfl) ?_
                  refine g_get KX hh in_X7_isAgain_X7 0 rfl rfl 23 (by decide) rfl (List.mem_of_getElem? (i := 3) rfl) dX7_isAgain_160 ?_
                  refine lv_iadd hx hb dX7_isAgain_163 ?_
                  refine g_put KX hh in_X7_isAgain_X7 tyX7 tyX7_ok nmX7 0 rfl rfl 22 (by decide) rfl rfl rfl (Nat.le_of_ble_eq_true rfl) (List.mem_of_getElem? (i := 4) rfl) (w' := (WM cI cZ cC cH o a_clock a_note a_text a_read a_fit a_shown a_image a_isKept a_row a_best m_told m_isRead1 m_clock m_note m_noted m_bytes m_text m_position m_tokenAt m_token m_digits m_number m_faultAt m_readMany m_readTold m_read m_fit m_shown m_image m_isKept m_row m_best (w_m_againAt_7 + m_againStep) m_againStep m_orderMany m_orderLeast)) rfl rfl dX7_isAgain_164 (fun H locs hh => ?_)
                  refine lv_iinc (v := x7_6 + 1) (lv' := [(7, .int (x7_6 + 1)), (6, .int x6_5), (5, .int x5_4), (4, .int x4_1), (3, .int x3_2), (0, .ref o), (1, .int x1), (2, .int x2)]) hx hb dX7_isAgain_167 hl (k := 0) rfl rfl (Nat.le_of_ble_eq_true rfl) rfl (fun ls hl => ?_)
                  refine lv_goto (tgt := 103) hx hb dX7_isAgain_170 (by decide) ?_
                  have hlt := Int32.toInt_lt x6_5
                  have e_inc : (x7_6 + 1).toInt = _ := ti_inc (by omega)
                  exact ih_103 (x7_6 + 1) (w_m_againAt_7 + m_againStep) (by first | with_reducible assumption | omega | decide) (by omega) hF _ _ _ hh (lv_sub hl [0, 1, 2, 3, 4, 5, 6, 7] rfl)
                · replace hF := hF.trans (if_pos c_128)
                  refine lv_aload_n hx hb dX7_isAgain_131 rfl (lv_at hl 5 rfl) ?_
                  refine lv_aload_n hx hb dX7_isAgain_132 rfl (lv_at hl 5 rfl) ?_
                  refine g_get KX hh in_X7_isAgain_X7 0 rfl rfl 23 (by decide) rfl (List.mem_of_getElem? (i := 3) rfl) dX7_isAgain_133 ?_
                  refine lv_aload_n hx hb dX7_isAgain_136 rfl (lv_at hl 5 rfl) ?_
                  refine g_get KX hh in_X7_isAgain_X7 0 rfl rfl 23 (by decide) rfl (List.mem_of_getElem? (i := 3) rfl) dX7_isAgain_137 ?_
                  refine lv_iload hx hb dX7_isAgain_140 (lv_at hl 2 rfl) ?_
                  refine g_callS (As := [.int m_againStep, .int x5_4]) (rest := [.int m_againStep, .ref o]) KX rfl ⟨Nat.le_of_ble_eq_true rfl, Nat.le_of_ble_eq_true rfl⟩ hh hl (c_X7_common l D cI cZ cC cH  m_againStep x5_4 ) JN.no 2 gX7_isAgain_X7_common rfl (by decide +kernel) ⟨Nat.le_of_ble_eq_true rfl, Nat.le_of_ble_eq_true rfl⟩ rfl rfl (Nat.le_of_ble_eq_true rfl) dX7_isAgain_142 (fun H locs hh => ?_)
                  refine W.eq (g2 := F0 m 145 ls [.int (F_X7_common m_againStep x5_4), .int m_againStep, .ref o]) rfl ?_
                  refine lv_idiv hx hb dX7_isAgain_145 (ne_of_pos (common_pos hs.1 (Int.le_of_lt ev1)).1) ?_
                  refine lv_iload hx hb dX7_isAgain_146 (lv_at hl 2 rfl) ?_
                  refine lv_imul hx hb dX7_isAgain_148 ?_
                  refine g_put KX hh in_X7_isAgain_X7 tyX7 tyX7_ok nmX7 0 rfl rfl 23 (by decide) rfl rfl rfl (Nat.le_of_ble_eq_true rfl) (List.mem_of_getElem? (i := 3) rfl) (w' := (WM cI cZ cC cH o a_clock a_note a_text a_read a_fit a_shown a_image a_isKept a_row a_best m_told m_isRead1 m_clock m_note m_noted m_bytes m_text m_position m_tokenAt m_token m_digits m_number m_faultAt m_readMany m_readTold m_read m_fit m_shown m_image m_isKept m_row m_best w_m_againAt_7 ((m_againStep / (F_X7_common m_againStep x5_4)) * x5_4) m_orderMany m_orderLeast)) rfl rfl dX7_isAgain_149 (fun H locs hh => ?_)
                  refine lv_iconst (v := 1) hx hb dX7_isAgain_152 (by decide) ?_
                  exact RT _ _ _ _ _ _ hh (by rw [hF]) (Or.inl ⟨_, rfl, by rw [hF], dX7_isAgain_153, Or.inr (Or.inl ⟨rfl, Or.inr rfl⟩)⟩)
          exact L_103 (x6_5.toInt.toNat + 1) 0 m_againAt (by first | with_reducible assumption | omega | decide) (by have e0 : (0 : Int32).toInt = 0 := rfl; omega) hF _ _ _ hh (lv_sub hl [0, 1, 2, 3, 4, 5, 6, 7] rfl)
        exact K_100 (x5_4 / (F_X7_common m_againStep x5_4))  hF _ _ _ hh (lv_sub hl [0, 1, 2, 3, 4, 5, 6] rfl)
      exact K_86 (1036800 / (F_X7_common 1036800 y0_3)) (by first | with_reducible assumption | omega | decide) (by first | with_reducible assumption | omega | decide) hF _ _ _ hh (lv_sub hl [0, 1, 2, 3, 4, 5] rfl)
    refine lv_if_ge (tgt := 79) hx hb dX7_isAgain_71 (by decide) (fun c_71 => ?_) (fun c_71 => ?_)
    · replace hF := hF.trans (if_pos c_71)
      have i_71 : 0 ≤ x3_2.toInt := ti_le.mp c_71
      refine lv_iload_n hx hb dX7_isAgain_79 rfl (lv_at hl 1 rfl) ?_
      exact K_80 x3_2 (by first | (rw [ti_neg (by omega)]; omega) | omega) hF _ _ _ hh (lv_sub hl [0, 1, 2, 3, 4] rfl)
    · replace hF := hF.trans (if_neg c_71)
      have i_71 : x3_2.toInt < 0 := ti_nle c_71
      refine lv_iload_n hx hb dX7_isAgain_74 rfl (lv_at hl 1 rfl) ?_
      refine lv_ineg hx hb dX7_isAgain_75 ?_
      refine lv_goto (tgt := 80) hx hb dX7_isAgain_76 (by decide) ?_
      exact K_80 (-x3_2) (by first | (rw [ti_neg (by omega)]; omega) | omega) hF _ _ _ hh (lv_sub hl [0, 1, 2, 3, 4] rfl)
  exact K_66 (F_X7_rest ((F_X7_hand m_clock x2 0 (m_clock ((6 * x2) + 3).toNatClampNeg)) - (F_X7_hand m_clock x1 0 (m_clock ((6 * x1) + 3).toNatClampNeg))) 1036800) ((m_clock ((6 * x2) + 3).toNatClampNeg) - (m_clock ((6 * x1) + 3).toNatClampNeg)) (by first | with_reducible assumption | omega | decide) (by first | with_reducible assumption | omega | decide) hF _ _ _ hh (lv_sub hl [0, 1, 2, 3, 4] rfl)
theorem zb_F_X7_isAgain_103 {m_againStep : Int32} {x4_1 : Int32} {x3_2 : Int32} {x5_4 : Int32} {x6_5 : Int32} : ∀ (n : Nat) (x7_6 : Int32) (w_m_againAt_7 : Int32), (F_X7_isAgain_103 m_againStep x4_1 x3_2 x5_4 x6_5 n x7_6 w_m_againAt_7).1 = 0 ∨ (F_X7_isAgain_103 m_againStep x4_1 x3_2 x5_4 x6_5 n x7_6 w_m_againAt_7).1 = 1 := by
  intro n
  induction n with
  | zero => intros; exact Or.inl rfl
  | succ n ih =>
    intros
    rw [F_X7_isAgain_103.eq_2]
    split
    · exact Or.inl rfl
    · split
      · exact Or.inr rfl
      · exact ih _ _
theorem zb_F_X7_isAgain_100 {m_againAt : Int32} {m_againStep : Int32} {x4_1 : Int32} {x3_2 : Int32} {x5_4 : Int32} {x6_5 : Int32} : (F_X7_isAgain_100 m_againAt m_againStep x4_1 x3_2 x5_4 x6_5).1 = 0 ∨ (F_X7_isAgain_100 m_againAt m_againStep x4_1 x3_2 x5_4 x6_5).1 = 1 := by
  unfold F_X7_isAgain_100
  exact zb_F_X7_isAgain_103 _ _ _
theorem zb_F_X7_isAgain_86 {m_againAt : Int32} {m_againStep : Int32} {x4_1 : Int32} {x3_2 : Int32} {x5_4 : Int32} : (F_X7_isAgain_86 m_againAt m_againStep x4_1 x3_2 x5_4).1 = 0 ∨ (F_X7_isAgain_86 m_againAt m_againStep x4_1 x3_2 x5_4).1 = 1 := by
  unfold F_X7_isAgain_86
  exact zb_F_X7_isAgain_100 
theorem zb_F_X7_isAgain_80 {m_againAt : Int32} {m_againStep : Int32} {x4_1 : Int32} {x3_2 : Int32} {y0_3 : Int32} : (F_X7_isAgain_80 m_againAt m_againStep x4_1 x3_2 y0_3).1 = 0 ∨ (F_X7_isAgain_80 m_againAt m_againStep x4_1 x3_2 y0_3).1 = 1 := by
  unfold F_X7_isAgain_80
  exact zb_F_X7_isAgain_86 
theorem zb_F_X7_isAgain_66 {m_againAt : Int32} {m_againStep : Int32} {x4_1 : Int32} {x3_2 : Int32} : (F_X7_isAgain_66 m_againAt m_againStep x4_1 x3_2).1 = 0 ∨ (F_X7_isAgain_66 m_againAt m_againStep x4_1 x3_2).1 = 1 := by
  unfold F_X7_isAgain_66
  split
  · exact zb_F_X7_isAgain_80 
  · exact zb_F_X7_isAgain_80 
theorem z_X7_isAgain (m_clock : Nat → Int32) (m_againAt : Int32) (m_againStep : Int32) (x1 : Int32) (x2 : Int32) : (F_X7_isAgain m_clock m_againAt m_againStep x1 x2).1 = 0 ∨ (F_X7_isAgain m_clock m_againAt m_againStep x1 x2).1 = 1 := by
  unfold F_X7_isAgain
  exact zb_F_X7_isAgain_66 
def F_X7_isFirstAgain_293 (x3 : Int32) (x6_4 : Int32) (y0_12 : Int64) : Int32 × Int32 × Int32 := (1, x3 + (F_X7_rest (y0_12.toInt32 - (x3 - x3 / (1036800 / x6_4) * (1036800 / x6_4))) (1036800 / x6_4)), 1036800 / x6_4)
def F_X7_isFirstAgain_245 (x6_4 : Int32) (x16_9 : Int32) (x13_10 : Int64) (k_216 : Int32 → Int64 → Int64 → Int32 × Int32 × Int32) (y0_13 : Int64) : Int32 × Int32 × Int32 := (k_216 (x16_9 / 2) ((x13_10 * x13_10) - (x13_10 * x13_10) / ((1036800 / x6_4).toInt64) * ((1036800 / x6_4).toInt64)) y0_13)
def F_X7_isFirstAgain_216 (x3 : Int32) (x6_4 : Int32) (x8_6 : Int32) : Nat → Int32 → Int64 → Int64 → Int32 × Int32 × Int32
  | 0, _, _, _ => default
  | n + 1, x16_9, x13_10, x11_11 => (if x16_9 ≤ 0 then (if (1036800 / x6_4) = 1 then (F_X7_isFirstAgain_293 x3 x6_4 0) else (F_X7_isFirstAgain_293 x3 x6_4 ((x8_6.toInt64 * x11_11) - (x8_6.toInt64 * x11_11) / ((1036800 / x6_4).toInt64) * ((1036800 / x6_4).toInt64)))) else (if (x16_9 - x16_9 / 2 * 2) = 1 then (F_X7_isFirstAgain_245 x6_4 x16_9 x13_10 (F_X7_isFirstAgain_216 x3 x6_4 x8_6 n) ((x11_11 * x13_10) - (x11_11 * x13_10) / ((1036800 / x6_4).toInt64) * ((1036800 / x6_4).toInt64))) else (F_X7_isFirstAgain_245 x6_4 x16_9 x13_10 (F_X7_isFirstAgain_216 x3 x6_4 x8_6 n) x11_11)))
def F_X7_isFirstAgain_164 (x3 : Int32) (x6_4 : Int32) (y0_5 : Int32) (x8_6 : Int32) : Nat → Int32 → Int32 → Int32 × Int32 × Int32
  | 0, _, _ => default
  | n + 1, x16_7, x15_8 => (if 6 ≤ x16_7 then (F_X7_isFirstAgain_216 x3 x6_4 x8_6 ((x15_8 - 1).toInt.toNat + 1) (x15_8 - 1) y0_5.toInt64 1) else (if x16_7 = 4 then ((F_X7_isFirstAgain_164 x3 x6_4 y0_5 x8_6 n) (x16_7 + 1) x15_8) else (if ((1036800 / x6_4) - (1036800 / x6_4) / x16_7 * x16_7) = 0 then ((F_X7_isFirstAgain_164 x3 x6_4 y0_5 x8_6 n) (x16_7 + 1) ((x15_8 / x16_7) * (x16_7 - 1))) else ((F_X7_isFirstAgain_164 x3 x6_4 y0_5 x8_6 n) (x16_7 + 1) x15_8))))
def F_X7_isFirstAgain_144 (x3 : Int32) (x6_4 : Int32) (y0_5 : Int32) (x8_6 : Int32) : Int32 × Int32 × Int32 := (F_X7_isFirstAgain_164 x3 x6_4 y0_5 x8_6 5 2 (1036800 / x6_4))
def F_X7_isFirstAgain_127 (x3 : Int32) (x5_1 : Int32) (x6_4 : Int32) (y0_5 : Int32) : Int32 × Int32 × Int32 := (F_X7_isFirstAgain_144 x3 x6_4 y0_5 (F_X7_rest (-(x5_1 / x6_4)) (1036800 / x6_4)))
def F_X7_isFirstAgain_87 (m_againAt : Int32) (x3 : Int32) (x5_1 : Int32) (x4_2 : Int32) (x6_4 : Int32) : Int32 × Int32 × Int32 := (if (x5_1 - x5_1 / x6_4 * x6_4) = 0 then (if x4_2 = 0 then (F_X7_isFirstAgain_127 x3 x5_1 x6_4 0) else (F_X7_isFirstAgain_127 x3 x5_1 x6_4 (F_X7_rest (x4_2 / x6_4) (1036800 / x6_4)))) else (0, m_againAt, 1036800 / x6_4))
def F_X7_isFirstAgain_82 (m_againAt : Int32) (x3 : Int32) (x5_1 : Int32) (x4_2 : Int32) (y0_3 : Int32) : Int32 × Int32 × Int32 := (F_X7_isFirstAgain_87 m_againAt x3 x5_1 x4_2 (F_X7_common 1036800 y0_3))
def F_X7_isFirstAgain_67 (m_againAt : Int32) (x3 : Int32) (x5_1 : Int32) (x4_2 : Int32) : Int32 × Int32 × Int32 := (if 0 ≤ x4_2 then (F_X7_isFirstAgain_82 m_againAt x3 x5_1 x4_2 x4_2) else (F_X7_isFirstAgain_82 m_againAt x3 x5_1 x4_2 (-x4_2)))
def F_X7_isFirstAgain (m_clock : Nat → Int32) (m_againAt : Int32) (x1 : Int32) (x2 : Int32) (x3 : Int32) : Int32 × Int32 × Int32 := (F_X7_isFirstAgain_67 m_againAt x3 (F_X7_rest ((F_X7_hand m_clock x2 0 (m_clock ((6 * x2) + 3).toNatClampNeg)) - (F_X7_hand m_clock x1 0 (m_clock ((6 * x1) + 3).toNatClampNeg))) 1036800) ((m_clock ((6 * x2) + 3).toNatClampNeg) - (m_clock ((6 * x1) + 3).toNatClampNeg)))
theorem in_X7_isFirstAgain_X7 : ∀ x ∈ u_ws RX7 TX7 26, x ∈ wsX7_isFirstAgain := by decide +kernel
set_option maxHeartbeats 2000000 in
set_option maxRecDepth 100000 in
theorem c_X7_isFirstAgain (l : Launch) (D : va_G) (cI cZ cC cH : ClassId) (o a_clock a_note a_text a_read a_fit a_shown a_image a_isKept a_row a_best : Nat) (m_told : Int32) (m_isRead1 : Int32) (m_clock : Nat → Int32) (m_note : Nat → Int32) (m_noted : Int32) (m_bytes : Int32) (m_text : Nat → Int32) (m_position : Int32) (m_tokenAt : Int32) (m_token : Int64) (m_digits : Int32) (m_number : Int32) (m_faultAt : Int32) (m_readMany : Int32) (m_readTold : Int32) (m_read : Nat → Int32) (m_fit : Nat → Int32) (m_shown : Nat → Int32) (m_image : Nat → Int32) (m_isKept : Nat → Int32) (m_row : Nat → Int32) (m_best : Nat → Int32) (m_againAt : Int32) (m_againStep : Int32) (m_orderMany : Int32) (m_orderLeast : Int32) (x1 : Int32) (x2 : Int32) (x3 : Int32) (hk0 : 0 ≤ x1.toInt) (hk1 : x1.toInt < 8) (hj0 : 0 ≤ x2.toInt) (hj1 : x2.toInt < 8) (hc : CkR m_clock) : MC l D (TY cI cZ cC cH) yX7_isFirstAgain wsX7_isFirstAgain 1 24 [.ref o, .int x1, .int x2, .int x3] (WM cI cZ cC cH o a_clock a_note a_text a_read a_fit a_shown a_image a_isKept a_row a_best m_told m_isRead1 m_clock m_note m_noted m_bytes m_text m_position m_tokenAt m_token m_digits m_number m_faultAt m_readMany m_readTold m_read m_fit m_shown m_image m_isKept m_row m_best m_againAt m_againStep m_orderMany m_orderLeast) (some (.int ((F_X7_isFirstAgain m_clock m_againAt x1 x2 x3).1))) (WM cI cZ cC cH o a_clock a_note a_text a_read a_fit a_shown a_image a_isKept a_row a_best m_told m_isRead1 m_clock m_note m_noted m_bytes m_text m_position m_tokenAt m_token m_digits m_number m_faultAt m_readMany m_readTold m_read m_fit m_shown m_image m_isKept m_row m_best (F_X7_isFirstAgain m_clock m_againAt x1 x2 x3).2.1 (F_X7_isFirstAgain m_clock m_againAt x1 x2 x3).2.2 m_orderMany m_orderLeast) := by
  obtain ⟨R, hF⟩ : ∃ R, R = F_X7_isFirstAgain m_clock m_againAt x1 x2 x3 := ⟨_, rfl⟩
  rw [← hF]
  refine MC.of (cc := cX7_isFirstAgain) (maxL := 17) (ret := (some .boolean)) RX7 rfl (by decide +kernel) rfl (Nat.le_of_ble_eq_true rfl) ?_
  intro p e s m args below meth c A Q KX RT hh ls hl
  have z0 : (0 : Int32).toInt = 0 := rfl
  have z1 : (1 : Int32).toInt = 1 := rfl
  have zm : (-1 : Int32).toInt = -1 := rfl
  have hx := KX.1
  have hb := KX.2.1
  have hl : lv_has ls 17 [(0, .ref o), (1, .int x1), (2, .int x2), (3, .int x3)] := hl
  unfold F_X7_isFirstAgain at hF
  refine lv_aload_n hx hb dX7_isFirstAgain_0 rfl (lv_at hl 0 rfl) ?_
  refine g_get KX hh in_X7_isFirstAgain_X7 0 rfl rfl 2 (by decide) rfl (List.mem_of_getElem? (i := 1) rfl) dX7_isFirstAgain_1 ?_
  refine lv_bipush (v := 6) hx hb dX7_isFirstAgain_4 (by decide) ?_
  refine lv_iload_n hx hb dX7_isFirstAgain_6 rfl (lv_at hl 2 rfl) ?_
  refine lv_imul hx hb dX7_isFirstAgain_7 ?_
  refine lv_iconst (v := 3) hx hb dX7_isFirstAgain_8 (by decide) ?_
  refine lv_iadd hx hb dX7_isFirstAgain_9 ?_
  refine g_iald KX hh 1 0 rfl rfl (ix6 3 (by omega) (by omega) (by decide)) dX7_isFirstAgain_10 ?_
  refine lv_aload_n hx hb dX7_isFirstAgain_11 rfl (lv_at hl 0 rfl) ?_
  refine g_get KX hh in_X7_isFirstAgain_X7 0 rfl rfl 2 (by decide) rfl (List.mem_of_getElem? (i := 1) rfl) dX7_isFirstAgain_12 ?_
  refine lv_bipush (v := 6) hx hb dX7_isFirstAgain_15 (by decide) ?_
  refine lv_iload_n hx hb dX7_isFirstAgain_17 rfl (lv_at hl 1 rfl) ?_
  refine lv_imul hx hb dX7_isFirstAgain_18 ?_
  refine lv_iconst (v := 3) hx hb dX7_isFirstAgain_19 (by decide) ?_
  refine lv_iadd hx hb dX7_isFirstAgain_20 ?_
  refine g_iald KX hh 1 0 rfl rfl (ix6 3 (by omega) (by omega) (by decide)) dX7_isFirstAgain_21 ?_
  refine lv_isub hx hb dX7_isFirstAgain_22 ?_
  refine lv_istore (lv' := [(4, .int ((m_clock ((6 * x2) + 3).toNatClampNeg) - (m_clock ((6 * x1) + 3).toNatClampNeg))), (0, .ref o), (1, .int x1), (2, .int x2), (3, .int x3)]) hx hb dX7_isFirstAgain_23 hl (Nat.le_of_ble_eq_true rfl) rfl (fun ls hl => ?_)
  obtain ⟨r1, r2⟩ := hc.low hj0 hj1
  obtain ⟨r3, r4⟩ := hc.low hk0 hk1
  have eby : ((m_clock ((6 * x2) + 3).toNatClampNeg) - (m_clock ((6 * x1) + 3).toNatClampNeg)).toInt = _ := ti_sub (by omega) (by omega)
  refine lv_aload_n hx hb dX7_isFirstAgain_25 rfl (lv_at hl 1 rfl) ?_
  refine lv_iload_n hx hb dX7_isFirstAgain_26 rfl (lv_at hl 3 rfl) ?_
  refine lv_iconst (v := 0) hx hb dX7_isFirstAgain_27 (by decide) ?_
  refine lv_aload_n hx hb dX7_isFirstAgain_28 rfl (lv_at hl 1 rfl) ?_
  refine g_get KX hh in_X7_isFirstAgain_X7 0 rfl rfl 2 (by decide) rfl (List.mem_of_getElem? (i := 1) rfl) dX7_isFirstAgain_29 ?_
  refine lv_bipush (v := 6) hx hb dX7_isFirstAgain_32 (by decide) ?_
  refine lv_iload_n hx hb dX7_isFirstAgain_34 rfl (lv_at hl 3 rfl) ?_
  refine lv_imul hx hb dX7_isFirstAgain_35 ?_
  refine lv_iconst (v := 3) hx hb dX7_isFirstAgain_36 (by decide) ?_
  refine lv_iadd hx hb dX7_isFirstAgain_37 ?_
  refine g_iald KX hh 1 0 rfl rfl (ix6 3 (by omega) (by omega) (by decide)) dX7_isFirstAgain_38 ?_
  refine g_callV (As := [.int x2, .int 0, .int (m_clock ((6 * x2) + 3).toNatClampNeg)]) (rest := []) KX rfl ⟨Nat.le_of_ble_eq_true rfl, Nat.le_of_ble_eq_true rfl⟩ hh hl (c_X7_hand l D cI cZ cC cH o a_clock a_note a_text a_read a_fit a_shown a_image a_isKept a_row a_best m_told m_isRead1 m_clock m_note m_noted m_bytes m_text m_position m_tokenAt m_token m_digits m_number m_faultAt m_readMany m_readTold m_read m_fit m_shown m_image m_isKept m_row m_best m_againAt m_againStep m_orderMany m_orderLeast x2 0 (m_clock ((6 * x2) + 3).toNatClampNeg) (by first | with_reducible assumption | omega | decide) (by first | with_reducible assumption | omega | decide)) JN.all 3 gX7_isFirstAgain_X7_hand rfl (by decide +kernel) ⟨Nat.le_of_ble_eq_true rfl, Nat.le_of_ble_eq_true rfl⟩ 0 7 rfl rfl rfl rfl rfl (Nat.le_of_ble_eq_true rfl) dX7_isFirstAgain_39 (fun H locs hh => ?_)
  refine W.eq (g2 := F0 m 42 ls [.int (F_X7_hand m_clock x2 0 (m_clock ((6 * x2) + 3).toNatClampNeg))]) rfl ?_
  refine lv_aload_n hx hb dX7_isFirstAgain_42 rfl (lv_at hl 1 rfl) ?_
  refine lv_iload_n hx hb dX7_isFirstAgain_43 rfl (lv_at hl 2 rfl) ?_
  refine lv_iconst (v := 0) hx hb dX7_isFirstAgain_44 (by decide) ?_
  refine lv_aload_n hx hb dX7_isFirstAgain_45 rfl (lv_at hl 1 rfl) ?_
  refine g_get KX hh in_X7_isFirstAgain_X7 0 rfl rfl 2 (by decide) rfl (List.mem_of_getElem? (i := 1) rfl) dX7_isFirstAgain_46 ?_
  refine lv_bipush (v := 6) hx hb dX7_isFirstAgain_49 (by decide) ?_
  refine lv_iload_n hx hb dX7_isFirstAgain_51 rfl (lv_at hl 2 rfl) ?_
  refine lv_imul hx hb dX7_isFirstAgain_52 ?_
  refine lv_iconst (v := 3) hx hb dX7_isFirstAgain_53 (by decide) ?_
  refine lv_iadd hx hb dX7_isFirstAgain_54 ?_
  refine g_iald KX hh 1 0 rfl rfl (ix6 3 (by omega) (by omega) (by decide)) dX7_isFirstAgain_55 ?_
  refine g_callV (As := [.int x1, .int 0, .int (m_clock ((6 * x1) + 3).toNatClampNeg)]) (rest := [.int (F_X7_hand m_clock x2 0 (m_clock ((6 * x2) + 3).toNatClampNeg))]) KX rfl ⟨Nat.le_of_ble_eq_true rfl, Nat.le_of_ble_eq_true rfl⟩ hh hl (c_X7_hand l D cI cZ cC cH o a_clock a_note a_text a_read a_fit a_shown a_image a_isKept a_row a_best m_told m_isRead1 m_clock m_note m_noted m_bytes m_text m_position m_tokenAt m_token m_digits m_number m_faultAt m_readMany m_readTold m_read m_fit m_shown m_image m_isKept m_row m_best m_againAt m_againStep m_orderMany m_orderLeast x1 0 (m_clock ((6 * x1) + 3).toNatClampNeg) (by first | with_reducible assumption | omega | decide) (by first | with_reducible assumption | omega | decide)) JN.all 3 gX7_isFirstAgain_X7_hand rfl (by decide +kernel) ⟨Nat.le_of_ble_eq_true rfl, Nat.le_of_ble_eq_true rfl⟩ 0 7 rfl rfl rfl rfl rfl (Nat.le_of_ble_eq_true rfl) dX7_isFirstAgain_56 (fun H locs hh => ?_)
  refine W.eq (g2 := F0 m 59 ls [.int (F_X7_hand m_clock x1 0 (m_clock ((6 * x1) + 3).toNatClampNeg)), .int (F_X7_hand m_clock x2 0 (m_clock ((6 * x2) + 3).toNatClampNeg))]) rfl ?_
  refine lv_isub hx hb dX7_isFirstAgain_59 ?_
  refine lv_ldc (v := 1036800) hx hb KX.2.2.2.1 (KX.2.2.2.2.1 _ (List.mem_of_getElem? (i := 2) rfl)) dX7_isFirstAgain_60 ?_
  refine g_callS (As := [.int ((F_X7_hand m_clock x2 0 (m_clock ((6 * x2) + 3).toNatClampNeg)) - (F_X7_hand m_clock x1 0 (m_clock ((6 * x1) + 3).toNatClampNeg))), .int 1036800]) (rest := []) KX rfl ⟨Nat.le_of_ble_eq_true rfl, Nat.le_of_ble_eq_true rfl⟩ hh hl (c_X7_rest l D cI cZ cC cH  ((F_X7_hand m_clock x2 0 (m_clock ((6 * x2) + 3).toNatClampNeg)) - (F_X7_hand m_clock x1 0 (m_clock ((6 * x1) + 3).toNatClampNeg))) 1036800 (by first | with_reducible assumption | omega | decide)) JN.no 2 gX7_isFirstAgain_X7_rest rfl (by decide +kernel) ⟨Nat.le_of_ble_eq_true rfl, Nat.le_of_ble_eq_true rfl⟩ rfl rfl (Nat.le_of_ble_eq_true rfl) dX7_isFirstAgain_62 (fun H locs hh => ?_)
  refine W.eq (g2 := F0 m 65 ls [.int (F_X7_rest ((F_X7_hand m_clock x2 0 (m_clock ((6 * x2) + 3).toNatClampNeg)) - (F_X7_hand m_clock x1 0 (m_clock ((6 * x1) + 3).toNatClampNeg))) 1036800)]) rfl ?_
  refine lv_istore (lv' := [(5, .int (F_X7_rest ((F_X7_hand m_clock x2 0 (m_clock ((6 * x2) + 3).toNatClampNeg)) - (F_X7_hand m_clock x1 0 (m_clock ((6 * x1) + 3).toNatClampNeg))) 1036800)), (4, .int ((m_clock ((6 * x2) + 3).toNatClampNeg) - (m_clock ((6 * x1) + 3).toNatClampNeg))), (0, .ref o), (1, .int x1), (2, .int x2), (3, .int x3)]) hx hb dX7_isFirstAgain_65 hl (Nat.le_of_ble_eq_true rfl) rfl (fun ls hl => ?_)
  have K_67 : ∀ (x5_1 : Int32) (x4_2 : Int32) (eb0 : -2000 ≤ x4_2.toInt) (eb1 : x4_2.toInt ≤ 2000) (_ : R = (F_X7_isFirstAgain_67 m_againAt x3) x5_1 x4_2) (ls : Array Slot) (H : Heap) (locs : List Loc) (_ : HS D A s.heap (WM cI cZ cC cH o a_clock a_note a_text a_read a_fit a_shown a_image a_isKept a_row a_best m_told m_isRead1 m_clock m_note m_noted m_bytes m_text m_position m_tokenAt m_token m_digits m_number m_faultAt m_readMany m_readTold m_read m_fit m_shown m_image m_isKept m_row m_best m_againAt m_againStep m_orderMany m_orderLeast) H locs) (_ : lv_has ls 17 [(5, .int x5_1), (4, .int x4_2), (0, .ref o), (1, .int x1), (2, .int x2), (3, .int x3)]), W p l e { frames := 1, cells := 0, slots := 0, locals := 24 } s m args below meth c H locs 0 0 Q (F0 m 67 ls []) := by
    intro x5_1 x4_2 eb0 eb1 hF ls H locs hh hl
    unfold F_X7_isFirstAgain_67 at hF
    refine lv_ldc (v := 1036800) hx hb KX.2.2.2.1 (KX.2.2.2.2.1 _ (List.mem_of_getElem? (i := 2) rfl)) dX7_isFirstAgain_67 ?_
    refine lv_iload hx hb dX7_isFirstAgain_69 (lv_at hl 1 rfl) ?_
    have K_82 : ∀ (y0_3 : Int32) (hby0 : 0 ≤ y0_3.toInt) (_ : R = (F_X7_isFirstAgain_82 m_againAt x3 x5_1 x4_2) y0_3) (ls : Array Slot) (H : Heap) (locs : List Loc) (_ : HS D A s.heap (WM cI cZ cC cH o a_clock a_note a_text a_read a_fit a_shown a_image a_isKept a_row a_best m_told m_isRead1 m_clock m_note m_noted m_bytes m_text m_position m_tokenAt m_token m_digits m_number m_faultAt m_readMany m_readTold m_read m_fit m_shown m_image m_isKept m_row m_best m_againAt m_againStep m_orderMany m_orderLeast) H locs) (_ : lv_has ls 17 [(5, .int x5_1), (4, .int x4_2), (0, .ref o), (1, .int x1), (2, .int x2), (3, .int x3)]), W p l e { frames := 1, cells := 0, slots := 0, locals := 24 } s m args below meth c H locs 0 0 Q (F0 m 82 ls [.int y0_3, .int 1036800]) := by
      intro y0_3 hby0 hF ls H locs hh hl
      unfold F_X7_isFirstAgain_82 at hF
      refine g_callS (As := [.int 1036800, .int y0_3]) (rest := []) KX rfl ⟨Nat.le_of_ble_eq_true rfl, Nat.le_of_ble_eq_true rfl⟩ hh hl (c_X7_common l D cI cZ cC cH  1036800 y0_3 ) JN.no 2 gX7_isFirstAgain_X7_common rfl (by decide +kernel) ⟨Nat.le_of_ble_eq_true rfl, Nat.le_of_ble_eq_true rfl⟩ rfl rfl (Nat.le_of_ble_eq_true rfl) dX7_isFirstAgain_82 (fun H locs hh => ?_)
      refine W.eq (g2 := F0 m 85 ls [.int (F_X7_common 1036800 y0_3)]) rfl ?_
      obtain ⟨pp1, pp2⟩ : 0 < (F_X7_common 1036800 y0_3).toInt ∧ (F_X7_common 1036800 y0_3).toInt ≤ 1036800 := common_pos (a := 1036800) (by decide) hby0
      refine lv_istore (lv' := [(6, .int (F_X7_common 1036800 y0_3)), (5, .int x5_1), (4, .int x4_2), (0, .ref o), (1, .int x1), (2, .int x2), (3, .int x3)]) hx hb dX7_isFirstAgain_85 hl (Nat.le_of_ble_eq_true rfl) rfl (fun ls hl => ?_)
      have K_87 : ∀ (x6_4 : Int32) (pp1 : 0 < x6_4.toInt) (pp2 : x6_4.toInt ≤ 1036800) (_ : R = (F_X7_isFirstAgain_87 m_againAt x3 x5_1 x4_2) x6_4) (ls : Array Slot) (H : Heap) (locs : List Loc) (_ : HS D A s.heap (WM cI cZ cC cH o a_clock a_note a_text a_read a_fit a_shown a_image a_isKept a_row a_best m_told m_isRead1 m_clock m_note m_noted m_bytes m_text m_position m_tokenAt m_token m_digits m_number m_faultAt m_readMany m_readTold m_read m_fit m_shown m_image m_isKept m_row m_best m_againAt m_againStep m_orderMany m_orderLeast) H locs) (_ : lv_has ls 17 [(6, .int x6_4), (5, .int x5_1), (4, .int x4_2), (0, .ref o), (1, .int x1), (2, .int x2), (3, .int x3)]), W p l e { frames := 1, cells := 0, slots := 0, locals := 24 } s m args below meth c H locs 0 0 Q (F0 m 87 ls []) := by
        intro x6_4 pp1 pp2 hF ls H locs hh hl
        unfold F_X7_isFirstAgain_87 at hF
        refine lv_aload_n hx hb dX7_isFirstAgain_87 rfl (lv_at hl 3 rfl) ?_
        refine lv_ldc (v := 1036800) hx hb KX.2.2.2.1 (KX.2.2.2.2.1 _ (List.mem_of_getElem? (i := 2) rfl)) dX7_isFirstAgain_88 ?_
        refine lv_iload hx hb dX7_isFirstAgain_90 (lv_at hl 0 rfl) ?_
        refine lv_idiv hx hb dX7_isFirstAgain_92 (ne_of_pos pp1) ?_
        refine g_put KX hh in_X7_isFirstAgain_X7 tyX7 tyX7_ok nmX7 0 rfl rfl 23 (by decide) rfl rfl rfl (Nat.le_of_ble_eq_true rfl) (List.mem_of_getElem? (i := 3) rfl) (w' := (WM cI cZ cC cH o a_clock a_note a_text a_read a_fit a_shown a_image a_isKept a_row a_best m_told m_isRead1 m_clock m_note m_noted m_bytes m_text m_position m_tokenAt m_token m_digits m_number m_faultAt m_readMany m_readTold m_read m_fit m_shown m_image m_isKept m_row m_best m_againAt (1036800 / x6_4) m_orderMany m_orderLeast)) rfl rfl dX7_isFirstAgain_93 (fun H locs hh => ?_)
        obtain ⟨sp1, sp2⟩ : 0 < (1036800 / x6_4).toInt ∧ (1036800 / x6_4).toInt ≤ 1036800 := div_pos (a := 1036800) pp1 pp2
        refine lv_iload hx hb dX7_isFirstAgain_96 (lv_at hl 1 rfl) ?_
        refine lv_iload hx hb dX7_isFirstAgain_98 (lv_at hl 0 rfl) ?_
        refine lv_irem hx hb dX7_isFirstAgain_100 (ne_of_pos pp1) ?_
        refine lv_if_eq (tgt := 106) hx hb dX7_isFirstAgain_101 (by decide) (fun c_101 => ?_) (fun c_101 => ?_)
        · replace hF := hF.trans (if_pos c_101)
          have i_101 : (x5_1 - x5_1 / x6_4 * x6_4).toInt = 0 := congrArg Int32.toInt c_101
          refine lv_iload hx hb dX7_isFirstAgain_106 (lv_at hl 2 rfl) ?_
          have K_127 : ∀ (y0_5 : Int32) (_ : R = (F_X7_isFirstAgain_127 x3 x5_1 x6_4) y0_5) (ls : Array Slot) (H : Heap) (locs : List Loc) (_ : HS D A s.heap (WM cI cZ cC cH o a_clock a_note a_text a_read a_fit a_shown a_image a_isKept a_row a_best m_told m_isRead1 m_clock m_note m_noted m_bytes m_text m_position m_tokenAt m_token m_digits m_number m_faultAt m_readMany m_readTold m_read m_fit m_shown m_image m_isKept m_row m_best m_againAt (1036800 / x6_4) m_orderMany m_orderLeast) H locs) (_ : lv_has ls 17 [(6, .int x6_4), (5, .int x5_1), (4, .int x4_2), (0, .ref o), (1, .int x1), (2, .int x2), (3, .int x3)]), W p l e { frames := 1, cells := 0, slots := 0, locals := 24 } s m args below meth c H locs 0 0 Q (F0 m 127 ls [.int y0_5]) := by
            intro y0_5 hF ls H locs hh hl
            unfold F_X7_isFirstAgain_127 at hF
            refine lv_istore (lv' := [(7, .int y0_5), (6, .int x6_4), (5, .int x5_1), (4, .int x4_2), (0, .ref o), (1, .int x1), (2, .int x2), (3, .int x3)]) hx hb dX7_isFirstAgain_127 hl (Nat.le_of_ble_eq_true rfl) rfl (fun ls hl => ?_)
            refine lv_iload hx hb dX7_isFirstAgain_129 (lv_at hl 2 rfl) ?_
            refine lv_iload hx hb dX7_isFirstAgain_131 (lv_at hl 1 rfl) ?_
            refine lv_idiv hx hb dX7_isFirstAgain_133 (ne_of_pos pp1) ?_
            refine lv_ineg hx hb dX7_isFirstAgain_134 ?_
            refine lv_aload_n hx hb dX7_isFirstAgain_135 rfl (lv_at hl 4 rfl) ?_
            refine g_get KX hh in_X7_isFirstAgain_X7 0 rfl rfl 23 (by decide) rfl (List.mem_of_getElem? (i := 3) rfl) dX7_isFirstAgain_136 ?_
            refine g_callS (As := [.int (-(x5_1 / x6_4)), .int (1036800 / x6_4)]) (rest := []) KX rfl ⟨Nat.le_of_ble_eq_true rfl, Nat.le_of_ble_eq_true rfl⟩ hh hl (c_X7_rest l D cI cZ cC cH  (-(x5_1 / x6_4)) (1036800 / x6_4) (ne_of_pos sp1)) JN.no 2 gX7_isFirstAgain_X7_rest rfl (by decide +kernel) ⟨Nat.le_of_ble_eq_true rfl, Nat.le_of_ble_eq_true rfl⟩ rfl rfl (Nat.le_of_ble_eq_true rfl) dX7_isFirstAgain_139 (fun H locs hh => ?_)
            refine W.eq (g2 := F0 m 142 ls [.int (F_X7_rest (-(x5_1 / x6_4)) (1036800 / x6_4))]) rfl ?_
            refine lv_istore (lv' := [(8, .int (F_X7_rest (-(x5_1 / x6_4)) (1036800 / x6_4))), (7, .int y0_5), (6, .int x6_4), (5, .int x5_1), (4, .int x4_2), (0, .ref o), (1, .int x1), (2, .int x2), (3, .int x3)]) hx hb dX7_isFirstAgain_142 hl (Nat.le_of_ble_eq_true rfl) rfl (fun ls hl => ?_)
            have K_144 : ∀ (x8_6 : Int32) (_ : R = (F_X7_isFirstAgain_144 x3 x6_4 y0_5) x8_6) (ls : Array Slot) (H : Heap) (locs : List Loc) (_ : HS D A s.heap (WM cI cZ cC cH o a_clock a_note a_text a_read a_fit a_shown a_image a_isKept a_row a_best m_told m_isRead1 m_clock m_note m_noted m_bytes m_text m_position m_tokenAt m_token m_digits m_number m_faultAt m_readMany m_readTold m_read m_fit m_shown m_image m_isKept m_row m_best m_againAt (1036800 / x6_4) m_orderMany m_orderLeast) H locs) (_ : lv_has ls 17 [(8, .int x8_6), (7, .int y0_5), (6, .int x6_4), (5, .int x5_1), (4, .int x4_2), (0, .ref o), (1, .int x1), (2, .int x2), (3, .int x3)]), W p l e { frames := 1, cells := 0, slots := 0, locals := 24 } s m args below meth c H locs 0 0 Q (F0 m 144 ls []) := by
              intro x8_6 hF ls H locs hh hl
              unfold F_X7_isFirstAgain_144 at hF
              refine lv_lconst (v := 0) hx hb dX7_isFirstAgain_144 (by decide) ?_
              refine lv_lstore (lv' := [(9, .long 0), (8, .int x8_6), (7, .int y0_5), (6, .int x6_4), (5, .int x5_1), (4, .int x4_2), (0, .ref o), (1, .int x1), (2, .int x2), (3, .int x3)]) hx hb dX7_isFirstAgain_145 hl (Nat.le_of_ble_eq_true rfl) rfl (fun ls hl => ?_)
              refine lv_lconst (v := 1) hx hb dX7_isFirstAgain_147 (by decide) ?_
              refine lv_lstore (lv' := [(11, .long 1), (9, .long 0), (8, .int x8_6), (7, .int y0_5), (6, .int x6_4), (5, .int x5_1), (4, .int x4_2), (0, .ref o), (1, .int x1), (2, .int x2), (3, .int x3)]) hx hb dX7_isFirstAgain_148 hl (Nat.le_of_ble_eq_true rfl) rfl (fun ls hl => ?_)
              refine lv_iload hx hb dX7_isFirstAgain_150 (lv_at hl 3 rfl) ?_
              refine lv_i2l hx hb dX7_isFirstAgain_152 rfl ?_
              refine lv_lstore (lv' := [(13, .long y0_5.toInt64), (11, .long 1), (9, .long 0), (8, .int x8_6), (7, .int y0_5), (6, .int x6_4), (5, .int x5_1), (4, .int x4_2), (0, .ref o), (1, .int x1), (2, .int x2), (3, .int x3)]) hx hb dX7_isFirstAgain_153 hl (Nat.le_of_ble_eq_true rfl) rfl (fun ls hl => ?_)
              refine lv_aload_n hx hb dX7_isFirstAgain_155 rfl (lv_at hl 8 rfl) ?_
              refine g_get KX hh in_X7_isFirstAgain_X7 0 rfl rfl 23 (by decide) rfl (List.mem_of_getElem? (i := 3) rfl) dX7_isFirstAgain_156 ?_
              refine lv_istore (lv' := [(15, .int (1036800 / x6_4)), (13, .long y0_5.toInt64), (11, .long 1), (9, .long 0), (8, .int x8_6), (7, .int y0_5), (6, .int x6_4), (5, .int x5_1), (4, .int x4_2), (0, .ref o), (1, .int x1), (2, .int x2), (3, .int x3)]) hx hb dX7_isFirstAgain_159 hl (Nat.le_of_ble_eq_true rfl) rfl (fun ls hl => ?_)
              refine lv_iconst (v := 2) hx hb dX7_isFirstAgain_161 (by decide) ?_
              refine lv_istore (lv' := [(16, .int 2), (15, .int (1036800 / x6_4)), (13, .long y0_5.toInt64), (11, .long 1), (9, .long 0), (8, .int x8_6), (7, .int y0_5), (6, .int x6_4), (5, .int x5_1), (4, .int x4_2), (0, .ref o), (1, .int x1), (2, .int x2), (3, .int x3)]) hx hb dX7_isFirstAgain_162 hl (Nat.le_of_ble_eq_true rfl) rfl (fun ls hl => ?_)
              have L_164 : ∀ (n_164 : Nat) (x16_7 : Int32) (x15_8 : Int32) (i0_164 : 2 ≤ x16_7.toInt) (i1_164 : x16_7.toInt ≤ 6) (_ : (6 - x16_7.toInt).toNat < n_164) (_ : R = (F_X7_isFirstAgain_164 x3 x6_4 y0_5 x8_6) n_164 x16_7 x15_8) (ls : Array Slot) (H : Heap) (locs : List Loc) (_ : HS D A s.heap (WM cI cZ cC cH o a_clock a_note a_text a_read a_fit a_shown a_image a_isKept a_row a_best m_told m_isRead1 m_clock m_note m_noted m_bytes m_text m_position m_tokenAt m_token m_digits m_number m_faultAt m_readMany m_readTold m_read m_fit m_shown m_image m_isKept m_row m_best m_againAt (1036800 / x6_4) m_orderMany m_orderLeast) H locs) (_ : lv_has ls 17 [(16, .int x16_7), (15, .int x15_8), (13, .long y0_5.toInt64), (11, .long 1), (9, .long 0), (8, .int x8_6), (7, .int y0_5), (6, .int x6_4), (5, .int x5_1), (4, .int x4_2), (0, .ref o), (1, .int x1), (2, .int x2), (3, .int x3)]), W p l e { frames := 1, cells := 0, slots := 0, locals := 24 } s m args below meth c H locs 0 0 Q (F0 m 164 ls []) := by
                intro n_164
                induction n_164 with
                | zero => intro x16_7 x15_8 i0_164 i1_164 hm; exact absurd hm (Nat.not_lt_zero _)
                | succ n_164 ih_164 =>
                  intro x16_7 x15_8 i0_164 i1_164 hm_164 hF ls H locs hh hl
                  rw [F_X7_isFirstAgain_164.eq_2] at hF
                  refine lv_iload hx hb dX7_isFirstAgain_164 (lv_at hl 0 rfl) ?_
                  refine lv_bipush (v := 6) hx hb dX7_isFirstAgain_166 (by decide) ?_
                  refine lv_icmp_ge (tgt := 210) hx hb dX7_isFirstAgain_168 (by decide) (fun c_168 => ?_) (fun c_168 => ?_)
                  · replace hF := hF.trans (if_pos c_168)
                    have i_168 : 6 ≤ x16_7.toInt := ti_le.mp c_168
                    refine lv_iload hx hb dX7_isFirstAgain_210 (lv_at hl 1 rfl) ?_
                    refine lv_iconst (v := 1) hx hb dX7_isFirstAgain_212 (by decide) ?_
                    refine lv_isub hx hb dX7_isFirstAgain_213 ?_
                    refine lv_istore (lv' := [(16, .int (x15_8 - 1)), (15, .int x15_8), (13, .long y0_5.toInt64), (11, .long 1), (9, .long 0), (8, .int x8_6), (7, .int y0_5), (6, .int x6_4), (5, .int x5_1), (4, .int x4_2), (0, .ref o), (1, .int x1), (2, .int x2), (3, .int x3)]) hx hb dX7_isFirstAgain_214 hl (Nat.le_of_ble_eq_true rfl) rfl (fun ls hl => ?_)
                    have L_216 : ∀ (n_216 : Nat) (x16_9 : Int32) (x13_10 : Int64) (x11_11 : Int64) (_ : x16_9.toInt.toNat < n_216) (_ : R = (F_X7_isFirstAgain_216 x3 x6_4 x8_6) n_216 x16_9 x13_10 x11_11) (ls : Array Slot) (H : Heap) (locs : List Loc) (_ : HS D A s.heap (WM cI cZ cC cH o a_clock a_note a_text a_read a_fit a_shown a_image a_isKept a_row a_best m_told m_isRead1 m_clock m_note m_noted m_bytes m_text m_position m_tokenAt m_token m_digits m_number m_faultAt m_readMany m_readTold m_read m_fit m_shown m_image m_isKept m_row m_best m_againAt (1036800 / x6_4) m_orderMany m_orderLeast) H locs) (_ : lv_has ls 17 [(16, .int x16_9), (15, .int x15_8), (13, .long x13_10), (11, .long x11_11), (9, .long 0), (8, .int x8_6), (7, .int y0_5), (6, .int x6_4), (5, .int x5_1), (4, .int x4_2), (0, .ref o), (1, .int x1), (2, .int x2), (3, .int x3)]), W p l e { frames := 1, cells := 0, slots := 0, locals := 24 } s m args below meth c H locs 0 0 Q (F0 m 216 ls []) := by
                      intro n_216
                      induction n_216 with
                      | zero => intro x16_9 x13_10 x11_11 hm; exact absurd hm (Nat.not_lt_zero _)
                      | succ n_216 ih_216 =>
                        intro x16_9 x13_10 x11_11 hm_216 hF ls H locs hh hl
                        rw [F_X7_isFirstAgain_216.eq_2] at hF
                        refine lv_iload hx hb dX7_isFirstAgain_216 (lv_at hl 0 rfl) ?_
                        refine lv_if_le (tgt := 269) hx hb dX7_isFirstAgain_218 (by decide) (fun c_218 => ?_) (fun c_218 => ?_)
                        · replace hF := hF.trans (if_pos c_218)
                          have i_218 : x16_9.toInt ≤ 0 := ti_le.mp c_218
                          refine lv_aload_n hx hb dX7_isFirstAgain_269 rfl (lv_at hl 10 rfl) ?_
                          refine g_get KX hh in_X7_isFirstAgain_X7 0 rfl rfl 23 (by decide) rfl (List.mem_of_getElem? (i := 3) rfl) dX7_isFirstAgain_270 ?_
                          refine lv_iconst (v := 1) hx hb dX7_isFirstAgain_273 (by decide) ?_
                          have K_293 : ∀ (y0_12 : Int64) (_ : R = (F_X7_isFirstAgain_293 x3 x6_4) y0_12) (ls : Array Slot) (H : Heap) (locs : List Loc) (_ : HS D A s.heap (WM cI cZ cC cH o a_clock a_note a_text a_read a_fit a_shown a_image a_isKept a_row a_best m_told m_isRead1 m_clock m_note m_noted m_bytes m_text m_position m_tokenAt m_token m_digits m_number m_faultAt m_readMany m_readTold m_read m_fit m_shown m_image m_isKept m_row m_best m_againAt (1036800 / x6_4) m_orderMany m_orderLeast) H locs) (_ : lv_has ls 17 [(16, .int x16_9), (15, .int x15_8), (13, .long x13_10), (11, .long x11_11), (9, .long 0), (8, .int x8_6), (7, .int y0_5), (6, .int x6_4), (5, .int x5_1), (4, .int x4_2), (0, .ref o), (1, .int x1), (2, .int x2), (3, .int x3)]), W p l e { frames := 1, cells := 0, slots := 0, locals := 24 } s m args below meth c H locs 0 0 Q (F0 m 293 ls [.long y0_12]) := by
                            intro y0_12 hF ls H locs hh hl
                            unfold F_X7_isFirstAgain_293 at hF
                            refine lv_lstore (lv' := [(9, .long y0_12), (16, .int x16_9), (15, .int x15_8), (13, .long x13_10), (11, .long x11_11), (8, .int x8_6), (7, .int y0_5), (6, .int x6_4), (5, .int x5_1), (4, .int x4_2), (0, .ref o), (1, .int x1), (2, .int x2), (3, .int x3)]) hx hb dX7_isFirstAgain_293 hl (Nat.le_of_ble_eq_true rfl) rfl (fun ls hl => ?_)
                            refine lv_aload_n hx hb dX7_isFirstAgain_295 rfl (lv_at hl 10 rfl) ?_
                            refine lv_iload_n hx hb dX7_isFirstAgain_296 rfl (lv_at hl 13 rfl) ?_
                            refine lv_lload hx hb dX7_isFirstAgain_297 (lv_at hl 0 rfl) ?_
                            refine lv_l2i hx hb dX7_isFirstAgain_299 rfl ?_
                            refine lv_iload_n hx hb dX7_isFirstAgain_300 rfl (lv_at hl 13 rfl) ?_
                            refine lv_aload_n hx hb dX7_isFirstAgain_301 rfl (lv_at hl 10 rfl) ?_
                            refine g_get KX hh in_X7_isFirstAgain_X7 0 rfl rfl 23 (by decide) rfl (List.mem_of_getElem? (i := 3) rfl) dX7_isFirstAgain_302 ?_
                            refine lv_irem hx hb dX7_isFirstAgain_305 (ne_of_pos sp1) ?_
                            refine lv_isub hx hb dX7_isFirstAgain_306 ?_
                            refine lv_aload_n hx hb dX7_isFirstAgain_307 rfl (lv_at hl 10 rfl) ?_
                            refine g_get KX hh in_X7_isFirstAgain_X7 0 rfl rfl 23 (by decide) rfl (List.mem_of_getElem? (i := 3) rfl) dX7_isFirstAgain_308 ?_
                            refine g_callS (As := [.int (y0_12.toInt32 - (x3 - x3 / (1036800 / x6_4) * (1036800 / x6_4))), .int (1036800 / x6_4)]) (rest := [.int x3, .ref o]) KX rfl ⟨Nat.le_of_ble_eq_true rfl, Nat.le_of_ble_eq_true rfl⟩ hh hl (c_X7_rest l D cI cZ cC cH  (y0_12.toInt32 - (x3 - x3 / (1036800 / x6_4) * (1036800 / x6_4))) (1036800 / x6_4) (ne_of_pos sp1)) JN.no 2 gX7_isFirstAgain_X7_rest rfl (by decide +kernel) ⟨Nat.le_of_ble_eq_true rfl, Nat.le_of_ble_eq_true rfl⟩ rfl rfl (Nat.le_of_ble_eq_true rfl) dX7_isFirstAgain_311 (fun H locs hh => ?_)
                            refine W.eq (g2 := F0 m 314 ls [.int (F_X7_rest (y0_12.toInt32 - (x3 - x3 / (1036800 / x6_4) * (1036800 / x6_4))) (1036800 / x6_4)), .int x3, .ref o]) rfl ?_
                            refine lv_iadd hx hb dX7_isFirstAgain_314 ?_
                            refine g_put KX hh in_X7_isFirstAgain_X7 tyX7 tyX7_ok nmX7 0 rfl rfl 22 (by decide) rfl rfl rfl (Nat.le_of_ble_eq_true rfl) (List.mem_of_getElem? (i := 4) rfl) (w' := (WM cI cZ cC cH o a_clock a_note a_text a_read a_fit a_shown a_image a_isKept a_row a_best m_told m_isRead1 m_clock m_note m_noted m_bytes m_text m_position m_tokenAt m_token m_digits m_number m_faultAt m_readMany m_readTold m_read m_fit m_shown m_image m_isKept m_row m_best (x3 + (F_X7_rest (y0_12.toInt32 - (x3 - x3 / (1036800 / x6_4) * (1036800 / x6_4))) (1036800 / x6_4))) (1036800 / x6_4) m_orderMany m_orderLeast)) rfl rfl dX7_isFirstAgain_315 (fun H locs hh => ?_)
                            refine lv_iconst (v := 1) hx hb dX7_isFirstAgain_318 (by decide) ?_
                            exact RT _ _ _ _ _ _ hh (by rw [hF]) (Or.inl ⟨_, rfl, by rw [hF], dX7_isFirstAgain_319, Or.inr (Or.inl ⟨rfl, Or.inr rfl⟩)⟩)
                          refine lv_icmp_ne (tgt := 281) hx hb dX7_isFirstAgain_274 (by decide) (fun c_274 => ?_) (fun c_274 => ?_)
                          · replace hF := hF.trans (if_neg c_274)
                            have i_274 : ¬ (1036800 / x6_4).toInt = 1 := ti_ne c_274
                            refine lv_iload hx hb dX7_isFirstAgain_281 (lv_at hl 5 rfl) ?_
                            refine lv_i2l hx hb dX7_isFirstAgain_283 rfl ?_
                            refine lv_lload hx hb dX7_isFirstAgain_284 (lv_at hl 3 rfl) ?_
                            refine lv_lmul hx hb dX7_isFirstAgain_286 ?_
                            refine lv_aload_n hx hb dX7_isFirstAgain_287 rfl (lv_at hl 10 rfl) ?_
                            refine g_get KX hh in_X7_isFirstAgain_X7 0 rfl rfl 23 (by decide) rfl (List.mem_of_getElem? (i := 3) rfl) dX7_isFirstAgain_288 ?_
                            refine lv_i2l hx hb dX7_isFirstAgain_291 rfl ?_
                            refine lv_lrem hx hb dX7_isFirstAgain_292 (ne64 sp1) ?_
                            exact K_293 ((x8_6.toInt64 * x11_11) - (x8_6.toInt64 * x11_11) / ((1036800 / x6_4).toInt64) * ((1036800 / x6_4).toInt64))  hF _ _ _ hh (lv_sub hl [0, 1, 2, 3, 4, 5, 6, 7, 8, 9, 10, 11, 12, 13] rfl)
                          · replace hF := hF.trans (if_pos c_274)
                            have i_274 : (1036800 / x6_4).toInt = 1 := congrArg Int32.toInt c_274
                            refine lv_lconst (v := 0) hx hb dX7_isFirstAgain_277 (by decide) ?_
                            refine lv_goto (tgt := 293) hx hb dX7_isFirstAgain_278 (by decide) ?_
                            exact K_293 0  hF _ _ _ hh (lv_sub hl [0, 1, 2, 3, 4, 5, 6, 7, 8, 9, 10, 11, 12, 13] rfl)
                        · replace hF := hF.trans (if_neg c_218)
                          have i_218 : 0 < x16_9.toInt := ti_nle c_218
                          refine lv_iload hx hb dX7_isFirstAgain_221 (lv_at hl 0 rfl) ?_
                          refine lv_iconst (v := 2) hx hb dX7_isFirstAgain_223 (by decide) ?_
                          refine lv_irem hx hb dX7_isFirstAgain_224 (by decide) ?_
                          refine lv_iconst (v := 1) hx hb dX7_isFirstAgain_225 (by decide) ?_
                          have K_245 : ∀ (y0_13 : Int64) (_ : R = (F_X7_isFirstAgain_245 x6_4 x16_9 x13_10 ((F_X7_isFirstAgain_216 x3 x6_4 x8_6) n_216)) y0_13) (ls : Array Slot) (H : Heap) (locs : List Loc) (_ : HS D A s.heap (WM cI cZ cC cH o a_clock a_note a_text a_read a_fit a_shown a_image a_isKept a_row a_best m_told m_isRead1 m_clock m_note m_noted m_bytes m_text m_position m_tokenAt m_token m_digits m_number m_faultAt m_readMany m_readTold m_read m_fit m_shown m_image m_isKept m_row m_best m_againAt (1036800 / x6_4) m_orderMany m_orderLeast) H locs) (_ : lv_has ls 17 [(16, .int x16_9), (15, .int x15_8), (13, .long x13_10), (11, .long x11_11), (9, .long 0), (8, .int x8_6), (7, .int y0_5), (6, .int x6_4), (5, .int x5_1), (4, .int x4_2), (0, .ref o), (1, .int x1), (2, .int x2), (3, .int x3)]), W p l e { frames := 1, cells := 0, slots := 0, locals := 24 } s m args below meth c H locs 0 0 Q (F0 m 245 ls [.long y0_13]) := by
                            intro y0_13 hF ls H locs hh hl
                            unfold F_X7_isFirstAgain_245 at hF
                            refine lv_lstore (lv' := [(11, .long y0_13), (16, .int x16_9), (15, .int x15_8), (13, .long x13_10), (9, .long 0), (8, .int x8_6), (7, .int y0_5), (6, .int x6_4), (5, .int x5_1), (4, .int x4_2), (0, .ref o), (1, .int x1), (2, .int x2), (3, .int x3)]) hx hb dX7_isFirstAgain_245 hl (Nat.le_of_ble_eq_true rfl) rfl (fun ls hl => ?_)
                            refine lv_lload hx hb dX7_isFirstAgain_247 (lv_at hl 3 rfl) ?_
                            refine lv_lload hx hb dX7_isFirstAgain_249 (lv_at hl 3 rfl) ?_
                            refine lv_lmul hx hb dX7_isFirstAgain_251 ?_
                            refine lv_aload_n hx hb dX7_isFirstAgain_252 rfl (lv_at hl 10 rfl) ?_
                            refine g_get KX hh in_X7_isFirstAgain_X7 0 rfl rfl 23 (by decide) rfl (List.mem_of_getElem? (i := 3) rfl) dX7_isFirstAgain_253 ?_
                            refine lv_i2l hx hb dX7_isFirstAgain_256 rfl ?_
                            refine lv_lrem hx hb dX7_isFirstAgain_257 (ne64 sp1) ?_
                            refine lv_lstore (lv' := [(13, .long ((x13_10 * x13_10) - (x13_10 * x13_10) / ((1036800 / x6_4).toInt64) * ((1036800 / x6_4).toInt64))), (11, .long y0_13), (16, .int x16_9), (15, .int x15_8), (9, .long 0), (8, .int x8_6), (7, .int y0_5), (6, .int x6_4), (5, .int x5_1), (4, .int x4_2), (0, .ref o), (1, .int x1), (2, .int x2), (3, .int x3)]) hx hb dX7_isFirstAgain_258 hl (Nat.le_of_ble_eq_true rfl) rfl (fun ls hl => ?_)
                            refine lv_iload hx hb dX7_isFirstAgain_260 (lv_at hl 2 rfl) ?_
                            refine lv_iconst (v := 2) hx hb dX7_isFirstAgain_262 (by decide) ?_
                            refine lv_idiv hx hb dX7_isFirstAgain_263 (by decide) ?_
                            refine lv_istore (lv' := [(16, .int (x16_9 / 2)), (13, .long ((x13_10 * x13_10) - (x13_10 * x13_10) / ((1036800 / x6_4).toInt64) * ((1036800 / x6_4).toInt64))), (11, .long y0_13), (15, .int x15_8), (9, .long 0), (8, .int x8_6), (7, .int y0_5), (6, .int x6_4), (5, .int x5_1), (4, .int x4_2), (0, .ref o), (1, .int x1), (2, .int x2), (3, .int x3)]) hx hb dX7_isFirstAgain_264 hl (Nat.le_of_ble_eq_true rfl) rfl (fun ls hl => ?_)
                            refine lv_goto (tgt := 216) hx hb dX7_isFirstAgain_266 (by decide) ?_
                            exact ih_216 (x16_9 / 2) ((x13_10 * x13_10) - (x13_10 * x13_10) / ((1036800 / x6_4).toInt64) * ((1036800 / x6_4).toInt64)) y0_13  (Nat.lt_of_lt_of_le (half_lt i_218) (by omega)) hF _ _ _ hh (lv_sub hl [0, 3, 1, 2, 4, 5, 6, 7, 8, 9, 10, 11, 12, 13] rfl)
                          refine lv_icmp_ne (tgt := 243) hx hb dX7_isFirstAgain_226 (by decide) (fun c_226 => ?_) (fun c_226 => ?_)
                          · replace hF := hF.trans (if_neg c_226)
                            have i_226 : ¬ (x16_9 - x16_9 / 2 * 2).toInt = 1 := ti_ne c_226
                            refine lv_lload hx hb dX7_isFirstAgain_243 (lv_at hl 3 rfl) ?_
                            exact K_245 x11_11  hF _ _ _ hh (lv_sub hl [0, 1, 2, 3, 4, 5, 6, 7, 8, 9, 10, 11, 12, 13] rfl)
                          · replace hF := hF.trans (if_pos c_226)
                            have i_226 : (x16_9 - x16_9 / 2 * 2).toInt = 1 := congrArg Int32.toInt c_226
                            refine lv_lload hx hb dX7_isFirstAgain_229 (lv_at hl 3 rfl) ?_
                            refine lv_lload hx hb dX7_isFirstAgain_231 (lv_at hl 2 rfl) ?_
                            refine lv_lmul hx hb dX7_isFirstAgain_233 ?_
                            refine lv_aload_n hx hb dX7_isFirstAgain_234 rfl (lv_at hl 10 rfl) ?_
                            refine g_get KX hh in_X7_isFirstAgain_X7 0 rfl rfl 23 (by decide) rfl (List.mem_of_getElem? (i := 3) rfl) dX7_isFirstAgain_235 ?_
                            refine lv_i2l hx hb dX7_isFirstAgain_238 rfl ?_
                            refine lv_lrem hx hb dX7_isFirstAgain_239 (ne64 sp1) ?_
                            refine lv_goto (tgt := 245) hx hb dX7_isFirstAgain_240 (by decide) ?_
                            exact K_245 ((x11_11 * x13_10) - (x11_11 * x13_10) / ((1036800 / x6_4).toInt64) * ((1036800 / x6_4).toInt64))  hF _ _ _ hh (lv_sub hl [0, 1, 2, 3, 4, 5, 6, 7, 8, 9, 10, 11, 12, 13] rfl)
                    exact L_216 ((x15_8 - 1).toInt.toNat + 1) (x15_8 - 1) y0_5.toInt64 1  (by omega) hF _ _ _ hh (lv_sub hl [0, 1, 2, 3, 4, 5, 6, 7, 8, 9, 10, 11, 12, 13] rfl)
                  · replace hF := hF.trans (if_neg c_168)
                    have i_168 : x16_7.toInt < 6 := ti_nle c_168
                    refine lv_iload hx hb dX7_isFirstAgain_171 (lv_at hl 0 rfl) ?_
                    refine lv_iconst (v := 4) hx hb dX7_isFirstAgain_173 (by decide) ?_
                    refine lv_icmp_eq (tgt := 200) hx hb dX7_isFirstAgain_174 (by decide) (fun c_174 => ?_) (fun c_174 => ?_)
                    · replace hF := hF.trans (if_pos c_174)
                      have i_174 : x16_7.toInt = 4 := congrArg Int32.toInt c_174
                      refine lv_iload hx hb dX7_isFirstAgain_200 (lv_at hl 1 rfl) ?_
                      refine lv_istore (lv' := [(15, .int x15_8), (16, .int x16_7), (13, .long y0_5.toInt64), (11, .long 1), (9, .long 0), (8, .int x8_6), (7, .int y0_5), (6, .int x6_4), (5, .int x5_1), (4, .int x4_2), (0, .ref o), (1, .int x1), (2, .int x2), (3, .int x3)]) hx hb dX7_isFirstAgain_202 hl (Nat.le_of_ble_eq_true rfl) rfl (fun ls hl => ?_)
                      refine lv_iinc (v := x16_7 + 1) (lv' := [(16, .int (x16_7 + 1)), (15, .int x15_8), (13, .long y0_5.toInt64), (11, .long 1), (9, .long 0), (8, .int x8_6), (7, .int y0_5), (6, .int x6_4), (5, .int x5_1), (4, .int x4_2), (0, .ref o), (1, .int x1), (2, .int x2), (3, .int x3)]) hx hb dX7_isFirstAgain_204 hl (k := 1) rfl rfl (Nat.le_of_ble_eq_true rfl) rfl (fun ls hl => ?_)
                      refine lv_goto (tgt := 164) hx hb dX7_isFirstAgain_207 (by decide) ?_
                      have e_inc : (x16_7 + 1).toInt = _ := ti_inc (by omega)
                      exact ih_164 (x16_7 + 1) x15_8 (by first | with_reducible assumption | omega | decide) (by first | with_reducible assumption | omega | decide) (by omega) hF _ _ _ hh (lv_sub hl [0, 1, 2, 3, 4, 5, 6, 7, 8, 9, 10, 11, 12, 13] rfl)
                    · replace hF := hF.trans (if_neg c_174)
                      have i_174 : ¬ x16_7.toInt = 4 := ti_ne c_174
                      refine lv_aload_n hx hb dX7_isFirstAgain_177 rfl (lv_at hl 10 rfl) ?_
                      refine g_get KX hh in_X7_isFirstAgain_X7 0 rfl rfl 23 (by decide) rfl (List.mem_of_getElem? (i := 3) rfl) dX7_isFirstAgain_178 ?_
                      refine lv_iload hx hb dX7_isFirstAgain_181 (lv_at hl 0 rfl) ?_
                      refine lv_irem hx hb dX7_isFirstAgain_183 (ne_of_pos (by omega)) ?_
                      refine lv_if_ne (tgt := 200) hx hb dX7_isFirstAgain_184 (by decide) (fun c_184 => ?_) (fun c_184 => ?_)
                      · replace hF := hF.trans (if_neg c_184)
                        have i_184 : ¬ ((1036800 / x6_4) - (1036800 / x6_4) / x16_7 * x16_7).toInt = 0 := ti_ne c_184
                        refine lv_iload hx hb dX7_isFirstAgain_200 (lv_at hl 1 rfl) ?_
                        refine lv_istore (lv' := [(15, .int x15_8), (16, .int x16_7), (13, .long y0_5.toInt64), (11, .long 1), (9, .long 0), (8, .int x8_6), (7, .int y0_5), (6, .int x6_4), (5, .int x5_1), (4, .int x4_2), (0, .ref o), (1, .int x1), (2, .int x2), (3, .int x3)]) hx hb dX7_isFirstAgain_202 hl (Nat.le_of_ble_eq_true rfl) rfl (fun ls hl => ?_)
                        refine lv_iinc (v := x16_7 + 1) (lv' := [(16, .int (x16_7 + 1)), (15, .int x15_8), (13, .long y0_5.toInt64), (11, .long 1), (9, .long 0), (8, .int x8_6), (7, .int y0_5), (6, .int x6_4), (5, .int x5_1), (4, .int x4_2), (0, .ref o), (1, .int x1), (2, .int x2), (3, .int x3)]) hx hb dX7_isFirstAgain_204 hl (k := 1) rfl rfl (Nat.le_of_ble_eq_true rfl) rfl (fun ls hl => ?_)
                        refine lv_goto (tgt := 164) hx hb dX7_isFirstAgain_207 (by decide) ?_
                        have e_inc : (x16_7 + 1).toInt = _ := ti_inc (by omega)
                        exact ih_164 (x16_7 + 1) x15_8 (by first | with_reducible assumption | omega | decide) (by first | with_reducible assumption | omega | decide) (by omega) hF _ _ _ hh (lv_sub hl [0, 1, 2, 3, 4, 5, 6, 7, 8, 9, 10, 11, 12, 13] rfl)
                      · replace hF := hF.trans (if_pos c_184)
                        have i_184 : ((1036800 / x6_4) - (1036800 / x6_4) / x16_7 * x16_7).toInt = 0 := congrArg Int32.toInt c_184
                        refine lv_iload hx hb dX7_isFirstAgain_187 (lv_at hl 1 rfl) ?_
                        refine lv_iload hx hb dX7_isFirstAgain_189 (lv_at hl 0 rfl) ?_
                        refine lv_idiv hx hb dX7_isFirstAgain_191 (ne_of_pos (by omega)) ?_
                        refine lv_iload hx hb dX7_isFirstAgain_192 (lv_at hl 0 rfl) ?_
                        refine lv_iconst (v := 1) hx hb dX7_isFirstAgain_194 (by decide) ?_
                        refine lv_isub hx hb dX7_isFirstAgain_195 ?_
                        refine lv_imul hx hb dX7_isFirstAgain_196 ?_
                        refine lv_goto (tgt := 202) hx hb dX7_isFirstAgain_197 (by decide) ?_
                        refine lv_istore (lv' := [(15, .int ((x15_8 / x16_7) * (x16_7 - 1))), (16, .int x16_7), (13, .long y0_5.toInt64), (11, .long 1), (9, .long 0), (8, .int x8_6), (7, .int y0_5), (6, .int x6_4), (5, .int x5_1), (4, .int x4_2), (0, .ref o), (1, .int x1), (2, .int x2), (3, .int x3)]) hx hb dX7_isFirstAgain_202 hl (Nat.le_of_ble_eq_true rfl) rfl (fun ls hl => ?_)
                        refine lv_iinc (v := x16_7 + 1) (lv' := [(16, .int (x16_7 + 1)), (15, .int ((x15_8 / x16_7) * (x16_7 - 1))), (13, .long y0_5.toInt64), (11, .long 1), (9, .long 0), (8, .int x8_6), (7, .int y0_5), (6, .int x6_4), (5, .int x5_1), (4, .int x4_2), (0, .ref o), (1, .int x1), (2, .int x2), (3, .int x3)]) hx hb dX7_isFirstAgain_204 hl (k := 1) rfl rfl (Nat.le_of_ble_eq_true rfl) rfl (fun ls hl => ?_)
                        refine lv_goto (tgt := 164) hx hb dX7_isFirstAgain_207 (by decide) ?_
                        have e_inc : (x16_7 + 1).toInt = _ := ti_inc (by omega)
                        exact ih_164 (x16_7 + 1) ((x15_8 / x16_7) * (x16_7 - 1)) (by first | with_reducible assumption | omega | decide) (by first | with_reducible assumption | omega | decide) (by omega) hF _ _ _ hh (lv_sub hl [0, 1, 2, 3, 4, 5, 6, 7, 8, 9, 10, 11, 12, 13] rfl)
              exact L_164 5 2 (1036800 / x6_4) (by first | with_reducible assumption | omega | decide) (by first | with_reducible assumption | omega | decide) (by first | omega | decide | (simp; done)) hF _ _ _ hh (lv_sub hl [0, 1, 2, 3, 4, 5, 6, 7, 8, 9, 10, 11, 12, 13] rfl)
            exact K_144 (F_X7_rest (-(x5_1 / x6_4)) (1036800 / x6_4))  hF _ _ _ hh (lv_sub hl [0, 1, 2, 3, 4, 5, 6, 7, 8] rfl)
          refine lv_if_ne (tgt := 115) hx hb dX7_isFirstAgain_108 (by decide) (fun c_108 => ?_) (fun c_108 => ?_)
          · replace hF := hF.trans (if_neg c_108)
            have i_108 : ¬ x4_2.toInt = 0 := ti_ne c_108
            refine lv_iload hx hb dX7_isFirstAgain_115 (lv_at hl 2 rfl) ?_
            refine lv_iload hx hb dX7_isFirstAgain_117 (lv_at hl 0 rfl) ?_
            refine lv_idiv hx hb dX7_isFirstAgain_119 (ne_of_pos pp1) ?_
            refine lv_aload_n hx hb dX7_isFirstAgain_120 rfl (lv_at hl 3 rfl) ?_
            refine g_get KX hh in_X7_isFirstAgain_X7 0 rfl rfl 23 (by decide) rfl (List.mem_of_getElem? (i := 3) rfl) dX7_isFirstAgain_121 ?_
            refine g_callS (As := [.int (x4_2 / x6_4), .int (1036800 / x6_4)]) (rest := []) KX rfl ⟨Nat.le_of_ble_eq_true rfl, Nat.le_of_ble_eq_true rfl⟩ hh hl (c_X7_rest l D cI cZ cC cH  (x4_2 / x6_4) (1036800 / x6_4) (ne_of_pos sp1)) JN.no 2 gX7_isFirstAgain_X7_rest rfl (by decide +kernel) ⟨Nat.le_of_ble_eq_true rfl, Nat.le_of_ble_eq_true rfl⟩ rfl rfl (Nat.le_of_ble_eq_true rfl) dX7_isFirstAgain_124 (fun H locs hh => ?_)
            refine W.eq (g2 := F0 m 127 ls [.int (F_X7_rest (x4_2 / x6_4) (1036800 / x6_4))]) rfl ?_
            exact K_127 (F_X7_rest (x4_2 / x6_4) (1036800 / x6_4))  hF _ _ _ hh (lv_sub hl [0, 1, 2, 3, 4, 5, 6] rfl)
          · replace hF := hF.trans (if_pos c_108)
            have i_108 : x4_2.toInt = 0 := congrArg Int32.toInt c_108
            refine lv_iconst (v := 0) hx hb dX7_isFirstAgain_111 (by decide) ?_
            refine lv_goto (tgt := 127) hx hb dX7_isFirstAgain_112 (by decide) ?_
            exact K_127 0  hF _ _ _ hh (lv_sub hl [0, 1, 2, 3, 4, 5, 6] rfl)
        · replace hF := hF.trans (if_neg c_101)
          have i_101 : ¬ (x5_1 - x5_1 / x6_4 * x6_4).toInt = 0 := ti_ne c_101
          refine lv_iconst (v := 0) hx hb dX7_isFirstAgain_104 (by decide) ?_
          exact RT _ _ _ _ _ _ hh (by rw [hF]) (Or.inl ⟨_, rfl, by rw [hF], dX7_isFirstAgain_105, Or.inr (Or.inl ⟨rfl, Or.inl rfl⟩)⟩)
      exact K_87 (F_X7_common 1036800 y0_3) (by first | with_reducible assumption | omega | decide) (by first | with_reducible assumption | omega | decide) hF _ _ _ hh (lv_sub hl [0, 1, 2, 3, 4, 5, 6] rfl)
    refine lv_if_ge (tgt := 80) hx hb dX7_isFirstAgain_71 (by decide) (fun c_71 => ?_) (fun c_71 => ?_)
    · replace hF := hF.trans (if_pos c_71)
      have i_71 : 0 ≤ x4_2.toInt := ti_le.mp c_71
      refine lv_iload hx hb dX7_isFirstAgain_80 (lv_at hl 1 rfl) ?_
      exact K_82 x4_2 (by first | (rw [ti_neg (by omega)]; omega) | omega) hF _ _ _ hh (lv_sub hl [0, 1, 2, 3, 4, 5] rfl)
    · replace hF := hF.trans (if_neg c_71)
      have i_71 : x4_2.toInt < 0 := ti_nle c_71
      refine lv_iload hx hb dX7_isFirstAgain_74 (lv_at hl 1 rfl) ?_
      refine lv_ineg hx hb dX7_isFirstAgain_76 ?_
      refine lv_goto (tgt := 82) hx hb dX7_isFirstAgain_77 (by decide) ?_
      exact K_82 (-x4_2) (by first | (rw [ti_neg (by omega)]; omega) | omega) hF _ _ _ hh (lv_sub hl [0, 1, 2, 3, 4, 5] rfl)
  exact K_67 (F_X7_rest ((F_X7_hand m_clock x2 0 (m_clock ((6 * x2) + 3).toNatClampNeg)) - (F_X7_hand m_clock x1 0 (m_clock ((6 * x1) + 3).toNatClampNeg))) 1036800) ((m_clock ((6 * x2) + 3).toNatClampNeg) - (m_clock ((6 * x1) + 3).toNatClampNeg)) (by first | with_reducible assumption | omega | decide) (by first | with_reducible assumption | omega | decide) hF _ _ _ hh (lv_sub hl [0, 1, 2, 3, 4, 5] rfl)
theorem zb_F_X7_isFirstAgain_293 {x3 : Int32} {x6_4 : Int32} {y0_12 : Int64} : (F_X7_isFirstAgain_293 x3 x6_4 y0_12).1 = 0 ∨ (F_X7_isFirstAgain_293 x3 x6_4 y0_12).1 = 1 := by
  unfold F_X7_isFirstAgain_293
  exact Or.inr rfl
theorem zb_F_X7_isFirstAgain_245 {x6_4 : Int32} {x16_9 : Int32} {x13_10 : Int64} {k_216 : Int32 → Int64 → Int64 → Int32 × Int32 × Int32} {y0_13 : Int64} (hk : ∀ a0 a1 a2, (k_216 a0 a1 a2).1 = 0 ∨ (k_216 a0 a1 a2).1 = 1) : (F_X7_isFirstAgain_245 x6_4 x16_9 x13_10 k_216 y0_13).1 = 0 ∨ (F_X7_isFirstAgain_245 x6_4 x16_9 x13_10 k_216 y0_13).1 = 1 := by
  unfold F_X7_isFirstAgain_245
  exact hk _ _ _
theorem zb_F_X7_isFirstAgain_216 {x3 : Int32} {x6_4 : Int32} {x8_6 : Int32} : ∀ (n : Nat) (x16_9 : Int32) (x13_10 : Int64) (x11_11 : Int64), (F_X7_isFirstAgain_216 x3 x6_4 x8_6 n x16_9 x13_10 x11_11).1 = 0 ∨ (F_X7_isFirstAgain_216 x3 x6_4 x8_6 n x16_9 x13_10 x11_11).1 = 1 := by
  intro n
  induction n with
  | zero => intros; exact Or.inl rfl
  | succ n ih =>
    intros
    rw [F_X7_isFirstAgain_216.eq_2]
    split
    · split
      · exact zb_F_X7_isFirstAgain_293 
      · exact zb_F_X7_isFirstAgain_293 
    · split
      · exact zb_F_X7_isFirstAgain_245 ih
      · exact zb_F_X7_isFirstAgain_245 ih
theorem zb_F_X7_isFirstAgain_164 {x3 : Int32} {x6_4 : Int32} {y0_5 : Int32} {x8_6 : Int32} : ∀ (n : Nat) (x16_7 : Int32) (x15_8 : Int32), (F_X7_isFirstAgain_164 x3 x6_4 y0_5 x8_6 n x16_7 x15_8).1 = 0 ∨ (F_X7_isFirstAgain_164 x3 x6_4 y0_5 x8_6 n x16_7 x15_8).1 = 1 := by
  intro n
  induction n with
  | zero => intros; exact Or.inl rfl
  | succ n ih =>
    intros
    rw [F_X7_isFirstAgain_164.eq_2]
    split
    · exact zb_F_X7_isFirstAgain_216 _ _ _ _
    · split
      · exact ih _ _
      · split
        · exact ih _ _
        · exact ih _ _
theorem zb_F_X7_isFirstAgain_144 {x3 : Int32} {x6_4 : Int32} {y0_5 : Int32} {x8_6 : Int32} : (F_X7_isFirstAgain_144 x3 x6_4 y0_5 x8_6).1 = 0 ∨ (F_X7_isFirstAgain_144 x3 x6_4 y0_5 x8_6).1 = 1 := by
  unfold F_X7_isFirstAgain_144
  exact zb_F_X7_isFirstAgain_164 _ _ _
theorem zb_F_X7_isFirstAgain_127 {x3 : Int32} {x5_1 : Int32} {x6_4 : Int32} {y0_5 : Int32} : (F_X7_isFirstAgain_127 x3 x5_1 x6_4 y0_5).1 = 0 ∨ (F_X7_isFirstAgain_127 x3 x5_1 x6_4 y0_5).1 = 1 := by
  unfold F_X7_isFirstAgain_127
  exact zb_F_X7_isFirstAgain_144 
theorem zb_F_X7_isFirstAgain_87 {m_againAt : Int32} {x3 : Int32} {x5_1 : Int32} {x4_2 : Int32} {x6_4 : Int32} : (F_X7_isFirstAgain_87 m_againAt x3 x5_1 x4_2 x6_4).1 = 0 ∨ (F_X7_isFirstAgain_87 m_againAt x3 x5_1 x4_2 x6_4).1 = 1 := by
  unfold F_X7_isFirstAgain_87
  split
  · split
    · exact zb_F_X7_isFirstAgain_127 
    · exact zb_F_X7_isFirstAgain_127 
  · exact Or.inl rfl
theorem zb_F_X7_isFirstAgain_82 {m_againAt : Int32} {x3 : Int32} {x5_1 : Int32} {x4_2 : Int32} {y0_3 : Int32} : (F_X7_isFirstAgain_82 m_againAt x3 x5_1 x4_2 y0_3).1 = 0 ∨ (F_X7_isFirstAgain_82 m_againAt x3 x5_1 x4_2 y0_3).1 = 1 := by
  unfold F_X7_isFirstAgain_82
  exact zb_F_X7_isFirstAgain_87 
theorem zb_F_X7_isFirstAgain_67 {m_againAt : Int32} {x3 : Int32} {x5_1 : Int32} {x4_2 : Int32} : (F_X7_isFirstAgain_67 m_againAt x3 x5_1 x4_2).1 = 0 ∨ (F_X7_isFirstAgain_67 m_againAt x3 x5_1 x4_2).1 = 1 := by
  unfold F_X7_isFirstAgain_67
  split
  · exact zb_F_X7_isFirstAgain_82 
  · exact zb_F_X7_isFirstAgain_82 
theorem z_X7_isFirstAgain (m_clock : Nat → Int32) (m_againAt : Int32) (x1 : Int32) (x2 : Int32) (x3 : Int32) : (F_X7_isFirstAgain m_clock m_againAt x1 x2 x3).1 = 0 ∨ (F_X7_isFirstAgain m_clock m_againAt x1 x2 x3).1 = 1 := by
  unfold F_X7_isFirstAgain
  exact zb_F_X7_isFirstAgain_67 
