def F_X7_egg_289 (x5 : Int32) (x8_1 : Int64) (x6_2 : Int64) (x10_4 : Int64) : Nat → Int64 → Int64 → Int64
  | 0, _, _ => default
  | n + 1, x14_5, x12_6 => (if (lg_cmp x14_5 0) = 0 then (if x5 = 0 then x10_4 / x12_6 else (x6_2 * x8_1) / x12_6) else ((F_X7_egg_289 x5 x8_1 x6_2 x10_4 n) (x12_6 - x12_6 / x14_5 * x14_5) x14_5))
def F_X7_egg_232 (m_clock : Nat → Int32) (x1 : Int32) (x2 : Int32) (x3 : Int32) (x8_1 : Int64) (x6_2 : Int64) (x12_3 : Int32) (x15_7 : Int32) (x10_8 : Int64) (k_172 : Int32 → Int64 → Int64) (y0_9 : Int64) : Int64 := (if (lg_cmp ((((F_X7_toWhole m_clock x2 x3).toInt64) + (1440 * x15_7.toInt64)) * x6_2) ((((F_X7_toWhole m_clock x1 x3).toInt64) + (1440 * x12_3.toInt64)) * x8_1)) ≤ 0 then (k_172 (x15_7 + 1) x10_8) else (if (lg_cmp x10_8 0) < 0 then (k_172 (x15_7 + 1) y0_9) else (if 0 ≤ (lg_cmp y0_9 x10_8) then (k_172 (x15_7 + 1) x10_8) else (k_172 (x15_7 + 1) y0_9))))
def F_X7_egg_172 (m_clock : Nat → Int32) (x1 : Int32) (x2 : Int32) (x3 : Int32) (x4 : Int32) (x8_1 : Int64) (x6_2 : Int64) (x12_3 : Int32) (k_142 : Int32 → Int64 → Int64) : Nat → Int32 → Int64 → Int64
  | 0, _, _ => default
  | n + 1, x15_7, x10_8 => (if 240 ≤ x15_7 then (k_142 (x12_3 + 1) x10_8) else (if 0 ≤ (lg_cmp ((((((F_X7_toWhole m_clock x2 x3).toInt64) + (1440 * x15_7.toInt64)) * x6_2) - ((((F_X7_toWhole m_clock x1 x3).toInt64) + (1440 * x12_3.toInt64)) * x8_1)) - ((x4.toInt64 * x6_2) * x8_1)) 0) then (F_X7_egg_232 m_clock x1 x2 x3 x8_1 x6_2 x12_3 x15_7 x10_8 (F_X7_egg_172 m_clock x1 x2 x3 x4 x8_1 x6_2 x12_3 k_142 n) ((((((F_X7_toWhole m_clock x2 x3).toInt64) + (1440 * x15_7.toInt64)) * x6_2) - ((((F_X7_toWhole m_clock x1 x3).toInt64) + (1440 * x12_3.toInt64)) * x8_1)) - ((x4.toInt64 * x6_2) * x8_1))) else (F_X7_egg_232 m_clock x1 x2 x3 x8_1 x6_2 x12_3 x15_7 x10_8 (F_X7_egg_172 m_clock x1 x2 x3 x4 x8_1 x6_2 x12_3 k_142 n) (-((((((F_X7_toWhole m_clock x2 x3).toInt64) + (1440 * x15_7.toInt64)) * x6_2) - ((((F_X7_toWhole m_clock x1 x3).toInt64) + (1440 * x12_3.toInt64)) * x8_1)) - ((x4.toInt64 * x6_2) * x8_1))))))
def F_X7_egg_142 (m_clock : Nat → Int32) (x1 : Int32) (x2 : Int32) (x3 : Int32) (x4 : Int32) (x5 : Int32) (x8_1 : Int64) (x6_2 : Int64) : Nat → Int32 → Int64 → Int64
  | 0, _, _ => default
  | n + 1, x12_3, x10_4 => (if 60 ≤ x12_3 then (F_X7_egg_289 x5 x8_1 x6_2 x10_4 ((x6_2 * x8_1).toInt.natAbs + 1) (x6_2 * x8_1) x10_4) else (F_X7_egg_172 m_clock x1 x2 x3 x4 x8_1 x6_2 x12_3 (F_X7_egg_142 m_clock x1 x2 x3 x4 x5 x8_1 x6_2 n) 241 0 x10_4))
def F_X7_egg_139 (m_clock : Nat → Int32) (x1 : Int32) (x2 : Int32) (x3 : Int32) (x4 : Int32) (x5 : Int32) (x8_1 : Int64) (x6_2 : Int64) : Int64 := (F_X7_egg_142 m_clock x1 x2 x3 x4 x5 x8_1 x6_2 61 0 (-1))
def F_X7_egg (m_told : Int32) (m_clock : Nat → Int32) (x1 : Int32) (x2 : Int32) (x3 : Int32) (x4 : Int32) (x5 : Int32) : Int64 := (if (F_X7_isClock m_told x1) = 0 then (-2) else (if (F_X7_isClock m_told x2) = 0 then (-2) else (if (F_X7_isMinute x3) = 0 then (-3) else (if (F_X7_in x4 1 60) = 0 then (-3) else (if (F_X7_in x5 0 1) = 0 then (-3) else (if (m_clock (6 * x1).toNatClampNeg) = 2 then (-4) else (if (m_clock (6 * x2).toNatClampNeg) = 2 then (-4) else (if (F_X7_isExact m_told m_clock x1) = 0 then (-4) else (if (F_X7_isExact m_told m_clock x2) = 0 then (-4) else (F_X7_egg_139 m_clock x1 x2 x3 x4 x5 ((1440 + (m_clock ((6 * x2) + 3).toNatClampNeg)).toInt64) ((1440 + (m_clock ((6 * x1) + 3).toNatClampNeg)).toInt64)))))))))))
theorem in_X7_egg_X7 : ∀ x ∈ u_ws RX7 TX7 26, x ∈ wsX7_egg := by decide +kernel
set_option maxHeartbeats 2000000 in
set_option maxRecDepth 100000 in
theorem c_X7_egg (l : Launch) (D : va_G) (cI cZ cC cH : ClassId) (o a_clock a_note a_text a_read a_fit a_shown a_image a_isKept a_row a_best : Nat) (m_told : Int32) (m_isRead1 : Int32) (m_clock : Nat → Int32) (m_note : Nat → Int32) (m_noted : Int32) (m_bytes : Int32) (m_text : Nat → Int32) (m_position : Int32) (m_tokenAt : Int32) (m_token : Int64) (m_digits : Int32) (m_number : Int32) (m_faultAt : Int32) (m_readMany : Int32) (m_readTold : Int32) (m_read : Nat → Int32) (m_fit : Nat → Int32) (m_shown : Nat → Int32) (m_image : Nat → Int32) (m_isKept : Nat → Int32) (m_row : Nat → Int32) (m_best : Nat → Int32) (m_againAt : Int32) (m_againStep : Int32) (m_orderMany : Int32) (m_orderLeast : Int32) (x1 : Int32) (x2 : Int32) (x3 : Int32) (x4 : Int32) (x5 : Int32) (hc : CkR m_clock) : MC l D (TY cI cZ cC cH) yX7_egg wsX7_egg 3 64 [.ref o, .int x1, .int x2, .int x3, .int x4, .int x5] (WM cI cZ cC cH o a_clock a_note a_text a_read a_fit a_shown a_image a_isKept a_row a_best m_told m_isRead1 m_clock m_note m_noted m_bytes m_text m_position m_tokenAt m_token m_digits m_number m_faultAt m_readMany m_readTold m_read m_fit m_shown m_image m_isKept m_row m_best m_againAt m_againStep m_orderMany m_orderLeast) (some (.long (F_X7_egg m_told m_clock x1 x2 x3 x4 x5))) (WM cI cZ cC cH o a_clock a_note a_text a_read a_fit a_shown a_image a_isKept a_row a_best m_told m_isRead1 m_clock m_note m_noted m_bytes m_text m_position m_tokenAt m_token m_digits m_number m_faultAt m_readMany m_readTold m_read m_fit m_shown m_image m_isKept m_row m_best m_againAt m_againStep m_orderMany m_orderLeast) := by
  obtain ⟨R, hF⟩ : ∃ R, R = F_X7_egg m_told m_clock x1 x2 x3 x4 x5 := ⟨_, rfl⟩
  rw [← hF]
  refine MC.of (cc := cX7_egg) (maxL := 20) (ret := (some .long)) RX7 rfl (by decide +kernel) rfl (Nat.le_of_ble_eq_true rfl) ?_
  intro p e s m args below meth c A Q KX RT hh ls hl
  have z0 : (0 : Int32).toInt = 0 := rfl
  have z1 : (1 : Int32).toInt = 1 := rfl
  have zm : (-1 : Int32).toInt = -1 := rfl
  have hx := KX.1
  have hb := KX.2.1
  have hl : lv_has ls 20 [(0, .ref o), (1, .int x1), (2, .int x2), (3, .int x3), (4, .int x4), (5, .int x5)] := hl
  unfold F_X7_egg at hF
  refine lv_aload_n hx hb dX7_egg_0 rfl (lv_at hl 0 rfl) ?_
  refine lv_iload_n hx hb dX7_egg_1 rfl (lv_at hl 1 rfl) ?_
  refine g_callV (As := [.int x1]) (rest := []) KX rfl ⟨Nat.le_of_ble_eq_true rfl, Nat.le_of_ble_eq_true rfl⟩ hh hl (c_X7_isClock l D cI cZ cC cH o a_clock a_note a_text a_read a_fit a_shown a_image a_isKept a_row a_best m_told m_isRead1 m_clock m_note m_noted m_bytes m_text m_position m_tokenAt m_token m_digits m_number m_faultAt m_readMany m_readTold m_read m_fit m_shown m_image m_isKept m_row m_best m_againAt m_againStep m_orderMany m_orderLeast x1 ) JN.all 1 gX7_egg_X7_isClock rfl (by decide +kernel) ⟨Nat.le_of_ble_eq_true rfl, Nat.le_of_ble_eq_true rfl⟩ 0 7 rfl rfl rfl rfl rfl (Nat.le_of_ble_eq_true rfl) dX7_egg_2 (fun H locs hh => ?_)
  refine W.eq (g2 := F0 m 5 ls [.int (F_X7_isClock m_told x1)]) rfl ?_
  refine lv_if_eq (tgt := 16) hx hb dX7_egg_5 (by decide) (fun c_5 => ?_) (fun c_5 => ?_)
  · replace hF := hF.trans (if_pos c_5)
    refine lv_ldc2 (v := (-2)) hx hb KX.2.2.2.1 (KX.2.2.2.2.1 _ (List.mem_of_getElem? (i := 1) rfl)) dX7_egg_16 ?_
    exact RT _ _ _ _ _ _ hh (rfl) (Or.inr (Or.inl ⟨_, rfl, by rw [hF], dX7_egg_19, rfl⟩))
  · replace hF := hF.trans (if_neg c_5)
    obtain ⟨k0_5, k1_5⟩ := X7_isClock_in c_5
    refine lv_aload_n hx hb dX7_egg_8 rfl (lv_at hl 0 rfl) ?_
    refine lv_iload_n hx hb dX7_egg_9 rfl (lv_at hl 2 rfl) ?_
    refine g_callV (As := [.int x2]) (rest := []) KX rfl ⟨Nat.le_of_ble_eq_true rfl, Nat.le_of_ble_eq_true rfl⟩ hh hl (c_X7_isClock l D cI cZ cC cH o a_clock a_note a_text a_read a_fit a_shown a_image a_isKept a_row a_best m_told m_isRead1 m_clock m_note m_noted m_bytes m_text m_position m_tokenAt m_token m_digits m_number m_faultAt m_readMany m_readTold m_read m_fit m_shown m_image m_isKept m_row m_best m_againAt m_againStep m_orderMany m_orderLeast x2 ) JN.all 1 gX7_egg_X7_isClock rfl (by decide +kernel) ⟨Nat.le_of_ble_eq_true rfl, Nat.le_of_ble_eq_true rfl⟩ 0 7 rfl rfl rfl rfl rfl (Nat.le_of_ble_eq_true rfl) dX7_egg_10 (fun H locs hh => ?_)
    refine W.eq (g2 := F0 m 13 ls [.int (F_X7_isClock m_told x2)]) rfl ?_
    refine lv_if_ne (tgt := 20) hx hb dX7_egg_13 (by decide) (fun c_13 => ?_) (fun c_13 => ?_)
    · replace hF := hF.trans (if_neg c_13)
      obtain ⟨k0_13, k1_13⟩ := X7_isClock_in c_13
      refine lv_iload_n hx hb dX7_egg_20 rfl (lv_at hl 3 rfl) ?_
      refine g_callS (As := [.int x3]) (rest := []) KX rfl ⟨Nat.le_of_ble_eq_true rfl, Nat.le_of_ble_eq_true rfl⟩ hh hl (c_X7_isMinute l D cI cZ cC cH  x3 ) JN.no 1 gX7_egg_X7_isMinute rfl (by decide +kernel) ⟨Nat.le_of_ble_eq_true rfl, Nat.le_of_ble_eq_true rfl⟩ rfl rfl (Nat.le_of_ble_eq_true rfl) dX7_egg_21 (fun H locs hh => ?_)
      refine W.eq (g2 := F0 m 24 ls [.int (F_X7_isMinute x3)]) rfl ?_
      refine lv_if_eq (tgt := 48) hx hb dX7_egg_24 (by decide) (fun c_24 => ?_) (fun c_24 => ?_)
      · replace hF := hF.trans (if_pos c_24)
        refine lv_ldc2 (v := (-3)) hx hb KX.2.2.2.1 (KX.2.2.2.2.1 _ (List.mem_of_getElem? (i := 2) rfl)) dX7_egg_48 ?_
        exact RT _ _ _ _ _ _ hh (rfl) (Or.inr (Or.inl ⟨_, rfl, by rw [hF], dX7_egg_51, rfl⟩))
      · replace hF := hF.trans (if_neg c_24)
        obtain ⟨k0_24, k1_24⟩ := X7_isMinute_in c_24
        refine lv_iload hx hb dX7_egg_27 (lv_at hl 4 rfl) ?_
        refine lv_iconst (v := 1) hx hb dX7_egg_29 (by decide) ?_
        refine lv_bipush (v := 60) hx hb dX7_egg_30 (by decide) ?_
        refine g_callS (As := [.int x4, .int 1, .int 60]) (rest := []) KX rfl ⟨Nat.le_of_ble_eq_true rfl, Nat.le_of_ble_eq_true rfl⟩ hh hl (c_X7_in l D cI cZ cC cH  x4 1 60 ) JN.no 3 gX7_egg_X7_in rfl (by decide +kernel) ⟨Nat.le_of_ble_eq_true rfl, Nat.le_of_ble_eq_true rfl⟩ rfl rfl (Nat.le_of_ble_eq_true rfl) dX7_egg_32 (fun H locs hh => ?_)
        refine W.eq (g2 := F0 m 35 ls [.int (F_X7_in x4 1 60)]) rfl ?_
        refine lv_if_eq (tgt := 48) hx hb dX7_egg_35 (by decide) (fun c_35 => ?_) (fun c_35 => ?_)
        · replace hF := hF.trans (if_pos c_35)
          refine lv_ldc2 (v := (-3)) hx hb KX.2.2.2.1 (KX.2.2.2.2.1 _ (List.mem_of_getElem? (i := 2) rfl)) dX7_egg_48 ?_
          exact RT _ _ _ _ _ _ hh (rfl) (Or.inr (Or.inl ⟨_, rfl, by rw [hF], dX7_egg_51, rfl⟩))
        · replace hF := hF.trans (if_neg c_35)
          obtain ⟨k0_35, k1_35⟩ : (1 : Int) ≤ x4.toInt ∧ x4.toInt ≤ 60 := X7_in_in c_35
          refine lv_iload hx hb dX7_egg_38 (lv_at hl 5 rfl) ?_
          refine lv_iconst (v := 0) hx hb dX7_egg_40 (by decide) ?_
          refine lv_iconst (v := 1) hx hb dX7_egg_41 (by decide) ?_
          refine g_callS (As := [.int x5, .int 0, .int 1]) (rest := []) KX rfl ⟨Nat.le_of_ble_eq_true rfl, Nat.le_of_ble_eq_true rfl⟩ hh hl (c_X7_in l D cI cZ cC cH  x5 0 1 ) JN.no 3 gX7_egg_X7_in rfl (by decide +kernel) ⟨Nat.le_of_ble_eq_true rfl, Nat.le_of_ble_eq_true rfl⟩ rfl rfl (Nat.le_of_ble_eq_true rfl) dX7_egg_42 (fun H locs hh => ?_)
          refine W.eq (g2 := F0 m 45 ls [.int (F_X7_in x5 0 1)]) rfl ?_
          refine lv_if_ne (tgt := 52) hx hb dX7_egg_45 (by decide) (fun c_45 => ?_) (fun c_45 => ?_)
          · replace hF := hF.trans (if_neg c_45)
            obtain ⟨k0_45, k1_45⟩ : (0 : Int) ≤ x5.toInt ∧ x5.toInt ≤ 1 := X7_in_in c_45
            refine lv_aload_n hx hb dX7_egg_52 rfl (lv_at hl 0 rfl) ?_
            refine g_get KX hh in_X7_egg_X7 0 rfl rfl 2 (by decide) rfl (List.mem_of_getElem? (i := 3) rfl) dX7_egg_53 ?_
            refine lv_bipush (v := 6) hx hb dX7_egg_56 (by decide) ?_
            refine lv_iload_n hx hb dX7_egg_58 rfl (lv_at hl 1 rfl) ?_
            refine lv_imul hx hb dX7_egg_59 ?_
            refine g_iald KX hh 1 0 rfl rfl (ix60 (by omega) (by omega)) dX7_egg_60 ?_
            refine lv_iconst (v := 2) hx hb dX7_egg_61 (by decide) ?_
            refine lv_icmp_eq (tgt := 94) hx hb dX7_egg_62 (by decide) (fun c_62 => ?_) (fun c_62 => ?_)
            · replace hF := hF.trans (if_pos c_62)
              refine lv_ldc2 (v := (-4)) hx hb KX.2.2.2.1 (KX.2.2.2.2.1 _ (List.mem_of_getElem? (i := 4) rfl)) dX7_egg_94 ?_
              exact RT _ _ _ _ _ _ hh (rfl) (Or.inr (Or.inl ⟨_, rfl, by rw [hF], dX7_egg_97, rfl⟩))
            · replace hF := hF.trans (if_neg c_62)
              refine lv_aload_n hx hb dX7_egg_65 rfl (lv_at hl 0 rfl) ?_
              refine g_get KX hh in_X7_egg_X7 0 rfl rfl 2 (by decide) rfl (List.mem_of_getElem? (i := 3) rfl) dX7_egg_66 ?_
              refine lv_bipush (v := 6) hx hb dX7_egg_69 (by decide) ?_
              refine lv_iload_n hx hb dX7_egg_71 rfl (lv_at hl 2 rfl) ?_
              refine lv_imul hx hb dX7_egg_72 ?_
              refine g_iald KX hh 1 0 rfl rfl (ix60 (by omega) (by omega)) dX7_egg_73 ?_
              refine lv_iconst (v := 2) hx hb dX7_egg_74 (by decide) ?_
              refine lv_icmp_eq (tgt := 94) hx hb dX7_egg_75 (by decide) (fun c_75 => ?_) (fun c_75 => ?_)
              · replace hF := hF.trans (if_pos c_75)
                refine lv_ldc2 (v := (-4)) hx hb KX.2.2.2.1 (KX.2.2.2.2.1 _ (List.mem_of_getElem? (i := 4) rfl)) dX7_egg_94 ?_
                exact RT _ _ _ _ _ _ hh (rfl) (Or.inr (Or.inl ⟨_, rfl, by rw [hF], dX7_egg_97, rfl⟩))
              · replace hF := hF.trans (if_neg c_75)
                refine lv_aload_n hx hb dX7_egg_78 rfl (lv_at hl 0 rfl) ?_
                refine lv_iload_n hx hb dX7_egg_79 rfl (lv_at hl 1 rfl) ?_
                refine g_callV (As := [.int x1]) (rest := []) KX rfl ⟨Nat.le_of_ble_eq_true rfl, Nat.le_of_ble_eq_true rfl⟩ hh hl (c_X7_isExact l D cI cZ cC cH o a_clock a_note a_text a_read a_fit a_shown a_image a_isKept a_row a_best m_told m_isRead1 m_clock m_note m_noted m_bytes m_text m_position m_tokenAt m_token m_digits m_number m_faultAt m_readMany m_readTold m_read m_fit m_shown m_image m_isKept m_row m_best m_againAt m_againStep m_orderMany m_orderLeast x1 ) JN.all 1 gX7_egg_X7_isExact rfl (by decide +kernel) ⟨Nat.le_of_ble_eq_true rfl, Nat.le_of_ble_eq_true rfl⟩ 0 7 rfl rfl rfl rfl rfl (Nat.le_of_ble_eq_true rfl) dX7_egg_80 (fun H locs hh => ?_)
                refine W.eq (g2 := F0 m 83 ls [.int (F_X7_isExact m_told m_clock x1)]) rfl ?_
                refine lv_if_eq (tgt := 94) hx hb dX7_egg_83 (by decide) (fun c_83 => ?_) (fun c_83 => ?_)
                · replace hF := hF.trans (if_pos c_83)
                  refine lv_ldc2 (v := (-4)) hx hb KX.2.2.2.1 (KX.2.2.2.2.1 _ (List.mem_of_getElem? (i := 4) rfl)) dX7_egg_94 ?_
                  exact RT _ _ _ _ _ _ hh (rfl) (Or.inr (Or.inl ⟨_, rfl, by rw [hF], dX7_egg_97, rfl⟩))
                · replace hF := hF.trans (if_neg c_83)
                  obtain ⟨k0_83, k1_83⟩ := X7_isExact_in c_83
                  refine lv_aload_n hx hb dX7_egg_86 rfl (lv_at hl 0 rfl) ?_
                  refine lv_iload_n hx hb dX7_egg_87 rfl (lv_at hl 2 rfl) ?_
                  refine g_callV (As := [.int x2]) (rest := []) KX rfl ⟨Nat.le_of_ble_eq_true rfl, Nat.le_of_ble_eq_true rfl⟩ hh hl (c_X7_isExact l D cI cZ cC cH o a_clock a_note a_text a_read a_fit a_shown a_image a_isKept a_row a_best m_told m_isRead1 m_clock m_note m_noted m_bytes m_text m_position m_tokenAt m_token m_digits m_number m_faultAt m_readMany m_readTold m_read m_fit m_shown m_image m_isKept m_row m_best m_againAt m_againStep m_orderMany m_orderLeast x2 ) JN.all 1 gX7_egg_X7_isExact rfl (by decide +kernel) ⟨Nat.le_of_ble_eq_true rfl, Nat.le_of_ble_eq_true rfl⟩ 0 7 rfl rfl rfl rfl rfl (Nat.le_of_ble_eq_true rfl) dX7_egg_88 (fun H locs hh => ?_)
                  refine W.eq (g2 := F0 m 91 ls [.int (F_X7_isExact m_told m_clock x2)]) rfl ?_
                  refine lv_if_ne (tgt := 98) hx hb dX7_egg_91 (by decide) (fun c_91 => ?_) (fun c_91 => ?_)
                  · replace hF := hF.trans (if_neg c_91)
                    obtain ⟨k0_91, k1_91⟩ := X7_isExact_in c_91
                    refine lv_sipush (v := 1440) hx hb dX7_egg_98 (by decide) ?_
                    refine lv_aload_n hx hb dX7_egg_101 rfl (lv_at hl 0 rfl) ?_
                    refine g_get KX hh in_X7_egg_X7 0 rfl rfl 2 (by decide) rfl (List.mem_of_getElem? (i := 3) rfl) dX7_egg_102 ?_
                    refine lv_bipush (v := 6) hx hb dX7_egg_105 (by decide) ?_
                    refine lv_iload_n hx hb dX7_egg_107 rfl (lv_at hl 1 rfl) ?_
                    refine lv_imul hx hb dX7_egg_108 ?_
                    refine lv_iconst (v := 3) hx hb dX7_egg_109 (by decide) ?_
                    refine lv_iadd hx hb dX7_egg_110 ?_
                    refine g_iald KX hh 1 0 rfl rfl (ix6 3 (by omega) (by omega) (by decide)) dX7_egg_111 ?_
                    refine lv_iadd hx hb dX7_egg_112 ?_
                    refine lv_i2l hx hb dX7_egg_113 rfl ?_
                    refine lv_lstore (lv' := [(6, .long ((1440 + (m_clock ((6 * x1) + 3).toNatClampNeg)).toInt64)), (0, .ref o), (1, .int x1), (2, .int x2), (3, .int x3), (4, .int x4), (5, .int x5)]) hx hb dX7_egg_114 hl (Nat.le_of_ble_eq_true rfl) rfl (fun ls hl => ?_)
                    refine lv_sipush (v := 1440) hx hb dX7_egg_116 (by decide) ?_
                    refine lv_aload_n hx hb dX7_egg_119 rfl (lv_at hl 1 rfl) ?_
                    refine g_get KX hh in_X7_egg_X7 0 rfl rfl 2 (by decide) rfl (List.mem_of_getElem? (i := 3) rfl) dX7_egg_120 ?_
                    refine lv_bipush (v := 6) hx hb dX7_egg_123 (by decide) ?_
                    refine lv_iload_n hx hb dX7_egg_125 rfl (lv_at hl 3 rfl) ?_
                    refine lv_imul hx hb dX7_egg_126 ?_
                    refine lv_iconst (v := 3) hx hb dX7_egg_127 (by decide) ?_
                    refine lv_iadd hx hb dX7_egg_128 ?_
                    refine g_iald KX hh 1 0 rfl rfl (ix6 3 (by omega) (by omega) (by decide)) dX7_egg_129 ?_
                    refine lv_iadd hx hb dX7_egg_130 ?_
                    refine lv_i2l hx hb dX7_egg_131 rfl ?_
                    refine lv_lstore (lv' := [(8, .long ((1440 + (m_clock ((6 * x2) + 3).toNatClampNeg)).toInt64)), (6, .long ((1440 + (m_clock ((6 * x1) + 3).toNatClampNeg)).toInt64)), (0, .ref o), (1, .int x1), (2, .int x2), (3, .int x3), (4, .int x4), (5, .int x5)]) hx hb dX7_egg_132 hl (Nat.le_of_ble_eq_true rfl) rfl (fun ls hl => ?_)
                    have f6 : FastOk ((1440 + (m_clock ((6 * x1) + 3).toNatClampNeg)).toInt64) := fast64 (hc.fast k0_5 k1_5 c_62)
                    have f8 : FastOk ((1440 + (m_clock ((6 * x2) + 3).toNatClampNeg)).toInt64) := fast64 (hc.fast k0_13 k1_13 c_75)
                    refine lv_ldc2 (v := (-1)) hx hb KX.2.2.2.1 (KX.2.2.2.2.1 _ (List.mem_of_getElem? (i := 5) rfl)) dX7_egg_134 ?_
                    refine lv_lstore (lv' := [(10, .long (-1)), (8, .long ((1440 + (m_clock ((6 * x2) + 3).toNatClampNeg)).toInt64)), (6, .long ((1440 + (m_clock ((6 * x1) + 3).toNatClampNeg)).toInt64)), (0, .ref o), (1, .int x1), (2, .int x2), (3, .int x3), (4, .int x4), (5, .int x5)]) hx hb dX7_egg_137 hl (Nat.le_of_ble_eq_true rfl) rfl (fun ls hl => ?_)
                    have K_139 : ∀ (x8_1 : Int64) (x6_2 : Int64) (f6 : FastOk x6_2) (f8 : FastOk x8_1) (_ : R = (F_X7_egg_139 m_clock x1 x2 x3 x4 x5) x8_1 x6_2) (ls : Array Slot) (H : Heap) (locs : List Loc) (_ : HS D A s.heap (WM cI cZ cC cH o a_clock a_note a_text a_read a_fit a_shown a_image a_isKept a_row a_best m_told m_isRead1 m_clock m_note m_noted m_bytes m_text m_position m_tokenAt m_token m_digits m_number m_faultAt m_readMany m_readTold m_read m_fit m_shown m_image m_isKept m_row m_best m_againAt m_againStep m_orderMany m_orderLeast) H locs) (_ : lv_has ls 20 [(10, .long (-1)), (8, .long x8_1), (6, .long x6_2), (0, .ref o), (1, .int x1), (2, .int x2), (3, .int x3), (4, .int x4), (5, .int x5)]), W p l e { frames := 3, cells := 0, slots := 0, locals := 64 } s m args below meth c H locs 0 0 Q (F0 m 139 ls []) := by
                      intro x8_1 x6_2 f6 f8 hF ls H locs hh hl
                      unfold F_X7_egg_139 at hF
                      refine lv_iconst (v := 0) hx hb dX7_egg_139 (by decide) ?_
                      refine lv_istore (lv' := [(12, .int 0), (10, .long (-1)), (8, .long x8_1), (6, .long x6_2), (0, .ref o), (1, .int x1), (2, .int x2), (3, .int x3), (4, .int x4), (5, .int x5)]) hx hb dX7_egg_140 hl (Nat.le_of_ble_eq_true rfl) rfl (fun ls hl => ?_)
                      have L_142 : ∀ (n_142 : Nat) (x12_3 : Int32) (x10_4 : Int64) (i0_142 : 0 ≤ x12_3.toInt) (i1_142 : x12_3.toInt ≤ 60) (_ : (60 - x12_3.toInt).toNat < n_142) (_ : R = (F_X7_egg_142 m_clock x1 x2 x3 x4 x5 x8_1 x6_2) n_142 x12_3 x10_4) (ls : Array Slot) (H : Heap) (locs : List Loc) (_ : HS D A s.heap (WM cI cZ cC cH o a_clock a_note a_text a_read a_fit a_shown a_image a_isKept a_row a_best m_told m_isRead1 m_clock m_note m_noted m_bytes m_text m_position m_tokenAt m_token m_digits m_number m_faultAt m_readMany m_readTold m_read m_fit m_shown m_image m_isKept m_row m_best m_againAt m_againStep m_orderMany m_orderLeast) H locs) (_ : lv_has ls 20 [(12, .int x12_3), (10, .long x10_4), (8, .long x8_1), (6, .long x6_2), (0, .ref o), (1, .int x1), (2, .int x2), (3, .int x3), (4, .int x4), (5, .int x5)]), W p l e { frames := 3, cells := 0, slots := 0, locals := 64 } s m args below meth c H locs 0 0 Q (F0 m 142 ls []) := by
                        intro n_142
                        induction n_142 with
                        | zero => intro x12_3 x10_4 i0_142 i1_142 hm; exact absurd hm (Nat.not_lt_zero _)
                        | succ n_142 ih_142 =>
                          intro x12_3 x10_4 i0_142 i1_142 hm_142 hF ls H locs hh hl
                          rw [F_X7_egg_142.eq_2] at hF
                          refine lv_iload hx hb dX7_egg_142 (lv_at hl 0 rfl) ?_
                          refine lv_bipush (v := 60) hx hb dX7_egg_144 (by decide) ?_
                          refine lv_icmp_ge (tgt := 278) hx hb dX7_egg_146 (by decide) (fun c_146 => ?_) (fun c_146 => ?_)
                          · replace hF := hF.trans (if_pos c_146)
                            have i_146 : 60 ≤ x12_3.toInt := ti_le.mp c_146
                            refine lv_lload hx hb dX7_egg_278 (lv_at hl 1 rfl) ?_
                            refine lv_lstore (lv' := [(12, .long x10_4), (10, .long x10_4), (8, .long x8_1), (6, .long x6_2), (0, .ref o), (1, .int x1), (2, .int x2), (3, .int x3), (4, .int x4), (5, .int x5)]) hx hb dX7_egg_280 hl (Nat.le_of_ble_eq_true rfl) rfl (fun ls hl => ?_)
                            refine lv_lload hx hb dX7_egg_282 (lv_at hl 3 rfl) ?_
                            refine lv_lload hx hb dX7_egg_284 (lv_at hl 2 rfl) ?_
                            refine lv_lmul hx hb dX7_egg_286 ?_
                            refine lv_lstore (lv' := [(14, .long (x6_2 * x8_1)), (12, .long x10_4), (10, .long x10_4), (8, .long x8_1), (6, .long x6_2), (0, .ref o), (1, .int x1), (2, .int x2), (3, .int x3), (4, .int x4), (5, .int x5)]) hx hb dX7_egg_287 hl (Nat.le_of_ble_eq_true rfl) rfl (fun ls hl => ?_)
                            have L_289 : ∀ (n_289 : Nat) (x14_5 : Int64) (x12_6 : Int64) (hn_289 : ¬ (x12_6 = 0 ∧ x14_5 = 0)) (_ : x14_5.toInt.natAbs < n_289) (_ : R = (F_X7_egg_289 x5 x8_1 x6_2 x10_4) n_289 x14_5 x12_6) (ls : Array Slot) (H : Heap) (locs : List Loc) (_ : HS D A s.heap (WM cI cZ cC cH o a_clock a_note a_text a_read a_fit a_shown a_image a_isKept a_row a_best m_told m_isRead1 m_clock m_note m_noted m_bytes m_text m_position m_tokenAt m_token m_digits m_number m_faultAt m_readMany m_readTold m_read m_fit m_shown m_image m_isKept m_row m_best m_againAt m_againStep m_orderMany m_orderLeast) H locs) (_ : lv_has ls 20 [(14, .long x14_5), (12, .long x12_6), (10, .long x10_4), (8, .long x8_1), (6, .long x6_2), (0, .ref o), (1, .int x1), (2, .int x2), (3, .int x3), (4, .int x4), (5, .int x5)]), W p l e { frames := 3, cells := 0, slots := 0, locals := 64 } s m args below meth c H locs 0 0 Q (F0 m 289 ls []) := by
                              intro n_289
                              induction n_289 with
                              | zero => intro x14_5 x12_6 hn_289 hm; exact absurd hm (Nat.not_lt_zero _)
                              | succ n_289 ih_289 =>
                                intro x14_5 x12_6 hn_289 hm_289 hF ls H locs hh hl
                                rw [F_X7_egg_289.eq_2] at hF
                                refine lv_lload hx hb dX7_egg_289 (lv_at hl 0 rfl) ?_
                                refine lv_lconst (v := 0) hx hb dX7_egg_291 (by decide) ?_
                                refine W.lcmp hx hb dX7_egg_292 ?_
                                refine lv_if_eq (tgt := 314) hx hb dX7_egg_293 (by decide) (fun c_293 => ?_) (fun c_293 => ?_)
                                · replace hF := hF.trans (if_pos c_293)
                                  refine lv_iload hx hb dX7_egg_314 (lv_at hl 10 rfl) ?_
                                  refine lv_if_ne (tgt := 324) hx hb dX7_egg_316 (by decide) (fun c_316 => ?_) (fun c_316 => ?_)
                                  · replace hF := hF.trans (if_neg c_316)
                                    have i_316 : ¬ x5.toInt = 0 := ti_ne c_316
                                    refine lv_lload hx hb dX7_egg_324 (lv_at hl 4 rfl) ?_
                                    refine lv_lload hx hb dX7_egg_326 (lv_at hl 3 rfl) ?_
                                    refine lv_lmul hx hb dX7_egg_328 ?_
                                    refine lv_lload hx hb dX7_egg_329 (lv_at hl 1 rfl) ?_
                                    refine lv_ldiv hx hb dX7_egg_331 ((fun h => hn_289 ⟨h, lgc_eq c_293⟩)) ?_
                                    exact RT _ _ _ _ _ _ hh (rfl) (Or.inr (Or.inl ⟨_, rfl, by rw [hF], dX7_egg_332, rfl⟩))
                                  · replace hF := hF.trans (if_pos c_316)
                                    have i_316 : x5.toInt = 0 := congrArg Int32.toInt c_316
                                    refine lv_lload hx hb dX7_egg_319 (lv_at hl 2 rfl) ?_
                                    refine lv_goto (tgt := 329) hx hb dX7_egg_321 (by decide) ?_
                                    refine lv_lload hx hb dX7_egg_329 (lv_at hl 1 rfl) ?_
                                    refine lv_ldiv hx hb dX7_egg_331 ((fun h => hn_289 ⟨h, lgc_eq c_293⟩)) ?_
                                    exact RT _ _ _ _ _ _ hh (rfl) (Or.inr (Or.inl ⟨_, rfl, by rw [hF], dX7_egg_332, rfl⟩))
                                · replace hF := hF.trans (if_neg c_293)
                                  refine lv_lload hx hb dX7_egg_296 (lv_at hl 1 rfl) ?_
                                  refine lv_lload hx hb dX7_egg_298 (lv_at hl 0 rfl) ?_
                                  refine lv_lrem hx hb dX7_egg_300 ((lgc_ne c_293)) ?_
                                  refine lv_lstore (lv' := [(16, .long (x12_6 - x12_6 / x14_5 * x14_5)), (14, .long x14_5), (12, .long x12_6), (10, .long x10_4), (8, .long x8_1), (6, .long x6_2), (0, .ref o), (1, .int x1), (2, .int x2), (3, .int x3), (4, .int x4), (5, .int x5)]) hx hb dX7_egg_301 hl (Nat.le_of_ble_eq_true rfl) rfl (fun ls hl => ?_)
                                  refine lv_lload hx hb dX7_egg_303 (lv_at hl 1 rfl) ?_
                                  refine lv_lstore (lv' := [(12, .long x14_5), (16, .long (x12_6 - x12_6 / x14_5 * x14_5)), (14, .long x14_5), (10, .long x10_4), (8, .long x8_1), (6, .long x6_2), (0, .ref o), (1, .int x1), (2, .int x2), (3, .int x3), (4, .int x4), (5, .int x5)]) hx hb dX7_egg_305 hl (Nat.le_of_ble_eq_true rfl) rfl (fun ls hl => ?_)
                                  refine lv_lload hx hb dX7_egg_307 (lv_at hl 1 rfl) ?_
                                  refine lv_lstore (lv' := [(14, .long (x12_6 - x12_6 / x14_5 * x14_5)), (12, .long x14_5), (16, .long (x12_6 - x12_6 / x14_5 * x14_5)), (10, .long x10_4), (8, .long x8_1), (6, .long x6_2), (0, .ref o), (1, .int x1), (2, .int x2), (3, .int x3), (4, .int x4), (5, .int x5)]) hx hb dX7_egg_309 hl (Nat.le_of_ble_eq_true rfl) rfl (fun ls hl => ?_)
                                  refine lv_goto (tgt := 289) hx hb dX7_egg_311 (by decide) ?_
                                  exact ih_289 (x12_6 - x12_6 / x14_5 * x14_5) x14_5 (by first | exact fun h => lgc_ne c_293 h.1 | exact fun h => mul64_ne f6 f8 h.2) (Nat.lt_of_lt_of_le (rem_abs64 (lgc_ne c_293)) (by omega)) hF _ _ _ hh (lv_sub hl [0, 1, 3, 4, 5, 6, 7, 8, 9, 10, 11] rfl)
                            exact L_289 ((x6_2 * x8_1).toInt.natAbs + 1) (x6_2 * x8_1) x10_4 (by first | exact fun h => lgc_ne c_293 h.1 | exact fun h => mul64_ne f6 f8 h.2) (by omega) hF _ _ _ hh (lv_sub hl [0, 1, 2, 3, 4, 5, 6, 7, 8, 9, 10] rfl)
                          · replace hF := hF.trans (if_neg c_146)
                            have i_146 : x12_3.toInt < 60 := ti_nle c_146
                            refine lv_aload_n hx hb dX7_egg_149 rfl (lv_at hl 4 rfl) ?_
                            refine lv_iload_n hx hb dX7_egg_150 rfl (lv_at hl 5 rfl) ?_
                            refine lv_iload_n hx hb dX7_egg_151 rfl (lv_at hl 7 rfl) ?_
                            refine g_callV (As := [.int x1, .int x3]) (rest := []) KX rfl ⟨Nat.le_of_ble_eq_true rfl, Nat.le_of_ble_eq_true rfl⟩ hh hl (c_X7_toWhole l D cI cZ cC cH o a_clock a_note a_text a_read a_fit a_shown a_image a_isKept a_row a_best m_told m_isRead1 m_clock m_note m_noted m_bytes m_text m_position m_tokenAt m_token m_digits m_number m_faultAt m_readMany m_readTold m_read m_fit m_shown m_image m_isKept m_row m_best m_againAt m_againStep m_orderMany m_orderLeast x1 x3 (by first | with_reducible assumption | omega | decide) (by first | with_reducible assumption | omega | decide)) JN.all 2 gX7_egg_X7_toWhole rfl (by decide +kernel) ⟨Nat.le_of_ble_eq_true rfl, Nat.le_of_ble_eq_true rfl⟩ 0 7 rfl rfl rfl rfl rfl (Nat.le_of_ble_eq_true rfl) dX7_egg_152 (fun H locs hh => ?_)
                            refine W.eq (g2 := F0 m 155 ls [.int (F_X7_toWhole m_clock x1 x3)]) rfl ?_
                            refine lv_i2l hx hb dX7_egg_155 rfl ?_
                            refine lv_ldc2 (v := 1440) hx hb KX.2.2.2.1 (KX.2.2.2.2.1 _ (List.mem_of_getElem? (i := 6) rfl)) dX7_egg_156 ?_
                            refine lv_iload hx hb dX7_egg_159 (lv_at hl 0 rfl) ?_
                            refine lv_i2l hx hb dX7_egg_161 rfl ?_
                            refine lv_lmul hx hb dX7_egg_162 ?_
                            refine lv_ladd hx hb dX7_egg_163 ?_
                            refine lv_lload hx hb dX7_egg_164 (lv_at hl 2 rfl) ?_
                            refine lv_lmul hx hb dX7_egg_166 ?_
                            refine lv_lstore (lv' := [(13, .long ((((F_X7_toWhole m_clock x1 x3).toInt64) + (1440 * x12_3.toInt64)) * x8_1)), (12, .int x12_3), (10, .long x10_4), (8, .long x8_1), (6, .long x6_2), (0, .ref o), (1, .int x1), (2, .int x2), (3, .int x3), (4, .int x4), (5, .int x5)]) hx hb dX7_egg_167 hl (Nat.le_of_ble_eq_true rfl) rfl (fun ls hl => ?_)
                            refine lv_iconst (v := 0) hx hb dX7_egg_169 (by decide) ?_
                            refine lv_istore (lv' := [(15, .int 0), (13, .long ((((F_X7_toWhole m_clock x1 x3).toInt64) + (1440 * x12_3.toInt64)) * x8_1)), (12, .int x12_3), (10, .long x10_4), (8, .long x8_1), (6, .long x6_2), (0, .ref o), (1, .int x1), (2, .int x2), (3, .int x3), (4, .int x4), (5, .int x5)]) hx hb dX7_egg_170 hl (Nat.le_of_ble_eq_true rfl) rfl (fun ls hl => ?_)
                            have L_172 : ∀ (n_172 : Nat) (x15_7 : Int32) (x10_8 : Int64) (i0_172 : 0 ≤ x15_7.toInt) (i1_172 : x15_7.toInt ≤ 240) (_ : (240 - x15_7.toInt).toNat < n_172) (_ : R = (F_X7_egg_172 m_clock x1 x2 x3 x4 x8_1 x6_2 x12_3 ((F_X7_egg_142 m_clock x1 x2 x3 x4 x5 x8_1 x6_2) n_142)) n_172 x15_7 x10_8) (ls : Array Slot) (H : Heap) (locs : List Loc) (_ : HS D A s.heap (WM cI cZ cC cH o a_clock a_note a_text a_read a_fit a_shown a_image a_isKept a_row a_best m_told m_isRead1 m_clock m_note m_noted m_bytes m_text m_position m_tokenAt m_token m_digits m_number m_faultAt m_readMany m_readTold m_read m_fit m_shown m_image m_isKept m_row m_best m_againAt m_againStep m_orderMany m_orderLeast) H locs) (_ : lv_has ls 20 [(15, .int x15_7), (13, .long ((((F_X7_toWhole m_clock x1 x3).toInt64) + (1440 * x12_3.toInt64)) * x8_1)), (12, .int x12_3), (10, .long x10_8), (8, .long x8_1), (6, .long x6_2), (0, .ref o), (1, .int x1), (2, .int x2), (3, .int x3), (4, .int x4), (5, .int x5)]), W p l e { frames := 3, cells := 0, slots := 0, locals := 64 } s m args below meth c H locs 0 0 Q (F0 m 172 ls []) := by
                              intro n_172
                              induction n_172 with
                              | zero => intro x15_7 x10_8 i0_172 i1_172 hm; exact absurd hm (Nat.not_lt_zero _)
                              | succ n_172 ih_172 =>
                                intro x15_7 x10_8 i0_172 i1_172 hm_172 hF ls H locs hh hl
                                rw [F_X7_egg_172.eq_2] at hF
                                refine lv_iload hx hb dX7_egg_172 (lv_at hl 0 rfl) ?_
                                refine lv_sipush (v := 240) hx hb dX7_egg_174 (by decide) ?_
                                refine lv_icmp_ge (tgt := 272) hx hb dX7_egg_177 (by decide) (fun c_177 => ?_) (fun c_177 => ?_)
                                · replace hF := hF.trans (if_pos c_177)
                                  have i_177 : 240 ≤ x15_7.toInt := ti_le.mp c_177
                                  refine lv_iinc (v := x12_3 + 1) (lv' := [(12, .int (x12_3 + 1)), (15, .int x15_7), (13, .long ((((F_X7_toWhole m_clock x1 x3).toInt64) + (1440 * x12_3.toInt64)) * x8_1)), (10, .long x10_8), (8, .long x8_1), (6, .long x6_2), (0, .ref o), (1, .int x1), (2, .int x2), (3, .int x3), (4, .int x4), (5, .int x5)]) hx hb dX7_egg_272 hl (k := 2) rfl rfl (Nat.le_of_ble_eq_true rfl) rfl (fun ls hl => ?_)
                                  refine lv_goto (tgt := 142) hx hb dX7_egg_275 (by decide) ?_
                                  have e_inc : (x12_3 + 1).toInt = x12_3.toInt + 1 := ti_inc (by omega)
                                  exact ih_142 (x12_3 + 1) x10_8 (by first | with_reducible assumption | omega | decide) (by first | with_reducible assumption | omega | decide) (by omega) hF _ _ _ hh (lv_sub hl [0, 3, 4, 5, 6, 7, 8, 9, 10, 11] rfl)
                                · replace hF := hF.trans (if_neg c_177)
                                  have i_177 : x15_7.toInt < 240 := ti_nle c_177
                                  refine lv_aload_n hx hb dX7_egg_180 rfl (lv_at hl 6 rfl) ?_
                                  refine lv_iload_n hx hb dX7_egg_181 rfl (lv_at hl 8 rfl) ?_
                                  refine lv_iload_n hx hb dX7_egg_182 rfl (lv_at hl 9 rfl) ?_
                                  refine g_callV (As := [.int x2, .int x3]) (rest := []) KX rfl ⟨Nat.le_of_ble_eq_true rfl, Nat.le_of_ble_eq_true rfl⟩ hh hl (c_X7_toWhole l D cI cZ cC cH o a_clock a_note a_text a_read a_fit a_shown a_image a_isKept a_row a_best m_told m_isRead1 m_clock m_note m_noted m_bytes m_text m_position m_tokenAt m_token m_digits m_number m_faultAt m_readMany m_readTold m_read m_fit m_shown m_image m_isKept m_row m_best m_againAt m_againStep m_orderMany m_orderLeast x2 x3 (by first | with_reducible assumption | omega | decide) (by first | with_reducible assumption | omega | decide)) JN.all 2 gX7_egg_X7_toWhole rfl (by decide +kernel) ⟨Nat.le_of_ble_eq_true rfl, Nat.le_of_ble_eq_true rfl⟩ 0 7 rfl rfl rfl rfl rfl (Nat.le_of_ble_eq_true rfl) dX7_egg_183 (fun H locs hh => ?_)
                                  refine W.eq (g2 := F0 m 186 ls [.int (F_X7_toWhole m_clock x2 x3)]) rfl ?_
                                  refine lv_i2l hx hb dX7_egg_186 rfl ?_
                                  refine lv_ldc2 (v := 1440) hx hb KX.2.2.2.1 (KX.2.2.2.2.1 _ (List.mem_of_getElem? (i := 6) rfl)) dX7_egg_187 ?_
                                  refine lv_iload hx hb dX7_egg_190 (lv_at hl 0 rfl) ?_
                                  refine lv_i2l hx hb dX7_egg_192 rfl ?_
                                  refine lv_lmul hx hb dX7_egg_193 ?_
                                  refine lv_ladd hx hb dX7_egg_194 ?_
                                  refine lv_lload hx hb dX7_egg_195 (lv_at hl 5 rfl) ?_
                                  refine lv_lmul hx hb dX7_egg_197 ?_
                                  refine lv_lstore (lv' := [(16, .long ((((F_X7_toWhole m_clock x2 x3).toInt64) + (1440 * x15_7.toInt64)) * x6_2)), (15, .int x15_7), (13, .long ((((F_X7_toWhole m_clock x1 x3).toInt64) + (1440 * x12_3.toInt64)) * x8_1)), (12, .int x12_3), (10, .long x10_8), (8, .long x8_1), (6, .long x6_2), (0, .ref o), (1, .int x1), (2, .int x2), (3, .int x3), (4, .int x4), (5, .int x5)]) hx hb dX7_egg_198 hl (Nat.le_of_ble_eq_true rfl) rfl (fun ls hl => ?_)
                                  refine lv_lload hx hb dX7_egg_200 (lv_at hl 0 rfl) ?_
                                  refine lv_lload hx hb dX7_egg_202 (lv_at hl 2 rfl) ?_
                                  refine lv_lsub hx hb dX7_egg_204 ?_
                                  refine lv_iload hx hb dX7_egg_205 (lv_at hl 11 rfl) ?_
                                  refine lv_i2l hx hb dX7_egg_207 rfl ?_
                                  refine lv_lload hx hb dX7_egg_208 (lv_at hl 6 rfl) ?_
                                  refine lv_lmul hx hb dX7_egg_210 ?_
                                  refine lv_lload hx hb dX7_egg_211 (lv_at hl 5 rfl) ?_
                                  refine lv_lmul hx hb dX7_egg_213 ?_
                                  refine lv_lsub hx hb dX7_egg_214 ?_
                                  refine lv_lstore (lv' := [(18, .long ((((((F_X7_toWhole m_clock x2 x3).toInt64) + (1440 * x15_7.toInt64)) * x6_2) - ((((F_X7_toWhole m_clock x1 x3).toInt64) + (1440 * x12_3.toInt64)) * x8_1)) - ((x4.toInt64 * x6_2) * x8_1))), (16, .long ((((F_X7_toWhole m_clock x2 x3).toInt64) + (1440 * x15_7.toInt64)) * x6_2)), (15, .int x15_7), (13, .long ((((F_X7_toWhole m_clock x1 x3).toInt64) + (1440 * x12_3.toInt64)) * x8_1)), (12, .int x12_3), (10, .long x10_8), (8, .long x8_1), (6, .long x6_2), (0, .ref o), (1, .int x1), (2, .int x2), (3, .int x3), (4, .int x4), (5, .int x5)]) hx hb dX7_egg_215 hl (Nat.le_of_ble_eq_true rfl) rfl (fun ls hl => ?_)
                                  refine lv_lload hx hb dX7_egg_217 (lv_at hl 0 rfl) ?_
                                  refine lv_lconst (v := 0) hx hb dX7_egg_219 (by decide) ?_
                                  refine W.lcmp hx hb dX7_egg_220 ?_
                                  have K_232 : ∀ (y0_9 : Int64) (_ : R = (F_X7_egg_232 m_clock x1 x2 x3 x8_1 x6_2 x12_3 x15_7 x10_8 ((F_X7_egg_172 m_clock x1 x2 x3 x4 x8_1 x6_2 x12_3 ((F_X7_egg_142 m_clock x1 x2 x3 x4 x5 x8_1 x6_2) n_142)) n_172)) y0_9) (ls : Array Slot) (H : Heap) (locs : List Loc) (_ : HS D A s.heap (WM cI cZ cC cH o a_clock a_note a_text a_read a_fit a_shown a_image a_isKept a_row a_best m_told m_isRead1 m_clock m_note m_noted m_bytes m_text m_position m_tokenAt m_token m_digits m_number m_faultAt m_readMany m_readTold m_read m_fit m_shown m_image m_isKept m_row m_best m_againAt m_againStep m_orderMany m_orderLeast) H locs) (_ : lv_has ls 20 [(18, .long ((((((F_X7_toWhole m_clock x2 x3).toInt64) + (1440 * x15_7.toInt64)) * x6_2) - ((((F_X7_toWhole m_clock x1 x3).toInt64) + (1440 * x12_3.toInt64)) * x8_1)) - ((x4.toInt64 * x6_2) * x8_1))), (16, .long ((((F_X7_toWhole m_clock x2 x3).toInt64) + (1440 * x15_7.toInt64)) * x6_2)), (15, .int x15_7), (13, .long ((((F_X7_toWhole m_clock x1 x3).toInt64) + (1440 * x12_3.toInt64)) * x8_1)), (12, .int x12_3), (10, .long x10_8), (8, .long x8_1), (6, .long x6_2), (0, .ref o), (1, .int x1), (2, .int x2), (3, .int x3), (4, .int x4), (5, .int x5)]), W p l e { frames := 3, cells := 0, slots := 0, locals := 64 } s m args below meth c H locs 0 0 Q (F0 m 232 ls [.long y0_9]) := by
                                    intro y0_9 hF ls H locs hh hl
                                    unfold F_X7_egg_232 at hF
                                    refine lv_lstore (lv' := [(18, .long y0_9), (16, .long ((((F_X7_toWhole m_clock x2 x3).toInt64) + (1440 * x15_7.toInt64)) * x6_2)), (15, .int x15_7), (13, .long ((((F_X7_toWhole m_clock x1 x3).toInt64) + (1440 * x12_3.toInt64)) * x8_1)), (12, .int x12_3), (10, .long x10_8), (8, .long x8_1), (6, .long x6_2), (0, .ref o), (1, .int x1), (2, .int x2), (3, .int x3), (4, .int x4), (5, .int x5)]) hx hb dX7_egg_232 hl (Nat.le_of_ble_eq_true rfl) rfl (fun ls hl => ?_)
                                    refine lv_lload hx hb dX7_egg_234 (lv_at hl 1 rfl) ?_
                                    refine lv_lload hx hb dX7_egg_236 (lv_at hl 3 rfl) ?_
                                    refine W.lcmp hx hb dX7_egg_238 ?_
                                    refine lv_if_le (tgt := 262) hx hb dX7_egg_239 (by decide) (fun c_239 => ?_) (fun c_239 => ?_)
                                    · replace hF := hF.trans (if_pos c_239)
                                      refine lv_lload hx hb dX7_egg_262 (lv_at hl 5 rfl) ?_
                                      refine lv_lstore (lv' := [(10, .long x10_8), (18, .long y0_9), (16, .long ((((F_X7_toWhole m_clock x2 x3).toInt64) + (1440 * x15_7.toInt64)) * x6_2)), (15, .int x15_7), (13, .long ((((F_X7_toWhole m_clock x1 x3).toInt64) + (1440 * x12_3.toInt64)) * x8_1)), (12, .int x12_3), (8, .long x8_1), (6, .long x6_2), (0, .ref o), (1, .int x1), (2, .int x2), (3, .int x3), (4, .int x4), (5, .int x5)]) hx hb dX7_egg_264 hl (Nat.le_of_ble_eq_true rfl) rfl (fun ls hl => ?_)
                                      refine lv_iinc (v := x15_7 + 1) (lv' := [(15, .int (x15_7 + 1)), (10, .long x10_8), (18, .long y0_9), (16, .long ((((F_X7_toWhole m_clock x2 x3).toInt64) + (1440 * x15_7.toInt64)) * x6_2)), (13, .long ((((F_X7_toWhole m_clock x1 x3).toInt64) + (1440 * x12_3.toInt64)) * x8_1)), (12, .int x12_3), (8, .long x8_1), (6, .long x6_2), (0, .ref o), (1, .int x1), (2, .int x2), (3, .int x3), (4, .int x4), (5, .int x5)]) hx hb dX7_egg_266 hl (k := 3) rfl rfl (Nat.le_of_ble_eq_true rfl) rfl (fun ls hl => ?_)
                                      refine lv_goto (tgt := 172) hx hb dX7_egg_269 (by decide) ?_
                                      have e_inc : (x15_7 + 1).toInt = x15_7.toInt + 1 := ti_inc (by omega)
                                      exact ih_172 (x15_7 + 1) x10_8 (by first | with_reducible assumption | omega | decide) (by first | with_reducible assumption | omega | decide) (by omega) hF _ _ _ hh (lv_sub hl [0, 4, 5, 1, 6, 7, 8, 9, 10, 11, 12, 13] rfl)
                                    · replace hF := hF.trans (if_neg c_239)
                                      refine lv_lload hx hb dX7_egg_242 (lv_at hl 5 rfl) ?_
                                      refine lv_lconst (v := 0) hx hb dX7_egg_244 (by decide) ?_
                                      refine W.lcmp hx hb dX7_egg_245 ?_
                                      refine lv_if_lt (tgt := 257) hx hb dX7_egg_246 (by decide) (fun c_246 => ?_) (fun c_246 => ?_)
                                      · replace hF := hF.trans (if_pos c_246)
                                        refine lv_lload hx hb dX7_egg_257 (lv_at hl 0 rfl) ?_
                                        refine lv_goto (tgt := 264) hx hb dX7_egg_259 (by decide) ?_
                                        refine lv_lstore (lv' := [(10, .long y0_9), (18, .long y0_9), (16, .long ((((F_X7_toWhole m_clock x2 x3).toInt64) + (1440 * x15_7.toInt64)) * x6_2)), (15, .int x15_7), (13, .long ((((F_X7_toWhole m_clock x1 x3).toInt64) + (1440 * x12_3.toInt64)) * x8_1)), (12, .int x12_3), (8, .long x8_1), (6, .long x6_2), (0, .ref o), (1, .int x1), (2, .int x2), (3, .int x3), (4, .int x4), (5, .int x5)]) hx hb dX7_egg_264 hl (Nat.le_of_ble_eq_true rfl) rfl (fun ls hl => ?_)
                                        refine lv_iinc (v := x15_7 + 1) (lv' := [(15, .int (x15_7 + 1)), (10, .long y0_9), (18, .long y0_9), (16, .long ((((F_X7_toWhole m_clock x2 x3).toInt64) + (1440 * x15_7.toInt64)) * x6_2)), (13, .long ((((F_X7_toWhole m_clock x1 x3).toInt64) + (1440 * x12_3.toInt64)) * x8_1)), (12, .int x12_3), (8, .long x8_1), (6, .long x6_2), (0, .ref o), (1, .int x1), (2, .int x2), (3, .int x3), (4, .int x4), (5, .int x5)]) hx hb dX7_egg_266 hl (k := 3) rfl rfl (Nat.le_of_ble_eq_true rfl) rfl (fun ls hl => ?_)
                                        refine lv_goto (tgt := 172) hx hb dX7_egg_269 (by decide) ?_
                                        have e_inc : (x15_7 + 1).toInt = x15_7.toInt + 1 := ti_inc (by omega)
                                        exact ih_172 (x15_7 + 1) y0_9 (by first | with_reducible assumption | omega | decide) (by first | with_reducible assumption | omega | decide) (by omega) hF _ _ _ hh (lv_sub hl [0, 4, 5, 1, 6, 7, 8, 9, 10, 11, 12, 13] rfl)
                                      · replace hF := hF.trans (if_neg c_246)
                                        refine lv_lload hx hb dX7_egg_249 (lv_at hl 0 rfl) ?_
                                        refine lv_lload hx hb dX7_egg_251 (lv_at hl 5 rfl) ?_
                                        refine W.lcmp hx hb dX7_egg_253 ?_
                                        refine lv_if_ge (tgt := 262) hx hb dX7_egg_254 (by decide) (fun c_254 => ?_) (fun c_254 => ?_)
                                        · replace hF := hF.trans (if_pos c_254)
                                          refine lv_lload hx hb dX7_egg_262 (lv_at hl 5 rfl) ?_
                                          refine lv_lstore (lv' := [(10, .long x10_8), (18, .long y0_9), (16, .long ((((F_X7_toWhole m_clock x2 x3).toInt64) + (1440 * x15_7.toInt64)) * x6_2)), (15, .int x15_7), (13, .long ((((F_X7_toWhole m_clock x1 x3).toInt64) + (1440 * x12_3.toInt64)) * x8_1)), (12, .int x12_3), (8, .long x8_1), (6, .long x6_2), (0, .ref o), (1, .int x1), (2, .int x2), (3, .int x3), (4, .int x4), (5, .int x5)]) hx hb dX7_egg_264 hl (Nat.le_of_ble_eq_true rfl) rfl (fun ls hl => ?_)
                                          refine lv_iinc (v := x15_7 + 1) (lv' := [(15, .int (x15_7 + 1)), (10, .long x10_8), (18, .long y0_9), (16, .long ((((F_X7_toWhole m_clock x2 x3).toInt64) + (1440 * x15_7.toInt64)) * x6_2)), (13, .long ((((F_X7_toWhole m_clock x1 x3).toInt64) + (1440 * x12_3.toInt64)) * x8_1)), (12, .int x12_3), (8, .long x8_1), (6, .long x6_2), (0, .ref o), (1, .int x1), (2, .int x2), (3, .int x3), (4, .int x4), (5, .int x5)]) hx hb dX7_egg_266 hl (k := 3) rfl rfl (Nat.le_of_ble_eq_true rfl) rfl (fun ls hl => ?_)
                                          refine lv_goto (tgt := 172) hx hb dX7_egg_269 (by decide) ?_
                                          have e_inc : (x15_7 + 1).toInt = x15_7.toInt + 1 := ti_inc (by omega)
                                          exact ih_172 (x15_7 + 1) x10_8 (by first | with_reducible assumption | omega | decide) (by first | with_reducible assumption | omega | decide) (by omega) hF _ _ _ hh (lv_sub hl [0, 4, 5, 1, 6, 7, 8, 9, 10, 11, 12, 13] rfl)
                                        · replace hF := hF.trans (if_neg c_254)
                                          refine lv_lload hx hb dX7_egg_257 (lv_at hl 0 rfl) ?_
                                          refine lv_goto (tgt := 264) hx hb dX7_egg_259 (by decide) ?_
                                          refine lv_lstore (lv' := [(10, .long y0_9), (18, .long y0_9), (16, .long ((((F_X7_toWhole m_clock x2 x3).toInt64) + (1440 * x15_7.toInt64)) * x6_2)), (15, .int x15_7), (13, .long ((((F_X7_toWhole m_clock x1 x3).toInt64) + (1440 * x12_3.toInt64)) * x8_1)), (12, .int x12_3), (8, .long x8_1), (6, .long x6_2), (0, .ref o), (1, .int x1), (2, .int x2), (3, .int x3), (4, .int x4), (5, .int x5)]) hx hb dX7_egg_264 hl (Nat.le_of_ble_eq_true rfl) rfl (fun ls hl => ?_)
                                          refine lv_iinc (v := x15_7 + 1) (lv' := [(15, .int (x15_7 + 1)), (10, .long y0_9), (18, .long y0_9), (16, .long ((((F_X7_toWhole m_clock x2 x3).toInt64) + (1440 * x15_7.toInt64)) * x6_2)), (13, .long ((((F_X7_toWhole m_clock x1 x3).toInt64) + (1440 * x12_3.toInt64)) * x8_1)), (12, .int x12_3), (8, .long x8_1), (6, .long x6_2), (0, .ref o), (1, .int x1), (2, .int x2), (3, .int x3), (4, .int x4), (5, .int x5)]) hx hb dX7_egg_266 hl (k := 3) rfl rfl (Nat.le_of_ble_eq_true rfl) rfl (fun ls hl => ?_)
                                          refine lv_goto (tgt := 172) hx hb dX7_egg_269 (by decide) ?_
                                          have e_inc : (x15_7 + 1).toInt = x15_7.toInt + 1 := ti_inc (by omega)
                                          exact ih_172 (x15_7 + 1) y0_9 (by first | with_reducible assumption | omega | decide) (by first | with_reducible assumption | omega | decide) (by omega) hF _ _ _ hh (lv_sub hl [0, 4, 5, 1, 6, 7, 8, 9, 10, 11, 12, 13] rfl)
                                  refine lv_if_ge (tgt := 230) hx hb dX7_egg_221 (by decide) (fun c_221 => ?_) (fun c_221 => ?_)
                                  · replace hF := hF.trans (if_pos c_221)
                                    refine lv_lload hx hb dX7_egg_230 (lv_at hl 0 rfl) ?_
                                    exact K_232 ((((((F_X7_toWhole m_clock x2 x3).toInt64) + (1440 * x15_7.toInt64)) * x6_2) - ((((F_X7_toWhole m_clock x1 x3).toInt64) + (1440 * x12_3.toInt64)) * x8_1)) - ((x4.toInt64 * x6_2) * x8_1))  hF _ _ _ hh (lv_sub hl [0, 1, 2, 3, 4, 5, 6, 7, 8, 9, 10, 11, 12, 13] rfl)
                                  · replace hF := hF.trans (if_neg c_221)
                                    refine lv_lload hx hb dX7_egg_224 (lv_at hl 0 rfl) ?_
                                    refine lv_lneg hx hb dX7_egg_226 ?_
                                    refine lv_goto (tgt := 232) hx hb dX7_egg_227 (by decide) ?_
                                    exact K_232 (-((((((F_X7_toWhole m_clock x2 x3).toInt64) + (1440 * x15_7.toInt64)) * x6_2) - ((((F_X7_toWhole m_clock x1 x3).toInt64) + (1440 * x12_3.toInt64)) * x8_1)) - ((x4.toInt64 * x6_2) * x8_1)))  hF _ _ _ hh (lv_sub hl [0, 1, 2, 3, 4, 5, 6, 7, 8, 9, 10, 11, 12, 13] rfl)
                            exact L_172 241 0 x10_4 (by first | with_reducible assumption | omega | decide) (by first | with_reducible assumption | omega | decide) (by first | omega | decide | (simp; done)) hF _ _ _ hh (lv_sub hl [0, 1, 2, 3, 4, 5, 6, 7, 8, 9, 10, 11] rfl)
                      exact L_142 61 0 (-1) (by first | with_reducible assumption | omega | decide) (by first | with_reducible assumption | omega | decide) (by first | omega | decide | (simp; done)) hF _ _ _ hh (lv_sub hl [0, 1, 2, 3, 4, 5, 6, 7, 8, 9] rfl)
                    exact K_139 ((1440 + (m_clock ((6 * x2) + 3).toNatClampNeg)).toInt64) ((1440 + (m_clock ((6 * x1) + 3).toNatClampNeg)).toInt64) (by first | with_reducible assumption | omega | decide) (by first | with_reducible assumption | omega | decide) hF _ _ _ hh (lv_sub hl [0, 1, 2, 3, 4, 5, 6, 7, 8] rfl)
                  · replace hF := hF.trans (if_pos c_91)
                    refine lv_ldc2 (v := (-4)) hx hb KX.2.2.2.1 (KX.2.2.2.2.1 _ (List.mem_of_getElem? (i := 4) rfl)) dX7_egg_94 ?_
                    exact RT _ _ _ _ _ _ hh (rfl) (Or.inr (Or.inl ⟨_, rfl, by rw [hF], dX7_egg_97, rfl⟩))
          · replace hF := hF.trans (if_pos c_45)
            refine lv_ldc2 (v := (-3)) hx hb KX.2.2.2.1 (KX.2.2.2.2.1 _ (List.mem_of_getElem? (i := 2) rfl)) dX7_egg_48 ?_
            exact RT _ _ _ _ _ _ hh (rfl) (Or.inr (Or.inl ⟨_, rfl, by rw [hF], dX7_egg_51, rfl⟩))
    · replace hF := hF.trans (if_pos c_13)
      refine lv_ldc2 (v := (-2)) hx hb KX.2.2.2.1 (KX.2.2.2.2.1 _ (List.mem_of_getElem? (i := 1) rfl)) dX7_egg_16 ?_
      exact RT _ _ _ _ _ _ hh (rfl) (Or.inr (Or.inl ⟨_, rfl, by rw [hF], dX7_egg_19, rfl⟩))
