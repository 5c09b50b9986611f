def F_X7_again_c131 (x5_5 : Int32) (k_111 : Int32 → Int32 → Int32 → Int32 × Int32 × Int32) (r131_8 : Int32 × Int32 × Int32) : Int32 × Int32 × Int32 := (if r131_8.1 = 0 then ((-1), r131_8.2.1, r131_8.2.2) else (k_111 (x5_5 + 1) r131_8.2.1 r131_8.2.2))
def F_X7_again_111 (m_clock : Nat → Int32) (x1 : Int32) (x3_3 : Int32) : Nat → Int32 → Int32 → Int32 → Int32 × Int32 × Int32
  | 0, _, _, _ => default
  | n + 1, x5_5, w_m_againAt_6, w_m_againStep_7 => (if 8 ≤ x5_5 then (w_m_againAt_6, w_m_againAt_6, w_m_againStep_7) else (if (F_X7_has x1 x5_5) = 0 then ((F_X7_again_111 m_clock x1 x3_3 n) (x5_5 + 1) w_m_againAt_6 w_m_againStep_7) else (F_X7_again_c131 x5_5 (F_X7_again_111 m_clock x1 x3_3 n) (F_X7_isAgain m_clock w_m_againAt_6 w_m_againStep_7 x3_3 x5_5))))
def F_X7_again_c97 (m_clock : Nat → Int32) (x1 : Int32) (x4_2 : Int32) (x3_3 : Int32) (r97_4 : Int32 × Int32 × Int32) : Int32 × Int32 × Int32 := (if r97_4.1 = 0 then ((-1), r97_4.2.1, r97_4.2.2) else (F_X7_again_111 m_clock x1 x3_3 9 (x4_2 + 1) r97_4.2.1 r97_4.2.2))
def F_X7_again_41 (m_told : Int32) (m_clock : Nat → Int32) (m_againAt : Int32) (m_againStep : Int32) (x1 : Int32) (x2 : Int32) : Nat → Int32 → Int32 → Int32 → Int32 × Int32 × Int32
  | 0, _, _, _ => default
  | n + 1, x5_1, x4_2, x3_3 => (if x5_1 < 0 then (F_X7_again_c97 m_clock x1 x4_2 x3_3 (F_X7_isFirstAgain m_clock m_againAt x3_3 x4_2 x2)) else (if (F_X7_has x1 x5_1) = 0 then ((F_X7_again_41 m_told m_clock m_againAt m_againStep x1 x2 n) (x5_1 + (-1)) x4_2 x3_3) else (if (F_X7_isExact m_told m_clock x5_1) = 0 then ((-3), m_againAt, m_againStep) else (if (m_clock (6 * x5_1).toNatClampNeg) = 0 then ((F_X7_again_41 m_told m_clock m_againAt m_againStep x1 x2 n) (x5_1 + (-1)) x3_3 x5_1) else ((-3), m_againAt, m_againStep)))))
def F_X7_again (m_told : Int32) (m_clock : Nat → Int32) (m_againAt : Int32) (m_againStep : Int32) (x1 : Int32) (x2 : Int32) : Int32 × Int32 × Int32 := (if (F_X7_in x1 0 255) = 0 then ((-3), m_againAt, m_againStep) else (if (F_X7_bits x1) < 2 then ((-3), m_againAt, m_againStep) else (if (F_X7_in x2 0 9999999) = 0 then ((-3), m_againAt, m_againStep) else (F_X7_again_41 m_told m_clock m_againAt m_againStep x1 x2 9 7 (-1) (-1)))))
theorem in_X7_again_X7 : ∀ x ∈ u_ws RX7 TX7 26, x ∈ wsX7_again := by decide +kernel
set_option maxHeartbeats 2000000 in
set_option maxRecDepth 100000 in
theorem c_X7_again (l : Launch) (D : va_G) (cI cZ cC cH : ClassId) (o a_clock a_note a_text a_read a_fit a_shown a_image a_isKept a_row a_best : Nat) (m_told : Int32) (m_isRead1 : Int32) (m_clock : Nat → Int32) (m_note : Nat → Int32) (m_noted : Int32) (m_bytes : Int32) (m_text : Nat → Int32) (m_position : Int32) (m_tokenAt : Int32) (m_token : Int64) (m_digits : Int32) (m_number : Int32) (m_faultAt : Int32) (m_readMany : Int32) (m_readTold : Int32) (m_read : Nat → Int32) (m_fit : Nat → Int32) (m_shown : Nat → Int32) (m_image : Nat → Int32) (m_isKept : Nat → Int32) (m_row : Nat → Int32) (m_best : Nat → Int32) (m_againAt : Int32) (m_againStep : Int32) (m_orderMany : Int32) (m_orderLeast : Int32) (x1 : Int32) (x2 : Int32) (hc : CkR m_clock) : MC l D (TY cI cZ cC cH) yX7_again wsX7_again 3 64 [.ref o, .int x1, .int x2] (WM cI cZ cC cH o a_clock a_note a_text a_read a_fit a_shown a_image a_isKept a_row a_best m_told m_isRead1 m_clock m_note m_noted m_bytes m_text m_position m_tokenAt m_token m_digits m_number m_faultAt m_readMany m_readTold m_read m_fit m_shown m_image m_isKept m_row m_best m_againAt m_againStep m_orderMany m_orderLeast) (some (.int ((F_X7_again m_told m_clock m_againAt m_againStep x1 x2).1))) (WM cI cZ cC cH o a_clock a_note a_text a_read a_fit a_shown a_image a_isKept a_row a_best m_told m_isRead1 m_clock m_note m_noted m_bytes m_text m_position m_tokenAt m_token m_digits m_number m_faultAt m_readMany m_readTold m_read m_fit m_shown m_image m_isKept m_row m_best (F_X7_again m_told m_clock m_againAt m_againStep x1 x2).2.1 (F_X7_again m_told m_clock m_againAt m_againStep x1 x2).2.2 m_orderMany m_orderLeast) := by
  obtain ⟨R, hF⟩ : ∃ R, R = F_X7_again m_told m_clock m_againAt m_againStep x1 x2 := ⟨_, rfl⟩
  rw [← hF]
  refine MC.of (cc := cX7_again) (maxL := 6) (ret := (some .int)) RX7 rfl (by decide +kernel) rfl (Nat.le_of_ble_eq_true rfl) ?_
  intro p e s m args below meth c A Q KX RT hh ls hl
  have z0 : (0 : Int32).toInt = 0 := rfl
  have z1 : (1 : Int32).toInt = 1 := rfl
  have zm : (-1 : Int32).toInt = -1 := rfl
  have hx := KX.1
  have hb := KX.2.1
  have hl : lv_has ls 6 [(0, .ref o), (1, .int x1), (2, .int x2)] := hl
  unfold F_X7_again at hF
  refine lv_iload_n hx hb dX7_again_0 rfl (lv_at hl 1 rfl) ?_
  refine lv_iconst (v := 0) hx hb dX7_again_1 (by decide) ?_
  refine lv_sipush (v := 255) hx hb dX7_again_2 (by decide) ?_
  refine g_callS (As := [.int x1, .int 0, .int 255]) (rest := []) KX rfl ⟨Nat.le_of_ble_eq_true rfl, Nat.le_of_ble_eq_true rfl⟩ hh hl (c_X7_in l D cI cZ cC cH  x1 0 255 ) JN.no 3 gX7_again_X7_in rfl (by decide +kernel) ⟨Nat.le_of_ble_eq_true rfl, Nat.le_of_ble_eq_true rfl⟩ rfl rfl (Nat.le_of_ble_eq_true rfl) dX7_again_5 (fun H locs hh => ?_)
  refine W.eq (g2 := F0 m 8 ls [.int (F_X7_in x1 0 255)]) rfl ?_
  refine lv_if_eq (tgt := 29) hx hb dX7_again_8 (by decide) (fun c_8 => ?_) (fun c_8 => ?_)
  · replace hF := hF.trans (if_pos c_8)
    refine lv_bipush (v := (-3)) hx hb dX7_again_29 (by decide) ?_
    exact RT _ _ _ _ _ _ hh (by rw [hF]) (Or.inl ⟨_, rfl, by rw [hF], dX7_again_31, Or.inl rfl⟩)
  · replace hF := hF.trans (if_neg c_8)
    obtain ⟨k0_8, k1_8⟩ : (0 : Int) ≤ x1.toInt ∧ x1.toInt ≤ 255 := X7_in_in c_8
    refine lv_iload_n hx hb dX7_again_11 rfl (lv_at hl 1 rfl) ?_
    refine g_callS (As := [.int x1]) (rest := []) KX rfl ⟨Nat.le_of_ble_eq_true rfl, Nat.le_of_ble_eq_true rfl⟩ hh hl (c_X7_bits l D cI cZ cC cH  x1 ) JN.no 1 gX7_again_X7_bits rfl (by decide +kernel) ⟨Nat.le_of_ble_eq_true rfl, Nat.le_of_ble_eq_true rfl⟩ rfl rfl (Nat.le_of_ble_eq_true rfl) dX7_again_12 (fun H locs hh => ?_)
    refine W.eq (g2 := F0 m 15 ls [.int (F_X7_bits x1)]) rfl ?_
    refine lv_iconst (v := 2) hx hb dX7_again_15 (by decide) ?_
    refine lv_icmp_lt (tgt := 29) hx hb dX7_again_16 (by decide) (fun c_16 => ?_) (fun c_16 => ?_)
    · replace hF := hF.trans (if_pos c_16)
      refine lv_bipush (v := (-3)) hx hb dX7_again_29 (by decide) ?_
      exact RT _ _ _ _ _ _ hh (by rw [hF]) (Or.inl ⟨_, rfl, by rw [hF], dX7_again_31, Or.inl rfl⟩)
    · replace hF := hF.trans (if_neg c_16)
      refine lv_iload_n hx hb dX7_again_19 rfl (lv_at hl 2 rfl) ?_
      refine lv_iconst (v := 0) hx hb dX7_again_20 (by decide) ?_
      refine lv_ldc (v := 9999999) hx hb KX.2.2.2.1 (KX.2.2.2.2.1 _ (List.mem_of_getElem? (i := 1) rfl)) dX7_again_21 ?_
      refine g_callS (As := [.int x2, .int 0, .int 9999999]) (rest := []) KX rfl ⟨Nat.le_of_ble_eq_true rfl, Nat.le_of_ble_eq_true rfl⟩ hh hl (c_X7_in l D cI cZ cC cH  x2 0 9999999 ) JN.no 3 gX7_again_X7_in rfl (by decide +kernel) ⟨Nat.le_of_ble_eq_true rfl, Nat.le_of_ble_eq_true rfl⟩ rfl rfl (Nat.le_of_ble_eq_true rfl) dX7_again_23 (fun H locs hh => ?_)
      refine W.eq (g2 := F0 m 26 ls [.int (F_X7_in x2 0 9999999)]) rfl ?_
      refine lv_if_ne (tgt := 32) hx hb dX7_again_26 (by decide) (fun c_26 => ?_) (fun c_26 => ?_)
      · replace hF := hF.trans (if_neg c_26)
        obtain ⟨k0_26, k1_26⟩ : (0 : Int) ≤ x2.toInt ∧ x2.toInt ≤ 9999999 := X7_in_in c_26
        refine lv_iconst (v := (-1)) hx hb dX7_again_32 (by decide) ?_
        refine lv_istore_n (lv' := [(3, .int (-1)), (0, .ref o), (1, .int x1), (2, .int x2)]) hx hb dX7_again_33 rfl hl (Nat.le_of_ble_eq_true rfl) rfl (fun ls hl => ?_)
        refine lv_iconst (v := (-1)) hx hb dX7_again_34 (by decide) ?_
        refine lv_istore (lv' := [(4, .int (-1)), (3, .int (-1)), (0, .ref o), (1, .int x1), (2, .int x2)]) hx hb dX7_again_35 hl (Nat.le_of_ble_eq_true rfl) rfl (fun ls hl => ?_)
        refine lv_bipush (v := 7) hx hb dX7_again_37 (by decide) ?_
        refine lv_istore (lv' := [(5, .int 7), (4, .int (-1)), (3, .int (-1)), (0, .ref o), (1, .int x1), (2, .int x2)]) hx hb dX7_again_39 hl (Nat.le_of_ble_eq_true rfl) rfl (fun ls hl => ?_)
        have L_41 : ∀ (n_41 : Nat) (x5_1 : Int32) (x4_2 : Int32) (x3_3 : Int32) (i0_41 : -1 ≤ x5_1.toInt) (i1_41 : x5_1.toInt ≤ 7) (ho_41 : (x3_3, x4_2) = oo x1 (7 - x5_1.toInt).toNat) (_ : (x5_1.toInt + 1).toNat < n_41) (_ : R = (F_X7_again_41 m_told m_clock m_againAt m_againStep x1 x2) n_41 x5_1 x4_2 x3_3) (ls : Array Slot) (H : Heap) (locs : List Loc) (_ : HS D A s.heap (WM cI cZ cC cH o a_clock a_note a_text a_read a_fit a_shown a_image a_isKept a_row a_best m_told m_isRead1 m_clock m_note m_noted m_bytes m_text m_position m_tokenAt m_token m_digits m_number m_faultAt m_readMany m_readTold m_read m_fit m_shown m_image m_isKept m_row m_best m_againAt m_againStep m_orderMany m_orderLeast) H locs) (_ : lv_has ls 6 [(5, .int x5_1), (4, .int x4_2), (3, .int x3_3), (0, .ref o), (1, .int x1), (2, .int x2)]), W p l e { frames := 3, cells := 0, slots := 0, locals := 64 } s m args below meth c H locs 0 0 Q (F0 m 41 ls []) := by
          intro n_41
          induction n_41 with
          | zero => intro x5_1 x4_2 x3_3 i0_41 i1_41 ho_41 hm; exact absurd hm (Nat.not_lt_zero _)
          | succ n_41 ih_41 =>
            intro x5_1 x4_2 x3_3 i0_41 i1_41 ho_41 hm_41 hF ls H locs hh hl
            rw [F_X7_again_41.eq_2] at hF
            refine lv_iload hx hb dX7_again_41 (lv_at hl 0 rfl) ?_
            refine lv_if_lt (tgt := 92) hx hb dX7_again_43 (by decide) (fun c_43 => ?_) (fun c_43 => ?_)
            · replace hF := hF.trans (if_pos c_43)
              have i_43 : x5_1.toInt < 0 := ti_lt.mp c_43
              obtain ⟨⟨q1, q2⟩, q3, q4⟩ := oo_ok (by omega) (by omega) c_16 (show (x3_3, x4_2) = oo x1 8 from by have e8 : (7 - x5_1.toInt).toNat = 8 := (by omega); rw [← e8]; exact ho_41)
              refine lv_aload_n hx hb dX7_again_92 rfl (lv_at hl 3 rfl) ?_
              refine lv_iload_n hx hb dX7_again_93 rfl (lv_at hl 2 rfl) ?_
              refine lv_iload hx hb dX7_again_94 (lv_at hl 1 rfl) ?_
              refine lv_iload_n hx hb dX7_again_96 rfl (lv_at hl 5 rfl) ?_
              refine g_callV (As := [.int x3_3, .int x4_2, .int x2]) (rest := []) KX rfl ⟨Nat.le_of_ble_eq_true rfl, Nat.le_of_ble_eq_true rfl⟩ hh hl (c_X7_isFirstAgain l D cI cZ cC cH o a_clock a_note a_text a_read a_fit a_shown a_image a_isKept a_row a_best m_told m_isRead1 m_clock m_note m_noted m_bytes m_text m_position m_tokenAt m_token m_digits m_number m_faultAt m_readMany m_readTold m_read m_fit m_shown m_image m_isKept m_row m_best m_againAt m_againStep m_orderMany m_orderLeast x3_3 x4_2 x2 (by first | with_reducible assumption | omega | decide) (by first | with_reducible assumption | omega | decide) (by first | with_reducible assumption | omega | decide) (by first | with_reducible assumption | omega | decide) (by first | with_reducible assumption | omega | decide)) JN.all 3 gX7_again_X7_isFirstAgain rfl (by decide +kernel) ⟨Nat.le_of_ble_eq_true rfl, Nat.le_of_ble_eq_true rfl⟩ 0 7 rfl rfl rfl rfl rfl (Nat.le_of_ble_eq_true rfl) dX7_again_97 (fun H locs hh => ?_)
              refine W.eq (g2 := F0 m 100 ls [.int ((F_X7_isFirstAgain m_clock m_againAt x3_3 x4_2 x2).1)]) rfl ?_
              generalize q_97 : F_X7_isFirstAgain m_clock m_againAt x3_3 x4_2 x2 = r97_4 at hh hF ⊢
              have hz_97 : r97_4.1 = 0 ∨ r97_4.1 = 1 := by rw [← q_97]; exact z_X7_isFirstAgain _ _ _ _ _
              have hs_97 : AS r97_4.2.2 := by rw [← q_97]; exact first_AS q1 q2 q3 q4 hc
              unfold F_X7_again_c97 at hF
              refine lv_if_ne (tgt := 105) hx hb dX7_again_100 (by decide) (fun c_100 => ?_) (fun c_100 => ?_)
              · replace hF := hF.trans (if_neg c_100)
                have i_100 : ¬ r97_4.1.toInt = 0 := ti_ne c_100
                have e41 := ti_inc (a := x4_2) (by omega)
                refine lv_iload hx hb dX7_again_105 (lv_at hl 1 rfl) ?_
                refine lv_iconst (v := 1) hx hb dX7_again_107 (by decide) ?_
                refine lv_iadd hx hb dX7_again_108 ?_
                refine lv_istore (lv' := [(5, .int (x4_2 + 1)), (4, .int x4_2), (3, .int x3_3), (0, .ref o), (1, .int x1), (2, .int x2)]) hx hb dX7_again_109 hl (Nat.le_of_ble_eq_true rfl) rfl (fun ls hl => ?_)
                have L_111 : ∀ (n_111 : Nat) (x5_5 : Int32) (w_m_againAt_6 : Int32) (w_m_againStep_7 : Int32) (i0_111 : 0 ≤ x5_5.toInt) (i1_111 : x5_5.toInt ≤ 8) (hs_111 : AS w_m_againStep_7) (_ : (8 - x5_5.toInt).toNat < n_111) (_ : R = (F_X7_again_111 m_clock x1 x3_3) n_111 x5_5 w_m_againAt_6 w_m_againStep_7) (ls : Array Slot) (H : Heap) (locs : List Loc) (_ : HS D A s.heap (WM cI cZ cC cH o a_clock a_note a_text a_read a_fit a_shown a_image a_isKept a_row a_best m_told m_isRead1 m_clock m_note m_noted m_bytes m_text m_position m_tokenAt m_token m_digits m_number m_faultAt m_readMany m_readTold m_read m_fit m_shown m_image m_isKept m_row m_best w_m_againAt_6 w_m_againStep_7 m_orderMany m_orderLeast) H locs) (_ : lv_has ls 6 [(5, .int x5_5), (4, .int x4_2), (3, .int x3_3), (0, .ref o), (1, .int x1), (2, .int x2)]), W p l e { frames := 3, cells := 0, slots := 0, locals := 64 } s m args below meth c H locs 0 0 Q (F0 m 111 ls []) := by
                  intro n_111
                  induction n_111 with
                  | zero => intro x5_5 w_m_againAt_6 w_m_againStep_7 i0_111 i1_111 hs_111 hm; exact absurd hm (Nat.not_lt_zero _)
                  | succ n_111 ih_111 =>
                    intro x5_5 w_m_againAt_6 w_m_againStep_7 i0_111 i1_111 hs_111 hm_111 hF ls H locs hh hl
                    rw [F_X7_again_111.eq_2] at hF
                    refine lv_iload hx hb dX7_again_111 (lv_at hl 0 rfl) ?_
                    refine lv_bipush (v := 8) hx hb dX7_again_113 (by decide) ?_
                    refine lv_icmp_ge (tgt := 145) hx hb dX7_again_115 (by decide) (fun c_115 => ?_) (fun c_115 => ?_)
                    · replace hF := hF.trans (if_pos c_115)
                      have i_115 : 8 ≤ x5_5.toInt := ti_le.mp c_115
                      refine lv_aload_n hx hb dX7_again_145 rfl (lv_at hl 3 rfl) ?_
                      refine g_get KX hh in_X7_again_X7 0 rfl rfl 22 (by decide) rfl (List.mem_of_getElem? (i := 3) rfl) dX7_again_146 ?_
                      exact RT _ _ _ _ _ _ hh (by rw [hF]) (Or.inl ⟨_, rfl, by rw [hF], dX7_again_149, Or.inl rfl⟩)
                    · replace hF := hF.trans (if_neg c_115)
                      have i_115 : x5_5.toInt < 8 := ti_nle c_115
                      refine lv_iload_n hx hb dX7_again_118 rfl (lv_at hl 4 rfl) ?_
                      refine lv_iload hx hb dX7_again_119 (lv_at hl 0 rfl) ?_
                      refine g_callS (As := [.int x1, .int x5_5]) (rest := []) KX rfl ⟨Nat.le_of_ble_eq_true rfl, Nat.le_of_ble_eq_true rfl⟩ hh hl (c_X7_has l D cI cZ cC cH  x1 x5_5 ) JN.no 2 gX7_again_X7_has rfl (by decide +kernel) ⟨Nat.le_of_ble_eq_true rfl, Nat.le_of_ble_eq_true rfl⟩ rfl rfl (Nat.le_of_ble_eq_true rfl) dX7_again_121 (fun H locs hh => ?_)
                      refine W.eq (g2 := F0 m 124 ls [.int (F_X7_has x1 x5_5)]) rfl ?_
                      refine lv_if_eq (tgt := 139) hx hb dX7_again_124 (by decide) (fun c_124 => ?_) (fun c_124 => ?_)
                      · replace hF := hF.trans (if_pos c_124)
                        refine lv_iinc (v := x5_5 + 1) (lv' := [(5, .int (x5_5 + 1)), (4, .int x4_2), (3, .int x3_3), (0, .ref o), (1, .int x1), (2, .int x2)]) hx hb dX7_again_139 hl (k := 0) rfl rfl (Nat.le_of_ble_eq_true rfl) rfl (fun ls hl => ?_)
                        refine lv_goto (tgt := 111) hx hb dX7_again_142 (by decide) ?_
                        have e_inc : (x5_5 + 1).toInt = x5_5.toInt + 1 := ti_inc (by omega)
                        exact ih_111 (x5_5 + 1) w_m_againAt_6 w_m_againStep_7 (by first | with_reducible assumption | omega | decide) (by first | with_reducible assumption | omega | decide) (by first | with_reducible assumption | omega | decide) (by omega) hF _ _ _ hh (lv_sub hl [0, 1, 2, 3, 4, 5] rfl)
                      · replace hF := hF.trans (if_neg c_124)
                        refine lv_aload_n hx hb dX7_again_127 rfl (lv_at hl 3 rfl) ?_
                        refine lv_iload_n hx hb dX7_again_128 rfl (lv_at hl 2 rfl) ?_
                        refine lv_iload hx hb dX7_again_129 (lv_at hl 0 rfl) ?_
                        refine g_callV (As := [.int x3_3, .int x5_5]) (rest := []) KX rfl ⟨Nat.le_of_ble_eq_true rfl, Nat.le_of_ble_eq_true rfl⟩ hh hl (c_X7_isAgain l D cI cZ cC cH o a_clock a_note a_text a_read a_fit a_shown a_image a_isKept a_row a_best m_told m_isRead1 m_clock m_note m_noted m_bytes m_text m_position m_tokenAt m_token m_digits m_number m_faultAt m_readMany m_readTold m_read m_fit m_shown m_image m_isKept m_row m_best w_m_againAt_6 w_m_againStep_7 m_orderMany m_orderLeast x3_3 x5_5 (by first | with_reducible assumption | omega | decide) (by first | with_reducible assumption | omega | decide) (by first | with_reducible assumption | omega | decide) (by first | with_reducible assumption | omega | decide) (by first | with_reducible assumption | omega | decide) (by first | with_reducible assumption | omega | decide)) JN.all 2 gX7_again_X7_isAgain rfl (by decide +kernel) ⟨Nat.le_of_ble_eq_true rfl, Nat.le_of_ble_eq_true rfl⟩ 0 7 rfl rfl rfl rfl rfl (Nat.le_of_ble_eq_true rfl) dX7_again_131 (fun H locs hh => ?_)
                        refine W.eq (g2 := F0 m 134 ls [.int ((F_X7_isAgain m_clock w_m_againAt_6 w_m_againStep_7 x3_3 x5_5).1)]) rfl ?_
                        generalize q_131 : F_X7_isAgain m_clock w_m_againAt_6 w_m_againStep_7 x3_3 x5_5 = r131_8 at hh hF ⊢
                        have hz_131 : r131_8.1 = 0 ∨ r131_8.1 = 1 := by rw [← q_131]; exact z_X7_isAgain _ _ _ _ _
                        have hs_128 : AS r131_8.2.2 := by rw [← q_131]; exact isAgain_AS hs_111 q1 q2 (by omega) (by omega) hc
                        unfold F_X7_again_c131 at hF
                        refine lv_if_ne (tgt := 139) hx hb dX7_again_134 (by decide) (fun c_134 => ?_) (fun c_134 => ?_)
                        · replace hF := hF.trans (if_neg c_134)
                          have i_134 : ¬ r131_8.1.toInt = 0 := ti_ne c_134
                          refine lv_iinc (v := x5_5 + 1) (lv' := [(5, .int (x5_5 + 1)), (4, .int x4_2), (3, .int x3_3), (0, .ref o), (1, .int x1), (2, .int x2)]) hx hb dX7_again_139 hl (k := 0) rfl rfl (Nat.le_of_ble_eq_true rfl) rfl (fun ls hl => ?_)
                          refine lv_goto (tgt := 111) hx hb dX7_again_142 (by decide) ?_
                          have e_inc : (x5_5 + 1).toInt = x5_5.toInt + 1 := ti_inc (by omega)
                          exact ih_111 (x5_5 + 1) r131_8.2.1 r131_8.2.2 (by first | with_reducible assumption | omega | decide) (by first | with_reducible assumption | omega | decide) (by first | with_reducible assumption | omega | decide) (by omega) hF _ _ _ hh (lv_sub hl [0, 1, 2, 3, 4, 5] rfl)
                        · replace hF := hF.trans (if_pos c_134)
                          have i_134 : r131_8.1.toInt = 0 := congrArg Int32.toInt c_134
                          refine lv_iconst (v := (-1)) hx hb dX7_again_137 (by decide) ?_
                          exact RT _ _ _ _ _ _ hh (by rw [hF]) (Or.inl ⟨_, rfl, by rw [hF], dX7_again_138, Or.inl rfl⟩)
                exact L_111 9 (x4_2 + 1) r97_4.2.1 r97_4.2.2 (by first | with_reducible assumption | omega | decide) (by first | with_reducible assumption | omega | decide) (by first | with_reducible assumption | omega | decide) (by first | omega | decide | (simp; done)) hF _ _ _ hh (lv_sub hl [0, 1, 2, 3, 4, 5] rfl)
              · replace hF := hF.trans (if_pos c_100)
                have i_100 : r97_4.1.toInt = 0 := congrArg Int32.toInt c_100
                refine lv_iconst (v := (-1)) hx hb dX7_again_103 (by decide) ?_
                exact RT _ _ _ _ _ _ hh (by rw [hF]) (Or.inl ⟨_, rfl, by rw [hF], dX7_again_104, Or.inl rfl⟩)
            · replace hF := hF.trans (if_neg c_43)
              have i_43 : 0 ≤ x5_1.toInt := ti_nlt c_43
              refine lv_iload_n hx hb dX7_again_46 rfl (lv_at hl 4 rfl) ?_
              refine lv_iload hx hb dX7_again_47 (lv_at hl 0 rfl) ?_
              refine g_callS (As := [.int x1, .int x5_1]) (rest := []) KX rfl ⟨Nat.le_of_ble_eq_true rfl, Nat.le_of_ble_eq_true rfl⟩ hh hl (c_X7_has l D cI cZ cC cH  x1 x5_1 ) JN.no 2 gX7_again_X7_has rfl (by decide +kernel) ⟨Nat.le_of_ble_eq_true rfl, Nat.le_of_ble_eq_true rfl⟩ rfl rfl (Nat.le_of_ble_eq_true rfl) dX7_again_49 (fun H locs hh => ?_)
              refine W.eq (g2 := F0 m 52 ls [.int (F_X7_has x1 x5_1)]) rfl ?_
              refine lv_if_eq (tgt := 86) hx hb dX7_again_52 (by decide) (fun c_52 => ?_) (fun c_52 => ?_)
              · replace hF := hF.trans (if_pos c_52)
                refine lv_iinc (v := x5_1 + (-1)) (lv' := [(5, .int (x5_1 + (-1))), (4, .int x4_2), (3, .int x3_3), (0, .ref o), (1, .int x1), (2, .int x2)]) hx hb dX7_again_86 hl (k := 0) rfl rfl (Nat.le_of_ble_eq_true rfl) rfl (fun ls hl => ?_)
                refine lv_goto (tgt := 41) hx hb dX7_again_89 (by decide) ?_
                have e_dec : (x5_1 + (-1)).toInt = _ := ti_dec (by omega)
                exact ih_41 (x5_1 + (-1)) x4_2 x3_3 (by first | with_reducible assumption | omega | decide) (by first | with_reducible assumption | omega | decide) (by first | with_reducible exact oo_init | with_reducible exact oo_skip ho_41 (by omega) (by omega) c_52 | with_reducible exact oo_take ho_41 (by omega) (by omega) c_52) (by omega) hF _ _ _ hh (lv_sub hl [0, 1, 2, 3, 4, 5] rfl)
              · replace hF := hF.trans (if_neg c_52)
                refine lv_aload_n hx hb dX7_again_55 rfl (lv_at hl 3 rfl) ?_
                refine lv_iload hx hb dX7_again_56 (lv_at hl 0 rfl) ?_
                refine g_callV (As := [.int x5_1]) (rest := []) KX rfl ⟨Nat.le_of_ble_eq_true rfl, Nat.le_of_ble_eq_true rfl⟩ hh hl (c_X7_isExact l D cI cZ cC cH o a_clock a_note a_text a_read a_fit a_shown a_image a_isKept a_row a_best m_told m_isRead1 m_clock m_note m_noted m_bytes m_text m_position m_tokenAt m_token m_digits m_number m_faultAt m_readMany m_readTold m_read m_fit m_shown m_image m_isKept m_row m_best m_againAt m_againStep m_orderMany m_orderLeast x5_1 ) JN.all 1 gX7_again_X7_isExact rfl (by decide +kernel) ⟨Nat.le_of_ble_eq_true rfl, Nat.le_of_ble_eq_true rfl⟩ 0 7 rfl rfl rfl rfl rfl (Nat.le_of_ble_eq_true rfl) dX7_again_58 (fun H locs hh => ?_)
                refine W.eq (g2 := F0 m 61 ls [.int (F_X7_isExact m_told m_clock x5_1)]) rfl ?_
                refine lv_if_eq (tgt := 77) hx hb dX7_again_61 (by decide) (fun c_61 => ?_) (fun c_61 => ?_)
                · replace hF := hF.trans (if_pos c_61)
                  refine lv_bipush (v := (-3)) hx hb dX7_again_77 (by decide) ?_
                  exact RT _ _ _ _ _ _ hh (by rw [hF]) (Or.inl ⟨_, rfl, by rw [hF], dX7_again_79, Or.inl rfl⟩)
                · replace hF := hF.trans (if_neg c_61)
                  obtain ⟨k0_61, k1_61⟩ := X7_isExact_in c_61
                  refine lv_aload_n hx hb dX7_again_64 rfl (lv_at hl 3 rfl) ?_
                  refine g_get KX hh in_X7_again_X7 0 rfl rfl 2 (by decide) rfl (List.mem_of_getElem? (i := 2) rfl) dX7_again_65 ?_
                  refine lv_bipush (v := 6) hx hb dX7_again_68 (by decide) ?_
                  refine lv_iload hx hb dX7_again_70 (lv_at hl 0 rfl) ?_
                  refine lv_imul hx hb dX7_again_72 ?_
                  refine g_iald KX hh 1 0 rfl rfl (ix60 (by omega) (by omega)) dX7_again_73 ?_
                  refine lv_if_eq (tgt := 80) hx hb dX7_again_74 (by decide) (fun c_74 => ?_) (fun c_74 => ?_)
                  · replace hF := hF.trans (if_pos c_74)
                    refine lv_iload_n hx hb dX7_again_80 rfl (lv_at hl 2 rfl) ?_
                    refine lv_istore (lv' := [(4, .int x3_3), (5, .int x5_1), (3, .int x3_3), (0, .ref o), (1, .int x1), (2, .int x2)]) hx hb dX7_again_81 hl (Nat.le_of_ble_eq_true rfl) rfl (fun ls hl => ?_)
                    refine lv_iload hx hb dX7_again_83 (lv_at hl 1 rfl) ?_
                    refine lv_istore_n (lv' := [(3, .int x5_1), (4, .int x3_3), (5, .int x5_1), (0, .ref o), (1, .int x1), (2, .int x2)]) hx hb dX7_again_85 rfl hl (Nat.le_of_ble_eq_true rfl) rfl (fun ls hl => ?_)
                    refine lv_iinc (v := x5_1 + (-1)) (lv' := [(5, .int (x5_1 + (-1))), (3, .int x5_1), (4, .int x3_3), (0, .ref o), (1, .int x1), (2, .int x2)]) hx hb dX7_again_86 hl (k := 2) rfl rfl (Nat.le_of_ble_eq_true rfl) rfl (fun ls hl => ?_)
                    refine lv_goto (tgt := 41) hx hb dX7_again_89 (by decide) ?_
                    have e_dec : (x5_1 + (-1)).toInt = _ := ti_dec (by omega)
                    exact ih_41 (x5_1 + (-1)) x3_3 x5_1 (by first | with_reducible assumption | omega | decide) (by first | with_reducible assumption | omega | decide) (by first | with_reducible exact oo_init | with_reducible exact oo_skip ho_41 (by omega) (by omega) c_52 | with_reducible exact oo_take ho_41 (by omega) (by omega) c_52) (by omega) hF _ _ _ hh (lv_sub hl [0, 2, 1, 3, 4, 5] rfl)
                  · replace hF := hF.trans (if_neg c_74)
                    refine lv_bipush (v := (-3)) hx hb dX7_again_77 (by decide) ?_
                    exact RT _ _ _ _ _ _ hh (by rw [hF]) (Or.inl ⟨_, rfl, by rw [hF], dX7_again_79, Or.inl rfl⟩)
        exact L_41 9 7 (-1) (-1) (by first | with_reducible assumption | omega | decide) (by first | with_reducible assumption | omega | decide) (by first | with_reducible exact oo_init | with_reducible exact oo_skip ho_41 (by omega) (by omega) c_52 | with_reducible exact oo_take ho_41 (by omega) (by omega) c_52) (by first | omega | decide | (simp; done)) hF _ _ _ hh (lv_sub hl [0, 1, 2, 3, 4, 5] rfl)
      · replace hF := hF.trans (if_pos c_26)
        refine lv_bipush (v := (-3)) hx hb dX7_again_29 (by decide) ?_
        exact RT _ _ _ _ _ _ hh (by rw [hF]) (Or.inl ⟨_, rfl, by rw [hF], dX7_again_31, Or.inl rfl⟩)
