theorem ti_sub1 {a : Int32} (h : -2147483648 < a.toInt) : (a - 1).toInt = a.toInt - 1 := ti_subc a 1 1 rfl (by omega) (by have := Int32.toInt_lt a; omega)
theorem ti_sub2 {a : Int32} (h : -2147483647 < a.toInt) : (a - 2).toInt = a.toInt - 2 := ti_subc a 2 2 rfl (by omega) (by have := Int32.toInt_lt a; omega)
def F_X7_nextRow_107  : Nat → Int32 → Int32 → Int32 → (Nat → Int32) → Int32 × (Nat → Int32)
  | 0, _, _, _, _ => default
  | n + 1, x5_3, x4_4, x3_5, w_m_row_6 => (if x5_3 ≤ x4_4 then (1, w_m_row_6) else ((F_X7_nextRow_107 n) (x5_3 + (-1)) (x4_4 + 1) (w_m_row_6 x4_4.toNatClampNeg) (upd (upd w_m_row_6 x4_4.toNatClampNeg (w_m_row_6 x5_3.toNatClampNeg)) x5_3.toNatClampNeg (w_m_row_6 x4_4.toNatClampNeg))))
def F_X7_nextRow_47 (m_row : Nat → Int32) (m_orderMany : Int32) (x1_1 : Int32) : Nat → Int32 → Int32 × (Nat → Int32)
  | 0, _ => default
  | n + 1, x2_2 => (if (m_row x1_1.toNatClampNeg) ≤ (m_row x2_2.toNatClampNeg) then (F_X7_nextRow_107 7 (m_orderMany - 1) (x1_1 + 1) (m_row x1_1.toNatClampNeg) (upd (upd m_row x1_1.toNatClampNeg (m_row x2_2.toNatClampNeg)) x2_2.toNatClampNeg (m_row x1_1.toNatClampNeg))) else ((F_X7_nextRow_47 m_row m_orderMany x1_1 n) (x2_2 + (-1))))
def F_X7_nextRow_34 (m_row : Nat → Int32) (m_orderMany : Int32) (x1_1 : Int32)  : Int32 × (Nat → Int32) := (if 0 ≤ x1_1 then (F_X7_nextRow_47 m_row m_orderMany x1_1 7 (m_orderMany - 1)) else (0, m_row))
def F_X7_nextRow_7 (m_row : Nat → Int32) (m_orderMany : Int32) : Nat → Int32 → Int32 × (Nat → Int32)
  | 0, _ => default
  | n + 1, x1_1 => (if x1_1 < 0 then F_X7_nextRow_34 m_row m_orderMany x1_1 else (if (m_row x1_1.toNatClampNeg) ≤ (m_row (x1_1 + 1).toNatClampNeg) then F_X7_nextRow_34 m_row m_orderMany x1_1 else ((F_X7_nextRow_7 m_row m_orderMany n) (x1_1 + (-1)))))
def F_X7_nextRow (m_row : Nat → Int32) (m_orderMany : Int32) : Int32 × (Nat → Int32) := (F_X7_nextRow_7 m_row m_orderMany 6 (m_orderMany - 2))
theorem in_X7_nextRow_X7 : ∀ x ∈ u_ws RX7 TX7 26, x ∈ wsX7_nextRow := by decide +kernel
set_option maxHeartbeats 2000000 in
set_option maxRecDepth 100000 in
theorem c_X7_nextRow (l : Launch) (D : va_G) (cI cZ cC cH : ClassId) (o a_clock a_note a_text a_read a_fit a_shown a_image a_isKept a_row a_best : Nat) (m_told : Int32) (m_isRead1 : Int32) (m_clock : Nat → Int32) (m_note : Nat → Int32) (m_noted : Int32) (m_bytes : Int32) (m_text : Nat → Int32) (m_position : Int32) (m_tokenAt : Int32) (m_token : Int64) (m_digits : Int32) (m_number : Int32) (m_faultAt : Int32) (m_readMany : Int32) (m_readTold : Int32) (m_read : Nat → Int32) (m_fit : Nat → Int32) (m_shown : Nat → Int32) (m_image : Nat → Int32) (m_isKept : Nat → Int32) (m_row : Nat → Int32) (m_best : Nat → Int32) (m_againAt : Int32) (m_againStep : Int32) (m_orderMany : Int32) (m_orderLeast : Int32)  (hm0 : 1 ≤ m_orderMany.toInt) (hm1 : m_orderMany.toInt ≤ 6) : MC l D (TY cI cZ cC cH) yX7_nextRow wsX7_nextRow 0 0 [.ref o] (WM cI cZ cC cH o a_clock a_note a_text a_read a_fit a_shown a_image a_isKept a_row a_best m_told m_isRead1 m_clock m_note m_noted m_bytes m_text m_position m_tokenAt m_token m_digits m_number m_faultAt m_readMany m_readTold m_read m_fit m_shown m_image m_isKept m_row m_best m_againAt m_againStep m_orderMany m_orderLeast) (some (.int ((F_X7_nextRow m_row m_orderMany).1))) (WM cI cZ cC cH o a_clock a_note a_text a_read a_fit a_shown a_image a_isKept a_row a_best m_told m_isRead1 m_clock m_note m_noted m_bytes m_text m_position m_tokenAt m_token m_digits m_number m_faultAt m_readMany m_readTold m_read m_fit m_shown m_image m_isKept (F_X7_nextRow m_row m_orderMany).2 m_best m_againAt m_againStep m_orderMany m_orderLeast) := by
  obtain ⟨R, hF⟩ : ∃ R, R = F_X7_nextRow m_row m_orderMany := ⟨_, rfl⟩
  rw [← hF]
  refine MC.of (cc := cX7_nextRow) (maxL := 6) (ret := (some .boolean)) RX7 rfl (by decide +kernel) rfl (Nat.le_of_ble_eq_true rfl) ?_
  intro p e s m args below meth c A Q KX RT hh ls hl
  have z0 : (0 : Int32).toInt = 0 := rfl
  have z1 : (1 : Int32).toInt = 1 := rfl
  have zm : (-1 : Int32).toInt = -1 := rfl
  have hx := KX.1
  have hb := KX.2.1
  have hl : lv_has ls 6 [(0, .ref o)] := hl
  unfold F_X7_nextRow at hF
  refine lv_aload_n hx hb dX7_nextRow_0 rfl (lv_at hl 0 rfl) ?_
  refine g_get KX hh in_X7_nextRow_X7 0 rfl rfl 24 (by decide) rfl (List.mem_of_getElem? (i := 1) rfl) dX7_nextRow_1 ?_
  refine lv_iconst (v := 2) hx hb dX7_nextRow_4 (by decide) ?_
  refine lv_isub hx hb dX7_nextRow_5 ?_
  refine lv_istore_n (lv' := [(1, .int (m_orderMany - 2)), (0, .ref o)]) hx hb dX7_nextRow_6 rfl hl (Nat.le_of_ble_eq_true rfl) rfl (fun ls hl => ?_)
  have L_7 : ∀ (n_7 : Nat) (x1_1 : Int32) (i0_7 : -1 ≤ x1_1.toInt) (i1_7 : x1_1.toInt ≤ m_orderMany.toInt - 2) (_ : (x1_1.toInt + 1).toNat < n_7) (_ : R = (F_X7_nextRow_7 m_row m_orderMany) n_7 x1_1) (ls : Array Slot) (H : Heap) (locs : List Loc) (_ : HS D A s.heap (WM cI cZ cC cH o a_clock a_note a_text a_read a_fit a_shown a_image a_isKept a_row a_best m_told m_isRead1 m_clock m_note m_noted m_bytes m_text m_position m_tokenAt m_token m_digits m_number m_faultAt m_readMany m_readTold m_read m_fit m_shown m_image m_isKept m_row m_best m_againAt m_againStep m_orderMany m_orderLeast) H locs) (_ : lv_has ls 6 [(1, .int x1_1), (0, .ref o)]), W p l e { frames := 0, cells := 0, slots := 0, locals := 0 } s m args below meth c H locs 0 0 Q (F0 m 7 ls []) := by
    intro n_7
    induction n_7 with
    | zero => intro x1_1 i0_7 i1_7 hm; exact absurd hm (Nat.not_lt_zero _)
    | succ n_7 ih_7 =>
      intro x1_1 i0_7 i1_7 hm_7 hF ls H locs hh hl
      rw [F_X7_nextRow_7.eq_2] at hF
      refine lv_iload_n hx hb dX7_nextRow_7 rfl (lv_at hl 0 rfl) ?_
      have K_34 : ∀ (_ : R = (F_X7_nextRow_34 m_row m_orderMany x1_1)) (ls : Array Slot) (H : Heap) (locs : List Loc) (_ : HS D A s.heap (WM cI cZ cC cH o a_clock a_note a_text a_read a_fit a_shown a_image a_isKept a_row a_best m_told m_isRead1 m_clock m_note m_noted m_bytes m_text m_position m_tokenAt m_token m_digits m_number m_faultAt m_readMany m_readTold m_read m_fit m_shown m_image m_isKept m_row m_best m_againAt m_againStep m_orderMany m_orderLeast) H locs) (_ : lv_has ls 6 [(1, .int x1_1), (0, .ref o)]), W p l e { frames := 0, cells := 0, slots := 0, locals := 0 } s m args below meth c H locs 0 0 Q (F0 m 34 ls []) := by
        intro  hF ls H locs hh hl
        unfold F_X7_nextRow_34 at hF
        refine lv_iload_n hx hb dX7_nextRow_34 rfl (lv_at hl 0 rfl) ?_
        refine lv_if_ge (tgt := 40) hx hb dX7_nextRow_35 (by decide) (fun c_35 => ?_) (fun c_35 => ?_)
        · replace hF := hF.trans (if_pos c_35)
          have i_35 : 0 ≤ x1_1.toInt := ti_le.mp c_35
          refine lv_aload_n hx hb dX7_nextRow_40 rfl (lv_at hl 1 rfl) ?_
          refine g_get KX hh in_X7_nextRow_X7 0 rfl rfl 24 (by decide) rfl (List.mem_of_getElem? (i := 1) rfl) dX7_nextRow_41 ?_
          refine lv_iconst (v := 1) hx hb dX7_nextRow_44 (by decide) ?_
          refine lv_isub hx hb dX7_nextRow_45 ?_
          refine lv_istore_n (lv' := [(2, .int (m_orderMany - 1)), (1, .int x1_1), (0, .ref o)]) hx hb dX7_nextRow_46 rfl hl (Nat.le_of_ble_eq_true rfl) rfl (fun ls hl => ?_)
          have L_47 : ∀ (n_47 : Nat) (x2_2 : Int32) (i0_47 : x1_1.toInt ≤ x2_2.toInt) (i1_47 : x2_2.toInt ≤ m_orderMany.toInt - 1) (_ : (x2_2.toInt + 1).toNat < n_47) (_ : R = (F_X7_nextRow_47 m_row m_orderMany x1_1) n_47 x2_2) (ls : Array Slot) (H : Heap) (locs : List Loc) (_ : HS D A s.heap (WM cI cZ cC cH o a_clock a_note a_text a_read a_fit a_shown a_image a_isKept a_row a_best m_told m_isRead1 m_clock m_note m_noted m_bytes m_text m_position m_tokenAt m_token m_digits m_number m_faultAt m_readMany m_readTold m_read m_fit m_shown m_image m_isKept m_row m_best m_againAt m_againStep m_orderMany m_orderLeast) H locs) (_ : lv_has ls 6 [(2, .int x2_2), (1, .int x1_1), (0, .ref o)]), W p l e { frames := 0, cells := 0, slots := 0, locals := 0 } s m args below meth c H locs 0 0 Q (F0 m 47 ls []) := by
            intro n_47
            induction n_47 with
            | zero => intro x2_2 i0_47 i1_47 hm; exact absurd hm (Nat.not_lt_zero _)
            | succ n_47 ih_47 =>
              intro x2_2 i0_47 i1_47 hm_47 hF ls H locs hh hl
              rw [F_X7_nextRow_47.eq_2] at hF
              refine lv_aload_n hx hb dX7_nextRow_47 rfl (lv_at hl 2 rfl) ?_
              refine g_get KX hh in_X7_nextRow_X7 0 rfl rfl 20 (by decide) rfl (List.mem_of_getElem? (i := 2) rfl) dX7_nextRow_48 ?_
              refine lv_iload_n hx hb dX7_nextRow_51 rfl (lv_at hl 0 rfl) ?_
              refine g_iald KX hh 9 0 rfl rfl (vp_in_iff.mpr (by omega)) dX7_nextRow_52 ?_
              refine lv_aload_n hx hb dX7_nextRow_53 rfl (lv_at hl 2 rfl) ?_
              refine g_get KX hh in_X7_nextRow_X7 0 rfl rfl 20 (by decide) rfl (List.mem_of_getElem? (i := 2) rfl) dX7_nextRow_54 ?_
              refine lv_iload_n hx hb dX7_nextRow_57 rfl (lv_at hl 1 rfl) ?_
              refine g_iald KX hh 9 0 rfl rfl (vp_in_iff.mpr (by omega)) dX7_nextRow_58 ?_
              refine lv_icmp_ge (tgt := 68) hx hb dX7_nextRow_59 (by decide) (fun c_59 => ?_) (fun c_59 => ?_)
              · replace hF := hF.trans (if_pos c_59)
                refine lv_aload_n hx hb dX7_nextRow_68 rfl (lv_at hl 2 rfl) ?_
                refine g_get KX hh in_X7_nextRow_X7 0 rfl rfl 20 (by decide) rfl (List.mem_of_getElem? (i := 2) rfl) dX7_nextRow_69 ?_
                refine lv_iload_n hx hb dX7_nextRow_72 rfl (lv_at hl 1 rfl) ?_
                refine g_iald KX hh 9 0 rfl rfl (vp_in_iff.mpr (by omega)) dX7_nextRow_73 ?_
                refine lv_istore_n (lv' := [(3, .int (m_row x1_1.toNatClampNeg)), (2, .int x2_2), (1, .int x1_1), (0, .ref o)]) hx hb dX7_nextRow_74 rfl hl (Nat.le_of_ble_eq_true rfl) rfl (fun ls hl => ?_)
                refine lv_aload_n hx hb dX7_nextRow_75 rfl (lv_at hl 3 rfl) ?_
                refine g_get KX hh in_X7_nextRow_X7 0 rfl rfl 20 (by decide) rfl (List.mem_of_getElem? (i := 2) rfl) dX7_nextRow_76 ?_
                refine lv_iload_n hx hb dX7_nextRow_79 rfl (lv_at hl 2 rfl) ?_
                refine lv_aload_n hx hb dX7_nextRow_80 rfl (lv_at hl 3 rfl) ?_
                refine g_get KX hh in_X7_nextRow_X7 0 rfl rfl 20 (by decide) rfl (List.mem_of_getElem? (i := 2) rfl) dX7_nextRow_81 ?_
                refine lv_iload_n hx hb dX7_nextRow_84 rfl (lv_at hl 1 rfl) ?_
                refine g_iald KX hh 9 0 rfl rfl (vp_in_iff.mpr (by omega)) dX7_nextRow_85 ?_
                refine g_iast KX hh 9 0 rfl rfl (vp_in_iff.mpr (by omega)) (w' := (WM cI cZ cC cH o a_clock a_note a_text a_read a_fit a_shown a_image a_isKept a_row a_best m_told m_isRead1 m_clock m_note m_noted m_bytes m_text m_position m_tokenAt m_token m_digits m_number m_faultAt m_readMany m_readTold m_read m_fit m_shown m_image m_isKept (upd m_row x1_1.toNatClampNeg (m_row x2_2.toNatClampNeg)) m_best m_againAt m_againStep m_orderMany m_orderLeast)) rfl dX7_nextRow_86 (fun H locs hh => ?_)
                refine lv_aload_n hx hb dX7_nextRow_87 rfl (lv_at hl 3 rfl) ?_
                refine g_get KX hh in_X7_nextRow_X7 0 rfl rfl 20 (by decide) rfl (List.mem_of_getElem? (i := 2) rfl) dX7_nextRow_88 ?_
                refine lv_iload_n hx hb dX7_nextRow_91 rfl (lv_at hl 1 rfl) ?_
                refine lv_iload_n hx hb dX7_nextRow_92 rfl (lv_at hl 0 rfl) ?_
                refine g_iast KX hh 9 0 rfl rfl (vp_in_iff.mpr (by omega)) (w' := (WM cI cZ cC cH o a_clock a_note a_text a_read a_fit a_shown a_image a_isKept a_row a_best m_told m_isRead1 m_clock m_note m_noted m_bytes m_text m_position m_tokenAt m_token m_digits m_number m_faultAt m_readMany m_readTold m_read m_fit m_shown m_image m_isKept (upd (upd m_row x1_1.toNatClampNeg (m_row x2_2.toNatClampNeg)) x2_2.toNatClampNeg (m_row x1_1.toNatClampNeg)) m_best m_againAt m_againStep m_orderMany m_orderLeast)) rfl dX7_nextRow_93 (fun H locs hh => ?_)
                refine lv_iload_n hx hb dX7_nextRow_94 rfl (lv_at hl 2 rfl) ?_
                refine lv_iconst (v := 1) hx hb dX7_nextRow_95 (by decide) ?_
                refine lv_iadd hx hb dX7_nextRow_96 ?_
                refine lv_istore (lv' := [(4, .int (x1_1 + 1)), (3, .int (m_row x1_1.toNatClampNeg)), (2, .int x2_2), (1, .int x1_1), (0, .ref o)]) hx hb dX7_nextRow_97 hl (Nat.le_of_ble_eq_true rfl) rfl (fun ls hl => ?_)
                refine lv_aload_n hx hb dX7_nextRow_99 rfl (lv_at hl 4 rfl) ?_
                refine g_get KX hh in_X7_nextRow_X7 0 rfl rfl 24 (by decide) rfl (List.mem_of_getElem? (i := 1) rfl) dX7_nextRow_100 ?_
                refine lv_iconst (v := 1) hx hb dX7_nextRow_103 (by decide) ?_
                refine lv_isub hx hb dX7_nextRow_104 ?_
                refine lv_istore (lv' := [(5, .int (m_orderMany - 1)), (4, .int (x1_1 + 1)), (3, .int (m_row x1_1.toNatClampNeg)), (2, .int x2_2), (1, .int x1_1), (0, .ref o)]) hx hb dX7_nextRow_105 hl (Nat.le_of_ble_eq_true rfl) rfl (fun ls hl => ?_)
                have L_107 : ∀ (n_107 : Nat) (x5_3 : Int32) (x4_4 : Int32) (x3_5 : Int32) (w_m_row_6 : Nat → Int32) (i0_107 : 0 ≤ x4_4.toInt) (i1_107 : x4_4.toInt ≤ 6) (i2_107 : -1 ≤ x5_3.toInt) (i3_107 : x5_3.toInt ≤ 5) (_ : (6 - x4_4.toInt).toNat < n_107) (_ : R = (F_X7_nextRow_107) n_107 x5_3 x4_4 x3_5 w_m_row_6) (ls : Array Slot) (H : Heap) (locs : List Loc) (_ : HS D A s.heap (WM cI cZ cC cH o a_clock a_note a_text a_read a_fit a_shown a_image a_isKept a_row a_best m_told m_isRead1 m_clock m_note m_noted m_bytes m_text m_position m_tokenAt m_token m_digits m_number m_faultAt m_readMany m_readTold m_read m_fit m_shown m_image m_isKept w_m_row_6 m_best m_againAt m_againStep m_orderMany m_orderLeast) H locs) (_ : lv_has ls 6 [(5, .int x5_3), (4, .int x4_4), (3, .int x3_5), (2, .int x2_2), (1, .int x1_1), (0, .ref o)]), W p l e { frames := 0, cells := 0, slots := 0, locals := 0 } s m args below meth c H locs 0 0 Q (F0 m 107 ls []) := by
                  intro n_107
                  induction n_107 with
                  | zero => intro x5_3 x4_4 x3_5 w_m_row_6 i0_107 i1_107 i2_107 i3_107 hm; exact absurd hm (Nat.not_lt_zero _)
                  | succ n_107 ih_107 =>
                    intro x5_3 x4_4 x3_5 w_m_row_6 i0_107 i1_107 i2_107 i3_107 hm_107 hF ls H locs hh hl
                    rw [F_X7_nextRow_107.eq_2] at hF
                    refine lv_iload hx hb dX7_nextRow_107 (lv_at hl 1 rfl) ?_
                    refine lv_iload hx hb dX7_nextRow_109 (lv_at hl 0 rfl) ?_
                    refine lv_icmp_ge (tgt := 153) hx hb dX7_nextRow_111 (by decide) (fun c_111 => ?_) (fun c_111 => ?_)
                    · replace hF := hF.trans (if_pos c_111)
                      have i_111 : x5_3.toInt ≤ x4_4.toInt := ti_le.mp c_111
                      refine lv_iconst (v := 1) hx hb dX7_nextRow_153 (by decide) ?_
                      exact RT _ _ _ _ _ _ hh (by rw [hF]) (Or.inl ⟨_, rfl, by rw [hF], dX7_nextRow_154, Or.inr (Or.inl ⟨rfl, Or.inr rfl⟩)⟩)
                    · replace hF := hF.trans (if_neg c_111)
                      have i_111 : x4_4.toInt < x5_3.toInt := ti_nle c_111
                      refine lv_aload_n hx hb dX7_nextRow_114 rfl (lv_at hl 5 rfl) ?_
                      refine g_get KX hh in_X7_nextRow_X7 0 rfl rfl 20 (by decide) rfl (List.mem_of_getElem? (i := 2) rfl) dX7_nextRow_115 ?_
                      refine lv_iload hx hb dX7_nextRow_118 (lv_at hl 1 rfl) ?_
                      refine g_iald KX hh 9 0 rfl rfl (vp_in_iff.mpr (by omega)) dX7_nextRow_120 ?_
                      refine lv_istore_n (lv' := [(3, .int (w_m_row_6 x4_4.toNatClampNeg)), (5, .int x5_3), (4, .int x4_4), (2, .int x2_2), (1, .int x1_1), (0, .ref o)]) hx hb dX7_nextRow_121 rfl hl (Nat.le_of_ble_eq_true rfl) rfl (fun ls hl => ?_)
                      refine lv_aload_n hx hb dX7_nextRow_122 rfl (lv_at hl 5 rfl) ?_
                      refine g_get KX hh in_X7_nextRow_X7 0 rfl rfl 20 (by decide) rfl (List.mem_of_getElem? (i := 2) rfl) dX7_nextRow_123 ?_
                      refine lv_iload hx hb dX7_nextRow_126 (lv_at hl 2 rfl) ?_
                      refine lv_aload_n hx hb dX7_nextRow_128 rfl (lv_at hl 5 rfl) ?_
                      refine g_get KX hh in_X7_nextRow_X7 0 rfl rfl 20 (by decide) rfl (List.mem_of_getElem? (i := 2) rfl) dX7_nextRow_129 ?_
                      refine lv_iload hx hb dX7_nextRow_132 (lv_at hl 1 rfl) ?_
                      refine g_iald KX hh 9 0 rfl rfl (vp_in_iff.mpr (by omega)) dX7_nextRow_134 ?_
                      refine g_iast KX hh 9 0 rfl rfl (vp_in_iff.mpr (by omega)) (w' := (WM cI cZ cC cH o a_clock a_note a_text a_read a_fit a_shown a_image a_isKept a_row a_best m_told m_isRead1 m_clock m_note m_noted m_bytes m_text m_position m_tokenAt m_token m_digits m_number m_faultAt m_readMany m_readTold m_read m_fit m_shown m_image m_isKept (upd w_m_row_6 x4_4.toNatClampNeg (w_m_row_6 x5_3.toNatClampNeg)) m_best m_againAt m_againStep m_orderMany m_orderLeast)) rfl dX7_nextRow_135 (fun H locs hh => ?_)
                      refine lv_aload_n hx hb dX7_nextRow_136 rfl (lv_at hl 5 rfl) ?_
                      refine g_get KX hh in_X7_nextRow_X7 0 rfl rfl 20 (by decide) rfl (List.mem_of_getElem? (i := 2) rfl) dX7_nextRow_137 ?_
                      refine lv_iload hx hb dX7_nextRow_140 (lv_at hl 1 rfl) ?_
                      refine lv_iload_n hx hb dX7_nextRow_142 rfl (lv_at hl 0 rfl) ?_
                      refine g_iast KX hh 9 0 rfl rfl (vp_in_iff.mpr (by omega)) (w' := (WM cI cZ cC cH o a_clock a_note a_text a_read a_fit a_shown a_image a_isKept a_row a_best m_told m_isRead1 m_clock m_note m_noted m_bytes m_text m_position m_tokenAt m_token m_digits m_number m_faultAt m_readMany m_readTold m_read m_fit m_shown m_image m_isKept (upd (upd w_m_row_6 x4_4.toNatClampNeg (w_m_row_6 x5_3.toNatClampNeg)) x5_3.toNatClampNeg (w_m_row_6 x4_4.toNatClampNeg)) m_best m_againAt m_againStep m_orderMany m_orderLeast)) rfl dX7_nextRow_143 (fun H locs hh => ?_)
                      refine lv_iinc (v := x4_4 + 1) (lv' := [(4, .int (x4_4 + 1)), (3, .int (w_m_row_6 x4_4.toNatClampNeg)), (5, .int x5_3), (2, .int x2_2), (1, .int x1_1), (0, .ref o)]) hx hb dX7_nextRow_144 hl (k := 2) rfl rfl (Nat.le_of_ble_eq_true rfl) rfl (fun ls hl => ?_)
                      refine lv_iinc (v := x5_3 + (-1)) (lv' := [(5, .int (x5_3 + (-1))), (4, .int (x4_4 + 1)), (3, .int (w_m_row_6 x4_4.toNatClampNeg)), (2, .int x2_2), (1, .int x1_1), (0, .ref o)]) hx hb dX7_nextRow_147 hl (k := 2) rfl rfl (Nat.le_of_ble_eq_true rfl) rfl (fun ls hl => ?_)
                      refine lv_goto (tgt := 107) hx hb dX7_nextRow_150 (by decide) ?_
                      exact ih_107 (x5_3 + (-1)) (x4_4 + 1) (w_m_row_6 x4_4.toNatClampNeg) (upd (upd w_m_row_6 x4_4.toNatClampNeg (w_m_row_6 x5_3.toNatClampNeg)) x5_3.toNatClampNeg (w_m_row_6 x4_4.toNatClampNeg)) (by first | (rw [ti_inc] <;> omega) | (rw [ti_dec] <;> omega) | (rw [ti_sub1] <;> omega)) (by first | (rw [ti_inc] <;> omega) | (rw [ti_dec] <;> omega) | (rw [ti_sub1] <;> omega)) (by first | (rw [ti_inc] <;> omega) | (rw [ti_dec] <;> omega) | (rw [ti_sub1] <;> omega)) (by first | (rw [ti_inc] <;> omega) | (rw [ti_dec] <;> omega) | (rw [ti_sub1] <;> omega)) (by rw [ti_inc] <;> omega) hF _ _ _ hh (lv_sub hl [0, 1, 2, 3, 4, 5] rfl)
                exact L_107 7 (m_orderMany - 1) (x1_1 + 1) (m_row x1_1.toNatClampNeg) (upd (upd m_row x1_1.toNatClampNeg (m_row x2_2.toNatClampNeg)) x2_2.toNatClampNeg (m_row x1_1.toNatClampNeg)) (by first | (rw [ti_inc] <;> omega) | (rw [ti_dec] <;> omega) | (rw [ti_sub1] <;> omega)) (by first | (rw [ti_inc] <;> omega) | (rw [ti_dec] <;> omega) | (rw [ti_sub1] <;> omega)) (by first | (rw [ti_inc] <;> omega) | (rw [ti_dec] <;> omega) | (rw [ti_sub1] <;> omega)) (by first | (rw [ti_inc] <;> omega) | (rw [ti_dec] <;> omega) | (rw [ti_sub1] <;> omega)) (by rw [ti_inc] <;> omega) hF _ _ _ hh (lv_sub hl [0, 1, 2, 3, 4, 5] rfl)
              · replace hF := hF.trans (if_neg c_59)
                have hji : ¬ x2_2.toInt = x1_1.toInt := fun h => by have h2 := Int32.toInt_inj.mp h; rw [h2] at c_59; exact c_59 (Int32.le_refl _)
                refine lv_iinc (v := x2_2 + (-1)) (lv' := [(2, .int (x2_2 + (-1))), (1, .int x1_1), (0, .ref o)]) hx hb dX7_nextRow_62 hl (k := 0) rfl rfl (Nat.le_of_ble_eq_true rfl) rfl (fun ls hl => ?_)
                refine lv_goto (tgt := 47) hx hb dX7_nextRow_65 (by decide) ?_
                exact ih_47 (x2_2 + (-1)) (by first | (rw [ti_dec] <;> omega) | (rw [ti_sub1] <;> omega)) (by first | (rw [ti_dec] <;> omega) | (rw [ti_sub1] <;> omega)) (by rw [ti_dec] <;> omega) hF _ _ _ hh (lv_sub hl [0, 1, 2] rfl)
          exact L_47 7 (m_orderMany - 1) (by first | (rw [ti_dec] <;> omega) | (rw [ti_sub1] <;> omega)) (by first | (rw [ti_dec] <;> omega) | (rw [ti_sub1] <;> omega)) (by rw [ti_sub1] <;> omega) hF _ _ _ hh (lv_sub hl [0, 1, 2] rfl)
        · replace hF := hF.trans (if_neg c_35)
          have i_35 : x1_1.toInt < 0 := ti_nle c_35
          refine lv_iconst (v := 0) hx hb dX7_nextRow_38 (by decide) ?_
          exact RT _ _ _ _ _ _ hh (by rw [hF]) (Or.inl ⟨_, rfl, by rw [hF], dX7_nextRow_39, Or.inr (Or.inl ⟨rfl, Or.inl rfl⟩)⟩)
      refine lv_if_lt (tgt := 34) hx hb dX7_nextRow_8 (by decide) (fun c_8 => ?_) (fun c_8 => ?_)
      · replace hF := hF.trans (if_pos c_8)
        have i_8 : x1_1.toInt < 0 := ti_lt.mp c_8
        exact K_34   hF _ _ _ hh (lv_sub hl [0, 1] rfl)
      · replace hF := hF.trans (if_neg c_8)
        have i_8 : 0 ≤ x1_1.toInt := ti_nlt c_8
        refine lv_aload_n hx hb dX7_nextRow_11 rfl (lv_at hl 1 rfl) ?_
        refine g_get KX hh in_X7_nextRow_X7 0 rfl rfl 20 (by decide) rfl (List.mem_of_getElem? (i := 2) rfl) dX7_nextRow_12 ?_
        refine lv_iload_n hx hb dX7_nextRow_15 rfl (lv_at hl 0 rfl) ?_
        refine g_iald KX hh 9 0 rfl rfl (vp_in_iff.mpr (by omega)) dX7_nextRow_16 ?_
        refine lv_aload_n hx hb dX7_nextRow_17 rfl (lv_at hl 1 rfl) ?_
        refine g_get KX hh in_X7_nextRow_X7 0 rfl rfl 20 (by decide) rfl (List.mem_of_getElem? (i := 2) rfl) dX7_nextRow_18 ?_
        refine lv_iload_n hx hb dX7_nextRow_21 rfl (lv_at hl 0 rfl) ?_
        refine lv_iconst (v := 1) hx hb dX7_nextRow_22 (by decide) ?_
        refine lv_iadd hx hb dX7_nextRow_23 ?_
        refine g_iald KX hh 9 0 rfl rfl (vp_in_iff.mpr (by rw [ti_inc] <;> omega)) dX7_nextRow_24 ?_
        refine lv_icmp_le (tgt := 34) hx hb dX7_nextRow_25 (by decide) (fun c_25 => ?_) (fun c_25 => ?_)
        · replace hF := hF.trans (if_pos c_25)
          exact K_34   hF _ _ _ hh (lv_sub hl [0, 1] rfl)
        · replace hF := hF.trans (if_neg c_25)
          refine lv_iinc (v := x1_1 + (-1)) (lv' := [(1, .int (x1_1 + (-1))), (0, .ref o)]) hx hb dX7_nextRow_28 hl (k := 0) rfl rfl (Nat.le_of_ble_eq_true rfl) rfl (fun ls hl => ?_)
          refine lv_goto (tgt := 7) hx hb dX7_nextRow_31 (by decide) ?_
          exact ih_7 (x1_1 + (-1)) (by first | (rw [ti_dec] <;> omega) | (rw [ti_sub2] <;> omega)) (by first | (rw [ti_dec] <;> omega) | (rw [ti_sub2] <;> omega)) (by rw [ti_dec] <;> omega) hF _ _ _ hh (lv_sub hl [0, 1] rfl)
  exact L_7 6 (m_orderMany - 2) (by first | (rw [ti_dec] <;> omega) | (rw [ti_sub2] <;> omega)) (by first | (rw [ti_dec] <;> omega) | (rw [ti_sub2] <;> omega)) (by rw [ti_sub2] <;> omega) hF _ _ _ hh (lv_sub hl [0, 1] rfl)
theorem zb_F_X7_nextRow_107  : ∀ (n : Nat) (x5_3 : Int32) (x4_4 : Int32) (x3_5 : Int32) (w_m_row_6 : Nat → Int32), (F_X7_nextRow_107 n x5_3 x4_4 x3_5 w_m_row_6).1 = 0 ∨ (F_X7_nextRow_107 n x5_3 x4_4 x3_5 w_m_row_6).1 = 1 := by
  intro n
  induction n with
  | zero => intros; exact Or.inl rfl
  | succ n ih =>
    intros
    rw [F_X7_nextRow_107.eq_2]
    split
    · exact Or.inr rfl
    · exact ih _ _ _ _
theorem zb_F_X7_nextRow_47 {m_row : Nat → Int32} {m_orderMany : Int32} {x1_1 : Int32} : ∀ (n : Nat) (x2_2 : Int32), (F_X7_nextRow_47 m_row m_orderMany x1_1 n x2_2).1 = 0 ∨ (F_X7_nextRow_47 m_row m_orderMany x1_1 n x2_2).1 = 1 := by
  intro n
  induction n with
  | zero => intros; exact Or.inl rfl
  | succ n ih =>
    intros
    rw [F_X7_nextRow_47.eq_2]
    split
    · exact zb_F_X7_nextRow_107 _ _ _ _ _
    · exact ih _
theorem zb_F_X7_nextRow_34 {m_row : Nat → Int32} {m_orderMany : Int32} {x1_1 : Int32}  : (F_X7_nextRow_34 m_row m_orderMany x1_1).1 = 0 ∨ (F_X7_nextRow_34 m_row m_orderMany x1_1).1 = 1 := by
  unfold F_X7_nextRow_34
  split
  · exact zb_F_X7_nextRow_47 _ _
  · exact Or.inl rfl
theorem zb_F_X7_nextRow_7 {m_row : Nat → Int32} {m_orderMany : Int32} : ∀ (n : Nat) (x1_1 : Int32), (F_X7_nextRow_7 m_row m_orderMany n x1_1).1 = 0 ∨ (F_X7_nextRow_7 m_row m_orderMany n x1_1).1 = 1 := by
  intro n
  induction n with
  | zero => intros; exact Or.inl rfl
  | succ n ih =>
    intros
    rw [F_X7_nextRow_7.eq_2]
    split
    · exact zb_F_X7_nextRow_34 
    · split
      · exact zb_F_X7_nextRow_34 
      · exact ih _
theorem z_X7_nextRow (m_row : Nat → Int32) (m_orderMany : Int32) : (F_X7_nextRow m_row m_orderMany).1 = 0 ∨ (F_X7_nextRow m_row m_orderMany).1 = 1 := by
  unfold F_X7_nextRow
  exact zb_F_X7_nextRow_7 _ _
