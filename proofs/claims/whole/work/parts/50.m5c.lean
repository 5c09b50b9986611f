def F_X7_order_c101 (k_82 : (Nat → Int32) → (Nat → Int32) → Int32 → Int32 × (Nat → Int32) × (Nat → Int32) × Int32 × Int32) (r83_8 : Int32 × (Nat → Int32)) (r101_9 : (Nat → Int32) × Int32) : Int32 × (Nat → Int32) × (Nat → Int32) × Int32 × Int32 := (k_82 r83_8.2 r101_9.1 r101_9.2)
def F_X7_order_c83 (m_clock : Nat → Int32) (x1 : Int32) (x2_2 : Int32) (w_m_best_6 : Nat → Int32) (w_m_orderLeast_7 : Int32) (k_82 : (Nat → Int32) → (Nat → Int32) → Int32 → Int32 × (Nat → Int32) × (Nat → Int32) × Int32 × Int32) (r83_8 : Int32 × (Nat → Int32)) : Int32 × (Nat → Int32) × (Nat → Int32) × Int32 × Int32 := (if r83_8.1 = 0 then (if x1 = (-1) then (w_m_orderLeast_7, r83_8.2, w_m_best_6, x2_2, w_m_orderLeast_7) else (if x2_2 ≤ x1 then ((-1), r83_8.2, w_m_best_6, x2_2, w_m_orderLeast_7) else (w_m_best_6 x1.toNatClampNeg, r83_8.2, w_m_best_6, x2_2, w_m_orderLeast_7))) else (if w_m_orderLeast_7 ≤ (F_X7_greatest m_clock r83_8.2 x2_2) then (k_82 r83_8.2 w_m_best_6 w_m_orderLeast_7) else (F_X7_order_c101 k_82 r83_8 (F_X7_take m_clock r83_8.2 w_m_best_6 x2_2))))
def F_X7_order_82 (m_clock : Nat → Int32) (x1 : Int32) (x2_2 : Int32) : Nat → (Nat → Int32) → (Nat → Int32) → Int32 → Int32 × (Nat → Int32) × (Nat → Int32) × Int32 × Int32
  | 0, _, _, _ => default
  | n + 1, w_m_row_5, w_m_best_6, w_m_orderLeast_7 => (F_X7_order_c83 m_clock x1 x2_2 w_m_best_6 w_m_orderLeast_7 (F_X7_order_82 m_clock x1 x2_2 n) (F_X7_nextRow w_m_row_5 x2_2))
def F_X7_order_c79 (m_clock : Nat → Int32) (x1 : Int32) (x2_2 : Int32) (w_m_row_3 : Nat → Int32) (r79_4 : (Nat → Int32) × Int32) : Int32 × (Nat → Int32) × (Nat → Int32) × Int32 × Int32 := (F_X7_order_82 m_clock x1 x2_2 262145 w_m_row_3 r79_4.1 r79_4.2)
def F_X7_order_12 (m_told : Int32) (m_clock : Nat → Int32) (m_best : Nat → Int32) (m_orderMany : Int32) (m_orderLeast : Int32) (x1 : Int32) : Nat → Int32 → Int32 → (Nat → Int32) → Int32 × (Nat → Int32) × (Nat → Int32) × Int32 × Int32
  | 0, _, _, _ => default
  | n + 1, x3_1, x2_2, w_m_row_3 => (if 8 ≤ x3_1 then (if (F_X7_in x2_2 1 6) = 0 then ((-4), w_m_row_3, m_best, m_orderMany, m_orderLeast) else (F_X7_order_c79 m_clock x1 x2_2 w_m_row_3 (F_X7_take m_clock w_m_row_3 m_best x2_2))) else (if (F_X7_isExact m_told m_clock x3_1) = 0 then ((F_X7_order_12 m_told m_clock m_best m_orderMany m_orderLeast x1 n) (x3_1 + 1) x2_2 w_m_row_3) else (if (m_clock (6 * x3_1).toNatClampNeg) = 0 then (if 6 ≤ x2_2 then ((F_X7_order_12 m_told m_clock m_best m_orderMany m_orderLeast x1 n) (x3_1 + 1) (x2_2 + 1) w_m_row_3) else ((F_X7_order_12 m_told m_clock m_best m_orderMany m_orderLeast x1 n) (x3_1 + 1) (x2_2 + 1) (upd w_m_row_3 x2_2.toNatClampNeg x3_1))) else ((F_X7_order_12 m_told m_clock m_best m_orderMany m_orderLeast x1 n) (x3_1 + 1) x2_2 w_m_row_3))))
def F_X7_order (m_told : Int32) (m_clock : Nat → Int32) (m_row : Nat → Int32) (m_best : Nat → Int32) (m_orderMany : Int32) (m_orderLeast : Int32) (x1 : Int32) : Int32 × (Nat → Int32) × (Nat → Int32) × Int32 × Int32 := (if (-1) ≤ x1 then (F_X7_order_12 m_told m_clock m_best m_orderMany m_orderLeast x1 9 0 0 m_row) else ((-3), m_row, m_best, m_orderMany, m_orderLeast))
theorem in_X7_order_X7 : ∀ x ∈ u_ws RX7 TX7 26, x ∈ wsX7_order := by decide +kernel
set_option maxHeartbeats 2000000 in
set_option maxRecDepth 100000 in
theorem c_X7_order (l : Launch) (D : va_G) (cI cZ cC cH : ClassId) (o a_clock a_note a_text a_read a_fit a_shown a_image a_isKept a_row a_best : Nat) (m_told : Int32) (m_isRead1 : Int32) (m_clock : Nat → Int32) (m_note : Nat → Int32) (m_noted : Int32) (m_bytes : Int32) (m_text : Nat → Int32) (m_position : Int32) (m_tokenAt : Int32) (m_token : Int64) (m_digits : Int32) (m_number : Int32) (m_faultAt : Int32) (m_readMany : Int32) (m_readTold : Int32) (m_read : Nat → Int32) (m_fit : Nat → Int32) (m_shown : Nat → Int32) (m_image : Nat → Int32) (m_isKept : Nat → Int32) (m_row : Nat → Int32) (m_best : Nat → Int32) (m_againAt : Int32) (m_againStep : Int32) (m_orderMany : Int32) (m_orderLeast : Int32) (x1 : Int32) (hrow : RowOk m_row) : MC l D (TY cI cZ cC cH) yX7_order wsX7_order 3 64 [.ref o, .int x1] (WM cI cZ cC cH o a_clock a_note a_text a_read a_fit a_shown a_image a_isKept a_row a_best m_told m_isRead1 m_clock m_note m_noted m_bytes m_text m_position m_tokenAt m_token m_digits m_number m_faultAt m_readMany m_readTold m_read m_fit m_shown m_image m_isKept m_row m_best m_againAt m_againStep m_orderMany m_orderLeast) (some (.int ((F_X7_order m_told m_clock m_row m_best m_orderMany m_orderLeast x1).1))) (WM cI cZ cC cH o a_clock a_note a_text a_read a_fit a_shown a_image a_isKept a_row a_best m_told m_isRead1 m_clock m_note m_noted m_bytes m_text m_position m_tokenAt m_token m_digits m_number m_faultAt m_readMany m_readTold m_read m_fit m_shown m_image m_isKept (F_X7_order m_told m_clock m_row m_best m_orderMany m_orderLeast x1).2.1 (F_X7_order m_told m_clock m_row m_best m_orderMany m_orderLeast x1).2.2.1 m_againAt m_againStep (F_X7_order m_told m_clock m_row m_best m_orderMany m_orderLeast x1).2.2.2.1 (F_X7_order m_told m_clock m_row m_best m_orderMany m_orderLeast x1).2.2.2.2) := by
  obtain ⟨R, hF⟩ : ∃ R, R = F_X7_order m_told m_clock m_row m_best m_orderMany m_orderLeast x1 := ⟨_, rfl⟩
  rw [← hF]
  refine MC.of (cc := cX7_order) (maxL := 4) (ret := (some .int)) RX7 rfl (by decide +kernel) rfl (Nat.le_of_ble_eq_true rfl) ?_
  intro p e s m args below meth c A Q KX RT hh ls hl
  have z0 : (0 : Int32).toInt = 0 := rfl
  have z1 : (1 : Int32).toInt = 1 := rfl
  have zm : (-1 : Int32).toInt = -1 := rfl
  have hx := KX.1
  have hb := KX.2.1
  have hl : lv_has ls 4 [(0, .ref o), (1, .int x1)] := hl
  unfold F_X7_order at hF
  refine lv_iload_n hx hb dX7_order_0 rfl (lv_at hl 1 rfl) ?_
  refine lv_iconst (v := (-1)) hx hb dX7_order_1 (by decide) ?_
  refine lv_icmp_ge (tgt := 8) hx hb dX7_order_2 (by decide) (fun c_2 => ?_) (fun c_2 => ?_)
  · replace hF := hF.trans (if_pos c_2)
    have i_2 : (-1) ≤ x1.toInt := ti_le.mp c_2
    refine lv_iconst (v := 0) hx hb dX7_order_8 (by decide) ?_
    refine lv_istore_n (lv' := [(2, .int 0), (0, .ref o), (1, .int x1)]) hx hb dX7_order_9 rfl hl (Nat.le_of_ble_eq_true rfl) rfl (fun ls hl => ?_)
    refine lv_iconst (v := 0) hx hb dX7_order_10 (by decide) ?_
    refine lv_istore_n (lv' := [(3, .int 0), (2, .int 0), (0, .ref o), (1, .int x1)]) hx hb dX7_order_11 rfl hl (Nat.le_of_ble_eq_true rfl) rfl (fun ls hl => ?_)
    have L_12 : ∀ (n_12 : Nat) (x3_1 : Int32) (x2_2 : Int32) (w_m_row_3 : Nat → Int32) (i0_12 : 0 ≤ x3_1.toInt) (i1_12 : x3_1.toInt ≤ 8) (i2_12 : 0 ≤ x2_2.toInt) (i3_12 : x2_2.toInt ≤ x3_1.toInt) (ha_12 : Asc x2_2 x3_1 w_m_row_3) (_ : (8 - x3_1.toInt).toNat < n_12) (_ : R = (F_X7_order_12 m_told m_clock m_best m_orderMany m_orderLeast x1) n_12 x3_1 x2_2 w_m_row_3) (ls : Array Slot) (H : Heap) (locs : List Loc) (_ : HS D A s.heap (WM cI cZ cC cH o a_clock a_note a_text a_read a_fit a_shown a_image a_isKept a_row a_best m_told m_isRead1 m_clock m_note m_noted m_bytes m_text m_position m_tokenAt m_token m_digits m_number m_faultAt m_readMany m_readTold m_read m_fit m_shown m_image m_isKept w_m_row_3 m_best m_againAt m_againStep m_orderMany m_orderLeast) H locs) (_ : lv_has ls 4 [(3, .int x3_1), (2, .int x2_2), (0, .ref o), (1, .int x1)]), W p l e { frames := 3, cells := 0, slots := 0, locals := 64 } s m args below meth c H locs 0 0 Q (F0 m 12 ls []) := by
      intro n_12
      induction n_12 with
      | zero => intro x3_1 x2_2 w_m_row_3 i0_12 i1_12 i2_12 i3_12 ha_12 hm; exact absurd hm (Nat.not_lt_zero _)
      | succ n_12 ih_12 =>
        intro x3_1 x2_2 w_m_row_3 i0_12 i1_12 i2_12 i3_12 ha_12 hm_12 hF ls H locs hh hl
        rw [F_X7_order_12.eq_2] at hF
        refine lv_iload_n hx hb dX7_order_12 rfl (lv_at hl 0 rfl) ?_
        refine lv_bipush (v := 8) hx hb dX7_order_13 (by decide) ?_
        refine lv_icmp_ge (tgt := 60) hx hb dX7_order_15 (by decide) (fun c_15 => ?_) (fun c_15 => ?_)
        · replace hF := hF.trans (if_pos c_15)
          have i_15 : 8 ≤ x3_1.toInt := ti_le.mp c_15
          refine lv_iload_n hx hb dX7_order_60 rfl (lv_at hl 1 rfl) ?_
          refine lv_iconst (v := 1) hx hb dX7_order_61 (by decide) ?_
          refine lv_bipush (v := 6) hx hb dX7_order_62 (by decide) ?_
          refine g_callS (As := [.int x2_2, .int 1, .int 6]) (rest := []) KX rfl ⟨Nat.le_of_ble_eq_true rfl, Nat.le_of_ble_eq_true rfl⟩ hh hl (c_X7_in l D cI cZ cC cH  x2_2 1 6 ) JN.no 3 gX7_order_X7_in rfl (by decide +kernel) ⟨Nat.le_of_ble_eq_true rfl, Nat.le_of_ble_eq_true rfl⟩ rfl rfl (Nat.le_of_ble_eq_true rfl) dX7_order_64 (fun H locs hh => ?_)
          refine W.eq (g2 := F0 m 67 ls [.int (F_X7_in x2_2 1 6)]) rfl ?_
          refine lv_if_ne (tgt := 73) hx hb dX7_order_67 (by decide) (fun c_67 => ?_) (fun c_67 => ?_)
          · replace hF := hF.trans (if_neg c_67)
            obtain ⟨k0_67, k1_67⟩ : (1 : Int) ≤ x2_2.toInt ∧ x2_2.toInt ≤ 6 := X7_in_in c_67
            have hri_82 : RI x2_2.toInt.toNat w_m_row_3 := ha_12.RI (by omega) (by omega)
            have hrow_82 : RowOk w_m_row_3 := hri_82.1
            refine lv_aload_n hx hb dX7_order_73 rfl (lv_at hl 2 rfl) ?_
            refine lv_iload_n hx hb dX7_order_74 rfl (lv_at hl 1 rfl) ?_
            refine g_put KX hh in_X7_order_X7 tyX7 tyX7_ok nmX7 0 rfl rfl 24 (by decide) rfl rfl rfl (Nat.le_of_ble_eq_true rfl) (List.mem_of_getElem? (i := 3) rfl) (w' := (WM cI cZ cC cH o a_clock a_note a_text a_read a_fit a_shown a_image a_isKept a_row a_best m_told m_isRead1 m_clock m_note m_noted m_bytes m_text m_position m_tokenAt m_token m_digits m_number m_faultAt m_readMany m_readTold m_read m_fit m_shown m_image m_isKept w_m_row_3 m_best m_againAt m_againStep x2_2 m_orderLeast)) rfl rfl dX7_order_75 (fun H locs hh => ?_)
            refine lv_aload_n hx hb dX7_order_78 rfl (lv_at hl 2 rfl) ?_
            refine g_callV (As := []) (rest := []) KX rfl ⟨Nat.le_of_ble_eq_true rfl, Nat.le_of_ble_eq_true rfl⟩ hh hl (c_X7_take l D cI cZ cC cH o a_clock a_note a_text a_read a_fit a_shown a_image a_isKept a_row a_best m_told m_isRead1 m_clock m_note m_noted m_bytes m_text m_position m_tokenAt m_token m_digits m_number m_faultAt m_readMany m_readTold m_read m_fit m_shown m_image m_isKept w_m_row_3 m_best m_againAt m_againStep x2_2 m_orderLeast  (by first | with_reducible assumption | omega | decide | exact tn_lt (n := 8) (by omega) (by omega)) (by first | with_reducible assumption | omega | decide | exact tn_lt (n := 8) (by omega) (by omega)) (by first | with_reducible assumption | omega | decide | exact tn_lt (n := 8) (by omega) (by omega))) JN.all 0 gX7_order_X7_take rfl (by decide +kernel) ⟨Nat.le_of_ble_eq_true rfl, Nat.le_of_ble_eq_true rfl⟩ 0 7 rfl rfl rfl rfl rfl (Nat.le_of_ble_eq_true rfl) dX7_order_79 (fun H locs hh => ?_)
            refine W.eq (g2 := F0 m 82 ls []) rfl ?_
            generalize q_79 : F_X7_take m_clock w_m_row_3 m_best x2_2 = r79_4 at hh hF ⊢
            unfold F_X7_order_c79 at hF
            have L_82 : ∀ (n_82 : Nat) (w_m_row_5 : Nat → Int32) (w_m_best_6 : Nat → Int32) (w_m_orderLeast_7 : Int32) (hri_82 : RI x2_2.toInt.toNat w_m_row_5) (_ : VD x2_2.toInt.toNat w_m_row_5 < n_82) (_ : R = (F_X7_order_82 m_clock x1 x2_2) n_82 w_m_row_5 w_m_best_6 w_m_orderLeast_7) (ls : Array Slot) (H : Heap) (locs : List Loc) (_ : HS D A s.heap (WM cI cZ cC cH o a_clock a_note a_text a_read a_fit a_shown a_image a_isKept a_row a_best m_told m_isRead1 m_clock m_note m_noted m_bytes m_text m_position m_tokenAt m_token m_digits m_number m_faultAt m_readMany m_readTold m_read m_fit m_shown m_image m_isKept w_m_row_5 w_m_best_6 m_againAt m_againStep x2_2 w_m_orderLeast_7) H locs) (_ : lv_has ls 4 [(3, .int x3_1), (2, .int x2_2), (0, .ref o), (1, .int x1)]), W p l e { frames := 3, cells := 0, slots := 0, locals := 64 } s m args below meth c H locs 0 0 Q (F0 m 82 ls []) := by
              intro n_82
              induction n_82 with
              | zero => intro w_m_row_5 w_m_best_6 w_m_orderLeast_7 hri_82 hm; exact absurd hm (Nat.not_lt_zero _)
              | succ n_82 ih_82 =>
                intro w_m_row_5 w_m_best_6 w_m_orderLeast_7 hri_82 hm_82 hF ls H locs hh hl
                rw [F_X7_order_82.eq_2] at hF
                refine lv_aload_n hx hb dX7_order_82 rfl (lv_at hl 2 rfl) ?_
                refine g_callV (As := []) (rest := []) KX rfl ⟨Nat.le_of_ble_eq_true rfl, Nat.le_of_ble_eq_true rfl⟩ hh hl (c_X7_nextRow l D cI cZ cC cH o a_clock a_note a_text a_read a_fit a_shown a_image a_isKept a_row a_best m_told m_isRead1 m_clock m_note m_noted m_bytes m_text m_position m_tokenAt m_token m_digits m_number m_faultAt m_readMany m_readTold m_read m_fit m_shown m_image m_isKept w_m_row_5 w_m_best_6 m_againAt m_againStep x2_2 w_m_orderLeast_7  (by first | with_reducible assumption | omega | decide | exact tn_lt (n := 8) (by omega) (by omega)) (by first | with_reducible assumption | omega | decide | exact tn_lt (n := 8) (by omega) (by omega))) JN.all 0 gX7_order_X7_nextRow rfl (by decide +kernel) ⟨Nat.le_of_ble_eq_true rfl, Nat.le_of_ble_eq_true rfl⟩ 0 7 rfl rfl rfl rfl rfl (Nat.le_of_ble_eq_true rfl) dX7_order_83 (fun H locs hh => ?_)
                refine W.eq (g2 := F0 m 86 ls [.int ((F_X7_nextRow w_m_row_5 x2_2).1)]) rfl ?_
                generalize q_83 : F_X7_nextRow w_m_row_5 x2_2 = r83_8 at hh hF ⊢
                have hz_83 : r83_8.1 = 0 ∨ r83_8.1 = 1 := by rw [← q_83]; exact z_X7_nextRow _ _
                have hnx := nr_stepx hri_82 (by omega) (by omega)
                rw [q_83] at hnx
                unfold F_X7_order_c83 at hF
                refine lv_if_eq (tgt := 107) hx hb dX7_order_86 (by decide) (fun c_86 => ?_) (fun c_86 => ?_)
                · replace hF := hF.trans (if_pos c_86)
                  have i_86 : r83_8.1.toInt = 0 := congrArg Int32.toInt c_86
                  refine lv_iload_n hx hb dX7_order_107 rfl (lv_at hl 3 rfl) ?_
                  refine lv_iconst (v := (-1)) hx hb dX7_order_108 (by decide) ?_
                  refine lv_icmp_ne (tgt := 119) hx hb dX7_order_109 (by decide) (fun c_109 => ?_) (fun c_109 => ?_)
                  · replace hF := hF.trans (if_neg c_109)
                    have i_109 : ¬ x1.toInt = (-1) := ti_ne c_109
                    refine lv_iload_n hx hb dX7_order_119 rfl (lv_at hl 3 rfl) ?_
                    refine lv_iload_n hx hb dX7_order_120 rfl (lv_at hl 1 rfl) ?_
                    refine lv_icmp_ge (tgt := 133) hx hb dX7_order_121 (by decide) (fun c_121 => ?_) (fun c_121 => ?_)
                    · replace hF := hF.trans (if_pos c_121)
                      have i_121 : x2_2.toInt ≤ x1.toInt := ti_le.mp c_121
                      refine lv_iconst (v := (-1)) hx hb dX7_order_133 (by decide) ?_
                      exact RT _ _ _ _ _ _ hh (by rw [hF]) (Or.inl ⟨_, rfl, by rw [hF], dX7_order_134, Or.inl rfl⟩)
                    · replace hF := hF.trans (if_neg c_121)
                      have i_121 : x1.toInt < x2_2.toInt := ti_nle c_121
                      refine lv_aload_n hx hb dX7_order_124 rfl (lv_at hl 2 rfl) ?_
                      refine g_get KX hh in_X7_order_X7 0 rfl rfl 21 (by decide) rfl (List.mem_of_getElem? (i := 5) rfl) dX7_order_125 ?_
                      refine lv_iload_n hx hb dX7_order_128 rfl (lv_at hl 3 rfl) ?_
                      refine g_iald KX hh 10 0 rfl rfl (vp_in_iff.mpr (by omega)) dX7_order_129 ?_
                      refine lv_goto (tgt := 134) hx hb dX7_order_130 (by decide) ?_
                      exact RT _ _ _ _ _ _ hh (by rw [hF]) (Or.inl ⟨_, rfl, by rw [hF], dX7_order_134, Or.inl rfl⟩)
                  · replace hF := hF.trans (if_pos c_109)
                    have i_109 : x1.toInt = (-1) := congrArg Int32.toInt c_109
                    refine lv_aload_n hx hb dX7_order_112 rfl (lv_at hl 2 rfl) ?_
                    refine g_get KX hh in_X7_order_X7 0 rfl rfl 25 (by decide) rfl (List.mem_of_getElem? (i := 4) rfl) dX7_order_113 ?_
                    refine lv_goto (tgt := 134) hx hb dX7_order_116 (by decide) ?_
                    exact RT _ _ _ _ _ _ hh (by rw [hF]) (Or.inl ⟨_, rfl, by rw [hF], dX7_order_134, Or.inl rfl⟩)
                · replace hF := hF.trans (if_neg c_86)
                  have i_86 : ¬ r83_8.1.toInt = 0 := ti_ne c_86
                  obtain ⟨hri_89, hv_89⟩ := hnx c_86
                  have hrow_89 : RowOk r83_8.2 := hri_89.1
                  refine lv_aload_n hx hb dX7_order_89 rfl (lv_at hl 2 rfl) ?_
                  refine g_callV (As := []) (rest := []) KX rfl ⟨Nat.le_of_ble_eq_true rfl, Nat.le_of_ble_eq_true rfl⟩ hh hl (c_X7_greatest l D cI cZ cC cH o a_clock a_note a_text a_read a_fit a_shown a_image a_isKept a_row a_best m_told m_isRead1 m_clock m_note m_noted m_bytes m_text m_position m_tokenAt m_token m_digits m_number m_faultAt m_readMany m_readTold m_read m_fit m_shown m_image m_isKept r83_8.2 w_m_best_6 m_againAt m_againStep x2_2 w_m_orderLeast_7  (by first | with_reducible assumption | omega | decide | exact tn_lt (n := 8) (by omega) (by omega)) (by first | with_reducible assumption | omega | decide | exact tn_lt (n := 8) (by omega) (by omega)) (by first | with_reducible assumption | omega | decide | exact tn_lt (n := 8) (by omega) (by omega))) JN.all 0 gX7_order_X7_greatest rfl (by decide +kernel) ⟨Nat.le_of_ble_eq_true rfl, Nat.le_of_ble_eq_true rfl⟩ 0 7 rfl rfl rfl rfl rfl (Nat.le_of_ble_eq_true rfl) dX7_order_90 (fun H locs hh => ?_)
                  refine W.eq (g2 := F0 m 93 ls [.int (F_X7_greatest m_clock r83_8.2 x2_2)]) rfl ?_
                  refine lv_aload_n hx hb dX7_order_93 rfl (lv_at hl 2 rfl) ?_
                  refine g_get KX hh in_X7_order_X7 0 rfl rfl 25 (by decide) rfl (List.mem_of_getElem? (i := 4) rfl) dX7_order_94 ?_
                  refine lv_icmp_ge (tgt := 82) hx hb dX7_order_97 (by decide) (fun c_97 => ?_) (fun c_97 => ?_)
                  · replace hF := hF.trans (if_pos c_97)
                    exact ih_82 r83_8.2 w_m_best_6 w_m_orderLeast_7 (by first | with_reducible assumption | omega | decide) (Nat.lt_of_lt_of_le hv_89 (Nat.le_of_lt_succ hm_82)) hF _ _ _ hh (lv_sub hl [0, 1, 2, 3] rfl)
                  · replace hF := hF.trans (if_neg c_97)
                    refine lv_aload_n hx hb dX7_order_100 rfl (lv_at hl 2 rfl) ?_
                    refine g_callV (As := []) (rest := []) KX rfl ⟨Nat.le_of_ble_eq_true rfl, Nat.le_of_ble_eq_true rfl⟩ hh hl (c_X7_take l D cI cZ cC cH o a_clock a_note a_text a_read a_fit a_shown a_image a_isKept a_row a_best m_told m_isRead1 m_clock m_note m_noted m_bytes m_text m_position m_tokenAt m_token m_digits m_number m_faultAt m_readMany m_readTold m_read m_fit m_shown m_image m_isKept r83_8.2 w_m_best_6 m_againAt m_againStep x2_2 w_m_orderLeast_7  (by first | with_reducible assumption | omega | decide | exact tn_lt (n := 8) (by omega) (by omega)) (by first | with_reducible assumption | omega | decide | exact tn_lt (n := 8) (by omega) (by omega)) (by first | with_reducible assumption | omega | decide | exact tn_lt (n := 8) (by omega) (by omega))) JN.all 0 gX7_order_X7_take rfl (by decide +kernel) ⟨Nat.le_of_ble_eq_true rfl, Nat.le_of_ble_eq_true rfl⟩ 0 7 rfl rfl rfl rfl rfl (Nat.le_of_ble_eq_true rfl) dX7_order_101 (fun H locs hh => ?_)
                    refine W.eq (g2 := F0 m 104 ls []) rfl ?_
                    generalize q_101 : F_X7_take m_clock r83_8.2 w_m_best_6 x2_2 = r101_9 at hh hF ⊢
                    unfold F_X7_order_c101 at hF
                    refine lv_goto (tgt := 82) hx hb dX7_order_104 (by decide) ?_
                    exact ih_82 r83_8.2 r101_9.1 r101_9.2 (by first | with_reducible assumption | omega | decide) (Nat.lt_of_lt_of_le hv_89 (Nat.le_of_lt_succ hm_82)) hF _ _ _ hh (lv_sub hl [0, 1, 2, 3] rfl)
            exact L_82 262145 w_m_row_3 r79_4.1 r79_4.2 (by first | with_reducible assumption | omega | decide) (VD_lt hri_82.1) hF _ _ _ hh (lv_sub hl [0, 1, 2, 3] rfl)
          · replace hF := hF.trans (if_pos c_67)
            refine lv_bipush (v := (-4)) hx hb dX7_order_70 (by decide) ?_
            exact RT _ _ _ _ _ _ hh (by rw [hF]) (Or.inl ⟨_, rfl, by rw [hF], dX7_order_72, Or.inl rfl⟩)
        · replace hF := hF.trans (if_neg c_15)
          have i_15 : x3_1.toInt < 8 := ti_nle c_15
          refine lv_aload_n hx hb dX7_order_18 rfl (lv_at hl 2 rfl) ?_
          refine lv_iload_n hx hb dX7_order_19 rfl (lv_at hl 0 rfl) ?_
          refine g_callV (As := [.int x3_1]) (rest := []) KX rfl ⟨Nat.le_of_ble_eq_true rfl, Nat.le_of_ble_eq_true rfl⟩ hh hl (c_X7_isExact l D cI cZ cC cH o a_clock a_note a_text a_read a_fit a_shown a_image a_isKept a_row a_best m_told m_isRead1 m_clock m_note m_noted m_bytes m_text m_position m_tokenAt m_token m_digits m_number m_faultAt m_readMany m_readTold m_read m_fit m_shown m_image m_isKept w_m_row_3 m_best m_againAt m_againStep m_orderMany m_orderLeast x3_1 ) JN.all 1 gX7_order_X7_isExact rfl (by decide +kernel) ⟨Nat.le_of_ble_eq_true rfl, Nat.le_of_ble_eq_true rfl⟩ 0 7 rfl rfl rfl rfl rfl (Nat.le_of_ble_eq_true rfl) dX7_order_20 (fun H locs hh => ?_)
          refine W.eq (g2 := F0 m 23 ls [.int (F_X7_isExact m_told m_clock x3_1)]) rfl ?_
          refine lv_if_eq (tgt := 54) hx hb dX7_order_23 (by decide) (fun c_23 => ?_) (fun c_23 => ?_)
          · replace hF := hF.trans (if_pos c_23)
            refine lv_iinc (v := x3_1 + 1) (lv' := [(3, .int (x3_1 + 1)), (2, .int x2_2), (0, .ref o), (1, .int x1)]) hx hb dX7_order_54 hl (k := 0) rfl rfl (Nat.le_of_ble_eq_true rfl) rfl (fun ls hl => ?_)
            refine lv_goto (tgt := 12) hx hb dX7_order_57 (by decide) ?_
            have e_inc : (x3_1 + 1).toInt = _ := ti_inc (by omega)
            exact ih_12 (x3_1 + 1) x2_2 w_m_row_3 (by first | with_reducible assumption | omega | decide) (by first | with_reducible assumption | omega | decide) (by first | with_reducible assumption | omega | decide) (by first | with_reducible assumption | omega | decide) (by first | with_reducible exact Asc.init hrow | with_reducible exact ha_12.add i2_12 (by omega) i0_12 (by omega) | with_reducible exact ha_12.more (by omega) (by omega) (by omega) | with_reducible exact ha_12.skip (by omega)) (by omega) hF _ _ _ hh (lv_sub hl [0, 1, 2, 3] rfl)
          · replace hF := hF.trans (if_neg c_23)
            obtain ⟨k0_23, k1_23⟩ := X7_isExact_in c_23
            refine lv_aload_n hx hb dX7_order_26 rfl (lv_at hl 2 rfl) ?_
            refine g_get KX hh in_X7_order_X7 0 rfl rfl 2 (by decide) rfl (List.mem_of_getElem? (i := 1) rfl) dX7_order_27 ?_
            refine lv_bipush (v := 6) hx hb dX7_order_30 (by decide) ?_
            refine lv_iload_n hx hb dX7_order_32 rfl (lv_at hl 0 rfl) ?_
            refine lv_imul hx hb dX7_order_33 ?_
            refine g_iald KX hh 1 0 rfl rfl (ix60 (by omega) (by omega)) dX7_order_34 ?_
            refine lv_if_ne (tgt := 54) hx hb dX7_order_35 (by decide) (fun c_35 => ?_) (fun c_35 => ?_)
            · replace hF := hF.trans (if_neg c_35)
              refine lv_iinc (v := x3_1 + 1) (lv' := [(3, .int (x3_1 + 1)), (2, .int x2_2), (0, .ref o), (1, .int x1)]) hx hb dX7_order_54 hl (k := 0) rfl rfl (Nat.le_of_ble_eq_true rfl) rfl (fun ls hl => ?_)
              refine lv_goto (tgt := 12) hx hb dX7_order_57 (by decide) ?_
              have e_inc : (x3_1 + 1).toInt = _ := ti_inc (by omega)
              exact ih_12 (x3_1 + 1) x2_2 w_m_row_3 (by first | with_reducible assumption | omega | decide) (by first | with_reducible assumption | omega | decide) (by first | with_reducible assumption | omega | decide) (by first | with_reducible assumption | omega | decide) (by first | with_reducible exact Asc.init hrow | with_reducible exact ha_12.add i2_12 (by omega) i0_12 (by omega) | with_reducible exact ha_12.more (by omega) (by omega) (by omega) | with_reducible exact ha_12.skip (by omega)) (by omega) hF _ _ _ hh (lv_sub hl [0, 1, 2, 3] rfl)
            · replace hF := hF.trans (if_pos c_35)
              refine lv_iload_n hx hb dX7_order_38 rfl (lv_at hl 1 rfl) ?_
              refine lv_bipush (v := 6) hx hb dX7_order_39 (by decide) ?_
              refine lv_icmp_ge (tgt := 51) hx hb dX7_order_41 (by decide) (fun c_41 => ?_) (fun c_41 => ?_)
              · replace hF := hF.trans (if_pos c_41)
                have i_41 : 6 ≤ x2_2.toInt := ti_le.mp c_41
                have e_m : (x2_2 + 1).toInt = _ := ti_inc (by omega)
                refine lv_iinc (v := x2_2 + 1) (lv' := [(2, .int (x2_2 + 1)), (3, .int x3_1), (0, .ref o), (1, .int x1)]) hx hb dX7_order_51 hl (k := 1) rfl rfl (Nat.le_of_ble_eq_true rfl) rfl (fun ls hl => ?_)
                refine lv_iinc (v := x3_1 + 1) (lv' := [(3, .int (x3_1 + 1)), (2, .int (x2_2 + 1)), (0, .ref o), (1, .int x1)]) hx hb dX7_order_54 hl (k := 1) rfl rfl (Nat.le_of_ble_eq_true rfl) rfl (fun ls hl => ?_)
                refine lv_goto (tgt := 12) hx hb dX7_order_57 (by decide) ?_
                have e_inc : (x3_1 + 1).toInt = _ := ti_inc (by omega)
                exact ih_12 (x3_1 + 1) (x2_2 + 1) w_m_row_3 (by first | with_reducible assumption | omega | decide) (by first | with_reducible assumption | omega | decide) (by first | with_reducible assumption | omega | decide) (by first | with_reducible assumption | omega | decide) (by first | with_reducible exact Asc.init hrow | with_reducible exact ha_12.add i2_12 (by omega) i0_12 (by omega) | with_reducible exact ha_12.more (by omega) (by omega) (by omega) | with_reducible exact ha_12.skip (by omega)) (by omega) hF _ _ _ hh (lv_sub hl [0, 1, 2, 3] rfl)
              · replace hF := hF.trans (if_neg c_41)
                have i_41 : x2_2.toInt < 6 := ti_nle c_41
                refine lv_aload_n hx hb dX7_order_44 rfl (lv_at hl 2 rfl) ?_
                refine g_get KX hh in_X7_order_X7 0 rfl rfl 20 (by decide) rfl (List.mem_of_getElem? (i := 2) rfl) dX7_order_45 ?_
                refine lv_iload_n hx hb dX7_order_48 rfl (lv_at hl 1 rfl) ?_
                refine lv_iload_n hx hb dX7_order_49 rfl (lv_at hl 0 rfl) ?_
                refine g_iast KX hh 9 0 rfl rfl (vp_in_iff.mpr (by omega)) (w' := (WM cI cZ cC cH o a_clock a_note a_text a_read a_fit a_shown a_image a_isKept a_row a_best m_told m_isRead1 m_clock m_note m_noted m_bytes m_text m_position m_tokenAt m_token m_digits m_number m_faultAt m_readMany m_readTold m_read m_fit m_shown m_image m_isKept (upd w_m_row_3 x2_2.toNatClampNeg x3_1) m_best m_againAt m_againStep m_orderMany m_orderLeast)) rfl dX7_order_50 (fun H locs hh => ?_)
                have e_m : (x2_2 + 1).toInt = _ := ti_inc (by omega)
                refine lv_iinc (v := x2_2 + 1) (lv' := [(2, .int (x2_2 + 1)), (3, .int x3_1), (0, .ref o), (1, .int x1)]) hx hb dX7_order_51 hl (k := 1) rfl rfl (Nat.le_of_ble_eq_true rfl) rfl (fun ls hl => ?_)
                refine lv_iinc (v := x3_1 + 1) (lv' := [(3, .int (x3_1 + 1)), (2, .int (x2_2 + 1)), (0, .ref o), (1, .int x1)]) hx hb dX7_order_54 hl (k := 1) rfl rfl (Nat.le_of_ble_eq_true rfl) rfl (fun ls hl => ?_)
                refine lv_goto (tgt := 12) hx hb dX7_order_57 (by decide) ?_
                have e_inc : (x3_1 + 1).toInt = _ := ti_inc (by omega)
                exact ih_12 (x3_1 + 1) (x2_2 + 1) (upd w_m_row_3 x2_2.toNatClampNeg x3_1) (by first | with_reducible assumption | omega | decide) (by first | with_reducible assumption | omega | decide) (by first | with_reducible assumption | omega | decide) (by first | with_reducible assumption | omega | decide) (by first | with_reducible exact Asc.init hrow | with_reducible exact ha_12.add i2_12 (by omega) i0_12 (by omega) | with_reducible exact ha_12.more (by omega) (by omega) (by omega) | with_reducible exact ha_12.skip (by omega)) (by omega) hF _ _ _ hh (lv_sub hl [0, 1, 2, 3] rfl)
    exact L_12 9 0 0 m_row (by first | with_reducible assumption | omega | decide) (by first | with_reducible assumption | omega | decide) (by first | with_reducible assumption | omega | decide) (by first | with_reducible assumption | omega | decide) (by first | with_reducible exact Asc.init hrow | with_reducible exact ha_12.add i2_12 (by omega) i0_12 (by omega) | with_reducible exact ha_12.more (by omega) (by omega) (by omega) | with_reducible exact ha_12.skip (by omega)) (by first | omega | decide | (simp; done)) hF _ _ _ hh (lv_sub hl [0, 1, 2, 3] rfl)
  · replace hF := hF.trans (if_neg c_2)
    have i_2 : x1.toInt < (-1) := ti_nle c_2
    refine lv_bipush (v := (-3)) hx hb dX7_order_5 (by decide) ?_
    exact RT _ _ _ _ _ _ hh (by rw [hF]) (Or.inl ⟨_, rfl, by rw [hF], dX7_order_7, Or.inl rfl⟩)
