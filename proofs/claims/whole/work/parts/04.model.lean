abbrev WM (cI cZ cC cH : ClassId) (o a_clock a_note a_text a_read a_fit a_shown a_image a_isKept a_row a_best : Nat) (m_told : Int32) (m_isRead1 : Int32) (m_clock : Nat → Int32) (m_note : Nat → Int32) (m_noted : Int32) (m_bytes : Int32) (m_text : Nat → Int32) (m_position : Int32) (m_tokenAt : Int32) (m_token : Int64) (m_digits : Int32) (m_number : Int32) (m_faultAt : Int32) (m_readMany : Int32) (m_readTold : Int32) (m_read : Nat → Int32) (m_fit : Nat → Int32) (m_shown : Nat → Int32) (m_image : Nat → Int32) (m_isKept : Nat → Int32) (m_row : Nat → Int32) (m_best : Nat → Int32) (m_againAt : Int32) (m_againStep : Int32) (m_orderMany : Int32) (m_orderLeast : Int32) : va_W := [(o, .inr (7, [.int m_told, .int m_isRead1, .ref a_clock, .ref a_note, .int m_noted, .int m_bytes, .ref a_text, .int m_position, .int m_tokenAt, .long m_token, .int m_digits, .int m_number, .int m_faultAt, .int m_readMany, .int m_readTold, .ref a_read, .ref a_fit, .ref a_shown, .ref a_image, .ref a_isKept, .ref a_row, .ref a_best, .int m_againAt, .int m_againStep, .int m_orderMany, .int m_orderLeast])), (a_clock, .inl (cI, 48, .inl m_clock)), (a_note, .inl (cI, 36, .inl m_note)), (a_text, .inl (cI, 200, .inl m_text)), (a_read, .inl (cI, 48, .inl m_read)), (a_fit, .inl (cI, 4320, .inl m_fit)), (a_shown, .inl (cI, 720, .inl m_shown)), (a_image, .inl (cI, 180, .inl m_image)), (a_isKept, .inl (cZ, 2, .inl m_isKept)), (a_row, .inl (cI, 6, .inl m_row)), (a_best, .inl (cI, 6, .inl m_best))]
def F_X7_in (x0 : Int32) (x1 : Int32) (x2 : Int32) : Int32 := (if x0 < x1 then 0 else (if x2 < x0 then 0 else 1))
set_option maxHeartbeats 8000000 in
set_option maxRecDepth 100000 in
theorem c_X7_in (l : Launch) (D : va_G) (cI cZ cC cH : ClassId)  (x0 : Int32) (x1 : Int32) (x2 : Int32)  : MC l D (TY cI cZ cC cH) yX7_in wsX7_in 0 0 [.int x0, .int x1, .int x2] [] (some (.int (F_X7_in x0 x1 x2))) [] := by
  obtain ⟨R, hF⟩ : ∃ R, R = F_X7_in x0 x1 x2 := ⟨_, rfl⟩
  rw [← hF]
  refine MC.of (cc := cX7_in) (maxL := 3) (ret := (some .boolean)) RX7 rfl (by decide +kernel) rfl (Nat.le_of_ble_eq_true rfl) ?_
  intro p e s m args below meth c A Q KX RT hh ls hl
  have hx := KX.1
  have hb := KX.2.1
  have hl : lv_has ls 3 [(0, .int x0), (1, .int x1), (2, .int x2)] := hl
  unfold F_X7_in at hF
  refine lv_iload_n hx hb dX7_in_0 rfl (lv_at hl 0 rfl) ?_
  refine lv_iload_n hx hb dX7_in_1 rfl (lv_at hl 1 rfl) ?_
  refine lv_icmp_lt (tgt := 14) hx hb dX7_in_2 (by decide) (fun c_2 => ?_) (fun c_2 => ?_)
  · replace hF := hF.trans (if_pos c_2)
    have i_2 : x0.toInt < x1.toInt := ti_lt.mp c_2
    refine lv_iconst (v := 0) hx hb dX7_in_14 (by decide) ?_
    exact RT _ _ _ _ _ _ hh (rfl) (Or.inl ⟨_, rfl, by rw [hF], dX7_in_15, Or.inr (Or.inl ⟨rfl, Or.inl rfl⟩)⟩)
  · replace hF := hF.trans (if_neg c_2)
    have i_2 : x1.toInt ≤ x0.toInt := ti_nlt c_2
    refine lv_iload_n hx hb dX7_in_5 rfl (lv_at hl 0 rfl) ?_
    refine lv_iload_n hx hb dX7_in_6 rfl (lv_at hl 2 rfl) ?_
    refine lv_icmp_gt (tgt := 14) hx hb dX7_in_7 (by decide) (fun c_7 => ?_) (fun c_7 => ?_)
    · replace hF := hF.trans (if_pos c_7)
      have i_7 : x2.toInt < x0.toInt := ti_lt.mp c_7
      refine lv_iconst (v := 0) hx hb dX7_in_14 (by decide) ?_
      exact RT _ _ _ _ _ _ hh (rfl) (Or.inl ⟨_, rfl, by rw [hF], dX7_in_15, Or.inr (Or.inl ⟨rfl, Or.inl rfl⟩)⟩)
    · replace hF := hF.trans (if_neg c_7)
      have i_7 : x0.toInt ≤ x2.toInt := ti_nlt c_7
      refine lv_iconst (v := 1) hx hb dX7_in_10 (by decide) ?_
      refine lv_goto (tgt := 15) hx hb dX7_in_11 (by decide) ?_
      exact RT _ _ _ _ _ _ hh (rfl) (Or.inl ⟨_, rfl, by rw [hF], dX7_in_15, Or.inr (Or.inl ⟨rfl, Or.inr rfl⟩)⟩)
theorem z_X7_in (x0 : Int32) (x1 : Int32) (x2 : Int32) : (F_X7_in x0 x1 x2) = 0 ∨ (F_X7_in x0 x1 x2) = 1 := by
  unfold F_X7_in; repeat' split
  all_goals first | exact Or.inl rfl | exact Or.inr rfl | simp
def F_X7_has (x0 : Int32) (x1 : Int32) : Int32 := (if ((x0 >>> (x1 &&& 31)) &&& 1) = 1 then 1 else 0)
set_option maxHeartbeats 8000000 in
set_option maxRecDepth 100000 in
theorem c_X7_has (l : Launch) (D : va_G) (cI cZ cC cH : ClassId)  (x0 : Int32) (x1 : Int32)  : MC l D (TY cI cZ cC cH) yX7_has wsX7_has 0 0 [.int x0, .int x1] [] (some (.int (F_X7_has x0 x1))) [] := by
  obtain ⟨R, hF⟩ : ∃ R, R = F_X7_has x0 x1 := ⟨_, rfl⟩
  rw [← hF]
  refine MC.of (cc := cX7_has) (maxL := 2) (ret := (some .boolean)) RX7 rfl (by decide +kernel) rfl (Nat.le_of_ble_eq_true rfl) ?_
  intro p e s m args below meth c A Q KX RT hh ls hl
  have hx := KX.1
  have hb := KX.2.1
  have hl : lv_has ls 2 [(0, .int x0), (1, .int x1)] := hl
  unfold F_X7_has at hF
  refine lv_iload_n hx hb dX7_has_0 rfl (lv_at hl 0 rfl) ?_
  refine lv_iload_n hx hb dX7_has_1 rfl (lv_at hl 1 rfl) ?_
  refine lv_ishr hx hb dX7_has_2 ?_
  refine lv_iconst (v := 1) hx hb dX7_has_3 (by decide) ?_
  refine lv_iand hx hb dX7_has_4 ?_
  refine lv_iconst (v := 1) hx hb dX7_has_5 (by decide) ?_
  refine lv_icmp_ne (tgt := 13) hx hb dX7_has_6 (by decide) (fun c_6 => ?_) (fun c_6 => ?_)
  · replace hF := hF.trans (if_neg c_6)
    refine lv_iconst (v := 0) hx hb dX7_has_13 (by decide) ?_
    exact RT _ _ _ _ _ _ hh (rfl) (Or.inl ⟨_, rfl, by rw [hF], dX7_has_14, Or.inr (Or.inl ⟨rfl, Or.inl rfl⟩)⟩)
  · replace hF := hF.trans (if_pos c_6)
    have i_6 : ((x0 >>> (x1 &&& 31)) &&& 1).toInt = 1 := congrArg Int32.toInt c_6
    refine lv_iconst (v := 1) hx hb dX7_has_9 (by decide) ?_
    refine lv_goto (tgt := 14) hx hb dX7_has_10 (by decide) ?_
    exact RT _ _ _ _ _ _ hh (rfl) (Or.inl ⟨_, rfl, by rw [hF], dX7_has_14, Or.inr (Or.inl ⟨rfl, Or.inr rfl⟩)⟩)
theorem z_X7_has (x0 : Int32) (x1 : Int32) : (F_X7_has x0 x1) = 0 ∨ (F_X7_has x0 x1) = 1 := by
  unfold F_X7_has; repeat' split
  all_goals first | exact Or.inl rfl | exact Or.inr rfl | simp
def F_X7_bits_4 (x0 : Int32) : Nat → Int32 → Int32 → Int32
  | 0, _, _ => default
  | n + 1, x2_1, x1_2 => (if 8 ≤ x2_1 then x1_2 else ((F_X7_bits_4 x0 n) (x2_1 + 1) (x1_2 + ((x0 >>> (x2_1 &&& 31)) &&& 1))))
def F_X7_bits (x0 : Int32) : Int32 := (F_X7_bits_4 x0 9 0 0)
set_option maxHeartbeats 8000000 in
set_option maxRecDepth 100000 in
theorem c_X7_bits (l : Launch) (D : va_G) (cI cZ cC cH : ClassId)  (x0 : Int32)  : MC l D (TY cI cZ cC cH) yX7_bits wsX7_bits 0 0 [.int x0] [] (some (.int (F_X7_bits x0))) [] := by
  obtain ⟨R, hF⟩ : ∃ R, R = F_X7_bits x0 := ⟨_, rfl⟩
  rw [← hF]
  refine MC.of (cc := cX7_bits) (maxL := 3) (ret := (some .int)) RX7 rfl (by decide +kernel) rfl (Nat.le_of_ble_eq_true rfl) ?_
  intro p e s m args below meth c A Q KX RT hh ls hl
  have hx := KX.1
  have hb := KX.2.1
  have hl : lv_has ls 3 [(0, .int x0)] := hl
  unfold F_X7_bits at hF
  refine lv_iconst (v := 0) hx hb dX7_bits_0 (by decide) ?_
  refine lv_istore_n (lv' := [(1, .int 0), (0, .int x0)]) hx hb dX7_bits_1 rfl hl (Nat.le_of_ble_eq_true rfl) rfl (fun ls hl => ?_)
  refine lv_iconst (v := 0) hx hb dX7_bits_2 (by decide) ?_
  refine lv_istore_n (lv' := [(2, .int 0), (1, .int 0), (0, .int x0)]) hx hb dX7_bits_3 rfl hl (Nat.le_of_ble_eq_true rfl) rfl (fun ls hl => ?_)
  have L_4 : ∀ (n_4 : Nat) (x2_1 : Int32) (x1_2 : Int32) (i0_4 : 0 ≤ x2_1.toInt) (i1_4 : x2_1.toInt ≤ 8) (_ : (8 - x2_1.toInt).toNat < n_4) (_ : R = (F_X7_bits_4 x0) n_4 x2_1 x1_2) (ls : Array Slot) (H : Heap) (locs : List Loc) (_ : HS D A s.heap [] H locs) (_ : lv_has ls 3 [(2, .int x2_1), (1, .int x1_2), (0, .int x0)]), W p l e { frames := 0, cells := 0, slots := 0, locals := 0 } s m args below meth c H locs 0 0 Q (F0 m 4 ls []) := by
    intro n_4
    induction n_4 with
    | zero => intro x2_1 x1_2 i0_4 i1_4 hm; exact absurd hm (Nat.not_lt_zero _)
    | succ n_4 ih_4 =>
      intro x2_1 x1_2 i0_4 i1_4 hm_4 hF ls H locs hh hl
      rw [F_X7_bits_4.eq_2] at hF
      refine lv_iload_n hx hb dX7_bits_4 rfl (lv_at hl 0 rfl) ?_
      refine lv_bipush (v := 8) hx hb dX7_bits_5 (by decide) ?_
      refine lv_icmp_ge (tgt := 24) hx hb dX7_bits_7 (by decide) (fun c_7 => ?_) (fun c_7 => ?_)
      · replace hF := hF.trans (if_pos c_7)
        have i_7 : 8 ≤ x2_1.toInt := ti_le.mp c_7
        refine lv_iload_n hx hb dX7_bits_24 rfl (lv_at hl 1 rfl) ?_
        exact RT _ _ _ _ _ _ hh (rfl) (Or.inl ⟨_, rfl, by rw [hF], dX7_bits_25, Or.inl rfl⟩)
      · replace hF := hF.trans (if_neg c_7)
        have i_7 : x2_1.toInt < 8 := ti_nle c_7
        refine lv_iload_n hx hb dX7_bits_10 rfl (lv_at hl 1 rfl) ?_
        refine lv_iload_n hx hb dX7_bits_11 rfl (lv_at hl 2 rfl) ?_
        refine lv_iload_n hx hb dX7_bits_12 rfl (lv_at hl 0 rfl) ?_
        refine lv_ishr hx hb dX7_bits_13 ?_
        refine lv_iconst (v := 1) hx hb dX7_bits_14 (by decide) ?_
        refine lv_iand hx hb dX7_bits_15 ?_
        refine lv_iadd hx hb dX7_bits_16 ?_
        refine lv_istore_n (lv' := [(1, .int (x1_2 + ((x0 >>> (x2_1 &&& 31)) &&& 1))), (2, .int x2_1), (0, .int x0)]) hx hb dX7_bits_17 rfl hl (Nat.le_of_ble_eq_true rfl) rfl (fun ls hl => ?_)
        refine lv_iinc (v := x2_1 + 1) (lv' := [(2, .int (x2_1 + 1)), (1, .int (x1_2 + ((x0 >>> (x2_1 &&& 31)) &&& 1))), (0, .int x0)]) hx hb dX7_bits_18 hl (k := 1) rfl rfl (Nat.le_of_ble_eq_true rfl) rfl (fun ls hl => ?_)
        refine lv_goto (tgt := 4) hx hb dX7_bits_21 (by decide) ?_
        have e_inc : (x2_1 + 1).toInt = x2_1.toInt + 1 := ti_inc (by omega)
        exact ih_4 (x2_1 + 1) (x1_2 + ((x0 >>> (x2_1 &&& 31)) &&& 1)) (by first | assumption | omega | decide) (by first | assumption | omega | decide) (by first | omega | simp_all) hF _ _ _ hh (lv_sub hl [0, 1, 2] rfl)
  exact L_4 9 0 0 (by first | assumption | omega | decide) (by first | assumption | omega | decide) (by first | omega | decide | (simp; done)) hF _ _ _ hh (lv_sub hl [0, 1, 2] rfl)
def F_X7_isClock (m_told : Int32) (x1 : Int32) : Int32 := (if (F_X7_in x1 0 7) = 0 then 0 else (if (F_X7_has m_told x1) = 0 then 0 else 1))
theorem in_X7_isClock_X7 : ∀ x ∈ u_ws RX7 TX7 26, x ∈ wsX7_isClock := by decide +kernel
set_option maxHeartbeats 8000000 in
set_option maxRecDepth 100000 in
theorem c_X7_isClock (l : Launch) (D : va_G) (cI cZ cC cH : ClassId) (o a_clock a_note a_text a_read a_fit a_shown a_image a_isKept a_row a_best : Nat) (m_told : Int32) (m_isRead1 : Int32) (m_clock : Nat → Int32) (m_note : Nat → Int32) (m_noted : Int32) (m_bytes : Int32) (m_text : Nat → Int32) (m_position : Int32) (m_tokenAt : Int32) (m_token : Int64) (m_digits : Int32) (m_number : Int32) (m_faultAt : Int32) (m_readMany : Int32) (m_readTold : Int32) (m_read : Nat → Int32) (m_fit : Nat → Int32) (m_shown : Nat → Int32) (m_image : Nat → Int32) (m_isKept : Nat → Int32) (m_row : Nat → Int32) (m_best : Nat → Int32) (m_againAt : Int32) (m_againStep : Int32) (m_orderMany : Int32) (m_orderLeast : Int32) (x1 : Int32)  : MC l D (TY cI cZ cC cH) yX7_isClock wsX7_isClock 1 22 [.ref o, .int x1] (WM cI cZ cC cH o a_clock a_note a_text a_read a_fit a_shown a_image a_isKept a_row a_best m_told m_isRead1 m_clock m_note m_noted m_bytes m_text m_position m_tokenAt m_token m_digits m_number m_faultAt m_readMany m_readTold m_read m_fit m_shown m_image m_isKept m_row m_best m_againAt m_againStep m_orderMany m_orderLeast) (some (.int (F_X7_isClock m_told x1))) (WM cI cZ cC cH o a_clock a_note a_text a_read a_fit a_shown a_image a_isKept a_row a_best m_told m_isRead1 m_clock m_note m_noted m_bytes m_text m_position m_tokenAt m_token m_digits m_number m_faultAt m_readMany m_readTold m_read m_fit m_shown m_image m_isKept m_row m_best m_againAt m_againStep m_orderMany m_orderLeast) := by
  obtain ⟨R, hF⟩ : ∃ R, R = F_X7_isClock m_told x1 := ⟨_, rfl⟩
  rw [← hF]
  refine MC.of (cc := cX7_isClock) (maxL := 2) (ret := (some .boolean)) RX7 rfl (by decide +kernel) rfl (Nat.le_of_ble_eq_true rfl) ?_
  intro p e s m args below meth c A Q KX RT hh ls hl
  have hx := KX.1
  have hb := KX.2.1
  have hl : lv_has ls 2 [(0, .ref o), (1, .int x1)] := hl
  unfold F_X7_isClock at hF
  refine lv_iload_n hx hb dX7_isClock_0 rfl (lv_at hl 1 rfl) ?_
  refine lv_iconst (v := 0) hx hb dX7_isClock_1 (by decide) ?_
  refine lv_bipush (v := 7) hx hb dX7_isClock_2 (by decide) ?_
  refine g_callS (As := [.int x1, .int 0, .int 7]) (rest := []) KX rfl ⟨Nat.le_of_ble_eq_true rfl, Nat.le_of_ble_eq_true rfl⟩ hh hl (c_X7_in l D cI cZ cC cH  x1 0 7 ) JN.no 3 gX7_isClock_X7_in rfl (by decide +kernel) ⟨Nat.le_of_ble_eq_true rfl, Nat.le_of_ble_eq_true rfl⟩ rfl rfl (Nat.le_of_ble_eq_true rfl) dX7_isClock_4 (fun H locs hh => ?_)
  refine W.eq (g2 := F0 m 7 ls [.int (F_X7_in x1 0 7)]) rfl ?_
  refine lv_if_eq (tgt := 25) hx hb dX7_isClock_7 (by decide) (fun c_7 => ?_) (fun c_7 => ?_)
  · replace hF := hF.trans (if_pos c_7)
    have i_7 : (F_X7_in x1 0 7).toInt = 0 := congrArg Int32.toInt c_7
    refine lv_iconst (v := 0) hx hb dX7_isClock_25 (by decide) ?_
    exact RT _ _ _ _ _ _ hh (rfl) (Or.inl ⟨_, rfl, by rw [hF], dX7_isClock_26, Or.inr (Or.inl ⟨rfl, Or.inl rfl⟩)⟩)
  · replace hF := hF.trans (if_neg c_7)
    refine lv_aload_n hx hb dX7_isClock_10 rfl (lv_at hl 0 rfl) ?_
    refine g_get KX hh in_X7_isClock_X7 0 rfl rfl 0 (by decide) rfl (List.mem_of_getElem? (i := 1) rfl) dX7_isClock_11 ?_
    refine lv_iload_n hx hb dX7_isClock_14 rfl (lv_at hl 1 rfl) ?_
    refine g_callS (As := [.int m_told, .int x1]) (rest := []) KX rfl ⟨Nat.le_of_ble_eq_true rfl, Nat.le_of_ble_eq_true rfl⟩ hh hl (c_X7_has l D cI cZ cC cH  m_told x1 ) JN.no 2 gX7_isClock_X7_has rfl (by decide +kernel) ⟨Nat.le_of_ble_eq_true rfl, Nat.le_of_ble_eq_true rfl⟩ rfl rfl (Nat.le_of_ble_eq_true rfl) dX7_isClock_15 (fun H locs hh => ?_)
    refine W.eq (g2 := F0 m 18 ls [.int (F_X7_has m_told x1)]) rfl ?_
    refine lv_if_eq (tgt := 25) hx hb dX7_isClock_18 (by decide) (fun c_18 => ?_) (fun c_18 => ?_)
    · replace hF := hF.trans (if_pos c_18)
      have i_18 : (F_X7_has m_told x1).toInt = 0 := congrArg Int32.toInt c_18
      refine lv_iconst (v := 0) hx hb dX7_isClock_25 (by decide) ?_
      exact RT _ _ _ _ _ _ hh (rfl) (Or.inl ⟨_, rfl, by rw [hF], dX7_isClock_26, Or.inr (Or.inl ⟨rfl, Or.inl rfl⟩)⟩)
    · replace hF := hF.trans (if_neg c_18)
      refine lv_iconst (v := 1) hx hb dX7_isClock_21 (by decide) ?_
      refine lv_goto (tgt := 26) hx hb dX7_isClock_22 (by decide) ?_
      exact RT _ _ _ _ _ _ hh (rfl) (Or.inl ⟨_, rfl, by rw [hF], dX7_isClock_26, Or.inr (Or.inl ⟨rfl, Or.inr rfl⟩)⟩)
theorem z_X7_isClock (m_told : Int32) (x1 : Int32) : (F_X7_isClock m_told x1) = 0 ∨ (F_X7_isClock m_told x1) = 1 := by
  unfold F_X7_isClock; repeat' split
  all_goals first | exact Or.inl rfl | exact Or.inr rfl | simp
def F_X7_erase (m_bytes : Int32) : Int32 × Int32 := (m_bytes, 0)
theorem in_X7_erase_X7 : ∀ x ∈ u_ws RX7 TX7 26, x ∈ wsX7_erase := by decide +kernel
set_option maxHeartbeats 8000000 in
set_option maxRecDepth 100000 in
theorem c_X7_erase (l : Launch) (D : va_G) (cI cZ cC cH : ClassId) (o a_clock a_note a_text a_read a_fit a_shown a_image a_isKept a_row a_best : Nat) (m_told : Int32) (m_isRead1 : Int32) (m_clock : Nat → Int32) (m_note : Nat → Int32) (m_noted : Int32) (m_bytes : Int32) (m_text : Nat → Int32) (m_position : Int32) (m_tokenAt : Int32) (m_token : Int64) (m_digits : Int32) (m_number : Int32) (m_faultAt : Int32) (m_readMany : Int32) (m_readTold : Int32) (m_read : Nat → Int32) (m_fit : Nat → Int32) (m_shown : Nat → Int32) (m_image : Nat → Int32) (m_isKept : Nat → Int32) (m_row : Nat → Int32) (m_best : Nat → Int32) (m_againAt : Int32) (m_againStep : Int32) (m_orderMany : Int32) (m_orderLeast : Int32)   : MC l D (TY cI cZ cC cH) yX7_erase wsX7_erase 0 0 [.ref o] (WM cI cZ cC cH o a_clock a_note a_text a_read a_fit a_shown a_image a_isKept a_row a_best m_told m_isRead1 m_clock m_note m_noted m_bytes m_text m_position m_tokenAt m_token m_digits m_number m_faultAt m_readMany m_readTold m_read m_fit m_shown m_image m_isKept m_row m_best m_againAt m_againStep m_orderMany m_orderLeast) (some (.int ((F_X7_erase m_bytes).1))) (WM cI cZ cC cH o a_clock a_note a_text a_read a_fit a_shown a_image a_isKept a_row a_best m_told m_isRead1 m_clock m_note m_noted (F_X7_erase m_bytes).2 m_text m_position m_tokenAt m_token m_digits m_number m_faultAt m_readMany m_readTold m_read m_fit m_shown m_image m_isKept m_row m_best m_againAt m_againStep m_orderMany m_orderLeast) := by
  obtain ⟨R, hF⟩ : ∃ R, R = F_X7_erase m_bytes := ⟨_, rfl⟩
  rw [← hF]
  refine MC.of (cc := cX7_erase) (maxL := 2) (ret := (some .int)) RX7 rfl (by decide +kernel) rfl (Nat.le_of_ble_eq_true rfl) ?_
  intro p e s m args below meth c A Q KX RT hh ls hl
  have hx := KX.1
  have hb := KX.2.1
  have hl : lv_has ls 2 [(0, .ref o)] := hl
  unfold F_X7_erase at hF
  refine lv_aload_n hx hb dX7_erase_0 rfl (lv_at hl 0 rfl) ?_
  refine g_get KX hh in_X7_erase_X7 0 rfl rfl 5 (by decide) rfl (List.mem_of_getElem? (i := 1) rfl) dX7_erase_1 ?_
  refine lv_istore_n (lv' := [(1, .int m_bytes), (0, .ref o)]) hx hb dX7_erase_4 rfl hl (Nat.le_of_ble_eq_true rfl) rfl (fun ls hl => ?_)
  refine lv_aload_n hx hb dX7_erase_5 rfl (lv_at hl 1 rfl) ?_
  refine lv_iconst (v := 0) hx hb dX7_erase_6 (by decide) ?_
  refine g_put KX hh in_X7_erase_X7 tyX7 tyX7_ok nmX7 0 rfl rfl 5 (by decide) rfl rfl rfl (Nat.le_of_ble_eq_true rfl) (List.mem_of_getElem? (i := 1) rfl) (w' := (WM cI cZ cC cH o a_clock a_note a_text a_read a_fit a_shown a_image a_isKept a_row a_best m_told m_isRead1 m_clock m_note m_noted 0 m_text m_position m_tokenAt m_token m_digits m_number m_faultAt m_readMany m_readTold m_read m_fit m_shown m_image m_isKept m_row m_best m_againAt m_againStep m_orderMany m_orderLeast)) rfl rfl dX7_erase_7 (fun H locs hh => ?_)
  refine lv_iload_n hx hb dX7_erase_10 rfl (lv_at hl 0 rfl) ?_
  exact RT _ _ _ _ _ _ hh (by rw [hF]) (Or.inl ⟨_, rfl, by rw [hF], dX7_erase_11, Or.inl rfl⟩)
def F_X7_burn (m_noted : Int32) : Int32 × Int32 := (m_noted, 0)
theorem in_X7_burn_X7 : ∀ x ∈ u_ws RX7 TX7 26, x ∈ wsX7_burn := by decide +kernel
set_option maxHeartbeats 8000000 in
set_option maxRecDepth 100000 in
theorem c_X7_burn (l : Launch) (D : va_G) (cI cZ cC cH : ClassId) (o a_clock a_note a_text a_read a_fit a_shown a_image a_isKept a_row a_best : Nat) (m_told : Int32) (m_isRead1 : Int32) (m_clock : Nat → Int32) (m_note : Nat → Int32) (m_noted : Int32) (m_bytes : Int32) (m_text : Nat → Int32) (m_position : Int32) (m_tokenAt : Int32) (m_token : Int64) (m_digits : Int32) (m_number : Int32) (m_faultAt : Int32) (m_readMany : Int32) (m_readTold : Int32) (m_read : Nat → Int32) (m_fit : Nat → Int32) (m_shown : Nat → Int32) (m_image : Nat → Int32) (m_isKept : Nat → Int32) (m_row : Nat → Int32) (m_best : Nat → Int32) (m_againAt : Int32) (m_againStep : Int32) (m_orderMany : Int32) (m_orderLeast : Int32)   : MC l D (TY cI cZ cC cH) yX7_burn wsX7_burn 0 0 [.ref o] (WM cI cZ cC cH o a_clock a_note a_text a_read a_fit a_shown a_image a_isKept a_row a_best m_told m_isRead1 m_clock m_note m_noted m_bytes m_text m_position m_tokenAt m_token m_digits m_number m_faultAt m_readMany m_readTold m_read m_fit m_shown m_image m_isKept m_row m_best m_againAt m_againStep m_orderMany m_orderLeast) (some (.int ((F_X7_burn m_noted).1))) (WM cI cZ cC cH o a_clock a_note a_text a_read a_fit a_shown a_image a_isKept a_row a_best m_told m_isRead1 m_clock m_note (F_X7_burn m_noted).2 m_bytes m_text m_position m_tokenAt m_token m_digits m_number m_faultAt m_readMany m_readTold m_read m_fit m_shown m_image m_isKept m_row m_best m_againAt m_againStep m_orderMany m_orderLeast) := by
  obtain ⟨R, hF⟩ : ∃ R, R = F_X7_burn m_noted := ⟨_, rfl⟩
  rw [← hF]
  refine MC.of (cc := cX7_burn) (maxL := 2) (ret := (some .int)) RX7 rfl (by decide +kernel) rfl (Nat.le_of_ble_eq_true rfl) ?_
  intro p e s m args below meth c A Q KX RT hh ls hl
  have hx := KX.1
  have hb := KX.2.1
  have hl : lv_has ls 2 [(0, .ref o)] := hl
  unfold F_X7_burn at hF
  refine lv_aload_n hx hb dX7_burn_0 rfl (lv_at hl 0 rfl) ?_
  refine g_get KX hh in_X7_burn_X7 0 rfl rfl 4 (by decide) rfl (List.mem_of_getElem? (i := 1) rfl) dX7_burn_1 ?_
  refine lv_istore_n (lv' := [(1, .int m_noted), (0, .ref o)]) hx hb dX7_burn_4 rfl hl (Nat.le_of_ble_eq_true rfl) rfl (fun ls hl => ?_)
  refine lv_aload_n hx hb dX7_burn_5 rfl (lv_at hl 1 rfl) ?_
  refine lv_iconst (v := 0) hx hb dX7_burn_6 (by decide) ?_
  refine g_put KX hh in_X7_burn_X7 tyX7 tyX7_ok nmX7 0 rfl rfl 4 (by decide) rfl rfl rfl (Nat.le_of_ble_eq_true rfl) (List.mem_of_getElem? (i := 1) rfl) (w' := (WM cI cZ cC cH o a_clock a_note a_text a_read a_fit a_shown a_image a_isKept a_row a_best m_told m_isRead1 m_clock m_note 0 m_bytes m_text m_position m_tokenAt m_token m_digits m_number m_faultAt m_readMany m_readTold m_read m_fit m_shown m_image m_isKept m_row m_best m_againAt m_againStep m_orderMany m_orderLeast)) rfl rfl dX7_burn_7 (fun H locs hh => ?_)
  refine lv_iload_n hx hb dX7_burn_10 rfl (lv_at hl 0 rfl) ?_
  exact RT _ _ _ _ _ _ hh (by rw [hF]) (Or.inl ⟨_, rfl, by rw [hF], dX7_burn_11, Or.inl rfl⟩)
def F_X7_hand (m_clock : Nat → Int32) (x1 : Int32) (x2 : Int32) (x3 : Int32) : Int32 := (if (m_clock (6 * x1).toNatClampNeg) = 1 then (1440 * (m_clock ((6 * x1) + 2).toNatClampNeg)) + (-((x2 - (m_clock ((6 * x1) + 1).toNatClampNeg)) * (1440 + x3))) else (1440 * (m_clock ((6 * x1) + 2).toNatClampNeg)) + ((x2 - (m_clock ((6 * x1) + 1).toNatClampNeg)) * (1440 + x3)))
theorem in_X7_hand_X7 : ∀ x ∈ u_ws RX7 TX7 26, x ∈ wsX7_hand := by decide +kernel
set_option maxHeartbeats 8000000 in
set_option maxRecDepth 100000 in
theorem c_X7_hand (l : Launch) (D : va_G) (cI cZ cC cH : ClassId) (o a_clock a_note a_text a_read a_fit a_shown a_image a_isKept a_row a_best : Nat) (m_told : Int32) (m_isRead1 : Int32) (m_clock : Nat → Int32) (m_note : Nat → Int32) (m_noted : Int32) (m_bytes : Int32) (m_text : Nat → Int32) (m_position : Int32) (m_tokenAt : Int32) (m_token : Int64) (m_digits : Int32) (m_number : Int32) (m_faultAt : Int32) (m_readMany : Int32) (m_readTold : Int32) (m_read : Nat → Int32) (m_fit : Nat → Int32) (m_shown : Nat → Int32) (m_image : Nat → Int32) (m_isKept : Nat → Int32) (m_row : Nat → Int32) (m_best : Nat → Int32) (m_againAt : Int32) (m_againStep : Int32) (m_orderMany : Int32) (m_orderLeast : Int32) (x1 : Int32) (x2 : Int32) (x3 : Int32) (hk0 : 0 ≤ x1.toInt) (hk1 : x1.toInt < 8) : MC l D (TY cI cZ cC cH) yX7_hand wsX7_hand 0 0 [.ref o, .int x1, .int x2, .int x3] (WM cI cZ cC cH o a_clock a_note a_text a_read a_fit a_shown a_image a_isKept a_row a_best m_told m_isRead1 m_clock m_note m_noted m_bytes m_text m_position m_tokenAt m_token m_digits m_number m_faultAt m_readMany m_readTold m_read m_fit m_shown m_image m_isKept m_row m_best m_againAt m_againStep m_orderMany m_orderLeast) (some (.int (F_X7_hand m_clock x1 x2 x3))) (WM cI cZ cC cH o a_clock a_note a_text a_read a_fit a_shown a_image a_isKept a_row a_best m_told m_isRead1 m_clock m_note m_noted m_bytes m_text m_position m_tokenAt m_token m_digits m_number m_faultAt m_readMany m_readTold m_read m_fit m_shown m_image m_isKept m_row m_best m_againAt m_againStep m_orderMany m_orderLeast) := by
  obtain ⟨R, hF⟩ : ∃ R, R = F_X7_hand m_clock x1 x2 x3 := ⟨_, rfl⟩
  rw [← hF]
  refine MC.of (cc := cX7_hand) (maxL := 5) (ret := (some .int)) RX7 rfl (by decide +kernel) rfl (Nat.le_of_ble_eq_true rfl) ?_
  intro p e s m args below meth c A Q KX RT hh ls hl
  have hx := KX.1
  have hb := KX.2.1
  have hl : lv_has ls 5 [(0, .ref o), (1, .int x1), (2, .int x2), (3, .int x3)] := hl
  unfold F_X7_hand at hF
  refine lv_iload_n hx hb dX7_hand_0 rfl (lv_at hl 2 rfl) ?_
  refine lv_aload_n hx hb dX7_hand_1 rfl (lv_at hl 0 rfl) ?_
  refine g_get KX hh in_X7_hand_X7 0 rfl rfl 2 (by decide) rfl (List.mem_of_getElem? (i := 1) rfl) dX7_hand_2 ?_
  refine lv_bipush (v := 6) hx hb dX7_hand_5 (by decide) ?_
  refine lv_iload_n hx hb dX7_hand_7 rfl (lv_at hl 1 rfl) ?_
  refine lv_imul hx hb dX7_hand_8 ?_
  refine lv_iconst (v := 1) hx hb dX7_hand_9 (by decide) ?_
  refine lv_iadd hx hb dX7_hand_10 ?_
  refine g_iald KX hh 1 0 rfl rfl (ix6 1 (by omega) (by omega) (by decide)) dX7_hand_11 ?_
  refine lv_isub hx hb dX7_hand_12 ?_
  refine lv_sipush (v := 1440) hx hb dX7_hand_13 (by decide) ?_
  refine lv_iload_n hx hb dX7_hand_16 rfl (lv_at hl 3 rfl) ?_
  refine lv_iadd hx hb dX7_hand_17 ?_
  refine lv_imul hx hb dX7_hand_18 ?_
  refine lv_istore (lv' := [(4, .int ((x2 - (m_clock ((6 * x1) + 1).toNatClampNeg)) * (1440 + x3))), (0, .ref o), (1, .int x1), (2, .int x2), (3, .int x3)]) hx hb dX7_hand_19 hl (Nat.le_of_ble_eq_true rfl) rfl (fun ls hl => ?_)
  refine lv_sipush (v := 1440) hx hb dX7_hand_21 (by decide) ?_
  refine lv_aload_n hx hb dX7_hand_24 rfl (lv_at hl 1 rfl) ?_
  refine g_get KX hh in_X7_hand_X7 0 rfl rfl 2 (by decide) rfl (List.mem_of_getElem? (i := 1) rfl) dX7_hand_25 ?_
  refine lv_bipush (v := 6) hx hb dX7_hand_28 (by decide) ?_
  refine lv_iload_n hx hb dX7_hand_30 rfl (lv_at hl 2 rfl) ?_
  refine lv_imul hx hb dX7_hand_31 ?_
  refine lv_iconst (v := 2) hx hb dX7_hand_32 (by decide) ?_
  refine lv_iadd hx hb dX7_hand_33 ?_
  refine g_iald KX hh 1 0 rfl rfl (ix6 2 (by omega) (by omega) (by decide)) dX7_hand_34 ?_
  refine lv_imul hx hb dX7_hand_35 ?_
  refine lv_aload_n hx hb dX7_hand_36 rfl (lv_at hl 1 rfl) ?_
  refine g_get KX hh in_X7_hand_X7 0 rfl rfl 2 (by decide) rfl (List.mem_of_getElem? (i := 1) rfl) dX7_hand_37 ?_
  refine lv_bipush (v := 6) hx hb dX7_hand_40 (by decide) ?_
  refine lv_iload_n hx hb dX7_hand_42 rfl (lv_at hl 2 rfl) ?_
  refine lv_imul hx hb dX7_hand_43 ?_
  refine g_iald KX hh 1 0 rfl rfl (ix60 (by omega) (by omega)) dX7_hand_44 ?_
  refine lv_iconst (v := 1) hx hb dX7_hand_45 (by decide) ?_
  refine lv_icmp_ne (tgt := 55) hx hb dX7_hand_46 (by decide) (fun c_46 => ?_) (fun c_46 => ?_)
  · replace hF := hF.trans (if_neg c_46)
    refine lv_iload hx hb dX7_hand_55 (lv_at hl 0 rfl) ?_
    refine lv_iadd hx hb dX7_hand_57 ?_
    exact RT _ _ _ _ _ _ hh (rfl) (Or.inl ⟨_, rfl, by rw [hF], dX7_hand_58, Or.inl rfl⟩)
  · replace hF := hF.trans (if_pos c_46)
    have i_46 : (m_clock (6 * x1).toNatClampNeg).toInt = 1 := congrArg Int32.toInt c_46
    refine lv_iload hx hb dX7_hand_49 (lv_at hl 0 rfl) ?_
    refine lv_ineg hx hb dX7_hand_51 ?_
    refine lv_goto (tgt := 57) hx hb dX7_hand_52 (by decide) ?_
    refine lv_iadd hx hb dX7_hand_57 ?_
    exact RT _ _ _ _ _ _ hh (rfl) (Or.inl ⟨_, rfl, by rw [hF], dX7_hand_58, Or.inl rfl⟩)
def F_X7_count (m_told : Int32) (m_isRead1 : Int32) (m_noted : Int32) (m_bytes : Int32) (x1 : Int32) : Int32 := (if x1 = 0 then m_told else if x1 = 1 then m_isRead1 else if x1 = 2 then m_noted else if x1 = 3 then m_bytes else (-3))
theorem in_X7_count_X7 : ∀ x ∈ u_ws RX7 TX7 26, x ∈ wsX7_count := by decide +kernel
set_option maxHeartbeats 8000000 in
set_option maxRecDepth 100000 in
theorem c_X7_count (l : Launch) (D : va_G) (cI cZ cC cH : ClassId) (o a_clock a_note a_text a_read a_fit a_shown a_image a_isKept a_row a_best : Nat) (m_told : Int32) (m_isRead1 : Int32) (m_clock : Nat → Int32) (m_note : Nat → Int32) (m_noted : Int32) (m_bytes : Int32) (m_text : Nat → Int32) (m_position : Int32) (m_tokenAt : Int32) (m_token : Int64) (m_digits : Int32) (m_number : Int32) (m_faultAt : Int32) (m_readMany : Int32) (m_readTold : Int32) (m_read : Nat → Int32) (m_fit : Nat → Int32) (m_shown : Nat → Int32) (m_image : Nat → Int32) (m_isKept : Nat → Int32) (m_row : Nat → Int32) (m_best : Nat → Int32) (m_againAt : Int32) (m_againStep : Int32) (m_orderMany : Int32) (m_orderLeast : Int32) (x1 : Int32)  : MC l D (TY cI cZ cC cH) yX7_count wsX7_count 0 0 [.ref o, .int x1] (WM cI cZ cC cH o a_clock a_note a_text a_read a_fit a_shown a_image a_isKept a_row a_best m_told m_isRead1 m_clock m_note m_noted m_bytes m_text m_position m_tokenAt m_token m_digits m_number m_faultAt m_readMany m_readTold m_read m_fit m_shown m_image m_isKept m_row m_best m_againAt m_againStep m_orderMany m_orderLeast) (some (.int (F_X7_count m_told m_isRead1 m_noted m_bytes x1))) (WM cI cZ cC cH o a_clock a_note a_text a_read a_fit a_shown a_image a_isKept a_row a_best m_told m_isRead1 m_clock m_note m_noted m_bytes m_text m_position m_tokenAt m_token m_digits m_number m_faultAt m_readMany m_readTold m_read m_fit m_shown m_image m_isKept m_row m_best m_againAt m_againStep m_orderMany m_orderLeast) := by
  obtain ⟨R, hF⟩ : ∃ R, R = F_X7_count m_told m_isRead1 m_noted m_bytes x1 := ⟨_, rfl⟩
  rw [← hF]
  refine MC.of (cc := cX7_count) (maxL := 2) (ret := (some .int)) RX7 rfl (by decide +kernel) rfl (Nat.le_of_ble_eq_true rfl) ?_
  intro p e s m args below meth c A Q KX RT hh ls hl
  have hx := KX.1
  have hb := KX.2.1
  have hl : lv_has ls 2 [(0, .ref o), (1, .int x1)] := hl
  unfold F_X7_count at hF
  refine lv_iload_n hx hb dX7_count_0 rfl (lv_at hl 1 rfl) ?_
  by_cases c_1_0 : x1 = 0
  · replace hF := hF.trans (if_pos c_1_0)
    refine W.eq (g2 := F0 m 1 ls (.int 0 :: [])) (by rw [c_1_0]) ?_
    refine lv_tableIn (tgt := 32) hx hb dX7_count_1 (by decide) (by decide) rfl (by decide) ?_
    refine lv_aload_n hx hb dX7_count_32 rfl (lv_at hl 0 rfl) ?_
    refine g_get KX hh in_X7_count_X7 0 rfl rfl 0 (by decide) rfl (List.mem_of_getElem? (i := 1) rfl) dX7_count_33 ?_
    exact RT _ _ _ _ _ _ hh (rfl) (Or.inl ⟨_, rfl, by rw [hF], dX7_count_36, Or.inl rfl⟩)
  replace hF := hF.trans (if_neg c_1_0)
  by_cases c_1_1 : x1 = 1
  · replace hF := hF.trans (if_pos c_1_1)
    refine W.eq (g2 := F0 m 1 ls (.int 1 :: [])) (by rw [c_1_1]) ?_
    refine lv_tableIn (tgt := 37) hx hb dX7_count_1 (by decide) (by decide) rfl (by decide) ?_
    refine lv_aload_n hx hb dX7_count_37 rfl (lv_at hl 0 rfl) ?_
    refine g_get KX hh in_X7_count_X7 0 rfl rfl 1 (by decide) rfl (List.mem_of_getElem? (i := 2) rfl) dX7_count_38 ?_
    exact RT _ _ _ _ _ _ hh (rfl) (Or.inl ⟨_, rfl, by rw [hF], dX7_count_41, Or.inl rfl⟩)
  replace hF := hF.trans (if_neg c_1_1)
  by_cases c_1_2 : x1 = 2
  · replace hF := hF.trans (if_pos c_1_2)
    refine W.eq (g2 := F0 m 1 ls (.int 2 :: [])) (by rw [c_1_2]) ?_
    refine lv_tableIn (tgt := 42) hx hb dX7_count_1 (by decide) (by decide) rfl (by decide) ?_
    refine lv_aload_n hx hb dX7_count_42 rfl (lv_at hl 0 rfl) ?_
    refine g_get KX hh in_X7_count_X7 0 rfl rfl 4 (by decide) rfl (List.mem_of_getElem? (i := 3) rfl) dX7_count_43 ?_
    exact RT _ _ _ _ _ _ hh (rfl) (Or.inl ⟨_, rfl, by rw [hF], dX7_count_46, Or.inl rfl⟩)
  replace hF := hF.trans (if_neg c_1_2)
  by_cases c_1_3 : x1 = 3
  · replace hF := hF.trans (if_pos c_1_3)
    refine W.eq (g2 := F0 m 1 ls (.int 3 :: [])) (by rw [c_1_3]) ?_
    refine lv_tableIn (tgt := 47) hx hb dX7_count_1 (by decide) (by decide) rfl (by decide) ?_
    refine lv_aload_n hx hb dX7_count_47 rfl (lv_at hl 0 rfl) ?_
    refine g_get KX hh in_X7_count_X7 0 rfl rfl 5 (by decide) rfl (List.mem_of_getElem? (i := 4) rfl) dX7_count_48 ?_
    exact RT _ _ _ _ _ _ hh (rfl) (Or.inl ⟨_, rfl, by rw [hF], dX7_count_51, Or.inl rfl⟩)
  replace hF := hF.trans (if_neg c_1_3)
  refine lv_tableOut (tgt := 52) hx hb dX7_count_1 (by have h1 := sw_ne (y := 0) (k := 0) c_1_0 rfl; have h2 := sw_ne (y := 1) (k := 1) c_1_1 rfl; have h3 := sw_ne (y := 2) (k := 2) c_1_2 rfl; have h4 := sw_ne (y := 3) (k := 3) c_1_3 rfl; omega) (by decide) ?_
  refine lv_bipush (v := (-3)) hx hb dX7_count_52 (by decide) ?_
  exact RT _ _ _ _ _ _ hh (rfl) (Or.inl ⟨_, rfl, by rw [hF], dX7_count_54, Or.inl rfl⟩)
