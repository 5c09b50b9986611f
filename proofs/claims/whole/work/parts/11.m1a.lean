abbrev WM (cI cZ cC cH : ClassId) (o a_clock a_note a_text a_read a_fit a_shown a_image a_isKept a_row a_best : Nat) (m_told : Int32) (m_isRead1 : Int32) (m_clock : Nat → Int32) (m_note : Nat → Int32) (m_noted : Int32) (m_bytes : Int32) (m_text : Nat → Int32) (m_position : Int32) (m_tokenAt : Int32) (m_token : Int64) (m_digits : Int32) (m_number : Int32) (m_faultAt : Int32) (m_readMany : Int32) (m_readTold : Int32) (m_read : Nat → Int32) (m_fit : Nat → Int32) (m_shown : Nat → Int32) (m_image : Nat → Int32) (m_isKept : Nat → Int32) (m_row : Nat → Int32) (m_best : Nat → Int32) (m_againAt : Int32) (m_againStep : Int32) (m_orderMany : Int32) (m_orderLeast : Int32) : va_W := [(o, .inr (7, [.int m_told, .int m_isRead1, .ref a_clock, .ref a_note, .int m_noted, .int m_bytes, .ref a_text, .int m_position, .int m_tokenAt, .long m_token, .int m_digits, .int m_number, .int m_faultAt, .int m_readMany, .int m_readTold, .ref a_read, .ref a_fit, .ref a_shown, .ref a_image, .ref a_isKept, .ref a_row, .ref a_best, .int m_againAt, .int m_againStep, .int m_orderMany, .int m_orderLeast])), (a_clock, .inl (cI, 48, .inl m_clock)), (a_note, .inl (cI, 36, .inl m_note)), (a_text, .inl (cI, 200, .inl m_text)), (a_read, .inl (cI, 48, .inl m_read)), (a_fit, .inl (cI, 4320, .inl m_fit)), (a_shown, .inl (cI, 720, .inl m_shown)), (a_image, .inl (cI, 180, .inl m_image)), (a_isKept, .inl (cZ, 2, .inl m_isKept)), (a_row, .inl (cI, 6, .inl m_row)), (a_best, .inl (cI, 6, .inl m_best))]
def F_X7_in (x0 : Int32) (x1 : Int32) (x2 : Int32) : Int32 := (if x0 < x1 then 0 else (if x2 < x0 then 0 else 1))
set_option maxHeartbeats 2000000 in
set_option maxRecDepth 100000 in
theorem c_X7_in (l : Launch) (D : va_G) (cI cZ cC cH : ClassId)  (x0 : Int32) (x1 : Int32) (x2 : Int32)  : MC l D (TY cI cZ cC cH) yX7_in wsX7_in 0 0 [.int x0, .int x1, .int x2] [] (some (.int (F_X7_in x0 x1 x2))) [] := by
  obtain ⟨R, hF⟩ : ∃ R, R = F_X7_in x0 x1 x2 := ⟨_, rfl⟩
  rw [← hF]
  refine MC.of (cc := cX7_in) (maxL := 3) (ret := (some .boolean)) RX7 rfl (by decide +kernel) rfl (Nat.le_of_ble_eq_true rfl) ?_
  intro p e s m args below meth c A Q KX RT hh ls hl
  have z0 : (0 : Int32).toInt = 0 := rfl
  have z1 : (1 : Int32).toInt = 1 := rfl
  have zm : (-1 : Int32).toInt = -1 := rfl
  have hx := KX.1
  have hb := KX.2.1
  have hl : lv_has ls 3 [(0, .int x0), (1, .int x1), (2, .int x2)] := hl
  unfold F_X7_in at hF
  refine lv_iload_n hx hb dX7_in_0 rfl (lv_at hl 0 rfl) ?_
  refine lv_iload_n hx hb dX7_in_1 rfl (lv_at hl 1 rfl) ?_
  refine lv_icmp_lt (tgt := 14) hx hb dX7_in_2 (by decide) (fun c_2 => ?_) (fun c_2 => ?_)
  · replace hF := hF.trans (if_pos c_2)
    have i_2 : x0.toInt < x1.toInt := ti_lt.mp c_2
    refine lv_iconst (v := 0) hx hb dX7_in_14 (by decide) ?_
    exact RT _ _ _ _ _ _ hh (rfl) (Or.inl ⟨_, rfl, by rw [hF], dX7_in_15, Or.inr (Or.inl ⟨rfl, Or.inl rfl⟩)⟩)
  · replace hF := hF.trans (if_neg c_2)
    have i_2 : x1.toInt ≤ x0.toInt := ti_nlt c_2
    refine lv_iload_n hx hb dX7_in_5 rfl (lv_at hl 0 rfl) ?_
    refine lv_iload_n hx hb dX7_in_6 rfl (lv_at hl 2 rfl) ?_
    refine lv_icmp_gt (tgt := 14) hx hb dX7_in_7 (by decide) (fun c_7 => ?_) (fun c_7 => ?_)
    · replace hF := hF.trans (if_pos c_7)
      have i_7 : x2.toInt < x0.toInt := ti_lt.mp c_7
      refine lv_iconst (v := 0) hx hb dX7_in_14 (by decide) ?_
      exact RT _ _ _ _ _ _ hh (rfl) (Or.inl ⟨_, rfl, by rw [hF], dX7_in_15, Or.inr (Or.inl ⟨rfl, Or.inl rfl⟩)⟩)
    · replace hF := hF.trans (if_neg c_7)
      have i_7 : x0.toInt ≤ x2.toInt := ti_nlt c_7
      refine lv_iconst (v := 1) hx hb dX7_in_10 (by decide) ?_
      refine lv_goto (tgt := 15) hx hb dX7_in_11 (by decide) ?_
      exact RT _ _ _ _ _ _ hh (rfl) (Or.inl ⟨_, rfl, by rw [hF], dX7_in_15, Or.inr (Or.inl ⟨rfl, Or.inr rfl⟩)⟩)
theorem z_X7_in (x0 : Int32) (x1 : Int32) (x2 : Int32) : (F_X7_in x0 x1 x2) = 0 ∨ (F_X7_in x0 x1 x2) = 1 := by
  unfold F_X7_in
  split
  · exact Or.inl rfl
  · split
    · exact Or.inl rfl
    · exact Or.inr rfl
def F_X7_has (x0 : Int32) (x1 : Int32) : Int32 := (if ((x0 >>> (x1 &&& 31)) &&& 1) = 1 then 1 else 0)
set_option maxHeartbeats 2000000 in
set_option maxRecDepth 100000 in
theorem c_X7_has (l : Launch) (D : va_G) (cI cZ cC cH : ClassId)  (x0 : Int32) (x1 : Int32)  : MC l D (TY cI cZ cC cH) yX7_has wsX7_has 0 0 [.int x0, .int x1] [] (some (.int (F_X7_has x0 x1))) [] := by
  obtain ⟨R, hF⟩ : ∃ R, R = F_X7_has x0 x1 := ⟨_, rfl⟩
  rw [← hF]
  refine MC.of (cc := cX7_has) (maxL := 2) (ret := (some .boolean)) RX7 rfl (by decide +kernel) rfl (Nat.le_of_ble_eq_true rfl) ?_
  intro p e s m args below meth c A Q KX RT hh ls hl
  have z0 : (0 : Int32).toInt = 0 := rfl
  have z1 : (1 : Int32).toInt = 1 := rfl
  have zm : (-1 : Int32).toInt = -1 := rfl
  have hx := KX.1
  have hb := KX.2.1
  have hl : lv_has ls 2 [(0, .int x0), (1, .int x1)] := hl
  unfold F_X7_has at hF
  refine lv_iload_n hx hb dX7_has_0 rfl (lv_at hl 0 rfl) ?_
  refine lv_iload_n hx hb dX7_has_1 rfl (lv_at hl 1 rfl) ?_
  refine lv_ishr hx hb dX7_has_2 ?_
  refine lv_iconst (v := 1) hx hb dX7_has_3 (by decide) ?_
  refine lv_iand hx hb dX7_has_4 ?_
  refine lv_iconst (v := 1) hx hb dX7_has_5 (by decide) ?_
  refine lv_icmp_ne (tgt := 13) hx hb dX7_has_6 (by decide) (fun c_6 => ?_) (fun c_6 => ?_)
  · replace hF := hF.trans (if_neg c_6)
    have i_6 : ¬ ((x0 >>> (x1 &&& 31)) &&& 1).toInt = 1 := ti_ne c_6
    refine lv_iconst (v := 0) hx hb dX7_has_13 (by decide) ?_
    exact RT _ _ _ _ _ _ hh (rfl) (Or.inl ⟨_, rfl, by rw [hF], dX7_has_14, Or.inr (Or.inl ⟨rfl, Or.inl rfl⟩)⟩)
  · replace hF := hF.trans (if_pos c_6)
    have i_6 : ((x0 >>> (x1 &&& 31)) &&& 1).toInt = 1 := congrArg Int32.toInt c_6
    refine lv_iconst (v := 1) hx hb dX7_has_9 (by decide) ?_
    refine lv_goto (tgt := 14) hx hb dX7_has_10 (by decide) ?_
    exact RT _ _ _ _ _ _ hh (rfl) (Or.inl ⟨_, rfl, by rw [hF], dX7_has_14, Or.inr (Or.inl ⟨rfl, Or.inr rfl⟩)⟩)
theorem z_X7_has (x0 : Int32) (x1 : Int32) : (F_X7_has x0 x1) = 0 ∨ (F_X7_has x0 x1) = 1 := by
  unfold F_X7_has
  split
  · exact Or.inr rfl
  · exact Or.inl rfl
def F_X7_bits_4 (x0 : Int32) : Nat → Int32 → Int32 → Int32
  | 0, _, _ => default
  | n + 1, x2_1, x1_2 => (if 8 ≤ x2_1 then x1_2 else ((F_X7_bits_4 x0 n) (x2_1 + 1) (x1_2 + ((x0 >>> (x2_1 &&& 31)) &&& 1))))
def F_X7_bits (x0 : Int32) : Int32 := (F_X7_bits_4 x0 9 0 0)
set_option maxHeartbeats 2000000 in
set_option maxRecDepth 100000 in
theorem c_X7_bits (l : Launch) (D : va_G) (cI cZ cC cH : ClassId)  (x0 : Int32)  : MC l D (TY cI cZ cC cH) yX7_bits wsX7_bits 0 0 [.int x0] [] (some (.int (F_X7_bits x0))) [] := by
  obtain ⟨R, hF⟩ : ∃ R, R = F_X7_bits x0 := ⟨_, rfl⟩
  rw [← hF]
  refine MC.of (cc := cX7_bits) (maxL := 3) (ret := (some .int)) RX7 rfl (by decide +kernel) rfl (Nat.le_of_ble_eq_true rfl) ?_
  intro p e s m args below meth c A Q KX RT hh ls hl
  have z0 : (0 : Int32).toInt = 0 := rfl
  have z1 : (1 : Int32).toInt = 1 := rfl
  have zm : (-1 : Int32).toInt = -1 := rfl
  have hx := KX.1
  have hb := KX.2.1
  have hl : lv_has ls 3 [(0, .int x0)] := hl
  unfold F_X7_bits at hF
  refine lv_iconst (v := 0) hx hb dX7_bits_0 (by decide) ?_
  refine lv_istore_n (lv' := [(1, .int 0), (0, .int x0)]) hx hb dX7_bits_1 rfl hl (Nat.le_of_ble_eq_true rfl) rfl (fun ls hl => ?_)
  refine lv_iconst (v := 0) hx hb dX7_bits_2 (by decide) ?_
  refine lv_istore_n (lv' := [(2, .int 0), (1, .int 0), (0, .int x0)]) hx hb dX7_bits_3 rfl hl (Nat.le_of_ble_eq_true rfl) rfl (fun ls hl => ?_)
  have L_4 : ∀ (n_4 : Nat) (x2_1 : Int32) (x1_2 : Int32) (i0_4 : 0 ≤ x2_1.toInt) (i1_4 : x2_1.toInt ≤ 8) (_ : (8 - x2_1.toInt).toNat < n_4) (_ : R = (F_X7_bits_4 x0) n_4 x2_1 x1_2) (ls : Array Slot) (H : Heap) (locs : List Loc) (_ : HS D A s.heap [] H locs) (_ : lv_has ls 3 [(2, .int x2_1), (1, .int x1_2), (0, .int x0)]), W p l e { frames := 0, cells := 0, slots := 0, locals := 0 } s m args below meth c H locs 0 0 Q (F0 m 4 ls []) := by
    intro n_4
    induction n_4 with
    | zero => intro x2_1 x1_2 i0_4 i1_4 hm; exact absurd hm (Nat.not_lt_zero _)
    | succ n_4 ih_4 =>
      intro x2_1 x1_2 i0_4 i1_4 hm_4 hF ls H locs hh hl
      rw [F_X7_bits_4.eq_2] at hF
      refine lv_iload_n hx hb dX7_bits_4 rfl (lv_at hl 0 rfl) ?_
      refine lv_bipush (v := 8) hx hb dX7_bits_5 (by decide) ?_
      refine lv_icmp_ge (tgt := 24) hx hb dX7_bits_7 (by decide) (fun c_7 => ?_) (fun c_7 => ?_)
      · replace hF := hF.trans (if_pos c_7)
        have i_7 : 8 ≤ x2_1.toInt := ti_le.mp c_7
        refine lv_iload_n hx hb dX7_bits_24 rfl (lv_at hl 1 rfl) ?_
        exact RT _ _ _ _ _ _ hh (rfl) (Or.inl ⟨_, rfl, by rw [hF], dX7_bits_25, Or.inl rfl⟩)
      · replace hF := hF.trans (if_neg c_7)
        have i_7 : x2_1.toInt < 8 := ti_nle c_7
        refine lv_iload_n hx hb dX7_bits_10 rfl (lv_at hl 1 rfl) ?_
        refine lv_iload_n hx hb dX7_bits_11 rfl (lv_at hl 2 rfl) ?_
        refine lv_iload_n hx hb dX7_bits_12 rfl (lv_at hl 0 rfl) ?_
        refine lv_ishr hx hb dX7_bits_13 ?_
        refine lv_iconst (v := 1) hx hb dX7_bits_14 (by decide) ?_
        refine lv_iand hx hb dX7_bits_15 ?_
        refine lv_iadd hx hb dX7_bits_16 ?_
        refine lv_istore_n (lv' := [(1, .int (x1_2 + ((x0 >>> (x2_1 &&& 31)) &&& 1))), (2, .int x2_1), (0, .int x0)]) hx hb dX7_bits_17 rfl hl (Nat.le_of_ble_eq_true rfl) rfl (fun ls hl => ?_)
        refine lv_iinc (v := x2_1 + 1) (lv' := [(2, .int (x2_1 + 1)), (1, .int (x1_2 + ((x0 >>> (x2_1 &&& 31)) &&& 1))), (0, .int x0)]) hx hb dX7_bits_18 hl (k := 1) rfl rfl (Nat.le_of_ble_eq_true rfl) rfl (fun ls hl => ?_)
        refine lv_goto (tgt := 4) hx hb dX7_bits_21 (by decide) ?_
        have e_inc : (x2_1 + 1).toInt = x2_1.toInt + 1 := ti_inc (by omega)
        exact ih_4 (x2_1 + 1) (x1_2 + ((x0 >>> (x2_1 &&& 31)) &&& 1)) (by first | with_reducible assumption | omega | decide) (by first | with_reducible assumption | omega | decide) (by omega) hF _ _ _ hh (lv_sub hl [0, 1, 2] rfl)
  exact L_4 9 0 0 (by first | with_reducible assumption | omega | decide) (by first | with_reducible assumption | omega | decide) (by first | omega | decide | (simp; done)) hF _ _ _ hh (lv_sub hl [0, 1, 2] rfl)
theorem X7_in_in {x a b : Int32} (h : ¬ F_X7_in x a b = 0) : a.toInt ≤ x.toInt ∧ x.toInt ≤ b.toInt := by
  unfold F_X7_in at h
  by_cases h1 : x < a
  · simp [h1] at h
  · by_cases h2 : b < x
    · simp [h1, h2] at h
    · exact ⟨ti_nlt h1, ti_nlt h2⟩
def F_X7_isClock (m_told : Int32) (x1 : Int32) : Int32 := (if (F_X7_in x1 0 7) = 0 then 0 else (if (F_X7_has m_told x1) = 0 then 0 else 1))
theorem in_X7_isClock_X7 : ∀ x ∈ u_ws RX7 TX7 26, x ∈ wsX7_isClock := by decide +kernel
set_option maxHeartbeats 2000000 in
set_option maxRecDepth 100000 in
theorem c_X7_isClock (l : Launch) (D : va_G) (cI cZ cC cH : ClassId) (o a_clock a_note a_text a_read a_fit a_shown a_image a_isKept a_row a_best : Nat) (m_told : Int32) (m_isRead1 : Int32) (m_clock : Nat → Int32) (m_note : Nat → Int32) (m_noted : Int32) (m_bytes : Int32) (m_text : Nat → Int32) (m_position : Int32) (m_tokenAt : Int32) (m_token : Int64) (m_digits : Int32) (m_number : Int32) (m_faultAt : Int32) (m_readMany : Int32) (m_readTold : Int32) (m_read : Nat → Int32) (m_fit : Nat → Int32) (m_shown : Nat → Int32) (m_image : Nat → Int32) (m_isKept : Nat → Int32) (m_row : Nat → Int32) (m_best : Nat → Int32) (m_againAt : Int32) (m_againStep : Int32) (m_orderMany : Int32) (m_orderLeast : Int32) (x1 : Int32)  : MC l D (TY cI cZ cC cH) yX7_isClock wsX7_isClock 1 22 [.ref o, .int x1] (WM cI cZ cC cH o a_clock a_note a_text a_read a_fit a_shown a_image a_isKept a_row a_best m_told m_isRead1 m_clock m_note m_noted m_bytes m_text m_position m_tokenAt m_token m_digits m_number m_faultAt m_readMany m_readTold m_read m_fit m_shown m_image m_isKept m_row m_best m_againAt m_againStep m_orderMany m_orderLeast) (some (.int (F_X7_isClock m_told x1))) (WM cI cZ cC cH o a_clock a_note a_text a_read a_fit a_shown a_image a_isKept a_row a_best m_told m_isRead1 m_clock m_note m_noted m_bytes m_text m_position m_tokenAt m_token m_digits m_number m_faultAt m_readMany m_readTold m_read m_fit m_shown m_image m_isKept m_row m_best m_againAt m_againStep m_orderMany m_orderLeast) := by
  obtain ⟨R, hF⟩ : ∃ R, R = F_X7_isClock m_told x1 := ⟨_, rfl⟩
  rw [← hF]
  refine MC.of (cc := cX7_isClock) (maxL := 2) (ret := (some .boolean)) RX7 rfl (by decide +kernel) rfl (Nat.le_of_ble_eq_true rfl) ?_
  intro p e s m args below meth c A Q KX RT hh ls hl
  have z0 : (0 : Int32).toInt = 0 := rfl
  have z1 : (1 : Int32).toInt = 1 := rfl
  have zm : (-1 : Int32).toInt = -1 := rfl
  have hx := KX.1
  have hb := KX.2.1
  have hl : lv_has ls 2 [(0, .ref o), (1, .int x1)] := hl
  unfold F_X7_isClock at hF
  refine lv_iload_n hx hb dX7_isClock_0 rfl (lv_at hl 1 rfl) ?_
  refine lv_iconst (v := 0) hx hb dX7_isClock_1 (by decide) ?_
  refine lv_bipush (v := 7) hx hb dX7_isClock_2 (by decide) ?_
  refine g_callS (As := [.int x1, .int 0, .int 7]) (rest := []) KX rfl ⟨Nat.le_of_ble_eq_true rfl, Nat.le_of_ble_eq_true rfl⟩ hh hl (c_X7_in l D cI cZ cC cH  x1 0 7 ) JN.no 3 gX7_isClock_X7_in rfl (by decide +kernel) ⟨Nat.le_of_ble_eq_true rfl, Nat.le_of_ble_eq_true rfl⟩ rfl rfl (Nat.le_of_ble_eq_true rfl) dX7_isClock_4 (fun H locs hh => ?_)
  refine W.eq (g2 := F0 m 7 ls [.int (F_X7_in x1 0 7)]) rfl ?_
  refine lv_if_eq (tgt := 25) hx hb dX7_isClock_7 (by decide) (fun c_7 => ?_) (fun c_7 => ?_)
  · replace hF := hF.trans (if_pos c_7)
    refine lv_iconst (v := 0) hx hb dX7_isClock_25 (by decide) ?_
    exact RT _ _ _ _ _ _ hh (rfl) (Or.inl ⟨_, rfl, by rw [hF], dX7_isClock_26, Or.inr (Or.inl ⟨rfl, Or.inl rfl⟩)⟩)
  · replace hF := hF.trans (if_neg c_7)
    obtain ⟨k0_7, k1_7⟩ : (0 : Int) ≤ x1.toInt ∧ x1.toInt ≤ 7 := X7_in_in c_7
    refine lv_aload_n hx hb dX7_isClock_10 rfl (lv_at hl 0 rfl) ?_
    refine g_get KX hh in_X7_isClock_X7 0 rfl rfl 0 (by decide) rfl (List.mem_of_getElem? (i := 1) rfl) dX7_isClock_11 ?_
    refine lv_iload_n hx hb dX7_isClock_14 rfl (lv_at hl 1 rfl) ?_
    refine g_callS (As := [.int m_told, .int x1]) (rest := []) KX rfl ⟨Nat.le_of_ble_eq_true rfl, Nat.le_of_ble_eq_true rfl⟩ hh hl (c_X7_has l D cI cZ cC cH  m_told x1 ) JN.no 2 gX7_isClock_X7_has rfl (by decide +kernel) ⟨Nat.le_of_ble_eq_true rfl, Nat.le_of_ble_eq_true rfl⟩ rfl rfl (Nat.le_of_ble_eq_true rfl) dX7_isClock_15 (fun H locs hh => ?_)
    refine W.eq (g2 := F0 m 18 ls [.int (F_X7_has m_told x1)]) rfl ?_
    refine lv_if_eq (tgt := 25) hx hb dX7_isClock_18 (by decide) (fun c_18 => ?_) (fun c_18 => ?_)
    · replace hF := hF.trans (if_pos c_18)
      refine lv_iconst (v := 0) hx hb dX7_isClock_25 (by decide) ?_
      exact RT _ _ _ _ _ _ hh (rfl) (Or.inl ⟨_, rfl, by rw [hF], dX7_isClock_26, Or.inr (Or.inl ⟨rfl, Or.inl rfl⟩)⟩)
    · replace hF := hF.trans (if_neg c_18)
      refine lv_iconst (v := 1) hx hb dX7_isClock_21 (by decide) ?_
      refine lv_goto (tgt := 26) hx hb dX7_isClock_22 (by decide) ?_
      exact RT _ _ _ _ _ _ hh (rfl) (Or.inl ⟨_, rfl, by rw [hF], dX7_isClock_26, Or.inr (Or.inl ⟨rfl, Or.inr rfl⟩)⟩)
theorem z_X7_isClock (m_told : Int32) (x1 : Int32) : (F_X7_isClock m_told x1) = 0 ∨ (F_X7_isClock m_told x1) = 1 := by
  unfold F_X7_isClock
  split
  · exact Or.inl rfl
  · split
    · exact Or.inl rfl
    · exact Or.inr rfl
theorem X7_isClock_in {t k : Int32} (h : ¬ F_X7_isClock t k = 0) : 0 ≤ k.toInt ∧ k.toInt < 8 := by
  unfold F_X7_isClock at h
  by_cases h1 : F_X7_in k 0 7 = 0
  · simp [h1] at h
  · obtain ⟨a, b⟩ : (0 : Int) ≤ k.toInt ∧ k.toInt ≤ 7 := X7_in_in h1
    omega
def F_X7_write_31 (m_bytes : Int32) (x1 : Int64) (x3 : Int32) : Nat → Int32 → (Nat → Int32) → Int32 × Int32 × (Nat → Int32)
  | 0, _, _ => default
  | n + 1, x4_1, w_m_text_2 => (if x3 ≤ x4_1 then (m_bytes + x3, m_bytes + x3, w_m_text_2) else ((F_X7_write_31 m_bytes x1 x3 n) (x4_1 + 1) (upd w_m_text_2 (m_bytes + x4_1).toNatClampNeg (((x1 >>> ((8 * x4_1).toInt64 &&& 63)) &&& 255).toInt32))))
def F_X7_write (m_bytes : Int32) (m_text : Nat → Int32) (x1 : Int64) (x3 : Int32) : Int32 × Int32 × (Nat → Int32) := (if (F_X7_in x3 1 8) = 0 then ((-3), m_bytes, m_text) else (if (m_bytes + x3) ≤ 200 then (F_X7_write_31 m_bytes x1 x3 9 0 m_text) else ((-5), m_bytes, m_text)))
theorem in_X7_write_X7 : ∀ x ∈ u_ws RX7 TX7 26, x ∈ wsX7_write := by decide +kernel
set_option maxHeartbeats 2000000 in
set_option maxRecDepth 100000 in
theorem c_X7_write (l : Launch) (D : va_G) (cI cZ cC cH : ClassId) (o a_clock a_note a_text a_read a_fit a_shown a_image a_isKept a_row a_best : Nat) (m_told : Int32) (m_isRead1 : Int32) (m_clock : Nat → Int32) (m_note : Nat → Int32) (m_noted : Int32) (m_bytes : Int32) (m_text : Nat → Int32) (m_position : Int32) (m_tokenAt : Int32) (m_token : Int64) (m_digits : Int32) (m_number : Int32) (m_faultAt : Int32) (m_readMany : Int32) (m_readTold : Int32) (m_read : Nat → Int32) (m_fit : Nat → Int32) (m_shown : Nat → Int32) (m_image : Nat → Int32) (m_isKept : Nat → Int32) (m_row : Nat → Int32) (m_best : Nat → Int32) (m_againAt : Int32) (m_againStep : Int32) (m_orderMany : Int32) (m_orderLeast : Int32) (x1 : Int64) (x3 : Int32) (hb0 : 0 ≤ m_bytes.toInt) (hb1 : m_bytes.toInt ≤ 200) : MC l D (TY cI cZ cC cH) yX7_write wsX7_write 1 22 [.ref o, .long x1, .int x3] (WM cI cZ cC cH o a_clock a_note a_text a_read a_fit a_shown a_image a_isKept a_row a_best m_told m_isRead1 m_clock m_note m_noted m_bytes m_text m_position m_tokenAt m_token m_digits m_number m_faultAt m_readMany m_readTold m_read m_fit m_shown m_image m_isKept m_row m_best m_againAt m_againStep m_orderMany m_orderLeast) (some (.int ((F_X7_write m_bytes m_text x1 x3).1))) (WM cI cZ cC cH o a_clock a_note a_text a_read a_fit a_shown a_image a_isKept a_row a_best m_told m_isRead1 m_clock m_note m_noted (F_X7_write m_bytes m_text x1 x3).2.1 (F_X7_write m_bytes m_text x1 x3).2.2 m_position m_tokenAt m_token m_digits m_number m_faultAt m_readMany m_readTold m_read m_fit m_shown m_image m_isKept m_row m_best m_againAt m_againStep m_orderMany m_orderLeast) := by
  obtain ⟨R, hF⟩ : ∃ R, R = F_X7_write m_bytes m_text x1 x3 := ⟨_, rfl⟩
  rw [← hF]
  refine MC.of (cc := cX7_write) (maxL := 5) (ret := (some .int)) RX7 rfl (by decide +kernel) rfl (Nat.le_of_ble_eq_true rfl) ?_
  intro p e s m args below meth c A Q KX RT hh ls hl
  have z0 : (0 : Int32).toInt = 0 := rfl
  have z1 : (1 : Int32).toInt = 1 := rfl
  have zm : (-1 : Int32).toInt = -1 := rfl
  have hx := KX.1
  have hb := KX.2.1
  have hl : lv_has ls 5 [(0, .ref o), (1, .long x1), (3, .int x3)] := hl
  unfold F_X7_write at hF
  refine lv_iload_n hx hb dX7_write_0 rfl (lv_at hl 2 rfl) ?_
  refine lv_iconst (v := 1) hx hb dX7_write_1 (by decide) ?_
  refine lv_bipush (v := 8) hx hb dX7_write_2 (by decide) ?_
  refine g_callS (As := [.int x3, .int 1, .int 8]) (rest := []) KX rfl ⟨Nat.le_of_ble_eq_true rfl, Nat.le_of_ble_eq_true rfl⟩ hh hl (c_X7_in l D cI cZ cC cH  x3 1 8 ) JN.no 3 gX7_write_X7_in rfl (by decide +kernel) ⟨Nat.le_of_ble_eq_true rfl, Nat.le_of_ble_eq_true rfl⟩ rfl rfl (Nat.le_of_ble_eq_true rfl) dX7_write_4 (fun H locs hh => ?_)
  refine W.eq (g2 := F0 m 7 ls [.int (F_X7_in x3 1 8)]) rfl ?_
  refine lv_if_ne (tgt := 13) hx hb dX7_write_7 (by decide) (fun c_7 => ?_) (fun c_7 => ?_)
  · replace hF := hF.trans (if_neg c_7)
    obtain ⟨k0_7, k1_7⟩ : (1 : Int) ≤ x3.toInt ∧ x3.toInt ≤ 8 := X7_in_in c_7
    refine lv_aload_n hx hb dX7_write_13 rfl (lv_at hl 0 rfl) ?_
    refine g_get KX hh in_X7_write_X7 0 rfl rfl 5 (by decide) rfl (List.mem_of_getElem? (i := 1) rfl) dX7_write_14 ?_
    refine lv_iload_n hx hb dX7_write_17 rfl (lv_at hl 2 rfl) ?_
    refine lv_iadd hx hb dX7_write_18 ?_
    refine lv_sipush (v := 200) hx hb dX7_write_19 (by decide) ?_
    refine lv_icmp_le (tgt := 28) hx hb dX7_write_22 (by decide) (fun c_22 => ?_) (fun c_22 => ?_)
    · replace hF := hF.trans (if_pos c_22)
      have i_22 : (m_bytes + x3).toInt ≤ 200 := ti_le.mp c_22
      refine lv_iconst (v := 0) hx hb dX7_write_28 (by decide) ?_
      refine lv_istore (lv' := [(4, .int 0), (0, .ref o), (1, .long x1), (3, .int x3)]) hx hb dX7_write_29 hl (Nat.le_of_ble_eq_true rfl) rfl (fun ls hl => ?_)
      have L_31 : ∀ (n_31 : Nat) (x4_1 : Int32) (w_m_text_2 : Nat → Int32) (i0_31 : 0 ≤ x4_1.toInt) (i1_31 : x4_1.toInt ≤ x3.toInt) (_ : (x3.toInt - x4_1.toInt).toNat < n_31) (_ : R = (F_X7_write_31 m_bytes x1 x3) n_31 x4_1 w_m_text_2) (ls : Array Slot) (H : Heap) (locs : List Loc) (_ : HS D A s.heap (WM cI cZ cC cH o a_clock a_note a_text a_read a_fit a_shown a_image a_isKept a_row a_best m_told m_isRead1 m_clock m_note m_noted m_bytes w_m_text_2 m_position m_tokenAt m_token m_digits m_number m_faultAt m_readMany m_readTold m_read m_fit m_shown m_image m_isKept m_row m_best m_againAt m_againStep m_orderMany m_orderLeast) H locs) (_ : lv_has ls 5 [(4, .int x4_1), (0, .ref o), (1, .long x1), (3, .int x3)]), W p l e { frames := 1, cells := 0, slots := 0, locals := 22 } s m args below meth c H locs 0 0 Q (F0 m 31 ls []) := by
        intro n_31
        induction n_31 with
        | zero => intro x4_1 w_m_text_2 i0_31 i1_31 hm; exact absurd hm (Nat.not_lt_zero _)
        | succ n_31 ih_31 =>
          intro x4_1 w_m_text_2 i0_31 i1_31 hm_31 hF ls H locs hh hl
          rw [F_X7_write_31.eq_2] at hF
          have hsum : (m_bytes + x3).toInt = m_bytes.toInt + x3.toInt := ti_add (by omega) (by omega)
          refine lv_iload hx hb dX7_write_31 (lv_at hl 0 rfl) ?_
          refine lv_iload_n hx hb dX7_write_33 rfl (lv_at hl 3 rfl) ?_
          refine lv_icmp_ge (tgt := 67) hx hb dX7_write_34 (by decide) (fun c_34 => ?_) (fun c_34 => ?_)
          · replace hF := hF.trans (if_pos c_34)
            have i_34 : x3.toInt ≤ x4_1.toInt := ti_le.mp c_34
            refine lv_aload_n hx hb dX7_write_67 rfl (lv_at hl 1 rfl) ?_
            refine lv_dup hx hb dX7_write_68 rfl ?_
            refine g_get KX hh in_X7_write_X7 0 rfl rfl 5 (by decide) rfl (List.mem_of_getElem? (i := 1) rfl) dX7_write_69 ?_
            refine lv_iload_n hx hb dX7_write_72 rfl (lv_at hl 3 rfl) ?_
            refine lv_iadd hx hb dX7_write_73 ?_
            refine g_put KX hh in_X7_write_X7 tyX7 tyX7_ok nmX7 0 rfl rfl 5 (by decide) rfl rfl rfl (Nat.le_of_ble_eq_true rfl) (List.mem_of_getElem? (i := 1) rfl) (w' := (WM cI cZ cC cH o a_clock a_note a_text a_read a_fit a_shown a_image a_isKept a_row a_best m_told m_isRead1 m_clock m_note m_noted (m_bytes + x3) w_m_text_2 m_position m_tokenAt m_token m_digits m_number m_faultAt m_readMany m_readTold m_read m_fit m_shown m_image m_isKept m_row m_best m_againAt m_againStep m_orderMany m_orderLeast)) rfl rfl dX7_write_74 (fun H locs hh => ?_)
            refine lv_aload_n hx hb dX7_write_77 rfl (lv_at hl 1 rfl) ?_
            refine g_get KX hh in_X7_write_X7 0 rfl rfl 5 (by decide) rfl (List.mem_of_getElem? (i := 1) rfl) dX7_write_78 ?_
            exact RT _ _ _ _ _ _ hh (by rw [hF]) (Or.inl ⟨_, rfl, by rw [hF], dX7_write_81, Or.inl rfl⟩)
          · replace hF := hF.trans (if_neg c_34)
            have i_34 : x4_1.toInt < x3.toInt := ti_nle c_34
            refine lv_aload_n hx hb dX7_write_37 rfl (lv_at hl 1 rfl) ?_
            refine g_get KX hh in_X7_write_X7 0 rfl rfl 6 (by decide) rfl (List.mem_of_getElem? (i := 2) rfl) dX7_write_38 ?_
            refine lv_aload_n hx hb dX7_write_41 rfl (lv_at hl 1 rfl) ?_
            refine g_get KX hh in_X7_write_X7 0 rfl rfl 5 (by decide) rfl (List.mem_of_getElem? (i := 1) rfl) dX7_write_42 ?_
            refine lv_iload hx hb dX7_write_45 (lv_at hl 0 rfl) ?_
            refine lv_iadd hx hb dX7_write_47 ?_
            refine lv_lload_n hx hb dX7_write_48 rfl (lv_at hl 2 rfl) ?_
            refine lv_bipush (v := 8) hx hb dX7_write_49 (by decide) ?_
            refine lv_iload hx hb dX7_write_51 (lv_at hl 0 rfl) ?_
            refine lv_imul hx hb dX7_write_53 ?_
            refine lv_lshr hx hb dX7_write_54 rfl ?_
            refine lv_ldc2 (v := 255) hx hb KX.2.2.2.1 (KX.2.2.2.2.1 _ (List.mem_of_getElem? (i := 3) rfl)) dX7_write_55 ?_
            refine lv_land hx hb dX7_write_58 ?_
            refine lv_l2i hx hb dX7_write_59 rfl ?_
            refine g_iast KX hh 3 0 rfl rfl (vp_in_iff.mpr (by have := ti_add (a := m_bytes) (b := x4_1) (by omega) (by omega); omega)) (w' := (WM cI cZ cC cH o a_clock a_note a_text a_read a_fit a_shown a_image a_isKept a_row a_best m_told m_isRead1 m_clock m_note m_noted m_bytes (upd w_m_text_2 (m_bytes + x4_1).toNatClampNeg (((x1 >>> ((8 * x4_1).toInt64 &&& 63)) &&& 255).toInt32)) m_position m_tokenAt m_token m_digits m_number m_faultAt m_readMany m_readTold m_read m_fit m_shown m_image m_isKept m_row m_best m_againAt m_againStep m_orderMany m_orderLeast)) rfl dX7_write_60 (fun H locs hh => ?_)
            refine lv_iinc (v := x4_1 + 1) (lv' := [(4, .int (x4_1 + 1)), (0, .ref o), (1, .long x1), (3, .int x3)]) hx hb dX7_write_61 hl (k := 0) rfl rfl (Nat.le_of_ble_eq_true rfl) rfl (fun ls hl => ?_)
            refine lv_goto (tgt := 31) hx hb dX7_write_64 (by decide) ?_
            have e_inc : (x4_1 + 1).toInt = _ := ti_inc (by omega)
            exact ih_31 (x4_1 + 1) (upd w_m_text_2 (m_bytes + x4_1).toNatClampNeg (((x1 >>> ((8 * x4_1).toInt64 &&& 63)) &&& 255).toInt32)) (by first | with_reducible assumption | omega | decide) (by first | with_reducible assumption | omega | decide) (by omega) hF _ _ _ hh (lv_sub hl [0, 1, 2, 3] rfl)
      exact L_31 9 0 m_text (by first | with_reducible assumption | omega | decide) (by first | with_reducible assumption | omega | decide) (by first | omega | decide | (simp; done)) hF _ _ _ hh (lv_sub hl [0, 1, 2, 3] rfl)
    · replace hF := hF.trans (if_neg c_22)
      have i_22 : 200 < (m_bytes + x3).toInt := ti_nle c_22
      refine lv_bipush (v := (-5)) hx hb dX7_write_25 (by decide) ?_
      exact RT _ _ _ _ _ _ hh (by rw [hF]) (Or.inl ⟨_, rfl, by rw [hF], dX7_write_27, Or.inl rfl⟩)
  · replace hF := hF.trans (if_pos c_7)
    refine lv_bipush (v := (-3)) hx hb dX7_write_10 (by decide) ?_
    exact RT _ _ _ _ _ _ hh (by rw [hF]) (Or.inl ⟨_, rfl, by rw [hF], dX7_write_12, Or.inl rfl⟩)
def F_X7_erase (m_bytes : Int32) : Int32 × Int32 := (m_bytes, 0)
theorem in_X7_erase_X7 : ∀ x ∈ u_ws RX7 TX7 26, x ∈ wsX7_erase := by decide +kernel
set_option maxHeartbeats 2000000 in
set_option maxRecDepth 100000 in
theorem c_X7_erase (l : Launch) (D : va_G) (cI cZ cC cH : ClassId) (o a_clock a_note a_text a_read a_fit a_shown a_image a_isKept a_row a_best : Nat) (m_told : Int32) (m_isRead1 : Int32) (m_clock : Nat → Int32) (m_note : Nat → Int32) (m_noted : Int32) (m_bytes : Int32) (m_text : Nat → Int32) (m_position : Int32) (m_tokenAt : Int32) (m_token : Int64) (m_digits : Int32) (m_number : Int32) (m_faultAt : Int32) (m_readMany : Int32) (m_readTold : Int32) (m_read : Nat → Int32) (m_fit : Nat → Int32) (m_shown : Nat → Int32) (m_image : Nat → Int32) (m_isKept : Nat → Int32) (m_row : Nat → Int32) (m_best : Nat → Int32) (m_againAt : Int32) (m_againStep : Int32) (m_orderMany : Int32) (m_orderLeast : Int32)   : MC l D (TY cI cZ cC cH) yX7_erase wsX7_erase 0 0 [.ref o] (WM cI cZ cC cH o a_clock a_note a_text a_read a_fit a_shown a_image a_isKept a_row a_best m_told m_isRead1 m_clock m_note m_noted m_bytes m_text m_position m_tokenAt m_token m_digits m_number m_faultAt m_readMany m_readTold m_read m_fit m_shown m_image m_isKept m_row m_best m_againAt m_againStep m_orderMany m_orderLeast) (some (.int ((F_X7_erase m_bytes).1))) (WM cI cZ cC cH o a_clock a_note a_text a_read a_fit a_shown a_image a_isKept a_row a_best m_told m_isRead1 m_clock m_note m_noted (F_X7_erase m_bytes).2 m_text m_position m_tokenAt m_token m_digits m_number m_faultAt m_readMany m_readTold m_read m_fit m_shown m_image m_isKept m_row m_best m_againAt m_againStep m_orderMany m_orderLeast) := by
  obtain ⟨R, hF⟩ : ∃ R, R = F_X7_erase m_bytes := ⟨_, rfl⟩
  rw [← hF]
  refine MC.of (cc := cX7_erase) (maxL := 2) (ret := (some .int)) RX7 rfl (by decide +kernel) rfl (Nat.le_of_ble_eq_true rfl) ?_
  intro p e s m args below meth c A Q KX RT hh ls hl
  have z0 : (0 : Int32).toInt = 0 := rfl
  have z1 : (1 : Int32).toInt = 1 := rfl
  have zm : (-1 : Int32).toInt = -1 := rfl
  have hx := KX.1
  have hb := KX.2.1
  have hl : lv_has ls 2 [(0, .ref o)] := hl
  unfold F_X7_erase at hF
  refine lv_aload_n hx hb dX7_erase_0 rfl (lv_at hl 0 rfl) ?_
  refine g_get KX hh in_X7_erase_X7 0 rfl rfl 5 (by decide) rfl (List.mem_of_getElem? (i := 1) rfl) dX7_erase_1 ?_
  refine lv_istore_n (lv' := [(1, .int m_bytes), (0, .ref o)]) hx hb dX7_erase_4 rfl hl (Nat.le_of_ble_eq_true rfl) rfl (fun ls hl => ?_)
  refine lv_aload_n hx hb dX7_erase_5 rfl (lv_at hl 1 rfl) ?_
  refine lv_iconst (v := 0) hx hb dX7_erase_6 (by decide) ?_
  refine g_put KX hh in_X7_erase_X7 tyX7 tyX7_ok nmX7 0 rfl rfl 5 (by decide) rfl rfl rfl (Nat.le_of_ble_eq_true rfl) (List.mem_of_getElem? (i := 1) rfl) (w' := (WM cI cZ cC cH o a_clock a_note a_text a_read a_fit a_shown a_image a_isKept a_row a_best m_told m_isRead1 m_clock m_note m_noted 0 m_text m_position m_tokenAt m_token m_digits m_number m_faultAt m_readMany m_readTold m_read m_fit m_shown m_image m_isKept m_row m_best m_againAt m_againStep m_orderMany m_orderLeast)) rfl rfl dX7_erase_7 (fun H locs hh => ?_)
  refine lv_iload_n hx hb dX7_erase_10 rfl (lv_at hl 0 rfl) ?_
  exact RT _ _ _ _ _ _ hh (by rw [hF]) (Or.inl ⟨_, rfl, by rw [hF], dX7_erase_11, Or.inl rfl⟩)
def PosOk (b p : Int32) : Prop := 0 ≤ p.toInt ∧ p.toInt ≤ b.toInt ∧ b.toInt ≤ 200
def F_X7_nextToken_333 (w_m_position_1 : Int32) (w_m_position_2 : Int32) (w_m_digits_3 : Int32) (w_m_number_4 : Int32)  : Int32 × Int32 × Int64 × Int32 × Int32 := (if w_m_digits_3 ≤ 4 then (w_m_position_2, w_m_position_1, (-1), w_m_digits_3, w_m_number_4) else (w_m_position_2, w_m_position_1, (-4), w_m_digits_3, w_m_number_4))
def F_X7_nextToken_307 (w_m_position_2 : Int32) (w_m_digits_3 : Int32) (k_241 : Int32 → Int32 → Int32 → Int32 × Int32 × Int64 × Int32 × Int32) (y0_5 : Int32) : Int32 × Int32 × Int64 × Int32 × Int32 := (k_241 (w_m_position_2 + 1) (w_m_digits_3 + 1) y0_5)
def F_X7_nextToken_241 (m_bytes : Int32) (m_text : Nat → Int32) (w_m_position_1 : Int32) : Nat → Int32 → Int32 → Int32 → Int32 × Int32 × Int64 × Int32 × Int32
  | 0, _, _, _ => default
  | n + 1, w_m_position_2, w_m_digits_3, w_m_number_4 => (if m_bytes ≤ w_m_position_2 then F_X7_nextToken_333 w_m_position_1 w_m_position_2 w_m_digits_3 w_m_number_4 else (if (F_X7_in (m_text w_m_position_2.toNatClampNeg) 48 57) = 0 then F_X7_nextToken_333 w_m_position_1 w_m_position_2 w_m_digits_3 w_m_number_4 else (if 4 ≤ w_m_digits_3 then (F_X7_nextToken_307 w_m_position_2 w_m_digits_3 (F_X7_nextToken_241 m_bytes m_text w_m_position_1 n) w_m_number_4) else (F_X7_nextToken_307 w_m_position_2 w_m_digits_3 (F_X7_nextToken_241 m_bytes m_text w_m_position_1 n) (((10 * w_m_number_4) + (m_text w_m_position_2.toNatClampNeg)) - 48)))))
def F_X7_nextToken_191 (w_m_position_1 : Int32) (w_m_position_6 : Int32) (w_m_token_7 : Int64)  : Int32 × Int32 × Int64 × Int32 × Int32 := (if (w_m_position_6 - w_m_position_1) ≤ 9 then (w_m_position_6, w_m_position_1, w_m_token_7, 0, 0) else (w_m_position_6, w_m_position_1, (-4), 0, 0))
def F_X7_nextToken_175 (w_m_position_6 : Int32) (k_101 : Int32 → Int64 → Int32 × Int32 × Int64 × Int32 × Int32) (y0_8 : Int64) : Int32 × Int32 × Int64 × Int32 × Int32 := (k_101 (w_m_position_6 + 1) y0_8)
def F_X7_nextToken_101 (m_bytes : Int32) (m_text : Nat → Int32) (w_m_position_1 : Int32) : Nat → Int32 → Int64 → Int32 × Int32 × Int64 × Int32 × Int32
  | 0, _, _ => default
  | n + 1, w_m_position_6, w_m_token_7 => (if m_bytes ≤ w_m_position_6 then F_X7_nextToken_191 w_m_position_1 w_m_position_6 w_m_token_7 else (if (F_X7_in (m_text w_m_position_6.toNatClampNeg) 97 122) = 0 then F_X7_nextToken_191 w_m_position_1 w_m_position_6 w_m_token_7 else (if 9 ≤ (w_m_position_6 - w_m_position_1) then (F_X7_nextToken_175 w_m_position_6 (F_X7_nextToken_101 m_bytes m_text w_m_position_1 n) (-4)) else (F_X7_nextToken_175 w_m_position_6 (F_X7_nextToken_101 m_bytes m_text w_m_position_1 n) (((27 * w_m_token_7) + ((m_text w_m_position_6.toNatClampNeg).toInt64)) - 96)))))
def F_X7_nextToken_38 (m_bytes : Int32) (m_text : Nat → Int32) (w_m_position_1 : Int32)  : Int32 × Int32 × Int64 × Int32 × Int32 := (if w_m_position_1 = m_bytes then (w_m_position_1, w_m_position_1, (-2), 0, 0) else (if (F_X7_in (m_text w_m_position_1.toNatClampNeg) 97 122) = 0 then (if (F_X7_in (m_text w_m_position_1.toNatClampNeg) 48 57) = 0 then (if (m_text w_m_position_1.toNatClampNeg) = 59 then (w_m_position_1 + 1, w_m_position_1, (-3), 0, 0) else (w_m_position_1 + 1, w_m_position_1, (-4), 0, 0)) else (F_X7_nextToken_241 m_bytes m_text w_m_position_1 201 w_m_position_1 0 0)) else (F_X7_nextToken_101 m_bytes m_text w_m_position_1 201 w_m_position_1 0)))
def F_X7_nextToken_0 (m_bytes : Int32) (m_text : Nat → Int32) : Nat → Int32 → Int32 × Int32 × Int64 × Int32 × Int32
  | 0, _ => default
  | n + 1, w_m_position_1 => (if m_bytes ≤ w_m_position_1 then F_X7_nextToken_38 m_bytes m_text w_m_position_1 else (if (m_text w_m_position_1.toNatClampNeg) = 32 then ((F_X7_nextToken_0 m_bytes m_text n) (w_m_position_1 + 1)) else F_X7_nextToken_38 m_bytes m_text w_m_position_1))
def F_X7_nextToken (m_bytes : Int32) (m_text : Nat → Int32) (m_position : Int32) : Int32 × Int32 × Int64 × Int32 × Int32 := (F_X7_nextToken_0 m_bytes m_text 201 m_position)
theorem in_X7_nextToken_X7 : ∀ x ∈ u_ws RX7 TX7 26, x ∈ wsX7_nextToken := by decide +kernel
set_option maxHeartbeats 2000000 in
set_option maxRecDepth 100000 in
theorem c_X7_nextToken (l : Launch) (D : va_G) (cI cZ cC cH : ClassId) (o a_clock a_note a_text a_read a_fit a_shown a_image a_isKept a_row a_best : Nat) (m_told : Int32) (m_isRead1 : Int32) (m_clock : Nat → Int32) (m_note : Nat → Int32) (m_noted : Int32) (m_bytes : Int32) (m_text : Nat → Int32) (m_position : Int32) (m_tokenAt : Int32) (m_token : Int64) (m_digits : Int32) (m_number : Int32) (m_faultAt : Int32) (m_readMany : Int32) (m_readTold : Int32) (m_read : Nat → Int32) (m_fit : Nat → Int32) (m_shown : Nat → Int32) (m_image : Nat → Int32) (m_isKept : Nat → Int32) (m_row : Nat → Int32) (m_best : Nat → Int32) (m_againAt : Int32) (m_againStep : Int32) (m_orderMany : Int32) (m_orderLeast : Int32)  (hpos : PosOk m_bytes m_position) : MC l D (TY cI cZ cC cH) yX7_nextToken wsX7_nextToken 1 22 [.ref o] (WM cI cZ cC cH o a_clock a_note a_text a_read a_fit a_shown a_image a_isKept a_row a_best m_told m_isRead1 m_clock m_note m_noted m_bytes m_text m_position m_tokenAt m_token m_digits m_number m_faultAt m_readMany m_readTold m_read m_fit m_shown m_image m_isKept m_row m_best m_againAt m_againStep m_orderMany m_orderLeast) (none) (WM cI cZ cC cH o a_clock a_note a_text a_read a_fit a_shown a_image a_isKept a_row a_best m_told m_isRead1 m_clock m_note m_noted m_bytes m_text (F_X7_nextToken m_bytes m_text m_position).1 (F_X7_nextToken m_bytes m_text m_position).2.1 (F_X7_nextToken m_bytes m_text m_position).2.2.1 (F_X7_nextToken m_bytes m_text m_position).2.2.2.1 (F_X7_nextToken m_bytes m_text m_position).2.2.2.2 m_faultAt m_readMany m_readTold m_read m_fit m_shown m_image m_isKept m_row m_best m_againAt m_againStep m_orderMany m_orderLeast) := by
  obtain ⟨R, hF⟩ : ∃ R, R = F_X7_nextToken m_bytes m_text m_position := ⟨_, rfl⟩
  rw [← hF]
  refine MC.of (cc := cX7_nextToken) (maxL := 1) (ret := none) RX7 rfl (by decide +kernel) rfl (Nat.le_of_ble_eq_true rfl) ?_
  intro p e s m args below meth c A Q KX RT hh ls hl
  have z0 : (0 : Int32).toInt = 0 := rfl
  have z1 : (1 : Int32).toInt = 1 := rfl
  have zm : (-1 : Int32).toInt = -1 := rfl
  have hx := KX.1
  have hb := KX.2.1
  have hl : lv_has ls 1 [(0, .ref o)] := hl
  unfold F_X7_nextToken at hF
  obtain ⟨hp0, hp1, hb2⟩ := hpos
  have L_0 : ∀ (n_0 : Nat) (w_m_position_1 : Int32) (p0_0 : 0 ≤ w_m_position_1.toInt) (p1_0 : w_m_position_1.toInt ≤ m_bytes.toInt) (_ : (m_bytes.toInt - w_m_position_1.toInt).toNat < n_0) (_ : R = (F_X7_nextToken_0 m_bytes m_text) n_0 w_m_position_1) (ls : Array Slot) (H : Heap) (locs : List Loc) (_ : HS D A s.heap (WM cI cZ cC cH o a_clock a_note a_text a_read a_fit a_shown a_image a_isKept a_row a_best m_told m_isRead1 m_clock m_note m_noted m_bytes m_text w_m_position_1 m_tokenAt m_token m_digits m_number m_faultAt m_readMany m_readTold m_read m_fit m_shown m_image m_isKept m_row m_best m_againAt m_againStep m_orderMany m_orderLeast) H locs) (_ : lv_has ls 1 [(0, .ref o)]), W p l e { frames := 1, cells := 0, slots := 0, locals := 22 } s m args below meth c H locs 0 0 Q (F0 m 0 ls []) := by
    intro n_0
    induction n_0 with
    | zero => intro w_m_position_1 p0_0 p1_0 hm; exact absurd hm (Nat.not_lt_zero _)
    | succ n_0 ih_0 =>
      intro w_m_position_1 p0_0 p1_0 hm_0 hF ls H locs hh hl
      rw [F_X7_nextToken_0.eq_2] at hF
      refine lv_aload_n hx hb dX7_nextToken_0 rfl (lv_at hl 0 rfl) ?_
      refine g_get KX hh in_X7_nextToken_X7 0 rfl rfl 7 (by decide) rfl (List.mem_of_getElem? (i := 1) rfl) dX7_nextToken_1 ?_
      refine lv_aload_n hx hb dX7_nextToken_4 rfl (lv_at hl 0 rfl) ?_
      refine g_get KX hh in_X7_nextToken_X7 0 rfl rfl 5 (by decide) rfl (List.mem_of_getElem? (i := 2) rfl) dX7_nextToken_5 ?_
      have K_38 : ∀ (_ : R = (F_X7_nextToken_38 m_bytes m_text w_m_position_1)) (ls : Array Slot) (H : Heap) (locs : List Loc) (_ : HS D A s.heap (WM cI cZ cC cH o a_clock a_note a_text a_read a_fit a_shown a_image a_isKept a_row a_best m_told m_isRead1 m_clock m_note m_noted m_bytes m_text w_m_position_1 m_tokenAt m_token m_digits m_number m_faultAt m_readMany m_readTold m_read m_fit m_shown m_image m_isKept m_row m_best m_againAt m_againStep m_orderMany m_orderLeast) H locs) (_ : lv_has ls 1 [(0, .ref o)]), W p l e { frames := 1, cells := 0, slots := 0, locals := 22 } s m args below meth c H locs 0 0 Q (F0 m 38 ls []) := by
        intro  hF ls H locs hh hl
        unfold F_X7_nextToken_38 at hF
        refine lv_aload_n hx hb dX7_nextToken_38 rfl (lv_at hl 0 rfl) ?_
        refine lv_aload_n hx hb dX7_nextToken_39 rfl (lv_at hl 0 rfl) ?_
        refine g_get KX hh in_X7_nextToken_X7 0 rfl rfl 7 (by decide) rfl (List.mem_of_getElem? (i := 1) rfl) dX7_nextToken_40 ?_
        refine g_put KX hh in_X7_nextToken_X7 tyX7 tyX7_ok nmX7 0 rfl rfl 8 (by decide) rfl rfl rfl (Nat.le_of_ble_eq_true rfl) (List.mem_of_getElem? (i := 4) rfl) (w' := (WM cI cZ cC cH o a_clock a_note a_text a_read a_fit a_shown a_image a_isKept a_row a_best m_told m_isRead1 m_clock m_note m_noted m_bytes m_text w_m_position_1 w_m_position_1 m_token m_digits m_number m_faultAt m_readMany m_readTold m_read m_fit m_shown m_image m_isKept m_row m_best m_againAt m_againStep m_orderMany m_orderLeast)) rfl rfl dX7_nextToken_43 (fun H locs hh => ?_)
        refine lv_aload_n hx hb dX7_nextToken_46 rfl (lv_at hl 0 rfl) ?_
        refine lv_iconst (v := 0) hx hb dX7_nextToken_47 (by decide) ?_
        refine g_put KX hh in_X7_nextToken_X7 tyX7 tyX7_ok nmX7 0 rfl rfl 10 (by decide) rfl rfl rfl (Nat.le_of_ble_eq_true rfl) (List.mem_of_getElem? (i := 5) rfl) (w' := (WM cI cZ cC cH o a_clock a_note a_text a_read a_fit a_shown a_image a_isKept a_row a_best m_told m_isRead1 m_clock m_note m_noted m_bytes m_text w_m_position_1 w_m_position_1 m_token 0 m_number m_faultAt m_readMany m_readTold m_read m_fit m_shown m_image m_isKept m_row m_best m_againAt m_againStep m_orderMany m_orderLeast)) rfl rfl dX7_nextToken_48 (fun H locs hh => ?_)
        refine lv_aload_n hx hb dX7_nextToken_51 rfl (lv_at hl 0 rfl) ?_
        refine lv_iconst (v := 0) hx hb dX7_nextToken_52 (by decide) ?_
        refine g_put KX hh in_X7_nextToken_X7 tyX7 tyX7_ok nmX7 0 rfl rfl 11 (by decide) rfl rfl rfl (Nat.le_of_ble_eq_true rfl) (List.mem_of_getElem? (i := 6) rfl) (w' := (WM cI cZ cC cH o a_clock a_note a_text a_read a_fit a_shown a_image a_isKept a_row a_best m_told m_isRead1 m_clock m_note m_noted m_bytes m_text w_m_position_1 w_m_position_1 m_token 0 0 m_faultAt m_readMany m_readTold m_read m_fit m_shown m_image m_isKept m_row m_best m_againAt m_againStep m_orderMany m_orderLeast)) rfl rfl dX7_nextToken_53 (fun H locs hh => ?_)
        refine lv_aload_n hx hb dX7_nextToken_56 rfl (lv_at hl 0 rfl) ?_
        refine g_get KX hh in_X7_nextToken_X7 0 rfl rfl 7 (by decide) rfl (List.mem_of_getElem? (i := 1) rfl) dX7_nextToken_57 ?_
        refine lv_aload_n hx hb dX7_nextToken_60 rfl (lv_at hl 0 rfl) ?_
        refine g_get KX hh in_X7_nextToken_X7 0 rfl rfl 5 (by decide) rfl (List.mem_of_getElem? (i := 2) rfl) dX7_nextToken_61 ?_
        refine lv_icmp_ne (tgt := 77) hx hb dX7_nextToken_64 (by decide) (fun c_64 => ?_) (fun c_64 => ?_)
        · replace hF := hF.trans (if_neg c_64)
          have i_64 : ¬ w_m_position_1.toInt = m_bytes.toInt := ti_ne c_64
          refine lv_aload_n hx hb dX7_nextToken_77 rfl (lv_at hl 0 rfl) ?_
          refine g_get KX hh in_X7_nextToken_X7 0 rfl rfl 6 (by decide) rfl (List.mem_of_getElem? (i := 3) rfl) dX7_nextToken_78 ?_
          refine lv_aload_n hx hb dX7_nextToken_81 rfl (lv_at hl 0 rfl) ?_
          refine g_get KX hh in_X7_nextToken_X7 0 rfl rfl 7 (by decide) rfl (List.mem_of_getElem? (i := 1) rfl) dX7_nextToken_82 ?_
          refine g_iald KX hh 3 0 rfl rfl (vp_in_iff.mpr (by omega)) dX7_nextToken_85 ?_
          refine lv_bipush (v := 97) hx hb dX7_nextToken_86 (by decide) ?_
          refine lv_bipush (v := 122) hx hb dX7_nextToken_88 (by decide) ?_
          refine g_callS (As := [.int (m_text w_m_position_1.toNatClampNeg), .int 97, .int 122]) (rest := []) KX rfl ⟨Nat.le_of_ble_eq_true rfl, Nat.le_of_ble_eq_true rfl⟩ hh hl (c_X7_in l D cI cZ cC cH  (m_text w_m_position_1.toNatClampNeg) 97 122 ) JN.no 3 gX7_nextToken_X7_in rfl (by decide +kernel) ⟨Nat.le_of_ble_eq_true rfl, Nat.le_of_ble_eq_true rfl⟩ rfl rfl (Nat.le_of_ble_eq_true rfl) dX7_nextToken_90 (fun H locs hh => ?_)
          refine W.eq (g2 := F0 m 93 ls [.int (F_X7_in (m_text w_m_position_1.toNatClampNeg) 97 122)]) rfl ?_
          refine lv_if_eq (tgt := 222) hx hb dX7_nextToken_93 (by decide) (fun c_93 => ?_) (fun c_93 => ?_)
          · replace hF := hF.trans (if_pos c_93)
            refine lv_aload_n hx hb dX7_nextToken_222 rfl (lv_at hl 0 rfl) ?_
            refine g_get KX hh in_X7_nextToken_X7 0 rfl rfl 6 (by decide) rfl (List.mem_of_getElem? (i := 3) rfl) dX7_nextToken_223 ?_
            refine lv_aload_n hx hb dX7_nextToken_226 rfl (lv_at hl 0 rfl) ?_
            refine g_get KX hh in_X7_nextToken_X7 0 rfl rfl 7 (by decide) rfl (List.mem_of_getElem? (i := 1) rfl) dX7_nextToken_227 ?_
            refine g_iald KX hh 3 0 rfl rfl (vp_in_iff.mpr (by omega)) dX7_nextToken_230 ?_
            refine lv_bipush (v := 48) hx hb dX7_nextToken_231 (by decide) ?_
            refine lv_bipush (v := 57) hx hb dX7_nextToken_233 (by decide) ?_
            refine g_callS (As := [.int (m_text w_m_position_1.toNatClampNeg), .int 48, .int 57]) (rest := []) KX rfl ⟨Nat.le_of_ble_eq_true rfl, Nat.le_of_ble_eq_true rfl⟩ hh hl (c_X7_in l D cI cZ cC cH  (m_text w_m_position_1.toNatClampNeg) 48 57 ) JN.no 3 gX7_nextToken_X7_in rfl (by decide +kernel) ⟨Nat.le_of_ble_eq_true rfl, Nat.le_of_ble_eq_true rfl⟩ rfl rfl (Nat.le_of_ble_eq_true rfl) dX7_nextToken_235 (fun H locs hh => ?_)
            refine W.eq (g2 := F0 m 238 ls [.int (F_X7_in (m_text w_m_position_1.toNatClampNeg) 48 57)]) rfl ?_
            refine lv_if_eq (tgt := 357) hx hb dX7_nextToken_238 (by decide) (fun c_238 => ?_) (fun c_238 => ?_)
            · replace hF := hF.trans (if_pos c_238)
              refine lv_aload_n hx hb dX7_nextToken_357 rfl (lv_at hl 0 rfl) ?_
              refine lv_aload_n hx hb dX7_nextToken_358 rfl (lv_at hl 0 rfl) ?_
              refine g_get KX hh in_X7_nextToken_X7 0 rfl rfl 6 (by decide) rfl (List.mem_of_getElem? (i := 3) rfl) dX7_nextToken_359 ?_
              refine lv_aload_n hx hb dX7_nextToken_362 rfl (lv_at hl 0 rfl) ?_
              refine g_get KX hh in_X7_nextToken_X7 0 rfl rfl 7 (by decide) rfl (List.mem_of_getElem? (i := 1) rfl) dX7_nextToken_363 ?_
              refine g_iald KX hh 3 0 rfl rfl (vp_in_iff.mpr (by omega)) dX7_nextToken_366 ?_
              refine lv_bipush (v := 59) hx hb dX7_nextToken_367 (by decide) ?_
              refine lv_icmp_ne (tgt := 378) hx hb dX7_nextToken_369 (by decide) (fun c_369 => ?_) (fun c_369 => ?_)
              · replace hF := hF.trans (if_neg c_369)
                refine lv_ldc2 (v := (-4)) hx hb KX.2.2.2.1 (KX.2.2.2.2.1 _ (List.mem_of_getElem? (i := 11) rfl)) dX7_nextToken_378 ?_
                refine g_put KX hh in_X7_nextToken_X7 tyX7 tyX7_ok nmX7 0 rfl rfl 9 (by decide) rfl rfl rfl (Nat.le_of_ble_eq_true rfl) (List.mem_of_getElem? (i := 8) rfl) (w' := (WM cI cZ cC cH o a_clock a_note a_text a_read a_fit a_shown a_image a_isKept a_row a_best m_told m_isRead1 m_clock m_note m_noted m_bytes m_text w_m_position_1 w_m_position_1 (-4) 0 0 m_faultAt m_readMany m_readTold m_read m_fit m_shown m_image m_isKept m_row m_best m_againAt m_againStep m_orderMany m_orderLeast)) rfl rfl dX7_nextToken_381 (fun H locs hh => ?_)
                refine lv_aload_n hx hb dX7_nextToken_384 rfl (lv_at hl 0 rfl) ?_
                refine lv_dup hx hb dX7_nextToken_385 rfl ?_
                refine g_get KX hh in_X7_nextToken_X7 0 rfl rfl 7 (by decide) rfl (List.mem_of_getElem? (i := 1) rfl) dX7_nextToken_386 ?_
                refine lv_iconst (v := 1) hx hb dX7_nextToken_389 (by decide) ?_
                refine lv_iadd hx hb dX7_nextToken_390 ?_
                refine g_put KX hh in_X7_nextToken_X7 tyX7 tyX7_ok nmX7 0 rfl rfl 7 (by decide) rfl rfl rfl (Nat.le_of_ble_eq_true rfl) (List.mem_of_getElem? (i := 1) rfl) (w' := (WM cI cZ cC cH o a_clock a_note a_text a_read a_fit a_shown a_image a_isKept a_row a_best m_told m_isRead1 m_clock m_note m_noted m_bytes m_text (w_m_position_1 + 1) w_m_position_1 (-4) 0 0 m_faultAt m_readMany m_readTold m_read m_fit m_shown m_image m_isKept m_row m_best m_againAt m_againStep m_orderMany m_orderLeast)) rfl rfl dX7_nextToken_391 (fun H locs hh => ?_)
                exact RT _ _ _ _ _ _ hh (by rw [hF]) (Or.inr (Or.inr (Or.inl ⟨rfl, rfl, dX7_nextToken_394, rfl⟩)))
              · replace hF := hF.trans (if_pos c_369)
                refine lv_ldc2 (v := (-3)) hx hb KX.2.2.2.1 (KX.2.2.2.2.1 _ (List.mem_of_getElem? (i := 13) rfl)) dX7_nextToken_372 ?_
                refine lv_goto (tgt := 381) hx hb dX7_nextToken_375 (by decide) ?_
                refine g_put KX hh in_X7_nextToken_X7 tyX7 tyX7_ok nmX7 0 rfl rfl 9 (by decide) rfl rfl rfl (Nat.le_of_ble_eq_true rfl) (List.mem_of_getElem? (i := 8) rfl) (w' := (WM cI cZ cC cH o a_clock a_note a_text a_read a_fit a_shown a_image a_isKept a_row a_best m_told m_isRead1 m_clock m_note m_noted m_bytes m_text w_m_position_1 w_m_position_1 (-3) 0 0 m_faultAt m_readMany m_readTold m_read m_fit m_shown m_image m_isKept m_row m_best m_againAt m_againStep m_orderMany m_orderLeast)) rfl rfl dX7_nextToken_381 (fun H locs hh => ?_)
                refine lv_aload_n hx hb dX7_nextToken_384 rfl (lv_at hl 0 rfl) ?_
                refine lv_dup hx hb dX7_nextToken_385 rfl ?_
                refine g_get KX hh in_X7_nextToken_X7 0 rfl rfl 7 (by decide) rfl (List.mem_of_getElem? (i := 1) rfl) dX7_nextToken_386 ?_
                refine lv_iconst (v := 1) hx hb dX7_nextToken_389 (by decide) ?_
                refine lv_iadd hx hb dX7_nextToken_390 ?_
                refine g_put KX hh in_X7_nextToken_X7 tyX7 tyX7_ok nmX7 0 rfl rfl 7 (by decide) rfl rfl rfl (Nat.le_of_ble_eq_true rfl) (List.mem_of_getElem? (i := 1) rfl) (w' := (WM cI cZ cC cH o a_clock a_note a_text a_read a_fit a_shown a_image a_isKept a_row a_best m_told m_isRead1 m_clock m_note m_noted m_bytes m_text (w_m_position_1 + 1) w_m_position_1 (-3) 0 0 m_faultAt m_readMany m_readTold m_read m_fit m_shown m_image m_isKept m_row m_best m_againAt m_againStep m_orderMany m_orderLeast)) rfl rfl dX7_nextToken_391 (fun H locs hh => ?_)
                exact RT _ _ _ _ _ _ hh (by rw [hF]) (Or.inr (Or.inr (Or.inl ⟨rfl, rfl, dX7_nextToken_394, rfl⟩)))
            · replace hF := hF.trans (if_neg c_238)
              obtain ⟨k0_238, k1_238⟩ : (48 : Int) ≤ (m_text w_m_position_1.toNatClampNeg).toInt ∧ (m_text w_m_position_1.toNatClampNeg).toInt ≤ 57 := X7_in_in c_238
              have L_241 : ∀ (n_241 : Nat) (w_m_position_2 : Int32) (w_m_digits_3 : Int32) (w_m_number_4 : Int32) (p0_241 : 0 ≤ w_m_position_2.toInt) (p1_241 : w_m_position_2.toInt ≤ m_bytes.toInt) (_ : (m_bytes.toInt - w_m_position_2.toInt).toNat < n_241) (_ : R = (F_X7_nextToken_241 m_bytes m_text w_m_position_1) n_241 w_m_position_2 w_m_digits_3 w_m_number_4) (ls : Array Slot) (H : Heap) (locs : List Loc) (_ : HS D A s.heap (WM cI cZ cC cH o a_clock a_note a_text a_read a_fit a_shown a_image a_isKept a_row a_best m_told m_isRead1 m_clock m_note m_noted m_bytes m_text w_m_position_2 w_m_position_1 m_token w_m_digits_3 w_m_number_4 m_faultAt m_readMany m_readTold m_read m_fit m_shown m_image m_isKept m_row m_best m_againAt m_againStep m_orderMany m_orderLeast) H locs) (_ : lv_has ls 1 [(0, .ref o)]), W p l e { frames := 1, cells := 0, slots := 0, locals := 22 } s m args below meth c H locs 0 0 Q (F0 m 241 ls []) := by
                intro n_241
                induction n_241 with
                | zero => intro w_m_position_2 w_m_digits_3 w_m_number_4 p0_241 p1_241 hm; exact absurd hm (Nat.not_lt_zero _)
                | succ n_241 ih_241 =>
                  intro w_m_position_2 w_m_digits_3 w_m_number_4 p0_241 p1_241 hm_241 hF ls H locs hh hl
                  rw [F_X7_nextToken_241.eq_2] at hF
                  refine lv_aload_n hx hb dX7_nextToken_241 rfl (lv_at hl 0 rfl) ?_
                  refine g_get KX hh in_X7_nextToken_X7 0 rfl rfl 7 (by decide) rfl (List.mem_of_getElem? (i := 1) rfl) dX7_nextToken_242 ?_
                  refine lv_aload_n hx hb dX7_nextToken_245 rfl (lv_at hl 0 rfl) ?_
                  refine g_get KX hh in_X7_nextToken_X7 0 rfl rfl 5 (by decide) rfl (List.mem_of_getElem? (i := 2) rfl) dX7_nextToken_246 ?_
                  have K_333 : ∀ (_ : R = (F_X7_nextToken_333 w_m_position_1 w_m_position_2 w_m_digits_3 w_m_number_4)) (ls : Array Slot) (H : Heap) (locs : List Loc) (_ : HS D A s.heap (WM cI cZ cC cH o a_clock a_note a_text a_read a_fit a_shown a_image a_isKept a_row a_best m_told m_isRead1 m_clock m_note m_noted m_bytes m_text w_m_position_2 w_m_position_1 m_token w_m_digits_3 w_m_number_4 m_faultAt m_readMany m_readTold m_read m_fit m_shown m_image m_isKept m_row m_best m_againAt m_againStep m_orderMany m_orderLeast) H locs) (_ : lv_has ls 1 [(0, .ref o)]), W p l e { frames := 1, cells := 0, slots := 0, locals := 22 } s m args below meth c H locs 0 0 Q (F0 m 333 ls []) := by
                    intro  hF ls H locs hh hl
                    unfold F_X7_nextToken_333 at hF
                    refine lv_aload_n hx hb dX7_nextToken_333 rfl (lv_at hl 0 rfl) ?_
                    refine lv_aload_n hx hb dX7_nextToken_334 rfl (lv_at hl 0 rfl) ?_
                    refine g_get KX hh in_X7_nextToken_X7 0 rfl rfl 10 (by decide) rfl (List.mem_of_getElem? (i := 5) rfl) dX7_nextToken_335 ?_
                    refine lv_iconst (v := 4) hx hb dX7_nextToken_338 (by decide) ?_
                    refine lv_icmp_le (tgt := 348) hx hb dX7_nextToken_339 (by decide) (fun c_339 => ?_) (fun c_339 => ?_)
                    · replace hF := hF.trans (if_pos c_339)
                      have i_339 : w_m_digits_3.toInt ≤ 4 := ti_le.mp c_339
                      refine lv_ldc2 (v := (-1)) hx hb KX.2.2.2.1 (KX.2.2.2.2.1 _ (List.mem_of_getElem? (i := 12) rfl)) dX7_nextToken_348 ?_
                      refine g_put KX hh in_X7_nextToken_X7 tyX7 tyX7_ok nmX7 0 rfl rfl 9 (by decide) rfl rfl rfl (Nat.le_of_ble_eq_true rfl) (List.mem_of_getElem? (i := 8) rfl) (w' := (WM cI cZ cC cH o a_clock a_note a_text a_read a_fit a_shown a_image a_isKept a_row a_best m_told m_isRead1 m_clock m_note m_noted m_bytes m_text w_m_position_2 w_m_position_1 (-1) w_m_digits_3 w_m_number_4 m_faultAt m_readMany m_readTold m_read m_fit m_shown m_image m_isKept m_row m_best m_againAt m_againStep m_orderMany m_orderLeast)) rfl rfl dX7_nextToken_351 (fun H locs hh => ?_)
                      refine lv_goto (tgt := 394) hx hb dX7_nextToken_354 (by decide) ?_
                      exact RT _ _ _ _ _ _ hh (by rw [hF]) (Or.inr (Or.inr (Or.inl ⟨rfl, rfl, dX7_nextToken_394, rfl⟩)))
                    · replace hF := hF.trans (if_neg c_339)
                      have i_339 : 4 < w_m_digits_3.toInt := ti_nle c_339
                      refine lv_ldc2 (v := (-4)) hx hb KX.2.2.2.1 (KX.2.2.2.2.1 _ (List.mem_of_getElem? (i := 11) rfl)) dX7_nextToken_342 ?_
                      refine lv_goto (tgt := 351) hx hb dX7_nextToken_345 (by decide) ?_
                      refine g_put KX hh in_X7_nextToken_X7 tyX7 tyX7_ok nmX7 0 rfl rfl 9 (by decide) rfl rfl rfl (Nat.le_of_ble_eq_true rfl) (List.mem_of_getElem? (i := 8) rfl) (w' := (WM cI cZ cC cH o a_clock a_note a_text a_read a_fit a_shown a_image a_isKept a_row a_best m_told m_isRead1 m_clock m_note m_noted m_bytes m_text w_m_position_2 w_m_position_1 (-4) w_m_digits_3 w_m_number_4 m_faultAt m_readMany m_readTold m_read m_fit m_shown m_image m_isKept m_row m_best m_againAt m_againStep m_orderMany m_orderLeast)) rfl rfl dX7_nextToken_351 (fun H locs hh => ?_)
                      refine lv_goto (tgt := 394) hx hb dX7_nextToken_354 (by decide) ?_
                      exact RT _ _ _ _ _ _ hh (by rw [hF]) (Or.inr (Or.inr (Or.inl ⟨rfl, rfl, dX7_nextToken_394, rfl⟩)))
                  refine lv_icmp_ge (tgt := 333) hx hb dX7_nextToken_249 (by decide) (fun c_249 => ?_) (fun c_249 => ?_)
                  · replace hF := hF.trans (if_pos c_249)
                    have i_249 : m_bytes.toInt ≤ w_m_position_2.toInt := ti_le.mp c_249
                    exact K_333   hF _ _ _ hh (lv_sub hl [0] rfl)
                  · replace hF := hF.trans (if_neg c_249)
                    have i_249 : w_m_position_2.toInt < m_bytes.toInt := ti_nle c_249
                    refine lv_aload_n hx hb dX7_nextToken_252 rfl (lv_at hl 0 rfl) ?_
                    refine g_get KX hh in_X7_nextToken_X7 0 rfl rfl 6 (by decide) rfl (List.mem_of_getElem? (i := 3) rfl) dX7_nextToken_253 ?_
                    refine lv_aload_n hx hb dX7_nextToken_256 rfl (lv_at hl 0 rfl) ?_
                    refine g_get KX hh in_X7_nextToken_X7 0 rfl rfl 7 (by decide) rfl (List.mem_of_getElem? (i := 1) rfl) dX7_nextToken_257 ?_
                    refine g_iald KX hh 3 0 rfl rfl (vp_in_iff.mpr (by omega)) dX7_nextToken_260 ?_
                    refine lv_bipush (v := 48) hx hb dX7_nextToken_261 (by decide) ?_
                    refine lv_bipush (v := 57) hx hb dX7_nextToken_263 (by decide) ?_
                    refine g_callS (As := [.int (m_text w_m_position_2.toNatClampNeg), .int 48, .int 57]) (rest := []) KX rfl ⟨Nat.le_of_ble_eq_true rfl, Nat.le_of_ble_eq_true rfl⟩ hh hl (c_X7_in l D cI cZ cC cH  (m_text w_m_position_2.toNatClampNeg) 48 57 ) JN.no 3 gX7_nextToken_X7_in rfl (by decide +kernel) ⟨Nat.le_of_ble_eq_true rfl, Nat.le_of_ble_eq_true rfl⟩ rfl rfl (Nat.le_of_ble_eq_true rfl) dX7_nextToken_265 (fun H locs hh => ?_)
                    refine W.eq (g2 := F0 m 268 ls [.int (F_X7_in (m_text w_m_position_2.toNatClampNeg) 48 57)]) rfl ?_
                    refine lv_if_eq (tgt := 333) hx hb dX7_nextToken_268 (by decide) (fun c_268 => ?_) (fun c_268 => ?_)
                    · replace hF := hF.trans (if_pos c_268)
                      exact K_333   hF _ _ _ hh (lv_sub hl [0] rfl)
                    · replace hF := hF.trans (if_neg c_268)
                      obtain ⟨k0_268, k1_268⟩ : (48 : Int) ≤ (m_text w_m_position_2.toNatClampNeg).toInt ∧ (m_text w_m_position_2.toNatClampNeg).toInt ≤ 57 := X7_in_in c_268
                      refine lv_aload_n hx hb dX7_nextToken_271 rfl (lv_at hl 0 rfl) ?_
                      refine lv_aload_n hx hb dX7_nextToken_272 rfl (lv_at hl 0 rfl) ?_
                      refine g_get KX hh in_X7_nextToken_X7 0 rfl rfl 10 (by decide) rfl (List.mem_of_getElem? (i := 5) rfl) dX7_nextToken_273 ?_
                      refine lv_iconst (v := 4) hx hb dX7_nextToken_276 (by decide) ?_
                      have K_307 : ∀ (y0_5 : Int32) (_ : R = (F_X7_nextToken_307 w_m_position_2 w_m_digits_3 ((F_X7_nextToken_241 m_bytes m_text w_m_position_1) n_241)) y0_5) (ls : Array Slot) (H : Heap) (locs : List Loc) (_ : HS D A s.heap (WM cI cZ cC cH o a_clock a_note a_text a_read a_fit a_shown a_image a_isKept a_row a_best m_told m_isRead1 m_clock m_note m_noted m_bytes m_text w_m_position_2 w_m_position_1 m_token w_m_digits_3 w_m_number_4 m_faultAt m_readMany m_readTold m_read m_fit m_shown m_image m_isKept m_row m_best m_againAt m_againStep m_orderMany m_orderLeast) H locs) (_ : lv_has ls 1 [(0, .ref o)]), W p l e { frames := 1, cells := 0, slots := 0, locals := 22 } s m args below meth c H locs 0 0 Q (F0 m 307 ls [.int y0_5, .ref o]) := by
                        intro y0_5 hF ls H locs hh hl
                        unfold F_X7_nextToken_307 at hF
                        refine g_put KX hh in_X7_nextToken_X7 tyX7 tyX7_ok nmX7 0 rfl rfl 11 (by decide) rfl rfl rfl (Nat.le_of_ble_eq_true rfl) (List.mem_of_getElem? (i := 6) rfl) (w' := (WM cI cZ cC cH o a_clock a_note a_text a_read a_fit a_shown a_image a_isKept a_row a_best m_told m_isRead1 m_clock m_note m_noted m_bytes m_text w_m_position_2 w_m_position_1 m_token w_m_digits_3 y0_5 m_faultAt m_readMany m_readTold m_read m_fit m_shown m_image m_isKept m_row m_best m_againAt m_againStep m_orderMany m_orderLeast)) rfl rfl dX7_nextToken_307 (fun H locs hh => ?_)
                        refine lv_aload_n hx hb dX7_nextToken_310 rfl (lv_at hl 0 rfl) ?_
                        refine lv_dup hx hb dX7_nextToken_311 rfl ?_
                        refine g_get KX hh in_X7_nextToken_X7 0 rfl rfl 10 (by decide) rfl (List.mem_of_getElem? (i := 5) rfl) dX7_nextToken_312 ?_
                        refine lv_iconst (v := 1) hx hb dX7_nextToken_315 (by decide) ?_
                        refine lv_iadd hx hb dX7_nextToken_316 ?_
                        refine g_put KX hh in_X7_nextToken_X7 tyX7 tyX7_ok nmX7 0 rfl rfl 10 (by decide) rfl rfl rfl (Nat.le_of_ble_eq_true rfl) (List.mem_of_getElem? (i := 5) rfl) (w' := (WM cI cZ cC cH o a_clock a_note a_text a_read a_fit a_shown a_image a_isKept a_row a_best m_told m_isRead1 m_clock m_note m_noted m_bytes m_text w_m_position_2 w_m_position_1 m_token (w_m_digits_3 + 1) y0_5 m_faultAt m_readMany m_readTold m_read m_fit m_shown m_image m_isKept m_row m_best m_againAt m_againStep m_orderMany m_orderLeast)) rfl rfl dX7_nextToken_317 (fun H locs hh => ?_)
                        refine lv_aload_n hx hb dX7_nextToken_320 rfl (lv_at hl 0 rfl) ?_
                        refine lv_dup hx hb dX7_nextToken_321 rfl ?_
                        refine g_get KX hh in_X7_nextToken_X7 0 rfl rfl 7 (by decide) rfl (List.mem_of_getElem? (i := 1) rfl) dX7_nextToken_322 ?_
                        refine lv_iconst (v := 1) hx hb dX7_nextToken_325 (by decide) ?_
                        refine lv_iadd hx hb dX7_nextToken_326 ?_
                        refine g_put KX hh in_X7_nextToken_X7 tyX7 tyX7_ok nmX7 0 rfl rfl 7 (by decide) rfl rfl rfl (Nat.le_of_ble_eq_true rfl) (List.mem_of_getElem? (i := 1) rfl) (w' := (WM cI cZ cC cH o a_clock a_note a_text a_read a_fit a_shown a_image a_isKept a_row a_best m_told m_isRead1 m_clock m_note m_noted m_bytes m_text (w_m_position_2 + 1) w_m_position_1 m_token (w_m_digits_3 + 1) y0_5 m_faultAt m_readMany m_readTold m_read m_fit m_shown m_image m_isKept m_row m_best m_againAt m_againStep m_orderMany m_orderLeast)) rfl rfl dX7_nextToken_327 (fun H locs hh => ?_)
                        refine lv_goto (tgt := 241) hx hb dX7_nextToken_330 (by decide) ?_
                        have e_inc : (w_m_position_2 + 1).toInt = _ := ti_inc (by omega)
                        exact ih_241 (w_m_position_2 + 1) (w_m_digits_3 + 1) y0_5 (by first | with_reducible assumption | omega | decide) (by first | with_reducible assumption | omega | decide) (by omega) hF _ _ _ hh (lv_sub hl [0] rfl)
                      refine lv_icmp_ge (tgt := 303) hx hb dX7_nextToken_277 (by decide) (fun c_277 => ?_) (fun c_277 => ?_)
                      · replace hF := hF.trans (if_pos c_277)
                        have i_277 : 4 ≤ w_m_digits_3.toInt := ti_le.mp c_277
                        refine lv_aload_n hx hb dX7_nextToken_303 rfl (lv_at hl 0 rfl) ?_
                        refine g_get KX hh in_X7_nextToken_X7 0 rfl rfl 11 (by decide) rfl (List.mem_of_getElem? (i := 6) rfl) dX7_nextToken_304 ?_
                        exact K_307 w_m_number_4  hF _ _ _ hh (lv_sub hl [0] rfl)
                      · replace hF := hF.trans (if_neg c_277)
                        have i_277 : w_m_digits_3.toInt < 4 := ti_nle c_277
                        refine lv_bipush (v := 10) hx hb dX7_nextToken_280 (by decide) ?_
                        refine lv_aload_n hx hb dX7_nextToken_282 rfl (lv_at hl 0 rfl) ?_
                        refine g_get KX hh in_X7_nextToken_X7 0 rfl rfl 11 (by decide) rfl (List.mem_of_getElem? (i := 6) rfl) dX7_nextToken_283 ?_
                        refine lv_imul hx hb dX7_nextToken_286 ?_
                        refine lv_aload_n hx hb dX7_nextToken_287 rfl (lv_at hl 0 rfl) ?_
                        refine g_get KX hh in_X7_nextToken_X7 0 rfl rfl 6 (by decide) rfl (List.mem_of_getElem? (i := 3) rfl) dX7_nextToken_288 ?_
                        refine lv_aload_n hx hb dX7_nextToken_291 rfl (lv_at hl 0 rfl) ?_
                        refine g_get KX hh in_X7_nextToken_X7 0 rfl rfl 7 (by decide) rfl (List.mem_of_getElem? (i := 1) rfl) dX7_nextToken_292 ?_
                        refine g_iald KX hh 3 0 rfl rfl (vp_in_iff.mpr (by omega)) dX7_nextToken_295 ?_
                        refine lv_iadd hx hb dX7_nextToken_296 ?_
                        refine lv_bipush (v := 48) hx hb dX7_nextToken_297 (by decide) ?_
                        refine lv_isub hx hb dX7_nextToken_299 ?_
                        refine lv_goto (tgt := 307) hx hb dX7_nextToken_300 (by decide) ?_
                        exact K_307 (((10 * w_m_number_4) + (m_text w_m_position_2.toNatClampNeg)) - 48)  hF _ _ _ hh (lv_sub hl [0] rfl)
              exact L_241 201 w_m_position_1 0 0 (by first | with_reducible assumption | omega | decide) (by first | with_reducible assumption | omega | decide) (by first | omega | decide | (simp; done)) hF _ _ _ hh (lv_sub hl [0] rfl)
          · replace hF := hF.trans (if_neg c_93)
            obtain ⟨k0_93, k1_93⟩ : (97 : Int) ≤ (m_text w_m_position_1.toNatClampNeg).toInt ∧ (m_text w_m_position_1.toNatClampNeg).toInt ≤ 122 := X7_in_in c_93
            refine lv_aload_n hx hb dX7_nextToken_96 rfl (lv_at hl 0 rfl) ?_
            refine lv_lconst (v := 0) hx hb dX7_nextToken_97 (by decide) ?_
            refine g_put KX hh in_X7_nextToken_X7 tyX7 tyX7_ok nmX7 0 rfl rfl 9 (by decide) rfl rfl rfl (Nat.le_of_ble_eq_true rfl) (List.mem_of_getElem? (i := 8) rfl) (w' := (WM cI cZ cC cH o a_clock a_note a_text a_read a_fit a_shown a_image a_isKept a_row a_best m_told m_isRead1 m_clock m_note m_noted m_bytes m_text w_m_position_1 w_m_position_1 0 0 0 m_faultAt m_readMany m_readTold m_read m_fit m_shown m_image m_isKept m_row m_best m_againAt m_againStep m_orderMany m_orderLeast)) rfl rfl dX7_nextToken_98 (fun H locs hh => ?_)
            have L_101 : ∀ (n_101 : Nat) (w_m_position_6 : Int32) (w_m_token_7 : Int64) (p0_101 : 0 ≤ w_m_position_6.toInt) (p1_101 : w_m_position_6.toInt ≤ m_bytes.toInt) (_ : (m_bytes.toInt - w_m_position_6.toInt).toNat < n_101) (_ : R = (F_X7_nextToken_101 m_bytes m_text w_m_position_1) n_101 w_m_position_6 w_m_token_7) (ls : Array Slot) (H : Heap) (locs : List Loc) (_ : HS D A s.heap (WM cI cZ cC cH o a_clock a_note a_text a_read a_fit a_shown a_image a_isKept a_row a_best m_told m_isRead1 m_clock m_note m_noted m_bytes m_text w_m_position_6 w_m_position_1 w_m_token_7 0 0 m_faultAt m_readMany m_readTold m_read m_fit m_shown m_image m_isKept m_row m_best m_againAt m_againStep m_orderMany m_orderLeast) H locs) (_ : lv_has ls 1 [(0, .ref o)]), W p l e { frames := 1, cells := 0, slots := 0, locals := 22 } s m args below meth c H locs 0 0 Q (F0 m 101 ls []) := by
              intro n_101
              induction n_101 with
              | zero => intro w_m_position_6 w_m_token_7 p0_101 p1_101 hm; exact absurd hm (Nat.not_lt_zero _)
              | succ n_101 ih_101 =>
                intro w_m_position_6 w_m_token_7 p0_101 p1_101 hm_101 hF ls H locs hh hl
                rw [F_X7_nextToken_101.eq_2] at hF
                refine lv_aload_n hx hb dX7_nextToken_101 rfl (lv_at hl 0 rfl) ?_
                refine g_get KX hh in_X7_nextToken_X7 0 rfl rfl 7 (by decide) rfl (List.mem_of_getElem? (i := 1) rfl) dX7_nextToken_102 ?_
                refine lv_aload_n hx hb dX7_nextToken_105 rfl (lv_at hl 0 rfl) ?_
                refine g_get KX hh in_X7_nextToken_X7 0 rfl rfl 5 (by decide) rfl (List.mem_of_getElem? (i := 2) rfl) dX7_nextToken_106 ?_
                have K_191 : ∀ (_ : R = (F_X7_nextToken_191 w_m_position_1 w_m_position_6 w_m_token_7)) (ls : Array Slot) (H : Heap) (locs : List Loc) (_ : HS D A s.heap (WM cI cZ cC cH o a_clock a_note a_text a_read a_fit a_shown a_image a_isKept a_row a_best m_told m_isRead1 m_clock m_note m_noted m_bytes m_text w_m_position_6 w_m_position_1 w_m_token_7 0 0 m_faultAt m_readMany m_readTold m_read m_fit m_shown m_image m_isKept m_row m_best m_againAt m_againStep m_orderMany m_orderLeast) H locs) (_ : lv_has ls 1 [(0, .ref o)]), W p l e { frames := 1, cells := 0, slots := 0, locals := 22 } s m args below meth c H locs 0 0 Q (F0 m 191 ls []) := by
                  intro  hF ls H locs hh hl
                  unfold F_X7_nextToken_191 at hF
                  refine lv_aload_n hx hb dX7_nextToken_191 rfl (lv_at hl 0 rfl) ?_
                  refine lv_aload_n hx hb dX7_nextToken_192 rfl (lv_at hl 0 rfl) ?_
                  refine g_get KX hh in_X7_nextToken_X7 0 rfl rfl 7 (by decide) rfl (List.mem_of_getElem? (i := 1) rfl) dX7_nextToken_193 ?_
                  refine lv_aload_n hx hb dX7_nextToken_196 rfl (lv_at hl 0 rfl) ?_
                  refine g_get KX hh in_X7_nextToken_X7 0 rfl rfl 8 (by decide) rfl (List.mem_of_getElem? (i := 4) rfl) dX7_nextToken_197 ?_
                  refine lv_isub hx hb dX7_nextToken_200 ?_
                  refine lv_bipush (v := 9) hx hb dX7_nextToken_201 (by decide) ?_
                  refine lv_icmp_le (tgt := 212) hx hb dX7_nextToken_203 (by decide) (fun c_203 => ?_) (fun c_203 => ?_)
                  · replace hF := hF.trans (if_pos c_203)
                    have i_203 : (w_m_position_6 - w_m_position_1).toInt ≤ 9 := ti_le.mp c_203
                    refine lv_aload_n hx hb dX7_nextToken_212 rfl (lv_at hl 0 rfl) ?_
                    refine g_get KX hh in_X7_nextToken_X7 0 rfl rfl 9 (by decide) rfl (List.mem_of_getElem? (i := 8) rfl) dX7_nextToken_213 ?_
                    refine g_put KX hh in_X7_nextToken_X7 tyX7 tyX7_ok nmX7 0 rfl rfl 9 (by decide) rfl rfl rfl (Nat.le_of_ble_eq_true rfl) (List.mem_of_getElem? (i := 8) rfl) (w' := (WM cI cZ cC cH o a_clock a_note a_text a_read a_fit a_shown a_image a_isKept a_row a_best m_told m_isRead1 m_clock m_note m_noted m_bytes m_text w_m_position_6 w_m_position_1 w_m_token_7 0 0 m_faultAt m_readMany m_readTold m_read m_fit m_shown m_image m_isKept m_row m_best m_againAt m_againStep m_orderMany m_orderLeast)) rfl rfl dX7_nextToken_216 (fun H locs hh => ?_)
                    refine lv_goto (tgt := 394) hx hb dX7_nextToken_219 (by decide) ?_
                    exact RT _ _ _ _ _ _ hh (by rw [hF]) (Or.inr (Or.inr (Or.inl ⟨rfl, rfl, dX7_nextToken_394, rfl⟩)))
                  · replace hF := hF.trans (if_neg c_203)
                    have i_203 : 9 < (w_m_position_6 - w_m_position_1).toInt := ti_nle c_203
                    refine lv_ldc2 (v := (-4)) hx hb KX.2.2.2.1 (KX.2.2.2.2.1 _ (List.mem_of_getElem? (i := 11) rfl)) dX7_nextToken_206 ?_
                    refine lv_goto (tgt := 216) hx hb dX7_nextToken_209 (by decide) ?_
                    refine g_put KX hh in_X7_nextToken_X7 tyX7 tyX7_ok nmX7 0 rfl rfl 9 (by decide) rfl rfl rfl (Nat.le_of_ble_eq_true rfl) (List.mem_of_getElem? (i := 8) rfl) (w' := (WM cI cZ cC cH o a_clock a_note a_text a_read a_fit a_shown a_image a_isKept a_row a_best m_told m_isRead1 m_clock m_note m_noted m_bytes m_text w_m_position_6 w_m_position_1 (-4) 0 0 m_faultAt m_readMany m_readTold m_read m_fit m_shown m_image m_isKept m_row m_best m_againAt m_againStep m_orderMany m_orderLeast)) rfl rfl dX7_nextToken_216 (fun H locs hh => ?_)
                    refine lv_goto (tgt := 394) hx hb dX7_nextToken_219 (by decide) ?_
                    exact RT _ _ _ _ _ _ hh (by rw [hF]) (Or.inr (Or.inr (Or.inl ⟨rfl, rfl, dX7_nextToken_394, rfl⟩)))
                refine lv_icmp_ge (tgt := 191) hx hb dX7_nextToken_109 (by decide) (fun c_109 => ?_) (fun c_109 => ?_)
                · replace hF := hF.trans (if_pos c_109)
                  have i_109 : m_bytes.toInt ≤ w_m_position_6.toInt := ti_le.mp c_109
                  exact K_191   hF _ _ _ hh (lv_sub hl [0] rfl)
                · replace hF := hF.trans (if_neg c_109)
                  have i_109 : w_m_position_6.toInt < m_bytes.toInt := ti_nle c_109
                  refine lv_aload_n hx hb dX7_nextToken_112 rfl (lv_at hl 0 rfl) ?_
                  refine g_get KX hh in_X7_nextToken_X7 0 rfl rfl 6 (by decide) rfl (List.mem_of_getElem? (i := 3) rfl) dX7_nextToken_113 ?_
                  refine lv_aload_n hx hb dX7_nextToken_116 rfl (lv_at hl 0 rfl) ?_
                  refine g_get KX hh in_X7_nextToken_X7 0 rfl rfl 7 (by decide) rfl (List.mem_of_getElem? (i := 1) rfl) dX7_nextToken_117 ?_
                  refine g_iald KX hh 3 0 rfl rfl (vp_in_iff.mpr (by omega)) dX7_nextToken_120 ?_
                  refine lv_bipush (v := 97) hx hb dX7_nextToken_121 (by decide) ?_
                  refine lv_bipush (v := 122) hx hb dX7_nextToken_123 (by decide) ?_
                  refine g_callS (As := [.int (m_text w_m_position_6.toNatClampNeg), .int 97, .int 122]) (rest := []) KX rfl ⟨Nat.le_of_ble_eq_true rfl, Nat.le_of_ble_eq_true rfl⟩ hh hl (c_X7_in l D cI cZ cC cH  (m_text w_m_position_6.toNatClampNeg) 97 122 ) JN.no 3 gX7_nextToken_X7_in rfl (by decide +kernel) ⟨Nat.le_of_ble_eq_true rfl, Nat.le_of_ble_eq_true rfl⟩ rfl rfl (Nat.le_of_ble_eq_true rfl) dX7_nextToken_125 (fun H locs hh => ?_)
                  refine W.eq (g2 := F0 m 128 ls [.int (F_X7_in (m_text w_m_position_6.toNatClampNeg) 97 122)]) rfl ?_
                  refine lv_if_eq (tgt := 191) hx hb dX7_nextToken_128 (by decide) (fun c_128 => ?_) (fun c_128 => ?_)
                  · replace hF := hF.trans (if_pos c_128)
                    exact K_191   hF _ _ _ hh (lv_sub hl [0] rfl)
                  · replace hF := hF.trans (if_neg c_128)
                    obtain ⟨k0_128, k1_128⟩ : (97 : Int) ≤ (m_text w_m_position_6.toNatClampNeg).toInt ∧ (m_text w_m_position_6.toNatClampNeg).toInt ≤ 122 := X7_in_in c_128
                    refine lv_aload_n hx hb dX7_nextToken_131 rfl (lv_at hl 0 rfl) ?_
                    refine lv_aload_n hx hb dX7_nextToken_132 rfl (lv_at hl 0 rfl) ?_
                    refine g_get KX hh in_X7_nextToken_X7 0 rfl rfl 7 (by decide) rfl (List.mem_of_getElem? (i := 1) rfl) dX7_nextToken_133 ?_
                    refine lv_aload_n hx hb dX7_nextToken_136 rfl (lv_at hl 0 rfl) ?_
                    refine g_get KX hh in_X7_nextToken_X7 0 rfl rfl 8 (by decide) rfl (List.mem_of_getElem? (i := 4) rfl) dX7_nextToken_137 ?_
                    refine lv_isub hx hb dX7_nextToken_140 ?_
                    refine lv_bipush (v := 9) hx hb dX7_nextToken_141 (by decide) ?_
                    have K_175 : ∀ (y0_8 : Int64) (_ : R = (F_X7_nextToken_175 w_m_position_6 ((F_X7_nextToken_101 m_bytes m_text w_m_position_1) n_101)) y0_8) (ls : Array Slot) (H : Heap) (locs : List Loc) (_ : HS D A s.heap (WM cI cZ cC cH o a_clock a_note a_text a_read a_fit a_shown a_image a_isKept a_row a_best m_told m_isRead1 m_clock m_note m_noted m_bytes m_text w_m_position_6 w_m_position_1 w_m_token_7 0 0 m_faultAt m_readMany m_readTold m_read m_fit m_shown m_image m_isKept m_row m_best m_againAt m_againStep m_orderMany m_orderLeast) H locs) (_ : lv_has ls 1 [(0, .ref o)]), W p l e { frames := 1, cells := 0, slots := 0, locals := 22 } s m args below meth c H locs 0 0 Q (F0 m 175 ls [.long y0_8, .ref o]) := by
                      intro y0_8 hF ls H locs hh hl
                      unfold F_X7_nextToken_175 at hF
                      refine g_put KX hh in_X7_nextToken_X7 tyX7 tyX7_ok nmX7 0 rfl rfl 9 (by decide) rfl rfl rfl (Nat.le_of_ble_eq_true rfl) (List.mem_of_getElem? (i := 8) rfl) (w' := (WM cI cZ cC cH o a_clock a_note a_text a_read a_fit a_shown a_image a_isKept a_row a_best m_told m_isRead1 m_clock m_note m_noted m_bytes m_text w_m_position_6 w_m_position_1 y0_8 0 0 m_faultAt m_readMany m_readTold m_read m_fit m_shown m_image m_isKept m_row m_best m_againAt m_againStep m_orderMany m_orderLeast)) rfl rfl dX7_nextToken_175 (fun H locs hh => ?_)
                      refine lv_aload_n hx hb dX7_nextToken_178 rfl (lv_at hl 0 rfl) ?_
                      refine lv_dup hx hb dX7_nextToken_179 rfl ?_
                      refine g_get KX hh in_X7_nextToken_X7 0 rfl rfl 7 (by decide) rfl (List.mem_of_getElem? (i := 1) rfl) dX7_nextToken_180 ?_
                      refine lv_iconst (v := 1) hx hb dX7_nextToken_183 (by decide) ?_
                      refine lv_iadd hx hb dX7_nextToken_184 ?_
                      refine g_put KX hh in_X7_nextToken_X7 tyX7 tyX7_ok nmX7 0 rfl rfl 7 (by decide) rfl rfl rfl (Nat.le_of_ble_eq_true rfl) (List.mem_of_getElem? (i := 1) rfl) (w' := (WM cI cZ cC cH o a_clock a_note a_text a_read a_fit a_shown a_image a_isKept a_row a_best m_told m_isRead1 m_clock m_note m_noted m_bytes m_text (w_m_position_6 + 1) w_m_position_1 y0_8 0 0 m_faultAt m_readMany m_readTold m_read m_fit m_shown m_image m_isKept m_row m_best m_againAt m_againStep m_orderMany m_orderLeast)) rfl rfl dX7_nextToken_185 (fun H locs hh => ?_)
                      refine lv_goto (tgt := 101) hx hb dX7_nextToken_188 (by decide) ?_
                      have e_inc : (w_m_position_6 + 1).toInt = _ := ti_inc (by omega)
                      exact ih_101 (w_m_position_6 + 1) y0_8 (by first | with_reducible assumption | omega | decide) (by first | with_reducible assumption | omega | decide) (by omega) hF _ _ _ hh (lv_sub hl [0] rfl)
                    refine lv_icmp_ge (tgt := 172) hx hb dX7_nextToken_143 (by decide) (fun c_143 => ?_) (fun c_143 => ?_)
                    · replace hF := hF.trans (if_pos c_143)
                      have i_143 : 9 ≤ (w_m_position_6 - w_m_position_1).toInt := ti_le.mp c_143
                      refine lv_ldc2 (v := (-4)) hx hb KX.2.2.2.1 (KX.2.2.2.2.1 _ (List.mem_of_getElem? (i := 11) rfl)) dX7_nextToken_172 ?_
                      exact K_175 (-4)  hF _ _ _ hh (lv_sub hl [0] rfl)
                    · replace hF := hF.trans (if_neg c_143)
                      have i_143 : (w_m_position_6 - w_m_position_1).toInt < 9 := ti_nle c_143
                      refine lv_ldc2 (v := 27) hx hb KX.2.2.2.1 (KX.2.2.2.2.1 _ (List.mem_of_getElem? (i := 9) rfl)) dX7_nextToken_146 ?_
                      refine lv_aload_n hx hb dX7_nextToken_149 rfl (lv_at hl 0 rfl) ?_
                      refine g_get KX hh in_X7_nextToken_X7 0 rfl rfl 9 (by decide) rfl (List.mem_of_getElem? (i := 8) rfl) dX7_nextToken_150 ?_
                      refine lv_lmul hx hb dX7_nextToken_153 ?_
                      refine lv_aload_n hx hb dX7_nextToken_154 rfl (lv_at hl 0 rfl) ?_
                      refine g_get KX hh in_X7_nextToken_X7 0 rfl rfl 6 (by decide) rfl (List.mem_of_getElem? (i := 3) rfl) dX7_nextToken_155 ?_
                      refine lv_aload_n hx hb dX7_nextToken_158 rfl (lv_at hl 0 rfl) ?_
                      refine g_get KX hh in_X7_nextToken_X7 0 rfl rfl 7 (by decide) rfl (List.mem_of_getElem? (i := 1) rfl) dX7_nextToken_159 ?_
                      refine g_iald KX hh 3 0 rfl rfl (vp_in_iff.mpr (by omega)) dX7_nextToken_162 ?_
                      refine lv_i2l hx hb dX7_nextToken_163 rfl ?_
                      refine lv_ladd hx hb dX7_nextToken_164 ?_
                      refine lv_ldc2 (v := 96) hx hb KX.2.2.2.1 (KX.2.2.2.2.1 _ (List.mem_of_getElem? (i := 10) rfl)) dX7_nextToken_165 ?_
                      refine lv_lsub hx hb dX7_nextToken_168 ?_
                      refine lv_goto (tgt := 175) hx hb dX7_nextToken_169 (by decide) ?_
                      exact K_175 (((27 * w_m_token_7) + ((m_text w_m_position_6.toNatClampNeg).toInt64)) - 96)  hF _ _ _ hh (lv_sub hl [0] rfl)
            exact L_101 201 w_m_position_1 0 (by first | with_reducible assumption | omega | decide) (by first | with_reducible assumption | omega | decide) (by first | omega | decide | (simp; done)) hF _ _ _ hh (lv_sub hl [0] rfl)
        · replace hF := hF.trans (if_pos c_64)
          have i_64 : w_m_position_1.toInt = m_bytes.toInt := congrArg Int32.toInt c_64
          refine lv_aload_n hx hb dX7_nextToken_67 rfl (lv_at hl 0 rfl) ?_
          refine lv_ldc2 (v := (-2)) hx hb KX.2.2.2.1 (KX.2.2.2.2.1 _ (List.mem_of_getElem? (i := 7) rfl)) dX7_nextToken_68 ?_
          refine g_put KX hh in_X7_nextToken_X7 tyX7 tyX7_ok nmX7 0 rfl rfl 9 (by decide) rfl rfl rfl (Nat.le_of_ble_eq_true rfl) (List.mem_of_getElem? (i := 8) rfl) (w' := (WM cI cZ cC cH o a_clock a_note a_text a_read a_fit a_shown a_image a_isKept a_row a_best m_told m_isRead1 m_clock m_note m_noted m_bytes m_text w_m_position_1 w_m_position_1 (-2) 0 0 m_faultAt m_readMany m_readTold m_read m_fit m_shown m_image m_isKept m_row m_best m_againAt m_againStep m_orderMany m_orderLeast)) rfl rfl dX7_nextToken_71 (fun H locs hh => ?_)
          refine lv_goto (tgt := 394) hx hb dX7_nextToken_74 (by decide) ?_
          exact RT _ _ _ _ _ _ hh (by rw [hF]) (Or.inr (Or.inr (Or.inl ⟨rfl, rfl, dX7_nextToken_394, rfl⟩)))
      refine lv_icmp_ge (tgt := 38) hx hb dX7_nextToken_8 (by decide) (fun c_8 => ?_) (fun c_8 => ?_)
      · replace hF := hF.trans (if_pos c_8)
        have i_8 : m_bytes.toInt ≤ w_m_position_1.toInt := ti_le.mp c_8
        exact K_38   hF _ _ _ hh (lv_sub hl [0] rfl)
      · replace hF := hF.trans (if_neg c_8)
        have i_8 : w_m_position_1.toInt < m_bytes.toInt := ti_nle c_8
        refine lv_aload_n hx hb dX7_nextToken_11 rfl (lv_at hl 0 rfl) ?_
        refine g_get KX hh in_X7_nextToken_X7 0 rfl rfl 6 (by decide) rfl (List.mem_of_getElem? (i := 3) rfl) dX7_nextToken_12 ?_
        refine lv_aload_n hx hb dX7_nextToken_15 rfl (lv_at hl 0 rfl) ?_
        refine g_get KX hh in_X7_nextToken_X7 0 rfl rfl 7 (by decide) rfl (List.mem_of_getElem? (i := 1) rfl) dX7_nextToken_16 ?_
        refine g_iald KX hh 3 0 rfl rfl (vp_in_iff.mpr (by omega)) dX7_nextToken_19 ?_
        refine lv_bipush (v := 32) hx hb dX7_nextToken_20 (by decide) ?_
        refine lv_icmp_ne (tgt := 38) hx hb dX7_nextToken_22 (by decide) (fun c_22 => ?_) (fun c_22 => ?_)
        · replace hF := hF.trans (if_neg c_22)
          exact K_38   hF _ _ _ hh (lv_sub hl [0] rfl)
        · replace hF := hF.trans (if_pos c_22)
          refine lv_aload_n hx hb dX7_nextToken_25 rfl (lv_at hl 0 rfl) ?_
          refine lv_dup hx hb dX7_nextToken_26 rfl ?_
          refine g_get KX hh in_X7_nextToken_X7 0 rfl rfl 7 (by decide) rfl (List.mem_of_getElem? (i := 1) rfl) dX7_nextToken_27 ?_
          refine lv_iconst (v := 1) hx hb dX7_nextToken_30 (by decide) ?_
          refine lv_iadd hx hb dX7_nextToken_31 ?_
          refine g_put KX hh in_X7_nextToken_X7 tyX7 tyX7_ok nmX7 0 rfl rfl 7 (by decide) rfl rfl rfl (Nat.le_of_ble_eq_true rfl) (List.mem_of_getElem? (i := 1) rfl) (w' := (WM cI cZ cC cH o a_clock a_note a_text a_read a_fit a_shown a_image a_isKept a_row a_best m_told m_isRead1 m_clock m_note m_noted m_bytes m_text (w_m_position_1 + 1) m_tokenAt m_token m_digits m_number m_faultAt m_readMany m_readTold m_read m_fit m_shown m_image m_isKept m_row m_best m_againAt m_againStep m_orderMany m_orderLeast)) rfl rfl dX7_nextToken_32 (fun H locs hh => ?_)
          refine lv_goto (tgt := 0) hx hb dX7_nextToken_35 (by decide) ?_
          have e_inc : (w_m_position_1 + 1).toInt = _ := ti_inc (by omega)
          exact ih_0 (w_m_position_1 + 1) (by first | with_reducible assumption | omega | decide) (by first | with_reducible assumption | omega | decide) (by omega) hF _ _ _ hh (lv_sub hl [0] rfl)
  exact L_0 201 m_position (by first | with_reducible assumption | omega | decide) (by first | with_reducible assumption | omega | decide) (by first | omega | decide | (simp; done)) hF _ _ _ hh (lv_sub hl [0] rfl)
theorem PosOk.inc {b q : Int32} (h : PosOk b q) (hn : ¬ b ≤ q) : PosOk b (q + 1) := by
  obtain ⟨a, c, d⟩ := h
  have h1 := ti_nle hn
  have e := ti_inc (a := q) (by omega)
  exact ⟨by omega, by omega, d⟩
theorem PosOk.dec {b q : Int32} {n : Nat} (h : PosOk b q) (hn : ¬ b ≤ q) (hm : (b.toInt - q.toInt).toNat < n + 1) : (b.toInt - (q + 1).toInt).toNat < n := by
  obtain ⟨a, c, d⟩ := h
  have h1 := ti_nle hn
  have e := ti_inc (a := q) (by omega)
  omega
theorem nt_241 {b : Int32} {t : Nat → Int32} {p : Int32} : ∀ (n : Nat) (q d k : Int32), PosOk b q → (b.toInt - q.toInt).toNat < n → PosOk b (F_X7_nextToken_241 b t p n q d k).1 := by
  intro n
  induction n with
  | zero => intro q d k _ h; exact absurd h (Nat.not_lt_zero _)
  | succ n ih =>
    intro q d k h hm
    rw [F_X7_nextToken_241.eq_2]
    split
    · unfold F_X7_nextToken_333; split <;> exact h
    · rename_i hn
      split
      · unfold F_X7_nextToken_333; split <;> exact h
      · split <;> (unfold F_X7_nextToken_307; exact ih _ _ _ (h.inc hn) (h.dec hn hm))
theorem nt_101 {b : Int32} {t : Nat → Int32} {p : Int32} : ∀ (n : Nat) (q : Int32) (k : Int64), PosOk b q → (b.toInt - q.toInt).toNat < n → PosOk b (F_X7_nextToken_101 b t p n q k).1 := by
  intro n
  induction n with
  | zero => intro q k _ h; exact absurd h (Nat.not_lt_zero _)
  | succ n ih =>
    intro q k h hm
    rw [F_X7_nextToken_101.eq_2]
    split
    · unfold F_X7_nextToken_191; split <;> exact h
    · rename_i hn
      split
      · unfold F_X7_nextToken_191; split <;> exact h
      · split <;> (unfold F_X7_nextToken_175; exact ih _ _ (h.inc hn) (h.dec hn hm))
theorem nt_38 {b : Int32} {t : Nat → Int32} {p : Int32} (h : PosOk b p) : PosOk b (F_X7_nextToken_38 b t p).1 := by
  obtain ⟨h1, h2, h3⟩ := id h
  unfold F_X7_nextToken_38
  split
  · exact h
  · rename_i hn
    have hn : ¬ b ≤ p := fun hl => hn (Int32.toInt_inj.mp (Int.le_antisymm h2 (ti_le.mp hl)))
    split
    · split
      · split <;> exact h.inc hn
      · exact nt_241 _ _ _ _ h (by omega)
    · exact nt_101 _ _ _ h (by omega)
theorem nt_0 {b : Int32} {t : Nat → Int32} : ∀ (n : Nat) (q : Int32), PosOk b q → (b.toInt - q.toInt).toNat < n → PosOk b (F_X7_nextToken_0 b t n q).1 := by
  intro n
  induction n with
  | zero => intro q _ h; exact absurd h (Nat.not_lt_zero _)
  | succ n ih =>
    intro q h hm
    rw [F_X7_nextToken_0.eq_2]
    split
    · exact nt_38 h
    · rename_i hn
      split
      · exact ih _ (h.inc hn) (h.dec hn hm)
      · exact nt_38 h
theorem nt_ok {b : Int32} {t : Nat → Int32} {p : Int32} (h : PosOk b p) : PosOk b (F_X7_nextToken b t p).1 := by
  obtain ⟨h1, h2, h3⟩ := id h
  exact nt_0 _ _ h (by omega)
def F_X7_fails (m_tokenAt : Int32) : Int32 × Int32 := (0, m_tokenAt)
theorem in_X7_fails_X7 : ∀ x ∈ u_ws RX7 TX7 26, x ∈ wsX7_fails := by decide +kernel
set_option maxHeartbeats 2000000 in
set_option maxRecDepth 100000 in
theorem c_X7_fails (l : Launch) (D : va_G) (cI cZ cC cH : ClassId) (o a_clock a_note a_text a_read a_fit a_shown a_image a_isKept a_row a_best : Nat) (m_told : Int32) (m_isRead1 : Int32) (m_clock : Nat → Int32) (m_note : Nat → Int32) (m_noted : Int32) (m_bytes : Int32) (m_text : Nat → Int32) (m_position : Int32) (m_tokenAt : Int32) (m_token : Int64) (m_digits : Int32) (m_number : Int32) (m_faultAt : Int32) (m_readMany : Int32) (m_readTold : Int32) (m_read : Nat → Int32) (m_fit : Nat → Int32) (m_shown : Nat → Int32) (m_image : Nat → Int32) (m_isKept : Nat → Int32) (m_row : Nat → Int32) (m_best : Nat → Int32) (m_againAt : Int32) (m_againStep : Int32) (m_orderMany : Int32) (m_orderLeast : Int32)   : MC l D (TY cI cZ cC cH) yX7_fails wsX7_fails 0 0 [.ref o] (WM cI cZ cC cH o a_clock a_note a_text a_read a_fit a_shown a_image a_isKept a_row a_best m_told m_isRead1 m_clock m_note m_noted m_bytes m_text m_position m_tokenAt m_token m_digits m_number m_faultAt m_readMany m_readTold m_read m_fit m_shown m_image m_isKept m_row m_best m_againAt m_againStep m_orderMany m_orderLeast) (some (.int ((F_X7_fails m_tokenAt).1))) (WM cI cZ cC cH o a_clock a_note a_text a_read a_fit a_shown a_image a_isKept a_row a_best m_told m_isRead1 m_clock m_note m_noted m_bytes m_text m_position m_tokenAt m_token m_digits m_number (F_X7_fails m_tokenAt).2 m_readMany m_readTold m_read m_fit m_shown m_image m_isKept m_row m_best m_againAt m_againStep m_orderMany m_orderLeast) := by
  obtain ⟨R, hF⟩ : ∃ R, R = F_X7_fails m_tokenAt := ⟨_, rfl⟩
  rw [← hF]
  refine MC.of (cc := cX7_fails) (maxL := 1) (ret := (some .boolean)) RX7 rfl (by decide +kernel) rfl (Nat.le_of_ble_eq_true rfl) ?_
  intro p e s m args below meth c A Q KX RT hh ls hl
  have z0 : (0 : Int32).toInt = 0 := rfl
  have z1 : (1 : Int32).toInt = 1 := rfl
  have zm : (-1 : Int32).toInt = -1 := rfl
  have hx := KX.1
  have hb := KX.2.1
  have hl : lv_has ls 1 [(0, .ref o)] := hl
  unfold F_X7_fails at hF
  refine lv_aload_n hx hb dX7_fails_0 rfl (lv_at hl 0 rfl) ?_
  refine lv_aload_n hx hb dX7_fails_1 rfl (lv_at hl 0 rfl) ?_
  refine g_get KX hh in_X7_fails_X7 0 rfl rfl 8 (by decide) rfl (List.mem_of_getElem? (i := 1) rfl) dX7_fails_2 ?_
  refine g_put KX hh in_X7_fails_X7 tyX7 tyX7_ok nmX7 0 rfl rfl 12 (by decide) rfl rfl rfl (Nat.le_of_ble_eq_true rfl) (List.mem_of_getElem? (i := 2) rfl) (w' := (WM cI cZ cC cH o a_clock a_note a_text a_read a_fit a_shown a_image a_isKept a_row a_best m_told m_isRead1 m_clock m_note m_noted m_bytes m_text m_position m_tokenAt m_token m_digits m_number m_tokenAt m_readMany m_readTold m_read m_fit m_shown m_image m_isKept m_row m_best m_againAt m_againStep m_orderMany m_orderLeast)) rfl rfl dX7_fails_5 (fun H locs hh => ?_)
  refine lv_iconst (v := 0) hx hb dX7_fails_8 (by decide) ?_
  exact RT _ _ _ _ _ _ hh (by rw [hF]) (Or.inl ⟨_, rfl, by rw [hF], dX7_fails_9, Or.inr (Or.inl ⟨rfl, Or.inl rfl⟩)⟩)
theorem z_X7_fails (m_tokenAt : Int32) : (F_X7_fails m_tokenAt).1 = 0 ∨ (F_X7_fails m_tokenAt).1 = 1 := by
  unfold F_X7_fails
  exact Or.inl rfl
def F_X7_isNumber_c28 (m_read : Nat → Int32) (r1_1 : Int32 × Int32 × Int64 × Int32 × Int32) (r28_2 : Int32 × Int32) : Int32 × Int32 × Int32 × Int64 × Int32 × Int32 × Int32 × (Nat → Int32) := (r28_2.1, r1_1.1, r1_1.2.1, r1_1.2.2.1, r1_1.2.2.2.1, r1_1.2.2.2.2, r28_2.2, m_read)
def F_X7_isNumber_27 (m_read : Nat → Int32) (r1_1 : Int32 × Int32 × Int64 × Int32 × Int32)  : Int32 × Int32 × Int32 × Int64 × Int32 × Int32 × Int32 × (Nat → Int32) := (F_X7_isNumber_c28 m_read r1_1 (F_X7_fails r1_1.2.1))
def F_X7_isNumber_c1 (m_faultAt : Int32) (m_read : Nat → Int32) (x1 : Int32) (x2 : Int32) (x3 : Int32) (r1_1 : Int32 × Int32 × Int64 × Int32 × Int32) : Int32 × Int32 × Int32 × Int64 × Int32 × Int32 × Int32 × (Nat → Int32) := (if (lg_cmp r1_1.2.2.1 (-1)) = 0 then (if (F_X7_in r1_1.2.2.2.2 x2 x3) = 0 then F_X7_isNumber_27 m_read r1_1 else (1, r1_1.1, r1_1.2.1, r1_1.2.2.1, r1_1.2.2.2.1, r1_1.2.2.2.2, m_faultAt, upd m_read x1.toNatClampNeg r1_1.2.2.2.2)) else F_X7_isNumber_27 m_read r1_1)
def F_X7_isNumber (m_bytes : Int32) (m_text : Nat → Int32) (m_position : Int32) (m_faultAt : Int32) (m_read : Nat → Int32) (x1 : Int32) (x2 : Int32) (x3 : Int32) : Int32 × Int32 × Int32 × Int64 × Int32 × Int32 × Int32 × (Nat → Int32) := (F_X7_isNumber_c1 m_faultAt m_read x1 x2 x3 (F_X7_nextToken m_bytes m_text m_position))
theorem in_X7_isNumber_X7 : ∀ x ∈ u_ws RX7 TX7 26, x ∈ wsX7_isNumber := by decide +kernel
set_option maxHeartbeats 2000000 in
set_option maxRecDepth 100000 in
theorem c_X7_isNumber (l : Launch) (D : va_G) (cI cZ cC cH : ClassId) (o a_clock a_note a_text a_read a_fit a_shown a_image a_isKept a_row a_best : Nat) (m_told : Int32) (m_isRead1 : Int32) (m_clock : Nat → Int32) (m_note : Nat → Int32) (m_noted : Int32) (m_bytes : Int32) (m_text : Nat → Int32) (m_position : Int32) (m_tokenAt : Int32) (m_token : Int64) (m_digits : Int32) (m_number : Int32) (m_faultAt : Int32) (m_readMany : Int32) (m_readTold : Int32) (m_read : Nat → Int32) (m_fit : Nat → Int32) (m_shown : Nat → Int32) (m_image : Nat → Int32) (m_isKept : Nat → Int32) (m_row : Nat → Int32) (m_best : Nat → Int32) (m_againAt : Int32) (m_againStep : Int32) (m_orderMany : Int32) (m_orderLeast : Int32) (x1 : Int32) (x2 : Int32) (x3 : Int32) (hpos : PosOk m_bytes m_position) (hw0 : 0 ≤ x1.toInt) (hw1 : x1.toInt < 48) : MC l D (TY cI cZ cC cH) yX7_isNumber wsX7_isNumber 2 42 [.ref o, .int x1, .int x2, .int x3] (WM cI cZ cC cH o a_clock a_note a_text a_read a_fit a_shown a_image a_isKept a_row a_best m_told m_isRead1 m_clock m_note m_noted m_bytes m_text m_position m_tokenAt m_token m_digits m_number m_faultAt m_readMany m_readTold m_read m_fit m_shown m_image m_isKept m_row m_best m_againAt m_againStep m_orderMany m_orderLeast) (some (.int ((F_X7_isNumber m_bytes m_text m_position m_faultAt m_read x1 x2 x3).1))) (WM cI cZ cC cH o a_clock a_note a_text a_read a_fit a_shown a_image a_isKept a_row a_best m_told m_isRead1 m_clock m_note m_noted m_bytes m_text (F_X7_isNumber m_bytes m_text m_position m_faultAt m_read x1 x2 x3).2.1 (F_X7_isNumber m_bytes m_text m_position m_faultAt m_read x1 x2 x3).2.2.1 (F_X7_isNumber m_bytes m_text m_position m_faultAt m_read x1 x2 x3).2.2.2.1 (F_X7_isNumber m_bytes m_text m_position m_faultAt m_read x1 x2 x3).2.2.2.2.1 (F_X7_isNumber m_bytes m_text m_position m_faultAt m_read x1 x2 x3).2.2.2.2.2.1 (F_X7_isNumber m_bytes m_text m_position m_faultAt m_read x1 x2 x3).2.2.2.2.2.2.1 m_readMany m_readTold (F_X7_isNumber m_bytes m_text m_position m_faultAt m_read x1 x2 x3).2.2.2.2.2.2.2 m_fit m_shown m_image m_isKept m_row m_best m_againAt m_againStep m_orderMany m_orderLeast) := by
  obtain ⟨R, hF⟩ : ∃ R, R = F_X7_isNumber m_bytes m_text m_position m_faultAt m_read x1 x2 x3 := ⟨_, rfl⟩
  rw [← hF]
  refine MC.of (cc := cX7_isNumber) (maxL := 4) (ret := (some .boolean)) RX7 rfl (by decide +kernel) rfl (Nat.le_of_ble_eq_true rfl) ?_
  intro p e s m args below meth c A Q KX RT hh ls hl
  have z0 : (0 : Int32).toInt = 0 := rfl
  have z1 : (1 : Int32).toInt = 1 := rfl
  have zm : (-1 : Int32).toInt = -1 := rfl
  have hx := KX.1
  have hb := KX.2.1
  have hl : lv_has ls 4 [(0, .ref o), (1, .int x1), (2, .int x2), (3, .int x3)] := hl
  unfold F_X7_isNumber at hF
  refine lv_aload_n hx hb dX7_isNumber_0 rfl (lv_at hl 0 rfl) ?_
  refine g_callV (As := []) (rest := []) KX rfl ⟨Nat.le_of_ble_eq_true rfl, Nat.le_of_ble_eq_true rfl⟩ hh hl (c_X7_nextToken l D cI cZ cC cH o a_clock a_note a_text a_read a_fit a_shown a_image a_isKept a_row a_best m_told m_isRead1 m_clock m_note m_noted m_bytes m_text m_position m_tokenAt m_token m_digits m_number m_faultAt m_readMany m_readTold m_read m_fit m_shown m_image m_isKept m_row m_best m_againAt m_againStep m_orderMany m_orderLeast  (by first | with_reducible assumption | omega | decide)) JN.all 0 gX7_isNumber_X7_nextToken rfl (by decide +kernel) ⟨Nat.le_of_ble_eq_true rfl, Nat.le_of_ble_eq_true rfl⟩ 0 7 rfl rfl rfl rfl rfl (Nat.le_of_ble_eq_true rfl) dX7_isNumber_1 (fun H locs hh => ?_)
  refine W.eq (g2 := F0 m 4 ls []) rfl ?_
  generalize q_1 : F_X7_nextToken m_bytes m_text m_position = r1_1 at hh hF ⊢
  unfold F_X7_isNumber_c1 at hF
  refine lv_aload_n hx hb dX7_isNumber_4 rfl (lv_at hl 0 rfl) ?_
  refine g_get KX hh in_X7_isNumber_X7 0 rfl rfl 9 (by decide) rfl (List.mem_of_getElem? (i := 1) rfl) dX7_isNumber_5 ?_
  refine lv_ldc2 (v := (-1)) hx hb KX.2.2.2.1 (KX.2.2.2.2.1 _ (List.mem_of_getElem? (i := 2) rfl)) dX7_isNumber_8 ?_
  refine W.lcmp hx hb dX7_isNumber_11 ?_
  have K_27 : ∀ (_ : R = (F_X7_isNumber_27 m_read r1_1)) (ls : Array Slot) (H : Heap) (locs : List Loc) (_ : HS D A s.heap (WM cI cZ cC cH o a_clock a_note a_text a_read a_fit a_shown a_image a_isKept a_row a_best m_told m_isRead1 m_clock m_note m_noted m_bytes m_text r1_1.1 r1_1.2.1 r1_1.2.2.1 r1_1.2.2.2.1 r1_1.2.2.2.2 m_faultAt m_readMany m_readTold m_read m_fit m_shown m_image m_isKept m_row m_best m_againAt m_againStep m_orderMany m_orderLeast) H locs) (_ : lv_has ls 4 [(0, .ref o), (1, .int x1), (2, .int x2), (3, .int x3)]), W p l e { frames := 2, cells := 0, slots := 0, locals := 42 } s m args below meth c H locs 0 0 Q (F0 m 27 ls []) := by
    intro  hF ls H locs hh hl
    unfold F_X7_isNumber_27 at hF
    refine lv_aload_n hx hb dX7_isNumber_27 rfl (lv_at hl 0 rfl) ?_
    refine g_callV (As := []) (rest := []) KX rfl ⟨Nat.le_of_ble_eq_true rfl, Nat.le_of_ble_eq_true rfl⟩ hh hl (c_X7_fails l D cI cZ cC cH o a_clock a_note a_text a_read a_fit a_shown a_image a_isKept a_row a_best m_told m_isRead1 m_clock m_note m_noted m_bytes m_text r1_1.1 r1_1.2.1 r1_1.2.2.1 r1_1.2.2.2.1 r1_1.2.2.2.2 m_faultAt m_readMany m_readTold m_read m_fit m_shown m_image m_isKept m_row m_best m_againAt m_againStep m_orderMany m_orderLeast  ) JN.all 0 gX7_isNumber_X7_fails rfl (by decide +kernel) ⟨Nat.le_of_ble_eq_true rfl, Nat.le_of_ble_eq_true rfl⟩ 0 7 rfl rfl rfl rfl rfl (Nat.le_of_ble_eq_true rfl) dX7_isNumber_28 (fun H locs hh => ?_)
    refine W.eq (g2 := F0 m 31 ls [.int ((F_X7_fails r1_1.2.1).1)]) rfl ?_
    generalize q_28 : F_X7_fails r1_1.2.1 = r28_2 at hh hF ⊢
    have hz_28 : r28_2.1 = 0 ∨ r28_2.1 = 1 := by rw [← q_28]; exact z_X7_fails _
    unfold F_X7_isNumber_c28 at hF
    exact RT _ _ _ _ _ _ hh (by rw [hF]) (Or.inl ⟨_, rfl, by rw [hF], dX7_isNumber_31, Or.inr (Or.inl ⟨rfl, (by first | with_reducible assumption | omega | decide)⟩)⟩)
  refine lv_if_ne (tgt := 27) hx hb dX7_isNumber_12 (by decide) (fun c_12 => ?_) (fun c_12 => ?_)
  · replace hF := hF.trans (if_neg c_12)
    exact K_27   hF _ _ _ hh (lv_sub hl [0, 1, 2, 3] rfl)
  · replace hF := hF.trans (if_pos c_12)
    refine lv_aload_n hx hb dX7_isNumber_15 rfl (lv_at hl 0 rfl) ?_
    refine g_get KX hh in_X7_isNumber_X7 0 rfl rfl 11 (by decide) rfl (List.mem_of_getElem? (i := 3) rfl) dX7_isNumber_16 ?_
    refine lv_iload_n hx hb dX7_isNumber_19 rfl (lv_at hl 2 rfl) ?_
    refine lv_iload_n hx hb dX7_isNumber_20 rfl (lv_at hl 3 rfl) ?_
    refine g_callS (As := [.int r1_1.2.2.2.2, .int x2, .int x3]) (rest := []) KX rfl ⟨Nat.le_of_ble_eq_true rfl, Nat.le_of_ble_eq_true rfl⟩ hh hl (c_X7_in l D cI cZ cC cH  r1_1.2.2.2.2 x2 x3 ) JN.no 3 gX7_isNumber_X7_in rfl (by decide +kernel) ⟨Nat.le_of_ble_eq_true rfl, Nat.le_of_ble_eq_true rfl⟩ rfl rfl (Nat.le_of_ble_eq_true rfl) dX7_isNumber_21 (fun H locs hh => ?_)
    refine W.eq (g2 := F0 m 24 ls [.int (F_X7_in r1_1.2.2.2.2 x2 x3)]) rfl ?_
    refine lv_if_ne (tgt := 32) hx hb dX7_isNumber_24 (by decide) (fun c_24 => ?_) (fun c_24 => ?_)
    · replace hF := hF.trans (if_neg c_24)
      skip
      refine lv_aload_n hx hb dX7_isNumber_32 rfl (lv_at hl 0 rfl) ?_
      refine g_get KX hh in_X7_isNumber_X7 0 rfl rfl 15 (by decide) rfl (List.mem_of_getElem? (i := 4) rfl) dX7_isNumber_33 ?_
      refine lv_iload_n hx hb dX7_isNumber_36 rfl (lv_at hl 1 rfl) ?_
      refine lv_aload_n hx hb dX7_isNumber_37 rfl (lv_at hl 0 rfl) ?_
      refine g_get KX hh in_X7_isNumber_X7 0 rfl rfl 11 (by decide) rfl (List.mem_of_getElem? (i := 3) rfl) dX7_isNumber_38 ?_
      refine g_iast KX hh 4 0 rfl rfl (vp_in_iff.mpr (by omega)) (w' := (WM cI cZ cC cH o a_clock a_note a_text a_read a_fit a_shown a_image a_isKept a_row a_best m_told m_isRead1 m_clock m_note m_noted m_bytes m_text r1_1.1 r1_1.2.1 r1_1.2.2.1 r1_1.2.2.2.1 r1_1.2.2.2.2 m_faultAt m_readMany m_readTold (upd m_read x1.toNatClampNeg r1_1.2.2.2.2) m_fit m_shown m_image m_isKept m_row m_best m_againAt m_againStep m_orderMany m_orderLeast)) rfl dX7_isNumber_41 (fun H locs hh => ?_)
      refine lv_iconst (v := 1) hx hb dX7_isNumber_42 (by decide) ?_
      exact RT _ _ _ _ _ _ hh (by rw [hF]) (Or.inl ⟨_, rfl, by rw [hF], dX7_isNumber_43, Or.inr (Or.inl ⟨rfl, Or.inr rfl⟩)⟩)
    · replace hF := hF.trans (if_pos c_24)
      exact K_27   hF _ _ _ hh (lv_sub hl [0, 1, 2, 3] rfl)
theorem zb_F_X7_isNumber_c28 {m_read : Nat → Int32} {r1_1 : Int32 × Int32 × Int64 × Int32 × Int32} {r28_2 : Int32 × Int32} (hz0 : r28_2.1 = 0 ∨ r28_2.1 = 1) : (F_X7_isNumber_c28 m_read r1_1 r28_2).1 = 0 ∨ (F_X7_isNumber_c28 m_read r1_1 r28_2).1 = 1 := by
  unfold F_X7_isNumber_c28
  exact hz0
theorem zb_F_X7_isNumber_27 {m_read : Nat → Int32} {r1_1 : Int32 × Int32 × Int64 × Int32 × Int32}  : (F_X7_isNumber_27 m_read r1_1).1 = 0 ∨ (F_X7_isNumber_27 m_read r1_1).1 = 1 := by
  unfold F_X7_isNumber_27
  exact zb_F_X7_isNumber_c28 (z_X7_fails _)
theorem zb_F_X7_isNumber_c1 {m_faultAt : Int32} {m_read : Nat → Int32} {x1 : Int32} {x2 : Int32} {x3 : Int32} {r1_1 : Int32 × Int32 × Int64 × Int32 × Int32} : (F_X7_isNumber_c1 m_faultAt m_read x1 x2 x3 r1_1).1 = 0 ∨ (F_X7_isNumber_c1 m_faultAt m_read x1 x2 x3 r1_1).1 = 1 := by
  unfold F_X7_isNumber_c1
  split
  · split
    · exact zb_F_X7_isNumber_27 
    · exact Or.inr rfl
  · exact zb_F_X7_isNumber_27 
theorem z_X7_isNumber (m_bytes : Int32) (m_text : Nat → Int32) (m_position : Int32) (m_faultAt : Int32) (m_read : Nat → Int32) (x1 : Int32) (x2 : Int32) (x3 : Int32) : (F_X7_isNumber m_bytes m_text m_position m_faultAt m_read x1 x2 x3).1 = 0 ∨ (F_X7_isNumber m_bytes m_text m_position m_faultAt m_read x1 x2 x3).1 = 1 := by
  unfold F_X7_isNumber
  exact zb_F_X7_isNumber_c1 
theorem okb_F_X7_isNumber_c28 {m_read : Nat → Int32} {r1_1 : Int32 × Int32 × Int64 × Int32 × Int32} {r28_2 : Int32 × Int32} {b_ : Int32} (hq0 : PosOk b_ r1_1.1) : PosOk b_ (F_X7_isNumber_c28 m_read r1_1 r28_2).2.1 := by
  unfold F_X7_isNumber_c28
  exact hq0
theorem okb_F_X7_isNumber_27 {m_read : Nat → Int32} {r1_1 : Int32 × Int32 × Int64 × Int32 × Int32} {b_ : Int32} (hq0 : PosOk b_ r1_1.1) : PosOk b_ (F_X7_isNumber_27 m_read r1_1).2.1 := by
  unfold F_X7_isNumber_27
  exact okb_F_X7_isNumber_c28 (hq0)
theorem okb_F_X7_isNumber_c1 {m_faultAt : Int32} {m_read : Nat → Int32} {x1 : Int32} {x2 : Int32} {x3 : Int32} {r1_1 : Int32 × Int32 × Int64 × Int32 × Int32} {b_ : Int32} (hq0 : PosOk b_ r1_1.1) : PosOk b_ (F_X7_isNumber_c1 m_faultAt m_read x1 x2 x3 r1_1).2.1 := by
  unfold F_X7_isNumber_c1
  split
  · split
    · exact okb_F_X7_isNumber_27 (hq0)
    · exact hq0
  · exact okb_F_X7_isNumber_27 (hq0)
theorem ok_X7_isNumber {m_bytes : Int32} {m_text : Nat → Int32} {m_position : Int32} {m_faultAt : Int32} {m_read : Nat → Int32} {x1 : Int32} {x2 : Int32} {x3 : Int32} (hq0 : PosOk m_bytes m_position) : PosOk m_bytes (F_X7_isNumber m_bytes m_text m_position m_faultAt m_read x1 x2 x3).2.1 := by
  unfold F_X7_isNumber
  exact okb_F_X7_isNumber_c1 (nt_ok (hq0))
