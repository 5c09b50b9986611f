/-- what a text without fault leaves: at most eight lines, their clocks are clocks -/
def TxOk (r : Int32 × Int32 × Int32 × Int64 × Int32 × Int32 × Int32 × Int32 × Int32 × (Nat → Int32)) : Prop := ¬ r.1 = 0 → (0 ≤ r.2.2.2.2.2.2.2.1.toInt ∧ r.2.2.2.2.2.2.2.1.toInt ≤ 8) ∧ ∀ k : Int32, 0 ≤ k.toInt → k.toInt < r.2.2.2.2.2.2.2.1.toInt → ¬ r.2.2.2.2.2.2.2.2.2 (6 * k).toNatClampNeg = 5 → 0 ≤ (r.2.2.2.2.2.2.2.2.2 (6 * k + 1).toNatClampNeg).toInt ∧ (r.2.2.2.2.2.2.2.2.2 (6 * k + 1).toNatClampNeg).toInt < 8
def F_X7_house_c25 (x1_2 : Int32) (k_12 : Int32 → Int32 → Int32 → (Nat → Int32) → Int32 × Int32 × Int32 × (Nat → Int32) × Int32 × Int32 × Int32 × Int64 × Int32 × Int32 × Int32 × Int32 × Int32 × (Nat → Int32)) (r25_6 : Int32 × Int32 × (Nat → Int32)) : Int32 × Int32 × Int32 × (Nat → Int32) × Int32 × Int32 × Int32 × Int64 × Int32 × Int32 × Int32 × Int32 × Int32 × (Nat → Int32) := (k_12 (x1_2 + 1) r25_6.1 r25_6.2.1 r25_6.2.2)
def F_X7_house_12 (r1_1 : Int32 × Int32 × Int32 × Int64 × Int32 × Int32 × Int32 × Int32 × Int32 × (Nat → Int32)) : Nat → Int32 → Int32 → Int32 → (Nat → Int32) → Int32 × Int32 × Int32 × (Nat → Int32) × Int32 × Int32 × Int32 × Int64 × Int32 × Int32 × Int32 × Int32 × Int32 × (Nat → Int32)
  | 0, _, _, _, _ => default
  | n + 1, x1_2, w_m_told_3, w_m_isRead1_4, w_m_clock_5 => (if r1_1.2.2.2.2.2.2.2.1 ≤ x1_2 then (r1_1.2.2.2.2.2.2.2.1, w_m_told_3, w_m_isRead1_4, w_m_clock_5, 0, r1_1.2.1, r1_1.2.2.1, r1_1.2.2.2.1, r1_1.2.2.2.2.1, r1_1.2.2.2.2.2.1, r1_1.2.2.2.2.2.2.1, r1_1.2.2.2.2.2.2.2.1, r1_1.2.2.2.2.2.2.2.2.1, r1_1.2.2.2.2.2.2.2.2.2) else (F_X7_house_c25 x1_2 (F_X7_house_12 r1_1 n) (F_X7_doLine w_m_told_3 w_m_isRead1_4 w_m_clock_5 r1_1.2.2.2.2.2.2.2.2.2 (6 * x1_2))))
def F_X7_house_c1 (m_told : Int32) (m_isRead1 : Int32) (m_clock : Nat → Int32) (m_bytes : Int32) (r1_1 : Int32 × Int32 × Int32 × Int64 × Int32 × Int32 × Int32 × Int32 × Int32 × (Nat → Int32)) : Int32 × Int32 × Int32 × (Nat → Int32) × Int32 × Int32 × Int32 × Int64 × Int32 × Int32 × Int32 × Int32 × Int32 × (Nat → Int32) := (if r1_1.1 = 0 then ((-4), m_told, m_isRead1, m_clock, m_bytes, r1_1.2.1, r1_1.2.2.1, r1_1.2.2.2.1, r1_1.2.2.2.2.1, r1_1.2.2.2.2.2.1, r1_1.2.2.2.2.2.2.1, r1_1.2.2.2.2.2.2.2.1, r1_1.2.2.2.2.2.2.2.2.1, r1_1.2.2.2.2.2.2.2.2.2) else (F_X7_house_12 r1_1 9 0 m_told m_isRead1 m_clock))
def F_X7_house (m_told : Int32) (m_isRead1 : Int32) (m_clock : Nat → Int32) (m_bytes : Int32) (m_text : Nat → Int32) (m_tokenAt : Int32) (m_token : Int64) (m_digits : Int32) (m_number : Int32) (m_faultAt : Int32) (m_read : Nat → Int32) : Int32 × Int32 × Int32 × (Nat → Int32) × Int32 × Int32 × Int32 × Int64 × Int32 × Int32 × Int32 × Int32 × Int32 × (Nat → Int32) := (F_X7_house_c1 m_told m_isRead1 m_clock m_bytes (F_X7_isText m_told m_bytes m_text m_tokenAt m_token m_digits m_number m_faultAt m_read))
theorem in_X7_house_X7 : ∀ x ∈ u_ws RX7 TX7 26, x ∈ wsX7_house := by decide +kernel
set_option maxHeartbeats 2000000 in
set_option maxRecDepth 100000 in
theorem c_X7_house (l : Launch) (D : va_G) (cI cZ cC cH : ClassId) (o a_clock a_note a_text a_read a_fit a_shown a_image a_isKept a_row a_best : Nat) (m_told : Int32) (m_isRead1 : Int32) (m_clock : Nat → Int32) (m_note : Nat → Int32) (m_noted : Int32) (m_bytes : Int32) (m_text : Nat → Int32) (m_position : Int32) (m_tokenAt : Int32) (m_token : Int64) (m_digits : Int32) (m_number : Int32) (m_faultAt : Int32) (m_readMany : Int32) (m_readTold : Int32) (m_read : Nat → Int32) (m_fit : Nat → Int32) (m_shown : Nat → Int32) (m_image : Nat → Int32) (m_isKept : Nat → Int32) (m_row : Nat → Int32) (m_best : Nat → Int32) (m_againAt : Int32) (m_againStep : Int32) (m_orderMany : Int32) (m_orderLeast : Int32)  (hb0 : 0 ≤ m_bytes.toInt) (hb1 : m_bytes.toInt ≤ 200) (hTx : TxOk (F_X7_isText m_told m_bytes m_text m_tokenAt m_token m_digits m_number m_faultAt m_read)) : MC l D (TY cI cZ cC cH) yX7_house wsX7_house 6 129 [.ref o] (WM cI cZ cC cH o a_clock a_note a_text a_read a_fit a_shown a_image a_isKept a_row a_best m_told m_isRead1 m_clock m_note m_noted m_bytes m_text m_position m_tokenAt m_token m_digits m_number m_faultAt m_readMany m_readTold m_read m_fit m_shown m_image m_isKept m_row m_best m_againAt m_againStep m_orderMany m_orderLeast) (some (.int ((F_X7_house m_told m_isRead1 m_clock m_bytes m_text m_tokenAt m_token m_digits m_number m_faultAt m_read).1))) (WM cI cZ cC cH o a_clock a_note a_text a_read a_fit a_shown a_image a_isKept a_row a_best (F_X7_house m_told m_isRead1 m_clock m_bytes m_text m_tokenAt m_token m_digits m_number m_faultAt m_read).2.1 (F_X7_house m_told m_isRead1 m_clock m_bytes m_text m_tokenAt m_token m_digits m_number m_faultAt m_read).2.2.1 (F_X7_house m_told m_isRead1 m_clock m_bytes m_text m_tokenAt m_token m_digits m_number m_faultAt m_read).2.2.2.1 m_note m_noted (F_X7_house m_told m_isRead1 m_clock m_bytes m_text m_tokenAt m_token m_digits m_number m_faultAt m_read).2.2.2.2.1 m_text (F_X7_house m_told m_isRead1 m_clock m_bytes m_text m_tokenAt m_token m_digits m_number m_faultAt m_read).2.2.2.2.2.1 (F_X7_house m_told m_isRead1 m_clock m_bytes m_text m_tokenAt m_token m_digits m_number m_faultAt m_read).2.2.2.2.2.2.1 (F_X7_house m_told m_isRead1 m_clock m_bytes m_text m_tokenAt m_token m_digits m_number m_faultAt m_read).2.2.2.2.2.2.2.1 (F_X7_house m_told m_isRead1 m_clock m_bytes m_text m_tokenAt m_token m_digits m_number m_faultAt m_read).2.2.2.2.2.2.2.2.1 (F_X7_house m_told m_isRead1 m_clock m_bytes m_text m_tokenAt m_token m_digits m_number m_faultAt m_read).2.2.2.2.2.2.2.2.2.1 (F_X7_house m_told m_isRead1 m_clock m_bytes m_text m_tokenAt m_token m_digits m_number m_faultAt m_read).2.2.2.2.2.2.2.2.2.2.1 (F_X7_house m_told m_isRead1 m_clock m_bytes m_text m_tokenAt m_token m_digits m_number m_faultAt m_read).2.2.2.2.2.2.2.2.2.2.2.1 (F_X7_house m_told m_isRead1 m_clock m_bytes m_text m_tokenAt m_token m_digits m_number m_faultAt m_read).2.2.2.2.2.2.2.2.2.2.2.2.1 (F_X7_house m_told m_isRead1 m_clock m_bytes m_text m_tokenAt m_token m_digits m_number m_faultAt m_read).2.2.2.2.2.2.2.2.2.2.2.2.2 m_fit m_shown m_image m_isKept m_row m_best m_againAt m_againStep m_orderMany m_orderLeast) := by
  obtain ⟨R, hF⟩ : ∃ R, R = F_X7_house m_told m_isRead1 m_clock m_bytes m_text m_tokenAt m_token m_digits m_number m_faultAt m_read := ⟨_, rfl⟩
  rw [← hF]
  refine MC.of (cc := cX7_house) (maxL := 2) (ret := (some .int)) RX7 rfl (by decide +kernel) rfl (Nat.le_of_ble_eq_true rfl) ?_
  intro p e s m args below meth c A Q KX RT hh ls hl
  have z0 : (0 : Int32).toInt = 0 := rfl
  have z1 : (1 : Int32).toInt = 1 := rfl
  have zm : (-1 : Int32).toInt = -1 := rfl
  have hx := KX.1
  have hb := KX.2.1
  have hl : lv_has ls 2 [(0, .ref o)] := hl
  unfold F_X7_house at hF
  refine lv_aload_n hx hb dX7_house_0 rfl (lv_at hl 0 rfl) ?_
  refine g_callV (As := []) (rest := []) KX rfl ⟨Nat.le_of_ble_eq_true rfl, Nat.le_of_ble_eq_true rfl⟩ hh hl (c_X7_isText l D cI cZ cC cH o a_clock a_note a_text a_read a_fit a_shown a_image a_isKept a_row a_best m_told m_isRead1 m_clock m_note m_noted m_bytes m_text m_position m_tokenAt m_token m_digits m_number m_faultAt m_readMany m_readTold m_read m_fit m_shown m_image m_isKept m_row m_best m_againAt m_againStep m_orderMany m_orderLeast  (by first | with_reducible assumption | omega | decide | exact tn_lt (n := 8) (by omega) (by omega)) (by first | with_reducible assumption | omega | decide | exact tn_lt (n := 8) (by omega) (by omega))) JN.all 0 gX7_house_X7_isText rfl (by decide +kernel) ⟨Nat.le_of_ble_eq_true rfl, Nat.le_of_ble_eq_true rfl⟩ 0 7 rfl rfl rfl rfl rfl (Nat.le_of_ble_eq_true rfl) dX7_house_1 (fun H locs hh => ?_)
  refine W.eq (g2 := F0 m 4 ls [.int ((F_X7_isText m_told m_bytes m_text m_tokenAt m_token m_digits m_number m_faultAt m_read).1)]) rfl ?_
  generalize q_1 : F_X7_isText m_told m_bytes m_text m_tokenAt m_token m_digits m_number m_faultAt m_read = r1_1 at hh hF ⊢
  have hz_1 : r1_1.1 = 0 ∨ r1_1.1 = 1 := by rw [← q_1]; exact z_X7_isText _ _ _ _ _ _ _ _ _
  have hT : TxOk r1_1 := by rw [← q_1]; exact hTx
  unfold F_X7_house_c1 at hF
  refine lv_if_ne (tgt := 10) hx hb dX7_house_4 (by decide) (fun c_4 => ?_) (fun c_4 => ?_)
  · replace hF := hF.trans (if_neg c_4)
    have i_4 : ¬ r1_1.1.toInt = 0 := ti_ne c_4
    obtain ⟨⟨hk0, hk8⟩, hrow⟩ := hT c_4
    refine lv_iconst (v := 0) hx hb dX7_house_10 (by decide) ?_
    refine lv_istore_n (lv' := [(1, .int 0), (0, .ref o)]) hx hb dX7_house_11 rfl hl (Nat.le_of_ble_eq_true rfl) rfl (fun ls hl => ?_)
    have L_12 : ∀ (n_12 : Nat) (x1_2 : Int32) (w_m_told_3 : Int32) (w_m_isRead1_4 : Int32) (w_m_clock_5 : Nat → Int32) (i0_12 : 0 ≤ x1_2.toInt) (i1_12 : x1_2.toInt ≤ r1_1.2.2.2.2.2.2.2.1.toInt) (_ : (r1_1.2.2.2.2.2.2.2.1.toInt - x1_2.toInt).toNat < n_12) (_ : R = (F_X7_house_12 r1_1) n_12 x1_2 w_m_told_3 w_m_isRead1_4 w_m_clock_5) (ls : Array Slot) (H : Heap) (locs : List Loc) (_ : HS D A s.heap (WM cI cZ cC cH o a_clock a_note a_text a_read a_fit a_shown a_image a_isKept a_row a_best w_m_told_3 w_m_isRead1_4 w_m_clock_5 m_note m_noted m_bytes m_text r1_1.2.1 r1_1.2.2.1 r1_1.2.2.2.1 r1_1.2.2.2.2.1 r1_1.2.2.2.2.2.1 r1_1.2.2.2.2.2.2.1 r1_1.2.2.2.2.2.2.2.1 r1_1.2.2.2.2.2.2.2.2.1 r1_1.2.2.2.2.2.2.2.2.2 m_fit m_shown m_image m_isKept m_row m_best m_againAt m_againStep m_orderMany m_orderLeast) H locs) (_ : lv_has ls 2 [(1, .int x1_2), (0, .ref o)]), W p l e { frames := 6, cells := 0, slots := 0, locals := 129 } s m args below meth c H locs 0 0 Q (F0 m 12 ls []) := by
      intro n_12
      induction n_12 with
      | zero => intro x1_2 w_m_told_3 w_m_isRead1_4 w_m_clock_5 i0_12 i1_12 hm; exact absurd hm (Nat.not_lt_zero _)
      | succ n_12 ih_12 =>
        intro x1_2 w_m_told_3 w_m_isRead1_4 w_m_clock_5 i0_12 i1_12 hm_12 hF ls H locs hh hl
        rw [F_X7_house_12.eq_2] at hF
        refine lv_iload_n hx hb dX7_house_12 rfl (lv_at hl 0 rfl) ?_
        refine lv_aload_n hx hb dX7_house_13 rfl (lv_at hl 1 rfl) ?_
        refine g_get KX hh in_X7_house_X7 0 rfl rfl 13 (by decide) rfl (List.mem_of_getElem? (i := 1) rfl) dX7_house_14 ?_
        refine lv_icmp_ge (tgt := 34) hx hb dX7_house_17 (by decide) (fun c_17 => ?_) (fun c_17 => ?_)
        · replace hF := hF.trans (if_pos c_17)
          have i_17 : r1_1.2.2.2.2.2.2.2.1.toInt ≤ x1_2.toInt := ti_le.mp c_17
          refine lv_aload_n hx hb dX7_house_34 rfl (lv_at hl 1 rfl) ?_
          refine lv_iconst (v := 0) hx hb dX7_house_35 (by decide) ?_
          refine g_put KX hh in_X7_house_X7 tyX7 tyX7_ok nmX7 0 rfl rfl 5 (by decide) rfl rfl rfl (Nat.le_of_ble_eq_true rfl) (List.mem_of_getElem? (i := 2) rfl) (w' := (WM cI cZ cC cH o a_clock a_note a_text a_read a_fit a_shown a_image a_isKept a_row a_best w_m_told_3 w_m_isRead1_4 w_m_clock_5 m_note m_noted 0 m_text r1_1.2.1 r1_1.2.2.1 r1_1.2.2.2.1 r1_1.2.2.2.2.1 r1_1.2.2.2.2.2.1 r1_1.2.2.2.2.2.2.1 r1_1.2.2.2.2.2.2.2.1 r1_1.2.2.2.2.2.2.2.2.1 r1_1.2.2.2.2.2.2.2.2.2 m_fit m_shown m_image m_isKept m_row m_best m_againAt m_againStep m_orderMany m_orderLeast)) rfl rfl dX7_house_36 (fun H locs hh => ?_)
          refine lv_aload_n hx hb dX7_house_39 rfl (lv_at hl 1 rfl) ?_
          refine g_get KX hh in_X7_house_X7 0 rfl rfl 13 (by decide) rfl (List.mem_of_getElem? (i := 1) rfl) dX7_house_40 ?_
          exact RT _ _ _ _ _ _ hh (by rw [hF]) (Or.inl ⟨_, rfl, by rw [hF], dX7_house_43, Or.inl rfl⟩)
        · replace hF := hF.trans (if_neg c_17)
          have i_17 : x1_2.toInt < r1_1.2.2.2.2.2.2.2.1.toInt := ti_nle c_17
          have e6 := ti_mulc x1_2 6 6 rfl (by omega) (by omega)
          have hr := hrow x1_2 (by omega) (by omega)
          refine lv_aload_n hx hb dX7_house_20 rfl (lv_at hl 1 rfl) ?_
          refine lv_bipush (v := 6) hx hb dX7_house_21 (by decide) ?_
          refine lv_iload_n hx hb dX7_house_23 rfl (lv_at hl 0 rfl) ?_
          refine lv_imul hx hb dX7_house_24 ?_
          refine g_callV (As := [.int (6 * x1_2)]) (rest := []) KX rfl ⟨Nat.le_of_ble_eq_true rfl, Nat.le_of_ble_eq_true rfl⟩ hh hl (c_X7_doLine l D cI cZ cC cH o a_clock a_note a_text a_read a_fit a_shown a_image a_isKept a_row a_best w_m_told_3 w_m_isRead1_4 w_m_clock_5 m_note m_noted m_bytes m_text r1_1.2.1 r1_1.2.2.1 r1_1.2.2.2.1 r1_1.2.2.2.2.1 r1_1.2.2.2.2.2.1 r1_1.2.2.2.2.2.2.1 r1_1.2.2.2.2.2.2.2.1 r1_1.2.2.2.2.2.2.2.2.1 r1_1.2.2.2.2.2.2.2.2.2 m_fit m_shown m_image m_isKept m_row m_best m_againAt m_againStep m_orderMany m_orderLeast (6 * x1_2) (by first | with_reducible assumption | omega | decide | exact tn_lt (n := 8) (by omega) (by omega)) (by first | with_reducible assumption | omega | decide | exact tn_lt (n := 8) (by omega) (by omega)) (by first | with_reducible assumption | omega | decide | exact tn_lt (n := 8) (by omega) (by omega))) JN.all 1 gX7_house_X7_doLine rfl (by decide +kernel) ⟨Nat.le_of_ble_eq_true rfl, Nat.le_of_ble_eq_true rfl⟩ 0 7 rfl rfl rfl rfl rfl (Nat.le_of_ble_eq_true rfl) dX7_house_25 (fun H locs hh => ?_)
          refine W.eq (g2 := F0 m 28 ls []) rfl ?_
          generalize q_25 : F_X7_doLine w_m_told_3 w_m_isRead1_4 w_m_clock_5 r1_1.2.2.2.2.2.2.2.2.2 (6 * x1_2) = r25_6 at hh hF ⊢
          unfold F_X7_house_c25 at hF
          refine lv_iinc (v := x1_2 + 1) (lv' := [(1, .int (x1_2 + 1)), (0, .ref o)]) hx hb dX7_house_28 hl (k := 0) rfl rfl (Nat.le_of_ble_eq_true rfl) rfl (fun ls hl => ?_)
          refine lv_goto (tgt := 12) hx hb dX7_house_31 (by decide) ?_
          have e_inc : (x1_2 + 1).toInt = _ := ti_inc (by omega)
          exact ih_12 (x1_2 + 1) r25_6.1 r25_6.2.1 r25_6.2.2 (by first | with_reducible assumption | omega | decide) (by first | with_reducible assumption | omega | decide) (by omega) hF _ _ _ hh (lv_sub hl [0, 1] rfl)
    exact L_12 9 0 m_told m_isRead1 m_clock (by first | with_reducible assumption | omega | decide) (by first | with_reducible assumption | omega | decide) (by first | omega | decide | (simp; done)) hF _ _ _ hh (lv_sub hl [0, 1] rfl)
  · replace hF := hF.trans (if_pos c_4)
    have i_4 : r1_1.1.toInt = 0 := congrArg Int32.toInt c_4
    refine lv_bipush (v := (-4)) hx hb dX7_house_7 (by decide) ?_
    exact RT _ _ _ _ _ _ hh (by rw [hF]) (Or.inl ⟨_, rfl, by rw [hF], dX7_house_9, Or.inl rfl⟩)
