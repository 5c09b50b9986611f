def F_X5_takeLine_150 (x1 : Int32) (x6_4 : Int32) (w_t_rows_7 : Nat → Int32) (k_50 : Int32 → Int32 → Int32 → (Nat → Int32) → Int32 × Int32 × Int32 × (Nat → Int32)) (r76_9 : Int32 × Int32) (x8_10 : Int32)  : Int32 × Int32 × Int32 × (Nat → Int32) := (k_50 (x6_4 + 1) r76_9.1 r76_9.2 (upd w_t_rows_7 (((x1 * 6) + x6_4) + 1).toNatClampNeg x8_10))
def F_X5_takeLine_105 (x1 : Int32) (x2 : Int32) (x4_2 : Int32) (x6_4 : Int32) (w_t_rows_7 : Nat → Int32) (k_50 : Int32 → Int32 → Int32 → (Nat → Int32) → Int32 × Int32 × Int32 × (Nat → Int32)) (x7_8 : Int32) (r76_9 : Int32 × Int32) (x8_10 : Int32) (y0_11 : Int32) : Int32 × Int32 × Int32 × (Nat → Int32) := (if x8_10 < y0_11 then (0, r76_9.1, r76_9.2, w_t_rows_7) else (if x8_10 ≤ (F_X5_mostOf x7_8) then (if x4_2 = 4 then (if x7_8 = 75 then (if ((x2 >>> (x8_10 &&& 31)) &&& 1) = 0 then (0, r76_9.1, r76_9.2, w_t_rows_7) else F_X5_takeLine_150 x1 x6_4 w_t_rows_7 k_50 r76_9 x8_10) else F_X5_takeLine_150 x1 x6_4 w_t_rows_7 k_50 r76_9 x8_10) else F_X5_takeLine_150 x1 x6_4 w_t_rows_7 k_50 r76_9 x8_10) else (0, r76_9.1, r76_9.2, w_t_rows_7)))
def F_X5_takeLine_85 (x1 : Int32) (x2 : Int32) (x4_2 : Int32) (x6_4 : Int32) (w_t_rows_7 : Nat → Int32) (k_50 : Int32 → Int32 → Int32 → (Nat → Int32) → Int32 × Int32 × Int32 × (Nat → Int32)) (x7_8 : Int32) (r76_9 : Int32 × Int32) (x8_10 : Int32) : Int32 × Int32 × Int32 × (Nat → Int32) := (if x7_8 = 72 then (F_X5_takeLine_105 x1 x2 x4_2 x6_4 w_t_rows_7 k_50 x7_8 r76_9 x8_10 (w_t_rows_7 ((x1 * 6) + x6_4).toNatClampNeg)) else (F_X5_takeLine_105 x1 x2 x4_2 x6_4 w_t_rows_7 k_50 x7_8 r76_9 x8_10 0))
def F_X5_takeLine_c76 (t_length : Int32) (t_bytes : Nat → Int32) (x1 : Int32) (x2 : Int32) (x4_2 : Int32) (x6_4 : Int32) (w_t_rows_7 : Nat → Int32) (k_50 : Int32 → Int32 → Int32 → (Nat → Int32) → Int32 × Int32 × Int32 × (Nat → Int32)) (x7_8 : Int32) (r76_9 : Int32 × Int32) : Int32 × Int32 × Int32 × (Nat → Int32) := (F_X5_takeLine_85 x1 x2 x4_2 x6_4 w_t_rows_7 k_50 x7_8 r76_9 (F_X5_numberTaken t_length r76_9.1 r76_9.2 t_bytes))
def F_X5_takeLine_75 (t_length : Int32) (t_bytes : Nat → Int32) (x1 : Int32) (x2 : Int32) (x4_2 : Int32) (x6_4 : Int32) (w_t_end_6 : Int32) (w_t_rows_7 : Nat → Int32) (k_50 : Int32 → Int32 → Int32 → (Nat → Int32) → Int32 × Int32 × Int32 × (Nat → Int32)) (x7_8 : Int32) : Int32 × Int32 × Int32 × (Nat → Int32) := (F_X5_takeLine_c76 t_length t_bytes x1 x2 x4_2 x6_4 w_t_rows_7 k_50 x7_8 (F_X5_takeToken t_length w_t_end_6 t_bytes))
def F_X5_takeLine_50 (t_length : Int32) (t_bytes : Nat → Int32) (x1 : Int32) (x2 : Int32) (x4_2 : Int32) (x5_3 : Nat) : Nat → Int32 → Int32 → Int32 → (Nat → Int32) → Int32 × Int32 × Int32 × (Nat → Int32)
  | 0, _, _, _, _ => default
  | n + 1, x6_4, w_t_start_5, w_t_end_6, w_t_rows_7 => (if (slen x5_3) ≤ x6_4 then (1, w_t_start_5, w_t_end_6, w_t_rows_7) else (if 5 ≤ x6_4 then (1, w_t_start_5, w_t_end_6, w_t_rows_7) else (F_X5_takeLine_75 t_length t_bytes x1 x2 x4_2 x6_4 w_t_end_6 w_t_rows_7 (F_X5_takeLine_50 t_length t_bytes x1 x2 x4_2 x5_3 n) (sbyt x5_3 x6_4))))
def F_X5_takeLine_47 (t_length : Int32) (t_bytes : Nat → Int32) (t_rows : Nat → Int32) (x1 : Int32) (x2 : Int32) (r6_1 : Int32 × Int32) (x4_2 : Int32) (x5_3 : Nat) : Int32 × Int32 × Int32 × (Nat → Int32) := (F_X5_takeLine_50 t_length t_bytes x1 x2 x4_2 x5_3 6 0 r6_1.1 r6_1.2 (upd t_rows (x1 * 6).toNatClampNeg x4_2))
def F_X5_takeLine_15 (t_length : Int32) (t_bytes : Nat → Int32) (t_rows : Nat → Int32) (x1 : Int32) (x2 : Int32) (r6_1 : Int32 × Int32) (x4_2 : Int32) : Int32 × Int32 × Int32 × (Nat → Int32) := (if x4_2 = (-1) then (0, r6_1.1, r6_1.2, t_rows) else (if (F_X6_isBelow x1 8) = 0 then (0, r6_1.1, r6_1.2, t_rows) else (F_X5_takeLine_47 t_length t_bytes t_rows x1 x2 r6_1 x4_2 (F_X5_numbersOf x4_2))))
def F_X5_takeLine_c6 (t_length : Int32) (t_bytes : Nat → Int32) (t_rows : Nat → Int32) (x1 : Int32) (x2 : Int32) (r6_1 : Int32 × Int32) : Int32 × Int32 × Int32 × (Nat → Int32) := (F_X5_takeLine_15 t_length t_bytes t_rows x1 x2 r6_1 (F_X5_wordTaken t_length r6_1.1 r6_1.2 t_bytes))
def F_X5_takeLine (t_length : Int32) (t_end : Int32) (t_bytes : Nat → Int32) (t_rows : Nat → Int32) (x1 : Int32) (x2 : Int32) : Int32 × Int32 × Int32 × (Nat → Int32) := (F_X5_takeLine_c6 t_length t_bytes t_rows x1 x2 (F_X5_takeToken t_length t_end t_bytes))
theorem in_X5_takeLine_X5 : ∀ x ∈ u_ws RX5 TX5 6, x ∈ wsX5_takeLine := by decide +kernel
set_option maxHeartbeats 2000000 in
set_option maxRecDepth 100000 in
theorem c_X5_takeLine (l : Launch) (D : va_G) (cI cZ cC cH : ClassId) (t_o t_a_bytes t_a_rows : Nat) (t_length : Int32) (t_lineCount : Int32) (t_start : Int32) (t_end : Int32) (t_bytes : Nat → Int32) (t_rows : Nat → Int32) (x1 : Int32) (x2 : Int32) (he0 : 0 ≤ t_end.toInt) (ht1 : t_length.toInt ≤ 200) : MC l D (TY cI cZ cC cH) yX5_takeLine wsX5_takeLine 6 128 [.ref t_o, .int x1, .int x2] (WTx cI cZ cC cH t_o t_a_bytes t_a_rows t_length t_lineCount t_start t_end t_bytes t_rows) (some (.int ((F_X5_takeLine t_length t_end t_bytes t_rows x1 x2).1))) (WTx cI cZ cC cH t_o t_a_bytes t_a_rows t_length t_lineCount (F_X5_takeLine t_length t_end t_bytes t_rows x1 x2).2.1 (F_X5_takeLine t_length t_end t_bytes t_rows x1 x2).2.2.1 t_bytes (F_X5_takeLine t_length t_end t_bytes t_rows x1 x2).2.2.2) := by
  obtain ⟨R, hF⟩ : ∃ R, R = F_X5_takeLine t_length t_end t_bytes t_rows x1 x2 := ⟨_, rfl⟩
  rw [← hF]
  refine MC.of (cc := cX5_takeLine) (maxL := 10) (ret := (some .boolean)) RX5 rfl (by decide +kernel) rfl (Nat.le_of_ble_eq_true rfl) ?_
  intro p e s m args below meth c A Q KX RT hh ls hl
  have z0 : (0 : Int32).toInt = 0 := rfl
  have z1 : (1 : Int32).toInt = 1 := rfl
  have zm : (-1 : Int32).toInt = -1 := rfl
  have hx := KX.1
  have hb := KX.2.1
  have hl : lv_has ls 10 [(0, .ref t_o), (1, .int x1), (2, .int x2)] := hl
  unfold F_X5_takeLine at hF
  refine lv_iload_n hx hb dX5_takeLine_0 rfl (lv_at hl 1 rfl) ?_
  refine lv_bipush (v := 6) hx hb dX5_takeLine_1 (by decide) ?_
  refine lv_imul hx hb dX5_takeLine_3 ?_
  refine lv_istore_n (lv' := [(3, .int (x1 * 6)), (0, .ref t_o), (1, .int x1), (2, .int x2)]) hx hb dX5_takeLine_4 rfl hl (Nat.le_of_ble_eq_true rfl) rfl (fun ls hl => ?_)
  refine lv_aload_n hx hb dX5_takeLine_5 rfl (lv_at hl 1 rfl) ?_
  refine g_callV (As := []) (rest := []) KX rfl ⟨Nat.le_of_ble_eq_true rfl, Nat.le_of_ble_eq_true rfl⟩ hh hl (c_X5_takeToken l D cI cZ cC cH t_o t_a_bytes t_a_rows t_length t_lineCount t_start t_end t_bytes t_rows  (by first | with_reducible assumption | omega | decide | exact tn_lt (n := 8) (by omega) (by omega)) (by first | with_reducible assumption | omega | decide | exact tn_lt (n := 8) (by omega) (by omega))) JN.all 0 gX5_takeLine_X5_takeToken rfl (by decide +kernel) ⟨Nat.le_of_ble_eq_true rfl, Nat.le_of_ble_eq_true rfl⟩ 0 5 rfl rfl rfl rfl rfl (Nat.le_of_ble_eq_true rfl) dX5_takeLine_6 (fun H locs hh => ?_)
  refine W.eq (g2 := F0 m 9 ls []) rfl ?_
  generalize q_6 : F_X5_takeToken t_length t_end t_bytes = r6_1 at hh hF ⊢
  have he6 : 0 ≤ r6_1.2.toInt := by rw [← q_6]; exact tok_end ht1 he0
  unfold F_X5_takeLine_c6 at hF
  refine lv_aload_n hx hb dX5_takeLine_9 rfl (lv_at hl 1 rfl) ?_
  refine g_callV (As := []) (rest := []) KX rfl ⟨Nat.le_of_ble_eq_true rfl, Nat.le_of_ble_eq_true rfl⟩ hh hl (c_X5_wordTaken l D cI cZ cC cH t_o t_a_bytes t_a_rows t_length t_lineCount r6_1.1 r6_1.2 t_bytes t_rows  ) JN.all 0 gX5_takeLine_X5_wordTaken rfl (by decide +kernel) ⟨Nat.le_of_ble_eq_true rfl, Nat.le_of_ble_eq_true rfl⟩ 0 5 rfl rfl rfl rfl rfl (Nat.le_of_ble_eq_true rfl) dX5_takeLine_10 (fun H locs hh => ?_)
  refine W.eq (g2 := F0 m 13 ls [.int (F_X5_wordTaken t_length r6_1.1 r6_1.2 t_bytes)]) rfl ?_
  refine lv_istore (lv' := [(4, .int (F_X5_wordTaken t_length r6_1.1 r6_1.2 t_bytes)), (3, .int (x1 * 6)), (0, .ref t_o), (1, .int x1), (2, .int x2)]) hx hb dX5_takeLine_13 hl (Nat.le_of_ble_eq_true rfl) rfl (fun ls hl => ?_)
  have K_15 : ∀ (x4_2 : Int32) (_ : R = (F_X5_takeLine_15 t_length t_bytes t_rows x1 x2 r6_1) x4_2) (ls : Array Slot) (H : Heap) (locs : List Loc) (_ : HS D A s.heap (WTx cI cZ cC cH t_o t_a_bytes t_a_rows t_length t_lineCount r6_1.1 r6_1.2 t_bytes t_rows) H locs) (_ : lv_has ls 10 [(4, .int x4_2), (3, .int (x1 * 6)), (0, .ref t_o), (1, .int x1), (2, .int x2)]), W p l e { frames := 6, cells := 0, slots := 0, locals := 128 } s m args below meth c H locs 0 0 Q (F0 m 15 ls []) := by
    intro x4_2 hF ls H locs hh hl
    unfold F_X5_takeLine_15 at hF
    refine lv_iload hx hb dX5_takeLine_15 (lv_at hl 0 rfl) ?_
    refine lv_iconst (v := (-1)) hx hb dX5_takeLine_17 (by decide) ?_
    refine lv_icmp_eq (tgt := 30) hx hb dX5_takeLine_18 (by decide) (fun c_18 => ?_) (fun c_18 => ?_)
    · replace hF := hF.trans (if_pos c_18)
      have i_18 : x4_2.toInt = (-1) := congrArg Int32.toInt c_18
      refine lv_iconst (v := 0) hx hb dX5_takeLine_30 (by decide) ?_
      exact RT _ _ _ _ _ _ hh (by rw [hF]) (Or.inl ⟨_, rfl, by rw [hF], dX5_takeLine_31, Or.inr (Or.inl ⟨rfl, Or.inl rfl⟩)⟩)
    · replace hF := hF.trans (if_neg c_18)
      have i_18 : ¬ x4_2.toInt = (-1) := ti_ne c_18
      refine lv_iload_n hx hb dX5_takeLine_21 rfl (lv_at hl 3 rfl) ?_
      refine lv_bipush (v := 8) hx hb dX5_takeLine_22 (by decide) ?_
      refine g_callN (host := "WrongClocks") (As := [.int x1, .int 8]) (rest := []) KX rfl ⟨Nat.le_of_ble_eq_true rfl, Nat.le_of_ble_eq_true rfl⟩ hh hl (c_X6_isBelow l D cI cZ cC cH  x1 8 ) JN.no 2 gX5_takeLine_X6_isBelow_n31 rfl (by decide +kernel) (List.mem_of_getElem? (i := 82) rfl) (List.mem_of_getElem? (i := 81) rfl) (by decide +kernel) ⟨Nat.le_of_ble_eq_true rfl, Nat.le_of_ble_eq_true rfl⟩ rfl rfl (Nat.le_of_ble_eq_true rfl) dX5_takeLine_24 (fun H locs hh => ?_)
      refine W.eq (g2 := F0 m 27 ls [.int (F_X6_isBelow x1 8)]) rfl ?_
      refine lv_if_ne (tgt := 32) hx hb dX5_takeLine_27 (by decide) (fun c_27 => ?_) (fun c_27 => ?_)
      · replace hF := hF.trans (if_neg c_27)
        obtain ⟨k0_27, k1_27⟩ : (0 : Int) ≤ x1.toInt ∧ x1.toInt < 8 := X6_isBelow_in c_27
        refine lv_aload_n hx hb dX5_takeLine_32 rfl (lv_at hl 2 rfl) ?_
        refine g_get KX hh in_X5_takeLine_X5 0 rfl rfl 2 (by decide) rfl (List.mem_of_getElem? (i := 1) rfl) dX5_takeLine_33 ?_
        refine lv_iload_n hx hb dX5_takeLine_36 rfl (lv_at hl 1 rfl) ?_
        refine lv_iload hx hb dX5_takeLine_37 (lv_at hl 0 rfl) ?_
        refine g_iast KX hh 2 0 rfl rfl (ixr0 (by omega) (by omega)) (w' := (WTx cI cZ cC cH t_o t_a_bytes t_a_rows t_length t_lineCount r6_1.1 r6_1.2 t_bytes (upd t_rows (x1 * 6).toNatClampNeg x4_2))) rfl dX5_takeLine_39 (fun H locs hh => ?_)
        refine lv_iload hx hb dX5_takeLine_40 (lv_at hl 0 rfl) ?_
        refine g_callS (As := [.int x4_2]) (rest := []) KX rfl ⟨Nat.le_of_ble_eq_true rfl, Nat.le_of_ble_eq_true rfl⟩ hh hl (c_X5_numbersOf l D cI cZ cC cH  x4_2 ) JN.no 1 gX5_takeLine_X5_numbersOf rfl (by decide +kernel) ⟨Nat.le_of_ble_eq_true rfl, Nat.le_of_ble_eq_true rfl⟩ rfl rfl (Nat.le_of_ble_eq_true rfl) dX5_takeLine_42 (fun H locs hh => ?_)
        refine W.eq (g2 := F0 m 45 ls [.ref (D.2 100 (F_X5_numbersOf x4_2))]) rfl ?_
        refine lv_astore (lv' := [(5, .ref (D.2 100 (F_X5_numbersOf x4_2))), (4, .int x4_2), (3, .int (x1 * 6)), (0, .ref t_o), (1, .int x1), (2, .int x2)]) hx hb dX5_takeLine_45 hl (Nat.le_of_ble_eq_true rfl) rfl (fun ls hl => ?_)
        have K_47 : ∀ (x5_3 : Nat) (hj5 : x5_3 < 11) (_ : R = (F_X5_takeLine_47 t_length t_bytes t_rows x1 x2 r6_1 x4_2) x5_3) (ls : Array Slot) (H : Heap) (locs : List Loc) (_ : HS D A s.heap (WTx cI cZ cC cH t_o t_a_bytes t_a_rows t_length t_lineCount r6_1.1 r6_1.2 t_bytes (upd t_rows (x1 * 6).toNatClampNeg x4_2)) H locs) (_ : lv_has ls 10 [(5, .ref (D.2 100 x5_3)), (4, .int x4_2), (3, .int (x1 * 6)), (0, .ref t_o), (1, .int x1), (2, .int x2)]), W p l e { frames := 6, cells := 0, slots := 0, locals := 128 } s m args below meth c H locs 0 0 Q (F0 m 47 ls []) := by
          intro x5_3 hj5 hF ls H locs hh hl
          unfold F_X5_takeLine_47 at hF
          refine lv_iconst (v := 0) hx hb dX5_takeLine_47 (by decide) ?_
          refine lv_istore (lv' := [(6, .int 0), (5, .ref (D.2 100 x5_3)), (4, .int x4_2), (3, .int (x1 * 6)), (0, .ref t_o), (1, .int x1), (2, .int x2)]) hx hb dX5_takeLine_48 hl (Nat.le_of_ble_eq_true rfl) rfl (fun ls hl => ?_)
          have L_50 : ∀ (n_50 : Nat) (x6_4 : Int32) (w_t_start_5 : Int32) (w_t_end_6 : Int32) (w_t_rows_7 : Nat → Int32) (i0_50 : 0 ≤ x6_4.toInt) (e0_50 : 0 ≤ w_t_end_6.toInt) (_ : (5 - x6_4.toInt).toNat < n_50) (_ : R = (F_X5_takeLine_50 t_length t_bytes x1 x2 x4_2 x5_3) n_50 x6_4 w_t_start_5 w_t_end_6 w_t_rows_7) (ls : Array Slot) (H : Heap) (locs : List Loc) (_ : HS D A s.heap (WTx cI cZ cC cH t_o t_a_bytes t_a_rows t_length t_lineCount w_t_start_5 w_t_end_6 t_bytes w_t_rows_7) H locs) (_ : lv_has ls 10 [(6, .int x6_4), (5, .ref (D.2 100 x5_3)), (4, .int x4_2), (3, .int (x1 * 6)), (0, .ref t_o), (1, .int x1), (2, .int x2)]), W p l e { frames := 6, cells := 0, slots := 0, locals := 128 } s m args below meth c H locs 0 0 Q (F0 m 50 ls []) := by
            intro n_50
            induction n_50 with
            | zero => intro x6_4 w_t_start_5 w_t_end_6 w_t_rows_7 i0_50 e0_50 hm; exact absurd hm (Nat.not_lt_zero _)
            | succ n_50 ih_50 =>
              intro x6_4 w_t_start_5 w_t_end_6 w_t_rows_7 i0_50 e0_50 hm_50 hF ls H locs hh hl
              rw [F_X5_takeLine_50.eq_2] at hF
              refine lv_iload hx hb dX5_takeLine_50 (lv_at hl 0 rfl) ?_
              refine lv_aload hx hb dX5_takeLine_52 (lv_at hl 1 rfl) ?_
              refine g_callStr (As := []) (rest := [.int x6_4]) KX rfl ⟨Nat.le_of_ble_eq_true rfl, Nat.le_of_ble_eq_true rfl⟩ hh hl (cs_J0_length_8abf5 l D cI cZ cC cH  x5_3 (by first | with_reducible assumption | omega | decide | exact tn_lt (n := 8) (by omega) (by omega))) JN.no 0 gX5_takeLine_J0_length_8abf5 rfl (by decide +kernel) ⟨Nat.le_of_ble_eq_true rfl, Nat.le_of_ble_eq_true rfl⟩ (by first | with_reducible assumption | omega | decide) rfl rfl (Nat.le_of_ble_eq_true rfl) dX5_takeLine_54 (fun H locs hh => ?_)
              refine W.eq (g2 := F0 m 57 ls [.int (slen x5_3), .int x6_4]) rfl ?_
              refine lv_icmp_ge (tgt := 169) hx hb dX5_takeLine_57 (by decide) (fun c_57 => ?_) (fun c_57 => ?_)
              · replace hF := hF.trans (if_pos c_57)
                have i_57 : (slen x5_3).toInt ≤ x6_4.toInt := ti_le.mp c_57
                refine lv_iconst (v := 1) hx hb dX5_takeLine_169 (by decide) ?_
                exact RT _ _ _ _ _ _ hh (by rw [hF]) (Or.inl ⟨_, rfl, by rw [hF], dX5_takeLine_170, Or.inr (Or.inl ⟨rfl, Or.inr rfl⟩)⟩)
              · replace hF := hF.trans (if_neg c_57)
                have i_57 : x6_4.toInt < (slen x5_3).toInt := ti_nle c_57
                refine lv_iload hx hb dX5_takeLine_60 (lv_at hl 0 rfl) ?_
                refine lv_iconst (v := 5) hx hb dX5_takeLine_62 (by decide) ?_
                refine lv_icmp_ge (tgt := 169) hx hb dX5_takeLine_63 (by decide) (fun c_63 => ?_) (fun c_63 => ?_)
                · replace hF := hF.trans (if_pos c_63)
                  have i_63 : 5 ≤ x6_4.toInt := ti_le.mp c_63
                  refine lv_iconst (v := 1) hx hb dX5_takeLine_169 (by decide) ?_
                  exact RT _ _ _ _ _ _ hh (by rw [hF]) (Or.inl ⟨_, rfl, by rw [hF], dX5_takeLine_170, Or.inr (Or.inl ⟨rfl, Or.inr rfl⟩)⟩)
                · replace hF := hF.trans (if_neg c_63)
                  have i_63 : x6_4.toInt < 5 := ti_nle c_63
                  have g_66 : x6_4.toInt < (slen x5_3).toInt := ti_nle c_57
                  refine lv_aload hx hb dX5_takeLine_66 (lv_at hl 1 rfl) ?_
                  refine lv_iload hx hb dX5_takeLine_68 (lv_at hl 0 rfl) ?_
                  refine g_callStr (As := [.int x6_4]) (rest := []) KX rfl ⟨Nat.le_of_ble_eq_true rfl, Nat.le_of_ble_eq_true rfl⟩ hh hl (cs_J0_charAt_5068e l D cI cZ cC cH  x5_3 x6_4 (by first | with_reducible assumption | omega | decide | exact tn_lt (n := 8) (by omega) (by omega)) (by first | with_reducible assumption | omega | decide | exact tn_lt (n := 8) (by omega) (by omega)) (by first | with_reducible assumption | omega | decide | exact tn_lt (n := 8) (by omega) (by omega))) JN.no 1 gX5_takeLine_J0_charAt_5068e rfl (by decide +kernel) ⟨Nat.le_of_ble_eq_true rfl, Nat.le_of_ble_eq_true rfl⟩ (by first | with_reducible assumption | omega | decide) rfl rfl (Nat.le_of_ble_eq_true rfl) dX5_takeLine_70 (fun H locs hh => ?_)
                  refine W.eq (g2 := F0 m 73 ls [.int (sbyt x5_3 x6_4)]) rfl ?_
                  refine lv_istore (lv' := [(7, .int (sbyt x5_3 x6_4)), (6, .int x6_4), (5, .ref (D.2 100 x5_3)), (4, .int x4_2), (3, .int (x1 * 6)), (0, .ref t_o), (1, .int x1), (2, .int x2)]) hx hb dX5_takeLine_73 hl (Nat.le_of_ble_eq_true rfl) rfl (fun ls hl => ?_)
                  have K_75 : ∀ (x7_8 : Int32) (_ : R = (F_X5_takeLine_75 t_length t_bytes x1 x2 x4_2 x6_4 w_t_end_6 w_t_rows_7 ((F_X5_takeLine_50 t_length t_bytes x1 x2 x4_2 x5_3) n_50)) x7_8) (ls : Array Slot) (H : Heap) (locs : List Loc) (_ : HS D A s.heap (WTx cI cZ cC cH t_o t_a_bytes t_a_rows t_length t_lineCount w_t_start_5 w_t_end_6 t_bytes w_t_rows_7) H locs) (_ : lv_has ls 10 [(7, .int x7_8), (6, .int x6_4), (5, .ref (D.2 100 x5_3)), (4, .int x4_2), (3, .int (x1 * 6)), (0, .ref t_o), (1, .int x1), (2, .int x2)]), W p l e { frames := 6, cells := 0, slots := 0, locals := 128 } s m args below meth c H locs 0 0 Q (F0 m 75 ls []) := by
                    intro x7_8 hF ls H locs hh hl
                    unfold F_X5_takeLine_75 at hF
                    refine lv_aload_n hx hb dX5_takeLine_75 rfl (lv_at hl 5 rfl) ?_
                    refine g_callV (As := []) (rest := []) KX rfl ⟨Nat.le_of_ble_eq_true rfl, Nat.le_of_ble_eq_true rfl⟩ hh hl (c_X5_takeToken l D cI cZ cC cH t_o t_a_bytes t_a_rows t_length t_lineCount w_t_start_5 w_t_end_6 t_bytes w_t_rows_7  (by first | with_reducible assumption | omega | decide | exact tn_lt (n := 8) (by omega) (by omega)) (by first | with_reducible assumption | omega | decide | exact tn_lt (n := 8) (by omega) (by omega))) JN.all 0 gX5_takeLine_X5_takeToken rfl (by decide +kernel) ⟨Nat.le_of_ble_eq_true rfl, Nat.le_of_ble_eq_true rfl⟩ 0 5 rfl rfl rfl rfl rfl (Nat.le_of_ble_eq_true rfl) dX5_takeLine_76 (fun H locs hh => ?_)
                    refine W.eq (g2 := F0 m 79 ls []) rfl ?_
                    generalize q_76 : F_X5_takeToken t_length w_t_end_6 t_bytes = r76_9 at hh hF ⊢
                    have he76 : 0 ≤ r76_9.2.toInt := by rw [← q_76]; exact tok_end ht1 e0_50
                    unfold F_X5_takeLine_c76 at hF
                    refine lv_aload_n hx hb dX5_takeLine_79 rfl (lv_at hl 5 rfl) ?_
                    refine g_callV (As := []) (rest := []) KX rfl ⟨Nat.le_of_ble_eq_true rfl, Nat.le_of_ble_eq_true rfl⟩ hh hl (c_X5_numberTaken l D cI cZ cC cH t_o t_a_bytes t_a_rows t_length t_lineCount r76_9.1 r76_9.2 t_bytes w_t_rows_7  ) JN.all 0 gX5_takeLine_X5_numberTaken rfl (by decide +kernel) ⟨Nat.le_of_ble_eq_true rfl, Nat.le_of_ble_eq_true rfl⟩ 0 5 rfl rfl rfl rfl rfl (Nat.le_of_ble_eq_true rfl) dX5_takeLine_80 (fun H locs hh => ?_)
                    refine W.eq (g2 := F0 m 83 ls [.int (F_X5_numberTaken t_length r76_9.1 r76_9.2 t_bytes)]) rfl ?_
                    refine lv_istore (lv' := [(8, .int (F_X5_numberTaken t_length r76_9.1 r76_9.2 t_bytes)), (7, .int x7_8), (6, .int x6_4), (5, .ref (D.2 100 x5_3)), (4, .int x4_2), (3, .int (x1 * 6)), (0, .ref t_o), (1, .int x1), (2, .int x2)]) hx hb dX5_takeLine_83 hl (Nat.le_of_ble_eq_true rfl) rfl (fun ls hl => ?_)
                    have K_85 : ∀ (x8_10 : Int32) (_ : R = (F_X5_takeLine_85 x1 x2 x4_2 x6_4 w_t_rows_7 ((F_X5_takeLine_50 t_length t_bytes x1 x2 x4_2 x5_3) n_50) x7_8 r76_9) x8_10) (ls : Array Slot) (H : Heap) (locs : List Loc) (_ : HS D A s.heap (WTx cI cZ cC cH t_o t_a_bytes t_a_rows t_length t_lineCount r76_9.1 r76_9.2 t_bytes w_t_rows_7) H locs) (_ : lv_has ls 10 [(8, .int x8_10), (7, .int x7_8), (6, .int x6_4), (5, .ref (D.2 100 x5_3)), (4, .int x4_2), (3, .int (x1 * 6)), (0, .ref t_o), (1, .int x1), (2, .int x2)]), W p l e { frames := 6, cells := 0, slots := 0, locals := 128 } s m args below meth c H locs 0 0 Q (F0 m 85 ls []) := by
                      intro x8_10 hF ls H locs hh hl
                      unfold F_X5_takeLine_85 at hF
                      refine lv_iload hx hb dX5_takeLine_85 (lv_at hl 1 rfl) ?_
                      refine lv_bipush (v := 72) hx hb dX5_takeLine_87 (by decide) ?_
                      have K_105 : ∀ (y0_11 : Int32) (_ : R = (F_X5_takeLine_105 x1 x2 x4_2 x6_4 w_t_rows_7 ((F_X5_takeLine_50 t_length t_bytes x1 x2 x4_2 x5_3) n_50) x7_8 r76_9 x8_10) y0_11) (ls : Array Slot) (H : Heap) (locs : List Loc) (_ : HS D A s.heap (WTx cI cZ cC cH t_o t_a_bytes t_a_rows t_length t_lineCount r76_9.1 r76_9.2 t_bytes w_t_rows_7) H locs) (_ : lv_has ls 10 [(8, .int x8_10), (7, .int x7_8), (6, .int x6_4), (5, .ref (D.2 100 x5_3)), (4, .int x4_2), (3, .int (x1 * 6)), (0, .ref t_o), (1, .int x1), (2, .int x2)]), W p l e { frames := 6, cells := 0, slots := 0, locals := 128 } s m args below meth c H locs 0 0 Q (F0 m 105 ls [.int y0_11]) := by
                        intro y0_11 hF ls H locs hh hl
                        unfold F_X5_takeLine_105 at hF
                        refine lv_istore (lv' := [(9, .int y0_11), (8, .int x8_10), (7, .int x7_8), (6, .int x6_4), (5, .ref (D.2 100 x5_3)), (4, .int x4_2), (3, .int (x1 * 6)), (0, .ref t_o), (1, .int x1), (2, .int x2)]) hx hb dX5_takeLine_105 hl (Nat.le_of_ble_eq_true rfl) rfl (fun ls hl => ?_)
                        refine lv_iload hx hb dX5_takeLine_107 (lv_at hl 1 rfl) ?_
                        refine lv_iload hx hb dX5_takeLine_109 (lv_at hl 0 rfl) ?_
                        refine lv_icmp_lt (tgt := 124) hx hb dX5_takeLine_111 (by decide) (fun c_111 => ?_) (fun c_111 => ?_)
                        · replace hF := hF.trans (if_pos c_111)
                          have i_111 : x8_10.toInt < y0_11.toInt := ti_lt.mp c_111
                          refine lv_iconst (v := 0) hx hb dX5_takeLine_124 (by decide) ?_
                          exact RT _ _ _ _ _ _ hh (by rw [hF]) (Or.inl ⟨_, rfl, by rw [hF], dX5_takeLine_125, Or.inr (Or.inl ⟨rfl, Or.inl rfl⟩)⟩)
                        · replace hF := hF.trans (if_neg c_111)
                          have i_111 : y0_11.toInt ≤ x8_10.toInt := ti_nlt c_111
                          refine lv_iload hx hb dX5_takeLine_114 (lv_at hl 1 rfl) ?_
                          refine lv_iload hx hb dX5_takeLine_116 (lv_at hl 2 rfl) ?_
                          refine g_callS (As := [.int x7_8]) (rest := [.int x8_10]) KX rfl ⟨Nat.le_of_ble_eq_true rfl, Nat.le_of_ble_eq_true rfl⟩ hh hl (c_X5_mostOf l D cI cZ cC cH  x7_8 ) JN.no 1 gX5_takeLine_X5_mostOf rfl (by decide +kernel) ⟨Nat.le_of_ble_eq_true rfl, Nat.le_of_ble_eq_true rfl⟩ rfl rfl (Nat.le_of_ble_eq_true rfl) dX5_takeLine_118 (fun H locs hh => ?_)
                          refine W.eq (g2 := F0 m 121 ls [.int (F_X5_mostOf x7_8), .int x8_10]) rfl ?_
                          refine lv_icmp_le (tgt := 126) hx hb dX5_takeLine_121 (by decide) (fun c_121 => ?_) (fun c_121 => ?_)
                          · replace hF := hF.trans (if_pos c_121)
                            refine lv_iload hx hb dX5_takeLine_126 (lv_at hl 5 rfl) ?_
                            refine lv_iconst (v := 4) hx hb dX5_takeLine_128 (by decide) ?_
                            have K_150 : ∀ (_ : R = (F_X5_takeLine_150 x1 x6_4 w_t_rows_7 ((F_X5_takeLine_50 t_length t_bytes x1 x2 x4_2 x5_3) n_50) r76_9 x8_10)) (ls : Array Slot) (H : Heap) (locs : List Loc) (_ : HS D A s.heap (WTx cI cZ cC cH t_o t_a_bytes t_a_rows t_length t_lineCount r76_9.1 r76_9.2 t_bytes w_t_rows_7) H locs) (_ : lv_has ls 10 [(9, .int y0_11), (8, .int x8_10), (7, .int x7_8), (6, .int x6_4), (5, .ref (D.2 100 x5_3)), (4, .int x4_2), (3, .int (x1 * 6)), (0, .ref t_o), (1, .int x1), (2, .int x2)]), W p l e { frames := 6, cells := 0, slots := 0, locals := 128 } s m args below meth c H locs 0 0 Q (F0 m 150 ls []) := by
                              intro  hF ls H locs hh hl
                              unfold F_X5_takeLine_150 at hF
                              refine lv_aload_n hx hb dX5_takeLine_150 rfl (lv_at hl 7 rfl) ?_
                              refine g_get KX hh in_X5_takeLine_X5 0 rfl rfl 2 (by decide) rfl (List.mem_of_getElem? (i := 1) rfl) dX5_takeLine_151 ?_
                              refine lv_iload_n hx hb dX5_takeLine_154 rfl (lv_at hl 6 rfl) ?_
                              refine lv_iload hx hb dX5_takeLine_155 (lv_at hl 3 rfl) ?_
                              refine lv_iadd hx hb dX5_takeLine_157 ?_
                              refine lv_iconst (v := 1) hx hb dX5_takeLine_158 (by decide) ?_
                              refine lv_iadd hx hb dX5_takeLine_159 ?_
                              refine lv_iload hx hb dX5_takeLine_160 (lv_at hl 1 rfl) ?_
                              refine g_iast KX hh 2 0 rfl rfl (ixr1 (by omega) (by omega) (by omega) (by omega)) (w' := (WTx cI cZ cC cH t_o t_a_bytes t_a_rows t_length t_lineCount r76_9.1 r76_9.2 t_bytes (upd w_t_rows_7 (((x1 * 6) + x6_4) + 1).toNatClampNeg x8_10))) rfl dX5_takeLine_162 (fun H locs hh => ?_)
                              refine lv_iinc (v := x6_4 + 1) (lv' := [(6, .int (x6_4 + 1)), (9, .int y0_11), (8, .int x8_10), (7, .int x7_8), (5, .ref (D.2 100 x5_3)), (4, .int x4_2), (3, .int (x1 * 6)), (0, .ref t_o), (1, .int x1), (2, .int x2)]) hx hb dX5_takeLine_163 hl (k := 3) rfl rfl (Nat.le_of_ble_eq_true rfl) rfl (fun ls hl => ?_)
                              refine lv_goto (tgt := 50) hx hb dX5_takeLine_166 (by decide) ?_
                              exact ih_50 (x6_4 + 1) r76_9.1 r76_9.2 (upd w_t_rows_7 (((x1 * 6) + x6_4) + 1).toNatClampNeg x8_10) (by first | (rw [ti_inc] <;> omega) | decide) (by first | with_reducible assumption | omega) (by rw [ti_inc] <;> omega) hF _ _ _ hh (lv_sub hl [0, 4, 5, 6, 7, 8, 9] rfl)
                            refine lv_icmp_ne (tgt := 150) hx hb dX5_takeLine_129 (by decide) (fun c_129 => ?_) (fun c_129 => ?_)
                            · replace hF := hF.trans (if_neg c_129)
                              have i_129 : ¬ x4_2.toInt = 4 := ti_ne c_129
                              exact K_150   hF _ _ _ hh (lv_sub hl [0, 1, 2, 3, 4, 5, 6, 7, 8, 9] rfl)
                            · replace hF := hF.trans (if_pos c_129)
                              have i_129 : x4_2.toInt = 4 := congrArg Int32.toInt c_129
                              refine lv_iload hx hb dX5_takeLine_132 (lv_at hl 2 rfl) ?_
                              refine lv_bipush (v := 75) hx hb dX5_takeLine_134 (by decide) ?_
                              refine lv_icmp_ne (tgt := 150) hx hb dX5_takeLine_136 (by decide) (fun c_136 => ?_) (fun c_136 => ?_)
                              · replace hF := hF.trans (if_neg c_136)
                                have i_136 : ¬ x7_8.toInt = 75 := ti_ne c_136
                                exact K_150   hF _ _ _ hh (lv_sub hl [0, 1, 2, 3, 4, 5, 6, 7, 8, 9] rfl)
                              · replace hF := hF.trans (if_pos c_136)
                                have i_136 : x7_8.toInt = 75 := congrArg Int32.toInt c_136
                                refine lv_iload_n hx hb dX5_takeLine_139 rfl (lv_at hl 9 rfl) ?_
                                refine lv_iload hx hb dX5_takeLine_140 (lv_at hl 1 rfl) ?_
                                refine lv_ishr hx hb dX5_takeLine_142 ?_
                                refine lv_iconst (v := 1) hx hb dX5_takeLine_143 (by decide) ?_
                                refine lv_iand hx hb dX5_takeLine_144 ?_
                                refine lv_if_ne (tgt := 150) hx hb dX5_takeLine_145 (by decide) (fun c_145 => ?_) (fun c_145 => ?_)
                                · replace hF := hF.trans (if_neg c_145)
                                  have i_145 : ¬ ((x2 >>> (x8_10 &&& 31)) &&& 1).toInt = 0 := ti_ne c_145
                                  exact K_150   hF _ _ _ hh (lv_sub hl [0, 1, 2, 3, 4, 5, 6, 7, 8, 9] rfl)
                                · replace hF := hF.trans (if_pos c_145)
                                  have i_145 : ((x2 >>> (x8_10 &&& 31)) &&& 1).toInt = 0 := congrArg Int32.toInt c_145
                                  refine lv_iconst (v := 0) hx hb dX5_takeLine_148 (by decide) ?_
                                  exact RT _ _ _ _ _ _ hh (by rw [hF]) (Or.inl ⟨_, rfl, by rw [hF], dX5_takeLine_149, Or.inr (Or.inl ⟨rfl, Or.inl rfl⟩)⟩)
                          · replace hF := hF.trans (if_neg c_121)
                            refine lv_iconst (v := 0) hx hb dX5_takeLine_124 (by decide) ?_
                            exact RT _ _ _ _ _ _ hh (by rw [hF]) (Or.inl ⟨_, rfl, by rw [hF], dX5_takeLine_125, Or.inr (Or.inl ⟨rfl, Or.inl rfl⟩)⟩)
                      refine lv_icmp_ne (tgt := 104) hx hb dX5_takeLine_89 (by decide) (fun c_89 => ?_) (fun c_89 => ?_)
                      · replace hF := hF.trans (if_neg c_89)
                        have i_89 : ¬ x7_8.toInt = 72 := ti_ne c_89
                        refine lv_iconst (v := 0) hx hb dX5_takeLine_104 (by decide) ?_
                        exact K_105 0  hF _ _ _ hh (lv_sub hl [0, 1, 2, 3, 4, 5, 6, 7, 8] rfl)
                      · replace hF := hF.trans (if_pos c_89)
                        have i_89 : x7_8.toInt = 72 := congrArg Int32.toInt c_89
                        refine lv_aload_n hx hb dX5_takeLine_92 rfl (lv_at hl 6 rfl) ?_
                        refine g_get KX hh in_X5_takeLine_X5 0 rfl rfl 2 (by decide) rfl (List.mem_of_getElem? (i := 1) rfl) dX5_takeLine_93 ?_
                        refine lv_iload_n hx hb dX5_takeLine_96 rfl (lv_at hl 5 rfl) ?_
                        refine lv_iload hx hb dX5_takeLine_97 (lv_at hl 2 rfl) ?_
                        refine lv_iadd hx hb dX5_takeLine_99 ?_
                        refine g_iald KX hh 2 0 rfl rfl (ixr (by omega) (by omega) (by omega) (by omega)) dX5_takeLine_100 ?_
                        refine lv_goto (tgt := 105) hx hb dX5_takeLine_101 (by decide) ?_
                        exact K_105 (w_t_rows_7 ((x1 * 6) + x6_4).toNatClampNeg)  hF _ _ _ hh (lv_sub hl [0, 1, 2, 3, 4, 5, 6, 7, 8] rfl)
                    exact K_85 (F_X5_numberTaken t_length r76_9.1 r76_9.2 t_bytes)  hF _ _ _ hh (lv_sub hl [0, 1, 2, 3, 4, 5, 6, 7, 8] rfl)
                  exact K_75 (sbyt x5_3 x6_4)  hF _ _ _ hh (lv_sub hl [0, 1, 2, 3, 4, 5, 6, 7] rfl)
          exact L_50 6 0 r6_1.1 r6_1.2 (upd t_rows (x1 * 6).toNatClampNeg x4_2) (by first | (rw [ti_inc] <;> omega) | decide) (by first | with_reducible assumption | omega) (by first | omega | decide) hF _ _ _ hh (lv_sub hl [0, 1, 2, 3, 4, 5, 6] rfl)
        exact K_47 (F_X5_numbersOf x4_2) (numbersOf_lt _) hF _ _ _ hh (lv_sub hl [0, 1, 2, 3, 4, 5] rfl)
      · replace hF := hF.trans (if_pos c_27)
        refine lv_iconst (v := 0) hx hb dX5_takeLine_30 (by decide) ?_
        exact RT _ _ _ _ _ _ hh (by rw [hF]) (Or.inl ⟨_, rfl, by rw [hF], dX5_takeLine_31, Or.inr (Or.inl ⟨rfl, Or.inl rfl⟩)⟩)
  exact K_15 (F_X5_wordTaken t_length r6_1.1 r6_1.2 t_bytes)  hF _ _ _ hh (lv_sub hl [0, 1, 2, 3, 4] rfl)
theorem zb_F_X5_takeLine_150 {x1 : Int32} {x6_4 : Int32} {w_t_rows_7 : Nat → Int32} {k_50 : Int32 → Int32 → Int32 → (Nat → Int32) → Int32 × Int32 × Int32 × (Nat → Int32)} {r76_9 : Int32 × Int32} {x8_10 : Int32}  (hk : ∀ a0 a1 a2 a3, (k_50 a0 a1 a2 a3).1 = 0 ∨ (k_50 a0 a1 a2 a3).1 = 1) : (F_X5_takeLine_150 x1 x6_4 w_t_rows_7 k_50 r76_9 x8_10).1 = 0 ∨ (F_X5_takeLine_150 x1 x6_4 w_t_rows_7 k_50 r76_9 x8_10).1 = 1 := by
  unfold F_X5_takeLine_150
  exact hk _ _ _ _
theorem zb_F_X5_takeLine_105 {x1 : Int32} {x2 : Int32} {x4_2 : Int32} {x6_4 : Int32} {w_t_rows_7 : Nat → Int32} {k_50 : Int32 → Int32 → Int32 → (Nat → Int32) → Int32 × Int32 × Int32 × (Nat → Int32)} {x7_8 : Int32} {r76_9 : Int32 × Int32} {x8_10 : Int32} {y0_11 : Int32} (hk : ∀ a0 a1 a2 a3, (k_50 a0 a1 a2 a3).1 = 0 ∨ (k_50 a0 a1 a2 a3).1 = 1) : (F_X5_takeLine_105 x1 x2 x4_2 x6_4 w_t_rows_7 k_50 x7_8 r76_9 x8_10 y0_11).1 = 0 ∨ (F_X5_takeLine_105 x1 x2 x4_2 x6_4 w_t_rows_7 k_50 x7_8 r76_9 x8_10 y0_11).1 = 1 := by
  unfold F_X5_takeLine_105
  split
  · exact Or.inl rfl
  · split
    · split
      · split
        · split
          · exact Or.inl rfl
          · exact zb_F_X5_takeLine_150 hk
        · exact zb_F_X5_takeLine_150 hk
      · exact zb_F_X5_takeLine_150 hk
    · exact Or.inl rfl
theorem zb_F_X5_takeLine_85 {x1 : Int32} {x2 : Int32} {x4_2 : Int32} {x6_4 : Int32} {w_t_rows_7 : Nat → Int32} {k_50 : Int32 → Int32 → Int32 → (Nat → Int32) → Int32 × Int32 × Int32 × (Nat → Int32)} {x7_8 : Int32} {r76_9 : Int32 × Int32} {x8_10 : Int32} (hk : ∀ a0 a1 a2 a3, (k_50 a0 a1 a2 a3).1 = 0 ∨ (k_50 a0 a1 a2 a3).1 = 1) : (F_X5_takeLine_85 x1 x2 x4_2 x6_4 w_t_rows_7 k_50 x7_8 r76_9 x8_10).1 = 0 ∨ (F_X5_takeLine_85 x1 x2 x4_2 x6_4 w_t_rows_7 k_50 x7_8 r76_9 x8_10).1 = 1 := by
  unfold F_X5_takeLine_85
  split
  · exact zb_F_X5_takeLine_105 hk
  · exact zb_F_X5_takeLine_105 hk
theorem zb_F_X5_takeLine_c76 {t_length : Int32} {t_bytes : Nat → Int32} {x1 : Int32} {x2 : Int32} {x4_2 : Int32} {x6_4 : Int32} {w_t_rows_7 : Nat → Int32} {k_50 : Int32 → Int32 → Int32 → (Nat → Int32) → Int32 × Int32 × Int32 × (Nat → Int32)} {x7_8 : Int32} {r76_9 : Int32 × Int32} (hk : ∀ a0 a1 a2 a3, (k_50 a0 a1 a2 a3).1 = 0 ∨ (k_50 a0 a1 a2 a3).1 = 1) : (F_X5_takeLine_c76 t_length t_bytes x1 x2 x4_2 x6_4 w_t_rows_7 k_50 x7_8 r76_9).1 = 0 ∨ (F_X5_takeLine_c76 t_length t_bytes x1 x2 x4_2 x6_4 w_t_rows_7 k_50 x7_8 r76_9).1 = 1 := by
  unfold F_X5_takeLine_c76
  exact zb_F_X5_takeLine_85 hk
theorem zb_F_X5_takeLine_75 {t_length : Int32} {t_bytes : Nat → Int32} {x1 : Int32} {x2 : Int32} {x4_2 : Int32} {x6_4 : Int32} {w_t_end_6 : Int32} {w_t_rows_7 : Nat → Int32} {k_50 : Int32 → Int32 → Int32 → (Nat → Int32) → Int32 × Int32 × Int32 × (Nat → Int32)} {x7_8 : Int32} (hk : ∀ a0 a1 a2 a3, (k_50 a0 a1 a2 a3).1 = 0 ∨ (k_50 a0 a1 a2 a3).1 = 1) : (F_X5_takeLine_75 t_length t_bytes x1 x2 x4_2 x6_4 w_t_end_6 w_t_rows_7 k_50 x7_8).1 = 0 ∨ (F_X5_takeLine_75 t_length t_bytes x1 x2 x4_2 x6_4 w_t_end_6 w_t_rows_7 k_50 x7_8).1 = 1 := by
  unfold F_X5_takeLine_75
  exact zb_F_X5_takeLine_c76 hk
theorem zb_F_X5_takeLine_50 {t_length : Int32} {t_bytes : Nat → Int32} {x1 : Int32} {x2 : Int32} {x4_2 : Int32} {x5_3 : Nat} : ∀ (n : Nat) (x6_4 : Int32) (w_t_start_5 : Int32) (w_t_end_6 : Int32) (w_t_rows_7 : Nat → Int32), (F_X5_takeLine_50 t_length t_bytes x1 x2 x4_2 x5_3 n x6_4 w_t_start_5 w_t_end_6 w_t_rows_7).1 = 0 ∨ (F_X5_takeLine_50 t_length t_bytes x1 x2 x4_2 x5_3 n x6_4 w_t_start_5 w_t_end_6 w_t_rows_7).1 = 1 := by
  intro n
  induction n with
  | zero => intros; exact Or.inl rfl
  | succ n ih =>
    intros
    rw [F_X5_takeLine_50.eq_2]
    split
    · exact Or.inr rfl
    · split
      · exact Or.inr rfl
      · exact zb_F_X5_takeLine_75 ih
theorem zb_F_X5_takeLine_47 {t_length : Int32} {t_bytes : Nat → Int32} {t_rows : Nat → Int32} {x1 : Int32} {x2 : Int32} {r6_1 : Int32 × Int32} {x4_2 : Int32} {x5_3 : Nat} : (F_X5_takeLine_47 t_length t_bytes t_rows x1 x2 r6_1 x4_2 x5_3).1 = 0 ∨ (F_X5_takeLine_47 t_length t_bytes t_rows x1 x2 r6_1 x4_2 x5_3).1 = 1 := by
  unfold F_X5_takeLine_47
  exact zb_F_X5_takeLine_50 _ _ _ _ _
theorem zb_F_X5_takeLine_15 {t_length : Int32} {t_bytes : Nat → Int32} {t_rows : Nat → Int32} {x1 : Int32} {x2 : Int32} {r6_1 : Int32 × Int32} {x4_2 : Int32} : (F_X5_takeLine_15 t_length t_bytes t_rows x1 x2 r6_1 x4_2).1 = 0 ∨ (F_X5_takeLine_15 t_length t_bytes t_rows x1 x2 r6_1 x4_2).1 = 1 := by
  unfold F_X5_takeLine_15
  split
  · exact Or.inl rfl
  · split
    · exact Or.inl rfl
    · exact zb_F_X5_takeLine_47 
theorem zb_F_X5_takeLine_c6 {t_length : Int32} {t_bytes : Nat → Int32} {t_rows : Nat → Int32} {x1 : Int32} {x2 : Int32} {r6_1 : Int32 × Int32} : (F_X5_takeLine_c6 t_length t_bytes t_rows x1 x2 r6_1).1 = 0 ∨ (F_X5_takeLine_c6 t_length t_bytes t_rows x1 x2 r6_1).1 = 1 := by
  unfold F_X5_takeLine_c6
  exact zb_F_X5_takeLine_15 
theorem z_X5_takeLine (t_length : Int32) (t_end : Int32) (t_bytes : Nat → Int32) (t_rows : Nat → Int32) (x1 : Int32) (x2 : Int32) : (F_X5_takeLine t_length t_end t_bytes t_rows x1 x2).1 = 0 ∨ (F_X5_takeLine t_length t_end t_bytes t_rows x1 x2).1 = 1 := by
  unfold F_X5_takeLine
  exact zb_F_X5_takeLine_c6 
