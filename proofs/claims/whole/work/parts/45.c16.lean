theorem tl_end {tl : Int32} {tb : Nat → Int32} {x1 x2 x4 : Int32} {j : Nat} (ht : tl.toInt ≤ 200) : ∀ (n : Nat) (i s e : Int32) (rw : Nat → Int32), 0 ≤ e.toInt → 0 ≤ (F_X5_takeLine_50 tl tb x1 x2 x4 j n i s e rw).2.2.1.toInt := by
  intro n
  induction n with
  | zero => intro i s e rw _; exact Int.le_refl _
  | succ n ih =>
    intro i s e rw h
    have g := tok_end (tb := tb) ht h
    rw [F_X5_takeLine_50.eq_2]
    split
    · exact h
    · split
      · exact h
      · unfold F_X5_takeLine_75 F_X5_takeLine_c76
        generalize F_X5_takeToken tl e tb = r at g ⊢
        generalize F_X5_numberTaken tl r.1 r.2 tb = v
        have key : ∀ y, 0 ≤ (F_X5_takeLine_105 x1 x2 x4 i rw (F_X5_takeLine_50 tl tb x1 x2 x4 j n) (sbyt j i) r v y).2.2.1.toInt := by
          intro y
          unfold F_X5_takeLine_105 F_X5_takeLine_150
          repeat' split
          all_goals first | exact g | exact ih _ _ _ _ g
        unfold F_X5_takeLine_85
        split <;> exact key _
theorem takeLine_end {tl te : Int32} {tb tr : Nat → Int32} {x1 x2 : Int32} (ht : tl.toInt ≤ 200) (h : 0 ≤ te.toInt) : 0 ≤ (F_X5_takeLine tl te tb tr x1 x2).2.2.1.toInt := by
  have g := tok_end (tb := tb) ht h
  unfold F_X5_takeLine F_X5_takeLine_c6
  generalize F_X5_takeToken tl te tb = r at g ⊢
  generalize F_X5_wordTaken tl r.1 r.2 tb = v
  unfold F_X5_takeLine_15
  split
  · exact g
  · split
    · exact g
    · exact tl_end ht _ _ _ _ _ g
def F_X5_findFault_c49 (t_length : Int32) (t_bytes : Nat → Int32) (x3_1 : Int32) (x2_2 : Int32) (k_14 : Int32 → Int32 → Int32 → Int32 → Int32 → (Nat → Int32) → Int32 × Int32 × Int32 × Int32 × (Nat → Int32)) (r23_7 : Int32 × Int32 × Int32 × (Nat → Int32)) (r49_8 : Int32 × Int32) : Int32 × Int32 × Int32 × Int32 × (Nat → Int32) := (if r49_8.1 = t_length then ((-1), x3_1 + 1, r49_8.1, r49_8.2, r23_7.2.2.2) else (if (F_X5_signAt t_length t_bytes r49_8.1) = 59 then (k_14 (x3_1 + 1) (F_X5_knownBehind r23_7.2.2.2 x3_1 x2_2) (x3_1 + 1) r49_8.1 r49_8.2 r23_7.2.2.2) else (r49_8.1, x3_1 + 1, r49_8.1, r49_8.2, r23_7.2.2.2)))
def F_X5_findFault_c23 (t_length : Int32) (t_bytes : Nat → Int32) (x3_1 : Int32) (x2_2 : Int32) (w_t_lineCount_3 : Int32) (k_14 : Int32 → Int32 → Int32 → Int32 → Int32 → (Nat → Int32) → Int32 × Int32 × Int32 × Int32 × (Nat → Int32)) (r23_7 : Int32 × Int32 × Int32 × (Nat → Int32)) : Int32 × Int32 × Int32 × Int32 × (Nat → Int32) := (if r23_7.1 = 0 then (r23_7.2.1, w_t_lineCount_3, r23_7.2.1, r23_7.2.2.1, r23_7.2.2.2) else (F_X5_findFault_c49 t_length t_bytes x3_1 x2_2 k_14 r23_7 (F_X5_takeToken t_length r23_7.2.2.1 t_bytes)))
def F_X5_findFault_14 (t_length : Int32) (t_bytes : Nat → Int32) : Nat → Int32 → Int32 → Int32 → Int32 → Int32 → (Nat → Int32) → Int32 × Int32 × Int32 × Int32 × (Nat → Int32)
  | 0, _, _, _, _, _, _ => default
  | n + 1, x3_1, x2_2, w_t_lineCount_3, w_t_start_4, w_t_end_5, w_t_rows_6 => (if 8 ≤ x3_1 then (w_t_start_4, w_t_lineCount_3, w_t_start_4, w_t_end_5, w_t_rows_6) else (F_X5_findFault_c23 t_length t_bytes x3_1 x2_2 w_t_lineCount_3 (F_X5_findFault_14 t_length t_bytes n) (F_X5_takeLine t_length w_t_end_5 t_bytes w_t_rows_6 x3_1 x2_2)))
def F_X5_findFault (t_length : Int32) (t_start : Int32) (t_bytes : Nat → Int32) (t_rows : Nat → Int32) (x1 : Int32) : Int32 × Int32 × Int32 × Int32 × (Nat → Int32) := (F_X5_findFault_14 t_length t_bytes 9 0 x1 0 t_start 0 t_rows)
theorem in_X5_findFault_X5 : ∀ x ∈ u_ws RX5 TX5 6, x ∈ wsX5_findFault := by decide +kernel
set_option maxHeartbeats 2000000 in
set_option maxRecDepth 100000 in
theorem c_X5_findFault (l : Launch) (D : va_G) (cI cZ cC cH : ClassId) (t_o t_a_bytes t_a_rows : Nat) (t_length : Int32) (t_lineCount : Int32) (t_start : Int32) (t_end : Int32) (t_bytes : Nat → Int32) (t_rows : Nat → Int32) (x1 : Int32) (ht1 : t_length.toInt ≤ 200) : MC l D (TY cI cZ cC cH) yX5_findFault wsX5_findFault 7 157 [.ref t_o, .int x1] (WTx cI cZ cC cH t_o t_a_bytes t_a_rows t_length t_lineCount t_start t_end t_bytes t_rows) (some (.int ((F_X5_findFault t_length t_start t_bytes t_rows x1).1))) (WTx cI cZ cC cH t_o t_a_bytes t_a_rows t_length (F_X5_findFault t_length t_start t_bytes t_rows x1).2.1 (F_X5_findFault t_length t_start t_bytes t_rows x1).2.2.1 (F_X5_findFault t_length t_start t_bytes t_rows x1).2.2.2.1 t_bytes (F_X5_findFault t_length t_start t_bytes t_rows x1).2.2.2.2) := by
  obtain ⟨R, hF⟩ : ∃ R, R = F_X5_findFault t_length t_start t_bytes t_rows x1 := ⟨_, rfl⟩
  rw [← hF]
  refine MC.of (cc := cX5_findFault) (maxL := 4) (ret := (some .int)) RX5 rfl (by decide +kernel) rfl (Nat.le_of_ble_eq_true rfl) ?_
  intro p e s m args below meth c A Q KX RT hh ls hl
  have z0 : (0 : Int32).toInt = 0 := rfl
  have z1 : (1 : Int32).toInt = 1 := rfl
  have zm : (-1 : Int32).toInt = -1 := rfl
  have hx := KX.1
  have hb := KX.2.1
  have hl : lv_has ls 4 [(0, .ref t_o), (1, .int x1)] := hl
  unfold F_X5_findFault at hF
  refine lv_iload_n hx hb dX5_findFault_0 rfl (lv_at hl 1 rfl) ?_
  refine lv_istore_n (lv' := [(2, .int x1), (0, .ref t_o), (1, .int x1)]) hx hb dX5_findFault_1 rfl hl (Nat.le_of_ble_eq_true rfl) rfl (fun ls hl => ?_)
  refine lv_aload_n hx hb dX5_findFault_2 rfl (lv_at hl 1 rfl) ?_
  refine lv_iconst (v := 0) hx hb dX5_findFault_3 (by decide) ?_
  refine g_put KX hh in_X5_findFault_X5 tyX5 tyX5_ok nmX5 0 rfl rfl 5 (by decide) rfl rfl rfl (Nat.le_of_ble_eq_true rfl) (List.mem_of_getElem? (i := 1) rfl) (w' := (WTx cI cZ cC cH t_o t_a_bytes t_a_rows t_length t_lineCount t_start 0 t_bytes t_rows)) rfl rfl dX5_findFault_4 (fun H locs hh => ?_)
  refine lv_aload_n hx hb dX5_findFault_7 rfl (lv_at hl 1 rfl) ?_
  refine lv_iconst (v := 0) hx hb dX5_findFault_8 (by decide) ?_
  refine g_put KX hh in_X5_findFault_X5 tyX5 tyX5_ok nmX5 0 rfl rfl 3 (by decide) rfl rfl rfl (Nat.le_of_ble_eq_true rfl) (List.mem_of_getElem? (i := 2) rfl) (w' := (WTx cI cZ cC cH t_o t_a_bytes t_a_rows t_length 0 t_start 0 t_bytes t_rows)) rfl rfl dX5_findFault_9 (fun H locs hh => ?_)
  refine lv_iconst (v := 0) hx hb dX5_findFault_12 (by decide) ?_
  refine lv_istore_n (lv' := [(3, .int 0), (2, .int x1), (0, .ref t_o), (1, .int x1)]) hx hb dX5_findFault_13 rfl hl (Nat.le_of_ble_eq_true rfl) rfl (fun ls hl => ?_)
  have L_14 : ∀ (n_14 : Nat) (x3_1 : Int32) (x2_2 : Int32) (w_t_lineCount_3 : Int32) (w_t_start_4 : Int32) (w_t_end_5 : Int32) (w_t_rows_6 : Nat → Int32) (i0_14 : 0 ≤ x3_1.toInt) (i1_14 : x3_1.toInt ≤ 8) (e0_14 : 0 ≤ w_t_end_5.toInt) (_ : (8 - x3_1.toInt).toNat < n_14) (_ : R = (F_X5_findFault_14 t_length t_bytes) n_14 x3_1 x2_2 w_t_lineCount_3 w_t_start_4 w_t_end_5 w_t_rows_6) (ls : Array Slot) (H : Heap) (locs : List Loc) (_ : HS D A s.heap (WTx cI cZ cC cH t_o t_a_bytes t_a_rows t_length w_t_lineCount_3 w_t_start_4 w_t_end_5 t_bytes w_t_rows_6) H locs) (_ : lv_has ls 4 [(3, .int x3_1), (2, .int x2_2), (0, .ref t_o), (1, .int x1)]), W p l e { frames := 7, cells := 0, slots := 0, locals := 157 } s m args below meth c H locs 0 0 Q (F0 m 14 ls []) := by
    intro n_14
    induction n_14 with
    | zero => intro x3_1 x2_2 w_t_lineCount_3 w_t_start_4 w_t_end_5 w_t_rows_6 i0_14 i1_14 e0_14 hm; exact absurd hm (Nat.not_lt_zero _)
    | succ n_14 ih_14 =>
      intro x3_1 x2_2 w_t_lineCount_3 w_t_start_4 w_t_end_5 w_t_rows_6 i0_14 i1_14 e0_14 hm_14 hF ls H locs hh hl
      rw [F_X5_findFault_14.eq_2] at hF
      refine lv_iload_n hx hb dX5_findFault_14 rfl (lv_at hl 0 rfl) ?_
      refine lv_bipush (v := 8) hx hb dX5_findFault_15 (by decide) ?_
      refine lv_icmp_ge (tgt := 89) hx hb dX5_findFault_17 (by decide) (fun c_17 => ?_) (fun c_17 => ?_)
      · replace hF := hF.trans (if_pos c_17)
        have i_17 : 8 ≤ x3_1.toInt := ti_le.mp c_17
        refine lv_aload_n hx hb dX5_findFault_89 rfl (lv_at hl 2 rfl) ?_
        refine g_get KX hh in_X5_findFault_X5 0 rfl rfl 4 (by decide) rfl (List.mem_of_getElem? (i := 3) rfl) dX5_findFault_90 ?_
        exact RT _ _ _ _ _ _ hh (by rw [hF]) (Or.inl ⟨_, rfl, by rw [hF], dX5_findFault_93, Or.inl rfl⟩)
      · replace hF := hF.trans (if_neg c_17)
        have i_17 : x3_1.toInt < 8 := ti_nle c_17
        refine lv_aload_n hx hb dX5_findFault_20 rfl (lv_at hl 2 rfl) ?_
        refine lv_iload_n hx hb dX5_findFault_21 rfl (lv_at hl 0 rfl) ?_
        refine lv_iload_n hx hb dX5_findFault_22 rfl (lv_at hl 1 rfl) ?_
        refine g_callV (As := [.int x3_1, .int x2_2]) (rest := []) KX rfl ⟨Nat.le_of_ble_eq_true rfl, Nat.le_of_ble_eq_true rfl⟩ hh hl (c_X5_takeLine l D cI cZ cC cH t_o t_a_bytes t_a_rows t_length w_t_lineCount_3 w_t_start_4 w_t_end_5 t_bytes w_t_rows_6 x3_1 x2_2 (by first | with_reducible assumption | omega | decide | exact tn_lt (n := 8) (by omega) (by omega)) (by first | with_reducible assumption | omega | decide | exact tn_lt (n := 8) (by omega) (by omega))) JN.all 2 gX5_findFault_X5_takeLine rfl (by decide +kernel) ⟨Nat.le_of_ble_eq_true rfl, Nat.le_of_ble_eq_true rfl⟩ 0 5 rfl rfl rfl rfl rfl (Nat.le_of_ble_eq_true rfl) dX5_findFault_23 (fun H locs hh => ?_)
        refine W.eq (g2 := F0 m 26 ls [.int ((F_X5_takeLine t_length w_t_end_5 t_bytes w_t_rows_6 x3_1 x2_2).1)]) rfl ?_
        generalize q_23 : F_X5_takeLine t_length w_t_end_5 t_bytes w_t_rows_6 x3_1 x2_2 = r23_7 at hh hF ⊢
        have hz_23 : r23_7.1 = 0 ∨ r23_7.1 = 1 := by rw [← q_23]; exact z_X5_takeLine _ _ _ _ _ _
        have he23 : 0 ≤ r23_7.2.2.1.toInt := by rw [← q_23]; exact takeLine_end ht1 e0_14
        unfold F_X5_findFault_c23 at hF
        refine lv_if_ne (tgt := 34) hx hb dX5_findFault_26 (by decide) (fun c_26 => ?_) (fun c_26 => ?_)
        · replace hF := hF.trans (if_neg c_26)
          have i_26 : ¬ r23_7.1.toInt = 0 := ti_ne c_26
          refine lv_aload_n hx hb dX5_findFault_34 rfl (lv_at hl 2 rfl) ?_
          refine lv_iload_n hx hb dX5_findFault_35 rfl (lv_at hl 0 rfl) ?_
          refine lv_iload_n hx hb dX5_findFault_36 rfl (lv_at hl 1 rfl) ?_
          refine g_callV (As := [.int x3_1, .int x2_2]) (rest := []) KX rfl ⟨Nat.le_of_ble_eq_true rfl, Nat.le_of_ble_eq_true rfl⟩ hh hl (c_X5_knownBehind l D cI cZ cC cH t_o t_a_bytes t_a_rows t_length w_t_lineCount_3 r23_7.2.1 r23_7.2.2.1 t_bytes r23_7.2.2.2 x3_1 x2_2 ) JN.all 2 gX5_findFault_X5_knownBehind rfl (by decide +kernel) ⟨Nat.le_of_ble_eq_true rfl, Nat.le_of_ble_eq_true rfl⟩ 0 5 rfl rfl rfl rfl rfl (Nat.le_of_ble_eq_true rfl) dX5_findFault_37 (fun H locs hh => ?_)
          refine W.eq (g2 := F0 m 40 ls [.int (F_X5_knownBehind r23_7.2.2.2 x3_1 x2_2)]) rfl ?_
          refine lv_istore_n (lv' := [(2, .int (F_X5_knownBehind r23_7.2.2.2 x3_1 x2_2)), (3, .int x3_1), (0, .ref t_o), (1, .int x1)]) hx hb dX5_findFault_40 rfl hl (Nat.le_of_ble_eq_true rfl) rfl (fun ls hl => ?_)
          refine lv_aload_n hx hb dX5_findFault_41 rfl (lv_at hl 2 rfl) ?_
          refine lv_iload_n hx hb dX5_findFault_42 rfl (lv_at hl 1 rfl) ?_
          refine lv_iconst (v := 1) hx hb dX5_findFault_43 (by decide) ?_
          refine lv_iadd hx hb dX5_findFault_44 ?_
          refine g_put KX hh in_X5_findFault_X5 tyX5 tyX5_ok nmX5 0 rfl rfl 3 (by decide) rfl rfl rfl (Nat.le_of_ble_eq_true rfl) (List.mem_of_getElem? (i := 2) rfl) (w' := (WTx cI cZ cC cH t_o t_a_bytes t_a_rows t_length (x3_1 + 1) r23_7.2.1 r23_7.2.2.1 t_bytes r23_7.2.2.2)) rfl rfl dX5_findFault_45 (fun H locs hh => ?_)
          refine lv_aload_n hx hb dX5_findFault_48 rfl (lv_at hl 2 rfl) ?_
          refine g_callV (As := []) (rest := []) KX rfl ⟨Nat.le_of_ble_eq_true rfl, Nat.le_of_ble_eq_true rfl⟩ hh hl (c_X5_takeToken l D cI cZ cC cH t_o t_a_bytes t_a_rows t_length (x3_1 + 1) r23_7.2.1 r23_7.2.2.1 t_bytes r23_7.2.2.2  (by first | with_reducible assumption | omega | decide | exact tn_lt (n := 8) (by omega) (by omega)) (by first | with_reducible assumption | omega | decide | exact tn_lt (n := 8) (by omega) (by omega))) JN.all 0 gX5_findFault_X5_takeToken rfl (by decide +kernel) ⟨Nat.le_of_ble_eq_true rfl, Nat.le_of_ble_eq_true rfl⟩ 0 5 rfl rfl rfl rfl rfl (Nat.le_of_ble_eq_true rfl) dX5_findFault_49 (fun H locs hh => ?_)
          refine W.eq (g2 := F0 m 52 ls []) rfl ?_
          generalize q_49 : F_X5_takeToken t_length r23_7.2.2.1 t_bytes = r49_8 at hh hF ⊢
          have he49 : 0 ≤ r49_8.2.toInt := by rw [← q_49]; exact tok_end ht1 he23
          unfold F_X5_findFault_c49 at hF
          refine lv_aload_n hx hb dX5_findFault_52 rfl (lv_at hl 2 rfl) ?_
          refine g_get KX hh in_X5_findFault_X5 0 rfl rfl 4 (by decide) rfl (List.mem_of_getElem? (i := 3) rfl) dX5_findFault_53 ?_
          refine lv_aload_n hx hb dX5_findFault_56 rfl (lv_at hl 2 rfl) ?_
          refine g_get KX hh in_X5_findFault_X5 0 rfl rfl 1 (by decide) rfl (List.mem_of_getElem? (i := 4) rfl) dX5_findFault_57 ?_
          refine lv_icmp_ne (tgt := 65) hx hb dX5_findFault_60 (by decide) (fun c_60 => ?_) (fun c_60 => ?_)
          · replace hF := hF.trans (if_neg c_60)
            have i_60 : ¬ r49_8.1.toInt = t_length.toInt := ti_ne c_60
            refine lv_aload_n hx hb dX5_findFault_65 rfl (lv_at hl 2 rfl) ?_
            refine lv_aload_n hx hb dX5_findFault_66 rfl (lv_at hl 2 rfl) ?_
            refine g_get KX hh in_X5_findFault_X5 0 rfl rfl 4 (by decide) rfl (List.mem_of_getElem? (i := 3) rfl) dX5_findFault_67 ?_
            refine g_callV (As := [.int r49_8.1]) (rest := []) KX rfl ⟨Nat.le_of_ble_eq_true rfl, Nat.le_of_ble_eq_true rfl⟩ hh hl (c_X5_signAt l D cI cZ cC cH t_o t_a_bytes t_a_rows t_length (x3_1 + 1) r49_8.1 r49_8.2 t_bytes r23_7.2.2.2 r49_8.1 ) JN.all 1 gX5_findFault_X5_signAt rfl (by decide +kernel) ⟨Nat.le_of_ble_eq_true rfl, Nat.le_of_ble_eq_true rfl⟩ 0 5 rfl rfl rfl rfl rfl (Nat.le_of_ble_eq_true rfl) dX5_findFault_70 (fun H locs hh => ?_)
            refine W.eq (g2 := F0 m 73 ls [.int (F_X5_signAt t_length t_bytes r49_8.1)]) rfl ?_
            refine lv_bipush (v := 59) hx hb dX5_findFault_73 (by decide) ?_
            refine lv_icmp_eq (tgt := 83) hx hb dX5_findFault_75 (by decide) (fun c_75 => ?_) (fun c_75 => ?_)
            · replace hF := hF.trans (if_pos c_75)
              refine lv_iinc (v := x3_1 + 1) (lv' := [(3, .int (x3_1 + 1)), (2, .int (F_X5_knownBehind r23_7.2.2.2 x3_1 x2_2)), (0, .ref t_o), (1, .int x1)]) hx hb dX5_findFault_83 hl (k := 1) rfl rfl (Nat.le_of_ble_eq_true rfl) rfl (fun ls hl => ?_)
              refine lv_goto (tgt := 14) hx hb dX5_findFault_86 (by decide) ?_
              have e_inc : (x3_1 + 1).toInt = x3_1.toInt + 1 := ti_inc (by omega)
              exact ih_14 (x3_1 + 1) (F_X5_knownBehind r23_7.2.2.2 x3_1 x2_2) (x3_1 + 1) r49_8.1 r49_8.2 r23_7.2.2.2 (by first | with_reducible assumption | omega | decide) (by first | with_reducible assumption | omega | decide) (by first | with_reducible assumption | omega | decide) (by omega) hF _ _ _ hh (lv_sub hl [0, 1, 2, 3] rfl)
            · replace hF := hF.trans (if_neg c_75)
              refine lv_aload_n hx hb dX5_findFault_78 rfl (lv_at hl 2 rfl) ?_
              refine g_get KX hh in_X5_findFault_X5 0 rfl rfl 4 (by decide) rfl (List.mem_of_getElem? (i := 3) rfl) dX5_findFault_79 ?_
              exact RT _ _ _ _ _ _ hh (by rw [hF]) (Or.inl ⟨_, rfl, by rw [hF], dX5_findFault_82, Or.inl rfl⟩)
          · replace hF := hF.trans (if_pos c_60)
            have i_60 : r49_8.1.toInt = t_length.toInt := congrArg Int32.toInt c_60
            refine lv_iconst (v := (-1)) hx hb dX5_findFault_63 (by decide) ?_
            exact RT _ _ _ _ _ _ hh (by rw [hF]) (Or.inl ⟨_, rfl, by rw [hF], dX5_findFault_64, Or.inl rfl⟩)
        · replace hF := hF.trans (if_pos c_26)
          have i_26 : r23_7.1.toInt = 0 := congrArg Int32.toInt c_26
          refine lv_aload_n hx hb dX5_findFault_29 rfl (lv_at hl 2 rfl) ?_
          refine g_get KX hh in_X5_findFault_X5 0 rfl rfl 4 (by decide) rfl (List.mem_of_getElem? (i := 3) rfl) dX5_findFault_30 ?_
          exact RT _ _ _ _ _ _ hh (by rw [hF]) (Or.inl ⟨_, rfl, by rw [hF], dX5_findFault_33, Or.inl rfl⟩)
  exact L_14 9 0 x1 0 t_start 0 t_rows (by first | with_reducible assumption | omega | decide) (by first | with_reducible assumption | omega | decide) (by first | with_reducible assumption | omega | decide) (by first | omega | decide | (simp; done)) hF _ _ _ hh (lv_sub hl [0, 1, 2, 3] rfl)
