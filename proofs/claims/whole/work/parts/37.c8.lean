def F_X6_commonDivisor_9  : Nat → Int32 → Int64 → Int64 → Int64
  | 0, _, _, _ => default
  | n + 1, x8_1, x6_2, x4_3 => (if 99 ≤ x8_1 then x4_3 else (if (lg_cmp x6_2 0) = 0 then x4_3 else ((F_X6_commonDivisor_9 n) (x8_1 + 1) (x4_3 - x4_3 / x6_2 * x6_2) x6_2)))
def F_X6_commonDivisor (x0 : Int64) (x2 : Int64) : Int64 := (F_X6_commonDivisor_9 100 0 x2 x0)
set_option maxHeartbeats 2000000 in
set_option maxRecDepth 100000 in
theorem c_X6_commonDivisor (l : Launch) (D : va_G) (cI cZ cC cH : ClassId)  (x0 : Int64) (x2 : Int64)  : MC l D (TY cI cZ cC cH) yX6_commonDivisor wsX6_commonDivisor 0 0 [.long x0, .long x2] [] (some (.long (F_X6_commonDivisor x0 x2))) [] := by
  obtain ⟨R, hF⟩ : ∃ R, R = F_X6_commonDivisor x0 x2 := ⟨_, rfl⟩
  rw [← hF]
  refine MC.of (cc := cX6_commonDivisor) (maxL := 11) (ret := (some .long)) RX6 rfl (by decide +kernel) rfl (Nat.le_of_ble_eq_true rfl) ?_
  intro p e s m args below meth c A Q KX RT hh ls hl
  have z0 : (0 : Int32).toInt = 0 := rfl
  have z1 : (1 : Int32).toInt = 1 := rfl
  have zm : (-1 : Int32).toInt = -1 := rfl
  have hx := KX.1
  have hb := KX.2.1
  have hl : lv_has ls 11 [(0, .long x0), (2, .long x2)] := hl
  unfold F_X6_commonDivisor at hF
  refine lv_lload_n hx hb dX6_commonDivisor_0 rfl (lv_at hl 0 rfl) ?_
  refine lv_lstore (lv' := [(4, .long x0), (0, .long x0), (2, .long x2)]) hx hb dX6_commonDivisor_1 hl (Nat.le_of_ble_eq_true rfl) rfl (fun ls hl => ?_)
  refine lv_lload_n hx hb dX6_commonDivisor_3 rfl (lv_at hl 2 rfl) ?_
  refine lv_lstore (lv' := [(6, .long x2), (4, .long x0), (0, .long x0), (2, .long x2)]) hx hb dX6_commonDivisor_4 hl (Nat.le_of_ble_eq_true rfl) rfl (fun ls hl => ?_)
  refine lv_iconst (v := 0) hx hb dX6_commonDivisor_6 (by decide) ?_
  refine lv_istore (lv' := [(8, .int 0), (6, .long x2), (4, .long x0), (0, .long x0), (2, .long x2)]) hx hb dX6_commonDivisor_7 hl (Nat.le_of_ble_eq_true rfl) rfl (fun ls hl => ?_)
  have L_9 : ∀ (n_9 : Nat) (x8_1 : Int32) (x6_2 : Int64) (x4_3 : Int64) (i0_9 : 0 ≤ x8_1.toInt) (i1_9 : x8_1.toInt ≤ 99) (_ : (99 - x8_1.toInt).toNat < n_9) (_ : R = (F_X6_commonDivisor_9) n_9 x8_1 x6_2 x4_3) (ls : Array Slot) (H : Heap) (locs : List Loc) (_ : HS D A s.heap [] H locs) (_ : lv_has ls 11 [(8, .int x8_1), (6, .long x6_2), (4, .long x4_3), (0, .long x0), (2, .long x2)]), W p l e { frames := 0, cells := 0, slots := 0, locals := 0 } s m args below meth c H locs 0 0 Q (F0 m 9 ls []) := by
    intro n_9
    induction n_9 with
    | zero => intro x8_1 x6_2 x4_3 i0_9 i1_9 hm; exact absurd hm (Nat.not_lt_zero _)
    | succ n_9 ih_9 =>
      intro x8_1 x6_2 x4_3 i0_9 i1_9 hm_9 hF ls H locs hh hl
      rw [F_X6_commonDivisor_9.eq_2] at hF
      refine lv_iload hx hb dX6_commonDivisor_9 (lv_at hl 0 rfl) ?_
      refine lv_bipush (v := 99) hx hb dX6_commonDivisor_11 (by decide) ?_
      refine lv_icmp_ge (tgt := 44) hx hb dX6_commonDivisor_13 (by decide) (fun c_13 => ?_) (fun c_13 => ?_)
      · replace hF := hF.trans (if_pos c_13)
        have i_13 : 99 ≤ x8_1.toInt := ti_le.mp c_13
        refine lv_lload hx hb dX6_commonDivisor_44 (lv_at hl 2 rfl) ?_
        exact RT _ _ _ _ _ _ hh (rfl) (Or.inr (Or.inl ⟨_, rfl, by rw [hF], dX6_commonDivisor_46, rfl⟩))
      · replace hF := hF.trans (if_neg c_13)
        have i_13 : x8_1.toInt < 99 := ti_nle c_13
        refine lv_lload hx hb dX6_commonDivisor_16 (lv_at hl 1 rfl) ?_
        refine lv_lconst (v := 0) hx hb dX6_commonDivisor_18 (by decide) ?_
        refine W.lcmp hx hb dX6_commonDivisor_19 ?_
        refine lv_if_eq (tgt := 44) hx hb dX6_commonDivisor_20 (by decide) (fun c_20 => ?_) (fun c_20 => ?_)
        · replace hF := hF.trans (if_pos c_20)
          refine lv_lload hx hb dX6_commonDivisor_44 (lv_at hl 2 rfl) ?_
          exact RT _ _ _ _ _ _ hh (rfl) (Or.inr (Or.inl ⟨_, rfl, by rw [hF], dX6_commonDivisor_46, rfl⟩))
        · replace hF := hF.trans (if_neg c_20)
          refine lv_lload hx hb dX6_commonDivisor_23 (lv_at hl 2 rfl) ?_
          refine lv_lload hx hb dX6_commonDivisor_25 (lv_at hl 1 rfl) ?_
          refine lv_lrem hx hb dX6_commonDivisor_27 (lgc_ne c_20) ?_
          refine lv_lstore (lv' := [(9, .long (x4_3 - x4_3 / x6_2 * x6_2)), (8, .int x8_1), (6, .long x6_2), (4, .long x4_3), (0, .long x0), (2, .long x2)]) hx hb dX6_commonDivisor_28 hl (Nat.le_of_ble_eq_true rfl) rfl (fun ls hl => ?_)
          refine lv_lload hx hb dX6_commonDivisor_30 (lv_at hl 2 rfl) ?_
          refine lv_lstore (lv' := [(4, .long x6_2), (9, .long (x4_3 - x4_3 / x6_2 * x6_2)), (8, .int x8_1), (6, .long x6_2), (0, .long x0), (2, .long x2)]) hx hb dX6_commonDivisor_32 hl (Nat.le_of_ble_eq_true rfl) rfl (fun ls hl => ?_)
          refine lv_lload hx hb dX6_commonDivisor_34 (lv_at hl 1 rfl) ?_
          refine lv_lstore (lv' := [(6, .long (x4_3 - x4_3 / x6_2 * x6_2)), (4, .long x6_2), (9, .long (x4_3 - x4_3 / x6_2 * x6_2)), (8, .int x8_1), (0, .long x0), (2, .long x2)]) hx hb dX6_commonDivisor_36 hl (Nat.le_of_ble_eq_true rfl) rfl (fun ls hl => ?_)
          refine lv_iinc (v := x8_1 + 1) (lv' := [(8, .int (x8_1 + 1)), (6, .long (x4_3 - x4_3 / x6_2 * x6_2)), (4, .long x6_2), (9, .long (x4_3 - x4_3 / x6_2 * x6_2)), (0, .long x0), (2, .long x2)]) hx hb dX6_commonDivisor_38 hl (k := 3) rfl rfl (Nat.le_of_ble_eq_true rfl) rfl (fun ls hl => ?_)
          refine lv_goto (tgt := 9) hx hb dX6_commonDivisor_41 (by decide) ?_
          have e_inc : (x8_1 + 1).toInt = x8_1.toInt + 1 := ti_inc (by omega)
          exact ih_9 (x8_1 + 1) (x4_3 - x4_3 / x6_2 * x6_2) x6_2 (by first | with_reducible assumption | omega | decide) (by first | with_reducible assumption | omega | decide) (by omega) hF _ _ _ hh (lv_sub hl [0, 1, 2, 4, 5] rfl)
  exact L_9 100 0 x2 x0 (by first | with_reducible assumption | omega | decide) (by first | with_reducible assumption | omega | decide) (by first | omega | decide | (simp; done)) hF _ _ _ hh (lv_sub hl [0, 1, 2, 3, 4] rfl)
def F_X6_inverse_78 (x2 : Int64) (x6_4 : Int64)  : Int64 := (if 0 ≤ (lg_cmp x2 1) then F_J9_floorMod_f86c9 x6_4 x2 else 0)
def F_X6_inverse_15 (x2 : Int64) : Nat → Int32 → Int64 → Int64 → Int64 → Int64 → Int64
  | 0, _, _, _, _, _ => default
  | n + 1, x12_1, x10_2, x8_3, x6_4, x4_5 => (if 99 ≤ x12_1 then F_X6_inverse_78 x2 x6_4 else (if (lg_cmp x8_3 0) = 0 then F_X6_inverse_78 x2 x6_4 else ((F_X6_inverse_15 x2 n) (x12_1 + 1) (x6_4 - ((x4_5 / x8_3) * x10_2)) (x4_5 - ((x4_5 / x8_3) * x8_3)) x10_2 x8_3)))
def F_X6_inverse (x0 : Int64) (x2 : Int64) : Int64 := (F_X6_inverse_15 x2 100 0 0 x2 1 x0)
set_option maxHeartbeats 2000000 in
set_option maxRecDepth 100000 in
theorem c_X6_inverse (l : Launch) (D : va_G) (cI cZ cC cH : ClassId)  (x0 : Int64) (x2 : Int64)  : MC l D (TY cI cZ cC cH) yX6_inverse wsX6_inverse 1 25 [.long x0, .long x2] [] (some (.long (F_X6_inverse x0 x2))) [] := by
  obtain ⟨R, hF⟩ : ∃ R, R = F_X6_inverse x0 x2 := ⟨_, rfl⟩
  rw [← hF]
  refine MC.of (cc := cX6_inverse) (maxL := 19) (ret := (some .long)) RX6 rfl (by decide +kernel) rfl (Nat.le_of_ble_eq_true rfl) ?_
  intro p e s m args below meth c A Q KX RT hh ls hl
  have z0 : (0 : Int32).toInt = 0 := rfl
  have z1 : (1 : Int32).toInt = 1 := rfl
  have zm : (-1 : Int32).toInt = -1 := rfl
  have hx := KX.1
  have hb := KX.2.1
  have hl : lv_has ls 19 [(0, .long x0), (2, .long x2)] := hl
  unfold F_X6_inverse at hF
  refine lv_lload_n hx hb dX6_inverse_0 rfl (lv_at hl 0 rfl) ?_
  refine lv_lstore (lv' := [(4, .long x0), (0, .long x0), (2, .long x2)]) hx hb dX6_inverse_1 hl (Nat.le_of_ble_eq_true rfl) rfl (fun ls hl => ?_)
  refine lv_lconst (v := 1) hx hb dX6_inverse_3 (by decide) ?_
  refine lv_lstore (lv' := [(6, .long 1), (4, .long x0), (0, .long x0), (2, .long x2)]) hx hb dX6_inverse_4 hl (Nat.le_of_ble_eq_true rfl) rfl (fun ls hl => ?_)
  refine lv_lload_n hx hb dX6_inverse_6 rfl (lv_at hl 3 rfl) ?_
  refine lv_lstore (lv' := [(8, .long x2), (6, .long 1), (4, .long x0), (0, .long x0), (2, .long x2)]) hx hb dX6_inverse_7 hl (Nat.le_of_ble_eq_true rfl) rfl (fun ls hl => ?_)
  refine lv_lconst (v := 0) hx hb dX6_inverse_9 (by decide) ?_
  refine lv_lstore (lv' := [(10, .long 0), (8, .long x2), (6, .long 1), (4, .long x0), (0, .long x0), (2, .long x2)]) hx hb dX6_inverse_10 hl (Nat.le_of_ble_eq_true rfl) rfl (fun ls hl => ?_)
  refine lv_iconst (v := 0) hx hb dX6_inverse_12 (by decide) ?_
  refine lv_istore (lv' := [(12, .int 0), (10, .long 0), (8, .long x2), (6, .long 1), (4, .long x0), (0, .long x0), (2, .long x2)]) hx hb dX6_inverse_13 hl (Nat.le_of_ble_eq_true rfl) rfl (fun ls hl => ?_)
  have L_15 : ∀ (n_15 : Nat) (x12_1 : Int32) (x10_2 : Int64) (x8_3 : Int64) (x6_4 : Int64) (x4_5 : Int64) (i0_15 : 0 ≤ x12_1.toInt) (i1_15 : x12_1.toInt ≤ 99) (_ : (99 - x12_1.toInt).toNat < n_15) (_ : R = (F_X6_inverse_15 x2) n_15 x12_1 x10_2 x8_3 x6_4 x4_5) (ls : Array Slot) (H : Heap) (locs : List Loc) (_ : HS D A s.heap [] H locs) (_ : lv_has ls 19 [(12, .int x12_1), (10, .long x10_2), (8, .long x8_3), (6, .long x6_4), (4, .long x4_5), (0, .long x0), (2, .long x2)]), W p l e { frames := 1, cells := 0, slots := 0, locals := 25 } s m args below meth c H locs 0 0 Q (F0 m 15 ls []) := by
    intro n_15
    induction n_15 with
    | zero => intro x12_1 x10_2 x8_3 x6_4 x4_5 i0_15 i1_15 hm; exact absurd hm (Nat.not_lt_zero _)
    | succ n_15 ih_15 =>
      intro x12_1 x10_2 x8_3 x6_4 x4_5 i0_15 i1_15 hm_15 hF ls H locs hh hl
      rw [F_X6_inverse_15.eq_2] at hF
      refine lv_iload hx hb dX6_inverse_15 (lv_at hl 0 rfl) ?_
      refine lv_bipush (v := 99) hx hb dX6_inverse_17 (by decide) ?_
      have K_78 : ∀ (_ : R = (F_X6_inverse_78 x2 x6_4)) (ls : Array Slot) (H : Heap) (locs : List Loc) (_ : HS D A s.heap [] H locs) (_ : lv_has ls 19 [(12, .int x12_1), (10, .long x10_2), (8, .long x8_3), (6, .long x6_4), (4, .long x4_5), (0, .long x0), (2, .long x2)]), W p l e { frames := 1, cells := 0, slots := 0, locals := 25 } s m args below meth c H locs 0 0 Q (F0 m 78 ls []) := by
        intro  hF ls H locs hh hl
        unfold F_X6_inverse_78 at hF
        refine lv_lload_n hx hb dX6_inverse_78 rfl (lv_at hl 6 rfl) ?_
        refine lv_lconst (v := 1) hx hb dX6_inverse_79 (by decide) ?_
        refine W.lcmp hx hb dX6_inverse_80 ?_
        refine lv_if_ge (tgt := 88) hx hb dX6_inverse_81 (by decide) (fun c_81 => ?_) (fun c_81 => ?_)
        · replace hF := hF.trans (if_pos c_81)
          refine lv_lload hx hb dX6_inverse_88 (lv_at hl 3 rfl) ?_
          refine lv_lload_n hx hb dX6_inverse_90 rfl (lv_at hl 6 rfl) ?_
          refine g_callS (As := [.long x6_4, .long x2]) (rest := []) KX rfl ⟨Nat.le_of_ble_eq_true rfl, Nat.le_of_ble_eq_true rfl⟩ hh hl (c_J9_floorMod_f86c9 l D cI cZ cC cH  x6_4 x2 (fun e => by rw [e] at c_81; exact absurd c_81 (by decide))) JN.no 2 gX6_inverse_J9_floorMod_f86c9 rfl (by decide +kernel) ⟨Nat.le_of_ble_eq_true rfl, Nat.le_of_ble_eq_true rfl⟩ rfl rfl (Nat.le_of_ble_eq_true rfl) dX6_inverse_91 (fun H locs hh => ?_)
          refine W.eq (g2 := F0 m 94 ls [.long (F_J9_floorMod_f86c9 x6_4 x2)]) rfl ?_
          exact RT _ _ _ _ _ _ hh (rfl) (Or.inr (Or.inl ⟨_, rfl, by rw [hF], dX6_inverse_94, rfl⟩))
        · replace hF := hF.trans (if_neg c_81)
          refine lv_lconst (v := 0) hx hb dX6_inverse_84 (by decide) ?_
          refine lv_goto (tgt := 94) hx hb dX6_inverse_85 (by decide) ?_
          exact RT _ _ _ _ _ _ hh (rfl) (Or.inr (Or.inl ⟨_, rfl, by rw [hF], dX6_inverse_94, rfl⟩))
      refine lv_icmp_ge (tgt := 78) hx hb dX6_inverse_19 (by decide) (fun c_19 => ?_) (fun c_19 => ?_)
      · replace hF := hF.trans (if_pos c_19)
        have i_19 : 99 ≤ x12_1.toInt := ti_le.mp c_19
        exact K_78   hF _ _ _ hh (lv_sub hl [0, 1, 2, 3, 4, 5, 6] rfl)
      · replace hF := hF.trans (if_neg c_19)
        have i_19 : x12_1.toInt < 99 := ti_nle c_19
        refine lv_lload hx hb dX6_inverse_22 (lv_at hl 2 rfl) ?_
        refine lv_lconst (v := 0) hx hb dX6_inverse_24 (by decide) ?_
        refine W.lcmp hx hb dX6_inverse_25 ?_
        refine lv_if_eq (tgt := 78) hx hb dX6_inverse_26 (by decide) (fun c_26 => ?_) (fun c_26 => ?_)
        · replace hF := hF.trans (if_pos c_26)
          exact K_78   hF _ _ _ hh (lv_sub hl [0, 1, 2, 3, 4, 5, 6] rfl)
        · replace hF := hF.trans (if_neg c_26)
          refine lv_lload hx hb dX6_inverse_29 (lv_at hl 4 rfl) ?_
          refine lv_lload hx hb dX6_inverse_31 (lv_at hl 2 rfl) ?_
          refine lv_ldiv hx hb dX6_inverse_33 (lgc_ne c_26) ?_
          refine lv_lstore (lv' := [(13, .long (x4_5 / x8_3)), (12, .int x12_1), (10, .long x10_2), (8, .long x8_3), (6, .long x6_4), (4, .long x4_5), (0, .long x0), (2, .long x2)]) hx hb dX6_inverse_34 hl (Nat.le_of_ble_eq_true rfl) rfl (fun ls hl => ?_)
          refine lv_lload hx hb dX6_inverse_36 (lv_at hl 5 rfl) ?_
          refine lv_lload hx hb dX6_inverse_38 (lv_at hl 0 rfl) ?_
          refine lv_lload hx hb dX6_inverse_40 (lv_at hl 3 rfl) ?_
          refine lv_lmul hx hb dX6_inverse_42 ?_
          refine lv_lsub hx hb dX6_inverse_43 ?_
          refine lv_lstore (lv' := [(15, .long (x4_5 - ((x4_5 / x8_3) * x8_3))), (13, .long (x4_5 / x8_3)), (12, .int x12_1), (10, .long x10_2), (8, .long x8_3), (6, .long x6_4), (4, .long x4_5), (0, .long x0), (2, .long x2)]) hx hb dX6_inverse_44 hl (Nat.le_of_ble_eq_true rfl) rfl (fun ls hl => ?_)
          refine lv_lload hx hb dX6_inverse_46 (lv_at hl 5 rfl) ?_
          refine lv_lload hx hb dX6_inverse_48 (lv_at hl 1 rfl) ?_
          refine lv_lload hx hb dX6_inverse_50 (lv_at hl 3 rfl) ?_
          refine lv_lmul hx hb dX6_inverse_52 ?_
          refine lv_lsub hx hb dX6_inverse_53 ?_
          refine lv_lstore (lv' := [(17, .long (x6_4 - ((x4_5 / x8_3) * x10_2))), (15, .long (x4_5 - ((x4_5 / x8_3) * x8_3))), (13, .long (x4_5 / x8_3)), (12, .int x12_1), (10, .long x10_2), (8, .long x8_3), (6, .long x6_4), (4, .long x4_5), (0, .long x0), (2, .long x2)]) hx hb dX6_inverse_54 hl (Nat.le_of_ble_eq_true rfl) rfl (fun ls hl => ?_)
          refine lv_lload hx hb dX6_inverse_56 (lv_at hl 5 rfl) ?_
          refine lv_lstore (lv' := [(4, .long x8_3), (17, .long (x6_4 - ((x4_5 / x8_3) * x10_2))), (15, .long (x4_5 - ((x4_5 / x8_3) * x8_3))), (13, .long (x4_5 / x8_3)), (12, .int x12_1), (10, .long x10_2), (8, .long x8_3), (6, .long x6_4), (0, .long x0), (2, .long x2)]) hx hb dX6_inverse_58 hl (Nat.le_of_ble_eq_true rfl) rfl (fun ls hl => ?_)
          refine lv_lload hx hb dX6_inverse_60 (lv_at hl 5 rfl) ?_
          refine lv_lstore (lv' := [(6, .long x10_2), (4, .long x8_3), (17, .long (x6_4 - ((x4_5 / x8_3) * x10_2))), (15, .long (x4_5 - ((x4_5 / x8_3) * x8_3))), (13, .long (x4_5 / x8_3)), (12, .int x12_1), (10, .long x10_2), (8, .long x8_3), (0, .long x0), (2, .long x2)]) hx hb dX6_inverse_62 hl (Nat.le_of_ble_eq_true rfl) rfl (fun ls hl => ?_)
          refine lv_lload hx hb dX6_inverse_64 (lv_at hl 3 rfl) ?_
          refine lv_lstore (lv' := [(8, .long (x4_5 - ((x4_5 / x8_3) * x8_3))), (6, .long x10_2), (4, .long x8_3), (17, .long (x6_4 - ((x4_5 / x8_3) * x10_2))), (15, .long (x4_5 - ((x4_5 / x8_3) * x8_3))), (13, .long (x4_5 / x8_3)), (12, .int x12_1), (10, .long x10_2), (0, .long x0), (2, .long x2)]) hx hb dX6_inverse_66 hl (Nat.le_of_ble_eq_true rfl) rfl (fun ls hl => ?_)
          refine lv_lload hx hb dX6_inverse_68 (lv_at hl 3 rfl) ?_
          refine lv_lstore (lv' := [(10, .long (x6_4 - ((x4_5 / x8_3) * x10_2))), (8, .long (x4_5 - ((x4_5 / x8_3) * x8_3))), (6, .long x10_2), (4, .long x8_3), (17, .long (x6_4 - ((x4_5 / x8_3) * x10_2))), (15, .long (x4_5 - ((x4_5 / x8_3) * x8_3))), (13, .long (x4_5 / x8_3)), (12, .int x12_1), (0, .long x0), (2, .long x2)]) hx hb dX6_inverse_70 hl (Nat.le_of_ble_eq_true rfl) rfl (fun ls hl => ?_)
          refine lv_iinc (v := x12_1 + 1) (lv' := [(12, .int (x12_1 + 1)), (10, .long (x6_4 - ((x4_5 / x8_3) * x10_2))), (8, .long (x4_5 - ((x4_5 / x8_3) * x8_3))), (6, .long x10_2), (4, .long x8_3), (17, .long (x6_4 - ((x4_5 / x8_3) * x10_2))), (15, .long (x4_5 - ((x4_5 / x8_3) * x8_3))), (13, .long (x4_5 / x8_3)), (0, .long x0), (2, .long x2)]) hx hb dX6_inverse_72 hl (k := 7) rfl rfl (Nat.le_of_ble_eq_true rfl) rfl (fun ls hl => ?_)
          refine lv_goto (tgt := 15) hx hb dX6_inverse_75 (by decide) ?_
          have e_inc : (x12_1 + 1).toInt = x12_1.toInt + 1 := ti_inc (by omega)
          exact ih_15 (x12_1 + 1) (x6_4 - ((x4_5 / x8_3) * x10_2)) (x4_5 - ((x4_5 / x8_3) * x8_3)) x10_2 x8_3 (by first | with_reducible assumption | omega | decide) (by first | with_reducible assumption | omega | decide) (by omega) hF _ _ _ hh (lv_sub hl [0, 1, 2, 3, 4, 8, 9] rfl)
  exact L_15 100 0 0 x2 1 x0 (by first | with_reducible assumption | omega | decide) (by first | with_reducible assumption | omega | decide) (by first | omega | decide | (simp; done)) hF _ _ _ hh (lv_sub hl [0, 1, 2, 3, 4, 5, 6] rfl)
def F_X6_sharedWithRound (x0 : Int64) : Int64 := F_J9_max_f86c9 1 (F_X6_commonDivisor (F_J9_floorMod_f86c9 x0 1036800) 1036800)
theorem gm_X6_sharedWithRound_J9_max_f86c9_194 : GoodIn wsX6_sharedWithRound (va_wsS RX6 194 yJ9_max_f86c9 wsJ9_max_f86c9) := goodIn_of _ (by decide +kernel)
set_option maxHeartbeats 2000000 in
set_option maxRecDepth 100000 in
theorem c_X6_sharedWithRound (l : Launch) (D : va_G) (cI cZ cC cH : ClassId)  (x0 : Int64)  : MC l D (TY cI cZ cC cH) yX6_sharedWithRound wsX6_sharedWithRound 1 30 [.long x0] [] (some (.long (F_X6_sharedWithRound x0))) [] := by
  obtain ⟨R, hF⟩ : ∃ R, R = F_X6_sharedWithRound x0 := ⟨_, rfl⟩
  rw [← hF]
  refine MC.of (cc := cX6_sharedWithRound) (maxL := 2) (ret := (some .long)) RX6 rfl (by decide +kernel) rfl (Nat.le_of_ble_eq_true rfl) ?_
  intro p e s m args below meth c A Q KX RT hh ls hl
  have z0 : (0 : Int32).toInt = 0 := rfl
  have z1 : (1 : Int32).toInt = 1 := rfl
  have zm : (-1 : Int32).toInt = -1 := rfl
  have hx := KX.1
  have hb := KX.2.1
  have hl : lv_has ls 2 [(0, .long x0)] := hl
  unfold F_X6_sharedWithRound at hF
  refine lv_lconst (v := 1) hx hb dX6_sharedWithRound_0 (by decide) ?_
  refine lv_lload_n hx hb dX6_sharedWithRound_1 rfl (lv_at hl 0 rfl) ?_
  refine lv_ldc2 (v := 1036800) hx hb KX.2.2.2.1 (KX.2.2.2.2.1 _ (List.mem_of_getElem? (i := 1) rfl)) dX6_sharedWithRound_2 ?_
  refine g_callS (As := [.long x0, .long 1036800]) (rest := [.long 1]) KX rfl ⟨Nat.le_of_ble_eq_true rfl, Nat.le_of_ble_eq_true rfl⟩ hh hl (c_J9_floorMod_f86c9 l D cI cZ cC cH  x0 1036800 (by first | with_reducible assumption | omega | decide | exact tn_lt (n := 8) (by omega) (by omega))) JN.no 2 gX6_sharedWithRound_J9_floorMod_f86c9 rfl (by decide +kernel) ⟨Nat.le_of_ble_eq_true rfl, Nat.le_of_ble_eq_true rfl⟩ rfl rfl (Nat.le_of_ble_eq_true rfl) dX6_sharedWithRound_5 (fun H locs hh => ?_)
  refine W.eq (g2 := F0 m 8 ls [.long (F_J9_floorMod_f86c9 x0 1036800), .long 1]) rfl ?_
  refine lv_ldc2 (v := 1036800) hx hb KX.2.2.2.1 (KX.2.2.2.2.1 _ (List.mem_of_getElem? (i := 1) rfl)) dX6_sharedWithRound_8 ?_
  refine g_callS (As := [.long (F_J9_floorMod_f86c9 x0 1036800), .long 1036800]) (rest := [.long 1]) KX rfl ⟨Nat.le_of_ble_eq_true rfl, Nat.le_of_ble_eq_true rfl⟩ hh hl (c_X6_commonDivisor l D cI cZ cC cH  (F_J9_floorMod_f86c9 x0 1036800) 1036800 ) JN.no 2 gX6_sharedWithRound_X6_commonDivisor rfl (by decide +kernel) ⟨Nat.le_of_ble_eq_true rfl, Nat.le_of_ble_eq_true rfl⟩ rfl rfl (Nat.le_of_ble_eq_true rfl) dX6_sharedWithRound_11 (fun H locs hh => ?_)
  refine W.eq (g2 := F0 m 14 ls [.long (F_X6_commonDivisor (F_J9_floorMod_f86c9 x0 1036800) 1036800), .long 1]) rfl ?_
  refine g_callS (As := [.long 1, .long (F_X6_commonDivisor (F_J9_floorMod_f86c9 x0 1036800) 1036800)]) (rest := []) KX rfl ⟨Nat.le_of_ble_eq_true rfl, Nat.le_of_ble_eq_true rfl⟩ hh hl (c_J9_max_f86c9 l D cI cZ cC cH  1 (F_X6_commonDivisor (F_J9_floorMod_f86c9 x0 1036800) 1036800) ) JN.no 2 gm_X6_sharedWithRound_J9_max_f86c9_194 rfl (by decide +kernel) ⟨Nat.le_of_ble_eq_true rfl, Nat.le_of_ble_eq_true rfl⟩ rfl rfl (Nat.le_of_ble_eq_true rfl) dX6_sharedWithRound_14 (fun H locs hh => ?_)
  refine W.eq (g2 := F0 m 17 ls [.long (F_J9_max_f86c9 1 (F_X6_commonDivisor (F_J9_floorMod_f86c9 x0 1036800) 1036800))]) rfl ?_
  exact RT _ _ _ _ _ _ hh (rfl) (Or.inr (Or.inl ⟨_, rfl, by rw [hF], dX6_sharedWithRound_17, rfl⟩))
theorem shared_ne {x : Int64} : ¬ F_X6_sharedWithRound x = 0 := by
  unfold F_X6_sharedWithRound
  exact max1_ne
theorem X3_add_pos {m : Int32} {a b : Nat → Int32} {x y : Int32} (h0 : 0 ≤ m.toInt) (h1 : m.toInt ≤ 8) : 0 ≤ (F_X3_add m a b x y).1.toInt ∧ (F_X3_add m a b x y).1.toInt ≤ 8 := by
  unfold F_X3_add
  have e : (8 : Int32).toInt = 8 := rfl
  split
  · exact ⟨h0, h1⟩
  · rename_i h
    have h2 := ti_nle h
    show 0 ≤ (m + 1).toInt ∧ (m + 1).toInt ≤ 8
    rw [ti_inc (by omega)]; omega
def F_X6_leastFactor (x0 : Int64) (x2 : Int64) : Int64 := (if (lg_cmp ((F_J9_floorMod_f86c9 x2 1036800) - (F_J9_floorMod_f86c9 x2 1036800) / (F_X6_sharedWithRound x0) * (F_X6_sharedWithRound x0)) 0) = 0 then (((F_J9_floorMod_f86c9 x2 1036800) / (F_X6_sharedWithRound x0)) * (F_X6_inverse ((F_J9_floorMod_f86c9 x0 1036800) / (F_X6_sharedWithRound x0)) (F_J9_max_f86c9 1 (1036800 / (F_X6_sharedWithRound x0))))) - (((F_J9_floorMod_f86c9 x2 1036800) / (F_X6_sharedWithRound x0)) * (F_X6_inverse ((F_J9_floorMod_f86c9 x0 1036800) / (F_X6_sharedWithRound x0)) (F_J9_max_f86c9 1 (1036800 / (F_X6_sharedWithRound x0))))) / (F_J9_max_f86c9 1 (1036800 / (F_X6_sharedWithRound x0))) * (F_J9_max_f86c9 1 (1036800 / (F_X6_sharedWithRound x0))) else (-1))
theorem gm_X6_leastFactor_J9_max_f86c9_194 : GoodIn wsX6_leastFactor (va_wsS RX6 194 yJ9_max_f86c9 wsJ9_max_f86c9) := goodIn_of _ (by decide +kernel)
set_option maxHeartbeats 2000000 in
set_option maxRecDepth 100000 in
theorem c_X6_leastFactor (l : Launch) (D : va_G) (cI cZ cC cH : ClassId)  (x0 : Int64) (x2 : Int64)  : MC l D (TY cI cZ cC cH) yX6_leastFactor wsX6_leastFactor 2 63 [.long x0, .long x2] [] (some (.long (F_X6_leastFactor x0 x2))) [] := by
  obtain ⟨R, hF⟩ : ∃ R, R = F_X6_leastFactor x0 x2 := ⟨_, rfl⟩
  rw [← hF]
  refine MC.of (cc := cX6_leastFactor) (maxL := 12) (ret := (some .long)) RX6 rfl (by decide +kernel) rfl (Nat.le_of_ble_eq_true rfl) ?_
  intro p e s m args below meth c A Q KX RT hh ls hl
  have z0 : (0 : Int32).toInt = 0 := rfl
  have z1 : (1 : Int32).toInt = 1 := rfl
  have zm : (-1 : Int32).toInt = -1 := rfl
  have hx := KX.1
  have hb := KX.2.1
  have hl : lv_has ls 12 [(0, .long x0), (2, .long x2)] := hl
  unfold F_X6_leastFactor at hF
  refine lv_lload_n hx hb dX6_leastFactor_0 rfl (lv_at hl 0 rfl) ?_
  refine lv_ldc2 (v := 1036800) hx hb KX.2.2.2.1 (KX.2.2.2.2.1 _ (List.mem_of_getElem? (i := 1) rfl)) dX6_leastFactor_1 ?_
  refine g_callS (As := [.long x0, .long 1036800]) (rest := []) KX rfl ⟨Nat.le_of_ble_eq_true rfl, Nat.le_of_ble_eq_true rfl⟩ hh hl (c_J9_floorMod_f86c9 l D cI cZ cC cH  x0 1036800 (by first | with_reducible assumption | omega | decide | exact tn_lt (n := 8) (by omega) (by omega))) JN.no 2 gX6_leastFactor_J9_floorMod_f86c9 rfl (by decide +kernel) ⟨Nat.le_of_ble_eq_true rfl, Nat.le_of_ble_eq_true rfl⟩ rfl rfl (Nat.le_of_ble_eq_true rfl) dX6_leastFactor_4 (fun H locs hh => ?_)
  refine W.eq (g2 := F0 m 7 ls [.long (F_J9_floorMod_f86c9 x0 1036800)]) rfl ?_
  refine lv_lstore (lv' := [(4, .long (F_J9_floorMod_f86c9 x0 1036800)), (0, .long x0), (2, .long x2)]) hx hb dX6_leastFactor_7 hl (Nat.le_of_ble_eq_true rfl) rfl (fun ls hl => ?_)
  refine lv_lload_n hx hb dX6_leastFactor_9 rfl (lv_at hl 2 rfl) ?_
  refine lv_ldc2 (v := 1036800) hx hb KX.2.2.2.1 (KX.2.2.2.2.1 _ (List.mem_of_getElem? (i := 1) rfl)) dX6_leastFactor_10 ?_
  refine g_callS (As := [.long x2, .long 1036800]) (rest := []) KX rfl ⟨Nat.le_of_ble_eq_true rfl, Nat.le_of_ble_eq_true rfl⟩ hh hl (c_J9_floorMod_f86c9 l D cI cZ cC cH  x2 1036800 (by first | with_reducible assumption | omega | decide | exact tn_lt (n := 8) (by omega) (by omega))) JN.no 2 gX6_leastFactor_J9_floorMod_f86c9 rfl (by decide +kernel) ⟨Nat.le_of_ble_eq_true rfl, Nat.le_of_ble_eq_true rfl⟩ rfl rfl (Nat.le_of_ble_eq_true rfl) dX6_leastFactor_13 (fun H locs hh => ?_)
  refine W.eq (g2 := F0 m 16 ls [.long (F_J9_floorMod_f86c9 x2 1036800)]) rfl ?_
  refine lv_lstore (lv' := [(6, .long (F_J9_floorMod_f86c9 x2 1036800)), (4, .long (F_J9_floorMod_f86c9 x0 1036800)), (0, .long x0), (2, .long x2)]) hx hb dX6_leastFactor_16 hl (Nat.le_of_ble_eq_true rfl) rfl (fun ls hl => ?_)
  refine lv_lload_n hx hb dX6_leastFactor_18 rfl (lv_at hl 2 rfl) ?_
  refine g_callS (As := [.long x0]) (rest := []) KX rfl ⟨Nat.le_of_ble_eq_true rfl, Nat.le_of_ble_eq_true rfl⟩ hh hl (c_X6_sharedWithRound l D cI cZ cC cH  x0 ) JN.no 1 gX6_leastFactor_X6_sharedWithRound rfl (by decide +kernel) ⟨Nat.le_of_ble_eq_true rfl, Nat.le_of_ble_eq_true rfl⟩ rfl rfl (Nat.le_of_ble_eq_true rfl) dX6_leastFactor_19 (fun H locs hh => ?_)
  refine W.eq (g2 := F0 m 22 ls [.long (F_X6_sharedWithRound x0)]) rfl ?_
  refine lv_lstore (lv' := [(8, .long (F_X6_sharedWithRound x0)), (6, .long (F_J9_floorMod_f86c9 x2 1036800)), (4, .long (F_J9_floorMod_f86c9 x0 1036800)), (0, .long x0), (2, .long x2)]) hx hb dX6_leastFactor_22 hl (Nat.le_of_ble_eq_true rfl) rfl (fun ls hl => ?_)
  refine lv_lload hx hb dX6_leastFactor_24 (lv_at hl 1 rfl) ?_
  refine lv_lload hx hb dX6_leastFactor_26 (lv_at hl 0 rfl) ?_
  refine lv_lrem hx hb dX6_leastFactor_28 (shared_ne) ?_
  refine lv_lconst (v := 0) hx hb dX6_leastFactor_29 (by decide) ?_
  refine W.lcmp hx hb dX6_leastFactor_30 ?_
  refine lv_if_eq (tgt := 38) hx hb dX6_leastFactor_31 (by decide) (fun c_31 => ?_) (fun c_31 => ?_)
  · replace hF := hF.trans (if_pos c_31)
    refine lv_lconst (v := 1) hx hb dX6_leastFactor_38 (by decide) ?_
    refine lv_ldc2 (v := 1036800) hx hb KX.2.2.2.1 (KX.2.2.2.2.1 _ (List.mem_of_getElem? (i := 1) rfl)) dX6_leastFactor_39 ?_
    refine lv_lload hx hb dX6_leastFactor_42 (lv_at hl 0 rfl) ?_
    refine lv_ldiv hx hb dX6_leastFactor_44 (shared_ne) ?_
    refine g_callS (As := [.long 1, .long (1036800 / (F_X6_sharedWithRound x0))]) (rest := []) KX rfl ⟨Nat.le_of_ble_eq_true rfl, Nat.le_of_ble_eq_true rfl⟩ hh hl (c_J9_max_f86c9 l D cI cZ cC cH  1 (1036800 / (F_X6_sharedWithRound x0)) ) JN.no 2 gm_X6_leastFactor_J9_max_f86c9_194 rfl (by decide +kernel) ⟨Nat.le_of_ble_eq_true rfl, Nat.le_of_ble_eq_true rfl⟩ rfl rfl (Nat.le_of_ble_eq_true rfl) dX6_leastFactor_45 (fun H locs hh => ?_)
    refine W.eq (g2 := F0 m 48 ls [.long (F_J9_max_f86c9 1 (1036800 / (F_X6_sharedWithRound x0)))]) rfl ?_
    refine lv_lstore (lv' := [(10, .long (F_J9_max_f86c9 1 (1036800 / (F_X6_sharedWithRound x0)))), (8, .long (F_X6_sharedWithRound x0)), (6, .long (F_J9_floorMod_f86c9 x2 1036800)), (4, .long (F_J9_floorMod_f86c9 x0 1036800)), (0, .long x0), (2, .long x2)]) hx hb dX6_leastFactor_48 hl (Nat.le_of_ble_eq_true rfl) rfl (fun ls hl => ?_)
    refine lv_lload hx hb dX6_leastFactor_50 (lv_at hl 2 rfl) ?_
    refine lv_lload hx hb dX6_leastFactor_52 (lv_at hl 1 rfl) ?_
    refine lv_ldiv hx hb dX6_leastFactor_54 (shared_ne) ?_
    refine lv_lload hx hb dX6_leastFactor_55 (lv_at hl 3 rfl) ?_
    refine lv_lload hx hb dX6_leastFactor_57 (lv_at hl 1 rfl) ?_
    refine lv_ldiv hx hb dX6_leastFactor_59 (shared_ne) ?_
    refine lv_lload hx hb dX6_leastFactor_60 (lv_at hl 0 rfl) ?_
    refine g_callS (As := [.long ((F_J9_floorMod_f86c9 x0 1036800) / (F_X6_sharedWithRound x0)), .long (F_J9_max_f86c9 1 (1036800 / (F_X6_sharedWithRound x0)))]) (rest := [.long ((F_J9_floorMod_f86c9 x2 1036800) / (F_X6_sharedWithRound x0))]) KX rfl ⟨Nat.le_of_ble_eq_true rfl, Nat.le_of_ble_eq_true rfl⟩ hh hl (c_X6_inverse l D cI cZ cC cH  ((F_J9_floorMod_f86c9 x0 1036800) / (F_X6_sharedWithRound x0)) (F_J9_max_f86c9 1 (1036800 / (F_X6_sharedWithRound x0))) ) JN.no 2 gX6_leastFactor_X6_inverse rfl (by decide +kernel) ⟨Nat.le_of_ble_eq_true rfl, Nat.le_of_ble_eq_true rfl⟩ rfl rfl (Nat.le_of_ble_eq_true rfl) dX6_leastFactor_62 (fun H locs hh => ?_)
    refine W.eq (g2 := F0 m 65 ls [.long (F_X6_inverse ((F_J9_floorMod_f86c9 x0 1036800) / (F_X6_sharedWithRound x0)) (F_J9_max_f86c9 1 (1036800 / (F_X6_sharedWithRound x0)))), .long ((F_J9_floorMod_f86c9 x2 1036800) / (F_X6_sharedWithRound x0))]) rfl ?_
    refine lv_lmul hx hb dX6_leastFactor_65 ?_
    refine lv_lload hx hb dX6_leastFactor_66 (lv_at hl 0 rfl) ?_
    refine lv_lrem hx hb dX6_leastFactor_68 (max1_ne) ?_
    exact RT _ _ _ _ _ _ hh (rfl) (Or.inr (Or.inl ⟨_, rfl, by rw [hF], dX6_leastFactor_69, rfl⟩))
  · replace hF := hF.trans (if_neg c_31)
    refine lv_ldc2 (v := (-1)) hx hb KX.2.2.2.1 (KX.2.2.2.2.1 _ (List.mem_of_getElem? (i := 2) rfl)) dX6_leastFactor_34 ?_
    exact RT _ _ _ _ _ _ hh (rfl) (Or.inr (Or.inl ⟨_, rfl, by rw [hF], dX6_leastFactor_37, rfl⟩))
