def F_J6_bitCount_0f7a4_41  (x0_4 : Int32) : Int32 := (x0_4 + ((x0_4.toUInt32 >>> ((16 : Int32).toUInt32 &&& Int32.toUInt32 31)).toInt32)) &&& 63
def F_J6_bitCount_0f7a4_34  (x0_3 : Int32) : Int32 := (F_J6_bitCount_0f7a4_41 (x0_3 + ((x0_3.toUInt32 >>> ((8 : Int32).toUInt32 &&& Int32.toUInt32 31)).toInt32)))
def F_J6_bitCount_0f7a4_24  (x0_2 : Int32) : Int32 := (F_J6_bitCount_0f7a4_34 ((x0_2 + ((x0_2.toUInt32 >>> ((4 : Int32).toUInt32 &&& Int32.toUInt32 31)).toInt32)) &&& 252645135))
def F_J6_bitCount_0f7a4_10  (x0_1 : Int32) : Int32 := (F_J6_bitCount_0f7a4_24 ((x0_1 &&& 858993459) + (((x0_1.toUInt32 >>> ((2 : Int32).toUInt32 &&& Int32.toUInt32 31)).toInt32) &&& 858993459)))
def F_J6_bitCount_0f7a4 (x0 : Int32) : Int32 := (F_J6_bitCount_0f7a4_10 (x0 - (((x0.toUInt32 >>> ((1 : Int32).toUInt32 &&& Int32.toUInt32 31)).toInt32) &&& 1431655765)))
set_option maxHeartbeats 2000000 in
set_option maxRecDepth 100000 in
theorem c_J6_bitCount_0f7a4 (l : Launch) (D : va_G) (cI cZ cC cH : ClassId)  (x0 : Int32)  : MC l D (TY cI cZ cC cH) yJ6_bitCount_0f7a4 wsJ6_bitCount_0f7a4 0 0 [.int x0] [] (some (.int (F_J6_bitCount_0f7a4 x0))) [] := by
  obtain ⟨R, hF⟩ : ∃ R, R = F_J6_bitCount_0f7a4 x0 := ⟨_, rfl⟩
  rw [← hF]
  refine MC.ofF (cc := cJ6_bitCount_0f7a4) (maxL := 1) (ret := (some .int)) RJ6 rfl (by decide +kernel) rfl (Nat.le_of_ble_eq_true rfl) ?_
  intro p e s m args below meth c A Q KX RT hh ls hl
  have z0 : (0 : Int32).toInt = 0 := rfl
  have z1 : (1 : Int32).toInt = 1 := rfl
  have zm : (-1 : Int32).toInt = -1 := rfl
  have hx := KX.1
  have hb := KX.2.1
  have hl : lv_has ls 1 [(0, .int x0)] := hl
  unfold F_J6_bitCount_0f7a4 at hF
  refine lv_iload_n hx hb dJ6_bitCount_0f7a4_0 rfl (lv_at hl 0 rfl) ?_
  refine lv_iload_n hx hb dJ6_bitCount_0f7a4_1 rfl (lv_at hl 0 rfl) ?_
  refine lv_iconst (v := 1) hx hb dJ6_bitCount_0f7a4_2 (by decide) ?_
  refine lv_iushr hx hb dJ6_bitCount_0f7a4_3 rfl ?_
  refine lv_ldcw (v := 1431655765) hx hb KX.2.2.2.1 (KX.2.2.2.2.1 _ (List.mem_of_getElem? (i := 1) rfl)) dJ6_bitCount_0f7a4_4 ?_
  refine lv_iand hx hb dJ6_bitCount_0f7a4_7 ?_
  refine lv_isub hx hb dJ6_bitCount_0f7a4_8 ?_
  refine lv_istore_n (lv' := [(0, .int (x0 - (((x0.toUInt32 >>> ((1 : Int32).toUInt32 &&& Int32.toUInt32 31)).toInt32) &&& 1431655765)))]) hx hb dJ6_bitCount_0f7a4_9 rfl hl (Nat.le_of_ble_eq_true rfl) rfl (fun ls hl => ?_)
  have K_10 : ∀ (x0_1 : Int32) (_ : R = (F_J6_bitCount_0f7a4_10) x0_1) (ls : Array Slot) (H : Heap) (locs : List Loc) (_ : HS D A s.heap [] H locs) (_ : lv_has ls 1 [(0, .int x0_1)]), W p l e { frames := 0, cells := 0, slots := 0, locals := 0 } s m args below meth c H locs 0 0 Q (F0 m 10 ls []) := by
    intro x0_1 hF ls H locs hh hl
    unfold F_J6_bitCount_0f7a4_10 at hF
    refine lv_iload_n hx hb dJ6_bitCount_0f7a4_10 rfl (lv_at hl 0 rfl) ?_
    refine lv_ldcw (v := 858993459) hx hb KX.2.2.2.1 (KX.2.2.2.2.1 _ (List.mem_of_getElem? (i := 2) rfl)) dJ6_bitCount_0f7a4_11 ?_
    refine lv_iand hx hb dJ6_bitCount_0f7a4_14 ?_
    refine lv_iload_n hx hb dJ6_bitCount_0f7a4_15 rfl (lv_at hl 0 rfl) ?_
    refine lv_iconst (v := 2) hx hb dJ6_bitCount_0f7a4_16 (by decide) ?_
    refine lv_iushr hx hb dJ6_bitCount_0f7a4_17 rfl ?_
    refine lv_ldcw (v := 858993459) hx hb KX.2.2.2.1 (KX.2.2.2.2.1 _ (List.mem_of_getElem? (i := 2) rfl)) dJ6_bitCount_0f7a4_18 ?_
    refine lv_iand hx hb dJ6_bitCount_0f7a4_21 ?_
    refine lv_iadd hx hb dJ6_bitCount_0f7a4_22 ?_
    refine lv_istore_n (lv' := [(0, .int ((x0_1 &&& 858993459) + (((x0_1.toUInt32 >>> ((2 : Int32).toUInt32 &&& Int32.toUInt32 31)).toInt32) &&& 858993459)))]) hx hb dJ6_bitCount_0f7a4_23 rfl hl (Nat.le_of_ble_eq_true rfl) rfl (fun ls hl => ?_)
    have K_24 : ∀ (x0_2 : Int32) (_ : R = (F_J6_bitCount_0f7a4_24) x0_2) (ls : Array Slot) (H : Heap) (locs : List Loc) (_ : HS D A s.heap [] H locs) (_ : lv_has ls 1 [(0, .int x0_2)]), W p l e { frames := 0, cells := 0, slots := 0, locals := 0 } s m args below meth c H locs 0 0 Q (F0 m 24 ls []) := by
      intro x0_2 hF ls H locs hh hl
      unfold F_J6_bitCount_0f7a4_24 at hF
      refine lv_iload_n hx hb dJ6_bitCount_0f7a4_24 rfl (lv_at hl 0 rfl) ?_
      refine lv_iload_n hx hb dJ6_bitCount_0f7a4_25 rfl (lv_at hl 0 rfl) ?_
      refine lv_iconst (v := 4) hx hb dJ6_bitCount_0f7a4_26 (by decide) ?_
      refine lv_iushr hx hb dJ6_bitCount_0f7a4_27 rfl ?_
      refine lv_iadd hx hb dJ6_bitCount_0f7a4_28 ?_
      refine lv_ldcw (v := 252645135) hx hb KX.2.2.2.1 (KX.2.2.2.2.1 _ (List.mem_of_getElem? (i := 3) rfl)) dJ6_bitCount_0f7a4_29 ?_
      refine lv_iand hx hb dJ6_bitCount_0f7a4_32 ?_
      refine lv_istore_n (lv' := [(0, .int ((x0_2 + ((x0_2.toUInt32 >>> ((4 : Int32).toUInt32 &&& Int32.toUInt32 31)).toInt32)) &&& 252645135))]) hx hb dJ6_bitCount_0f7a4_33 rfl hl (Nat.le_of_ble_eq_true rfl) rfl (fun ls hl => ?_)
      have K_34 : ∀ (x0_3 : Int32) (_ : R = (F_J6_bitCount_0f7a4_34) x0_3) (ls : Array Slot) (H : Heap) (locs : List Loc) (_ : HS D A s.heap [] H locs) (_ : lv_has ls 1 [(0, .int x0_3)]), W p l e { frames := 0, cells := 0, slots := 0, locals := 0 } s m args below meth c H locs 0 0 Q (F0 m 34 ls []) := by
        intro x0_3 hF ls H locs hh hl
        unfold F_J6_bitCount_0f7a4_34 at hF
        refine lv_iload_n hx hb dJ6_bitCount_0f7a4_34 rfl (lv_at hl 0 rfl) ?_
        refine lv_iload_n hx hb dJ6_bitCount_0f7a4_35 rfl (lv_at hl 0 rfl) ?_
        refine lv_bipush (v := 8) hx hb dJ6_bitCount_0f7a4_36 (by decide) ?_
        refine lv_iushr hx hb dJ6_bitCount_0f7a4_38 rfl ?_
        refine lv_iadd hx hb dJ6_bitCount_0f7a4_39 ?_
        refine lv_istore_n (lv' := [(0, .int (x0_3 + ((x0_3.toUInt32 >>> ((8 : Int32).toUInt32 &&& Int32.toUInt32 31)).toInt32)))]) hx hb dJ6_bitCount_0f7a4_40 rfl hl (Nat.le_of_ble_eq_true rfl) rfl (fun ls hl => ?_)
        have K_41 : ∀ (x0_4 : Int32) (_ : R = (F_J6_bitCount_0f7a4_41) x0_4) (ls : Array Slot) (H : Heap) (locs : List Loc) (_ : HS D A s.heap [] H locs) (_ : lv_has ls 1 [(0, .int x0_4)]), W p l e { frames := 0, cells := 0, slots := 0, locals := 0 } s m args below meth c H locs 0 0 Q (F0 m 41 ls []) := by
          intro x0_4 hF ls H locs hh hl
          unfold F_J6_bitCount_0f7a4_41 at hF
          refine lv_iload_n hx hb dJ6_bitCount_0f7a4_41 rfl (lv_at hl 0 rfl) ?_
          refine lv_iload_n hx hb dJ6_bitCount_0f7a4_42 rfl (lv_at hl 0 rfl) ?_
          refine lv_bipush (v := 16) hx hb dJ6_bitCount_0f7a4_43 (by decide) ?_
          refine lv_iushr hx hb dJ6_bitCount_0f7a4_45 rfl ?_
          refine lv_iadd hx hb dJ6_bitCount_0f7a4_46 ?_
          refine lv_istore_n (lv' := [(0, .int (x0_4 + ((x0_4.toUInt32 >>> ((16 : Int32).toUInt32 &&& Int32.toUInt32 31)).toInt32)))]) hx hb dJ6_bitCount_0f7a4_47 rfl hl (Nat.le_of_ble_eq_true rfl) rfl (fun ls hl => ?_)
          refine lv_iload_n hx hb dJ6_bitCount_0f7a4_48 rfl (lv_at hl 0 rfl) ?_
          refine lv_bipush (v := 63) hx hb dJ6_bitCount_0f7a4_49 (by decide) ?_
          refine lv_iand hx hb dJ6_bitCount_0f7a4_51 ?_
          exact RT _ _ _ _ _ _ hh (rfl) (Or.inl ⟨_, rfl, by rw [hF], dJ6_bitCount_0f7a4_52, Or.inl rfl⟩)
        exact K_41 (x0_3 + ((x0_3.toUInt32 >>> ((8 : Int32).toUInt32 &&& Int32.toUInt32 31)).toInt32))  hF _ _ _ hh (lv_sub hl [0] rfl)
      exact K_34 ((x0_2 + ((x0_2.toUInt32 >>> ((4 : Int32).toUInt32 &&& Int32.toUInt32 31)).toInt32)) &&& 252645135)  hF _ _ _ hh (lv_sub hl [0] rfl)
    exact K_24 ((x0_1 &&& 858993459) + (((x0_1.toUInt32 >>> ((2 : Int32).toUInt32 &&& Int32.toUInt32 31)).toInt32) &&& 858993459))  hF _ _ _ hh (lv_sub hl [0] rfl)
  exact K_10 (x0 - (((x0.toUInt32 >>> ((1 : Int32).toUInt32 &&& Int32.toUInt32 31)).toInt32) &&& 1431655765))  hF _ _ _ hh (lv_sub hl [0] rfl)
def F_J9_floorDiv_7cf53 (x0 : Int32) (x1 : Int32) : Int32 := (if 0 ≤ (x0 ^^^ x1) then x0 / x1 else (if ((x0 / x1) * x1) = x0 then x0 / x1 else (x0 / x1) - 1))
set_option maxHeartbeats 2000000 in
set_option maxRecDepth 100000 in
theorem c_J9_floorDiv_7cf53 (l : Launch) (D : va_G) (cI cZ cC cH : ClassId)  (x0 : Int32) (x1 : Int32) (hne : ¬ x1 = 0) : MC l D (TY cI cZ cC cH) yJ9_floorDiv_7cf53 wsJ9_floorDiv_7cf53 0 0 [.int x0, .int x1] [] (some (.int (F_J9_floorDiv_7cf53 x0 x1))) [] := by
  obtain ⟨R, hF⟩ : ∃ R, R = F_J9_floorDiv_7cf53 x0 x1 := ⟨_, rfl⟩
  rw [← hF]
  refine MC.ofF (cc := cJ9_floorDiv_7cf53) (maxL := 3) (ret := (some .int)) RJ9 rfl (by decide +kernel) rfl (Nat.le_of_ble_eq_true rfl) ?_
  intro p e s m args below meth c A Q KX RT hh ls hl
  have z0 : (0 : Int32).toInt = 0 := rfl
  have z1 : (1 : Int32).toInt = 1 := rfl
  have zm : (-1 : Int32).toInt = -1 := rfl
  have hx := KX.1
  have hb := KX.2.1
  have hl : lv_has ls 3 [(0, .int x0), (1, .int x1)] := hl
  unfold F_J9_floorDiv_7cf53 at hF
  refine lv_iload_n hx hb dJ9_floorDiv_7cf53_0 rfl (lv_at hl 0 rfl) ?_
  refine lv_iload_n hx hb dJ9_floorDiv_7cf53_1 rfl (lv_at hl 1 rfl) ?_
  refine lv_idiv hx hb dJ9_floorDiv_7cf53_2 (hne) ?_
  refine lv_istore_n (lv' := [(2, .int (x0 / x1)), (0, .int x0), (1, .int x1)]) hx hb dJ9_floorDiv_7cf53_3 rfl hl (Nat.le_of_ble_eq_true rfl) rfl (fun ls hl => ?_)
  refine lv_iload_n hx hb dJ9_floorDiv_7cf53_4 rfl (lv_at hl 1 rfl) ?_
  refine lv_iload_n hx hb dJ9_floorDiv_7cf53_5 rfl (lv_at hl 2 rfl) ?_
  refine lv_ixor hx hb dJ9_floorDiv_7cf53_6 ?_
  refine lv_if_ge (tgt := 21) hx hb dJ9_floorDiv_7cf53_7 (by decide) (fun c_7 => ?_) (fun c_7 => ?_)
  · replace hF := hF.trans (if_pos c_7)
    have i_7 : 0 ≤ (x0 ^^^ x1).toInt := ti_le.mp c_7
    refine lv_iload_n hx hb dJ9_floorDiv_7cf53_21 rfl (lv_at hl 0 rfl) ?_
    exact RT _ _ _ _ _ _ hh (rfl) (Or.inl ⟨_, rfl, by rw [hF], dJ9_floorDiv_7cf53_22, Or.inl rfl⟩)
  · replace hF := hF.trans (if_neg c_7)
    have i_7 : (x0 ^^^ x1).toInt < 0 := ti_nle c_7
    refine lv_iload_n hx hb dJ9_floorDiv_7cf53_10 rfl (lv_at hl 0 rfl) ?_
    refine lv_iload_n hx hb dJ9_floorDiv_7cf53_11 rfl (lv_at hl 2 rfl) ?_
    refine lv_imul hx hb dJ9_floorDiv_7cf53_12 ?_
    refine lv_iload_n hx hb dJ9_floorDiv_7cf53_13 rfl (lv_at hl 1 rfl) ?_
    refine lv_icmp_eq (tgt := 21) hx hb dJ9_floorDiv_7cf53_14 (by decide) (fun c_14 => ?_) (fun c_14 => ?_)
    · replace hF := hF.trans (if_pos c_14)
      have i_14 : ((x0 / x1) * x1).toInt = x0.toInt := congrArg Int32.toInt c_14
      refine lv_iload_n hx hb dJ9_floorDiv_7cf53_21 rfl (lv_at hl 0 rfl) ?_
      exact RT _ _ _ _ _ _ hh (rfl) (Or.inl ⟨_, rfl, by rw [hF], dJ9_floorDiv_7cf53_22, Or.inl rfl⟩)
    · replace hF := hF.trans (if_neg c_14)
      have i_14 : ¬ ((x0 / x1) * x1).toInt = x0.toInt := ti_ne c_14
      refine lv_iload_n hx hb dJ9_floorDiv_7cf53_17 rfl (lv_at hl 0 rfl) ?_
      refine lv_iconst (v := 1) hx hb dJ9_floorDiv_7cf53_18 (by decide) ?_
      refine lv_isub hx hb dJ9_floorDiv_7cf53_19 ?_
      exact RT _ _ _ _ _ _ hh (rfl) (Or.inl ⟨_, rfl, by rw [hF], dJ9_floorDiv_7cf53_20, Or.inl rfl⟩)
def F_J9_floorMod_7cf53 (x0 : Int32) (x1 : Int32) : Int32 := (if 0 ≤ (x0 ^^^ x1) then x0 - x0 / x1 * x1 else (if (x0 - x0 / x1 * x1) = 0 then x0 - x0 / x1 * x1 else (x0 - x0 / x1 * x1) + x1))
set_option maxHeartbeats 2000000 in
set_option maxRecDepth 100000 in
theorem c_J9_floorMod_7cf53 (l : Launch) (D : va_G) (cI cZ cC cH : ClassId)  (x0 : Int32) (x1 : Int32) (hne : ¬ x1 = 0) : MC l D (TY cI cZ cC cH) yJ9_floorMod_7cf53 wsJ9_floorMod_7cf53 0 0 [.int x0, .int x1] [] (some (.int (F_J9_floorMod_7cf53 x0 x1))) [] := by
  obtain ⟨R, hF⟩ : ∃ R, R = F_J9_floorMod_7cf53 x0 x1 := ⟨_, rfl⟩
  rw [← hF]
  refine MC.ofF (cc := cJ9_floorMod_7cf53) (maxL := 3) (ret := (some .int)) RJ9 rfl (by decide +kernel) rfl (Nat.le_of_ble_eq_true rfl) ?_
  intro p e s m args below meth c A Q KX RT hh ls hl
  have z0 : (0 : Int32).toInt = 0 := rfl
  have z1 : (1 : Int32).toInt = 1 := rfl
  have zm : (-1 : Int32).toInt = -1 := rfl
  have hx := KX.1
  have hb := KX.2.1
  have hl : lv_has ls 3 [(0, .int x0), (1, .int x1)] := hl
  unfold F_J9_floorMod_7cf53 at hF
  refine lv_iload_n hx hb dJ9_floorMod_7cf53_0 rfl (lv_at hl 0 rfl) ?_
  refine lv_iload_n hx hb dJ9_floorMod_7cf53_1 rfl (lv_at hl 1 rfl) ?_
  refine lv_irem hx hb dJ9_floorMod_7cf53_2 (hne) ?_
  refine lv_istore_n (lv' := [(2, .int (x0 - x0 / x1 * x1)), (0, .int x0), (1, .int x1)]) hx hb dJ9_floorMod_7cf53_3 rfl hl (Nat.le_of_ble_eq_true rfl) rfl (fun ls hl => ?_)
  refine lv_iload_n hx hb dJ9_floorMod_7cf53_4 rfl (lv_at hl 1 rfl) ?_
  refine lv_iload_n hx hb dJ9_floorMod_7cf53_5 rfl (lv_at hl 2 rfl) ?_
  refine lv_ixor hx hb dJ9_floorMod_7cf53_6 ?_
  refine lv_if_ge (tgt := 18) hx hb dJ9_floorMod_7cf53_7 (by decide) (fun c_7 => ?_) (fun c_7 => ?_)
  · replace hF := hF.trans (if_pos c_7)
    have i_7 : 0 ≤ (x0 ^^^ x1).toInt := ti_le.mp c_7
    refine lv_iload_n hx hb dJ9_floorMod_7cf53_18 rfl (lv_at hl 0 rfl) ?_
    exact RT _ _ _ _ _ _ hh (rfl) (Or.inl ⟨_, rfl, by rw [hF], dJ9_floorMod_7cf53_19, Or.inl rfl⟩)
  · replace hF := hF.trans (if_neg c_7)
    have i_7 : (x0 ^^^ x1).toInt < 0 := ti_nle c_7
    refine lv_iload_n hx hb dJ9_floorMod_7cf53_10 rfl (lv_at hl 0 rfl) ?_
    refine lv_if_eq (tgt := 18) hx hb dJ9_floorMod_7cf53_11 (by decide) (fun c_11 => ?_) (fun c_11 => ?_)
    · replace hF := hF.trans (if_pos c_11)
      have i_11 : (x0 - x0 / x1 * x1).toInt = 0 := congrArg Int32.toInt c_11
      refine lv_iload_n hx hb dJ9_floorMod_7cf53_18 rfl (lv_at hl 0 rfl) ?_
      exact RT _ _ _ _ _ _ hh (rfl) (Or.inl ⟨_, rfl, by rw [hF], dJ9_floorMod_7cf53_19, Or.inl rfl⟩)
    · replace hF := hF.trans (if_neg c_11)
      have i_11 : ¬ (x0 - x0 / x1 * x1).toInt = 0 := ti_ne c_11
      refine lv_iload_n hx hb dJ9_floorMod_7cf53_14 rfl (lv_at hl 0 rfl) ?_
      refine lv_iload_n hx hb dJ9_floorMod_7cf53_15 rfl (lv_at hl 2 rfl) ?_
      refine lv_iadd hx hb dJ9_floorMod_7cf53_16 ?_
      exact RT _ _ _ _ _ _ hh (rfl) (Or.inl ⟨_, rfl, by rw [hF], dJ9_floorMod_7cf53_17, Or.inl rfl⟩)
def F_J9_floorMod_f86c9 (x0 : Int64) (x2 : Int64) : Int64 := (if 0 ≤ (lg_cmp (x0 ^^^ x2) 0) then x0 - x0 / x2 * x2 else (if (lg_cmp (x0 - x0 / x2 * x2) 0) = 0 then x0 - x0 / x2 * x2 else (x0 - x0 / x2 * x2) + x2))
set_option maxHeartbeats 2000000 in
set_option maxRecDepth 100000 in
theorem c_J9_floorMod_f86c9 (l : Launch) (D : va_G) (cI cZ cC cH : ClassId)  (x0 : Int64) (x2 : Int64) (hne : ¬ x2 = 0) : MC l D (TY cI cZ cC cH) yJ9_floorMod_f86c9 wsJ9_floorMod_f86c9 0 0 [.long x0, .long x2] [] (some (.long (F_J9_floorMod_f86c9 x0 x2))) [] := by
  obtain ⟨R, hF⟩ : ∃ R, R = F_J9_floorMod_f86c9 x0 x2 := ⟨_, rfl⟩
  rw [← hF]
  refine MC.ofF (cc := cJ9_floorMod_f86c9) (maxL := 6) (ret := (some .long)) RJ9 rfl (by decide +kernel) rfl (Nat.le_of_ble_eq_true rfl) ?_
  intro p e s m args below meth c A Q KX RT hh ls hl
  have z0 : (0 : Int32).toInt = 0 := rfl
  have z1 : (1 : Int32).toInt = 1 := rfl
  have zm : (-1 : Int32).toInt = -1 := rfl
  have hx := KX.1
  have hb := KX.2.1
  have hl : lv_has ls 6 [(0, .long x0), (2, .long x2)] := hl
  unfold F_J9_floorMod_f86c9 at hF
  refine lv_lload_n hx hb dJ9_floorMod_f86c9_0 rfl (lv_at hl 0 rfl) ?_
  refine lv_lload_n hx hb dJ9_floorMod_f86c9_1 rfl (lv_at hl 1 rfl) ?_
  refine lv_lrem hx hb dJ9_floorMod_f86c9_2 (hne) ?_
  refine lv_lstore (lv' := [(4, .long (x0 - x0 / x2 * x2)), (0, .long x0), (2, .long x2)]) hx hb dJ9_floorMod_f86c9_3 hl (Nat.le_of_ble_eq_true rfl) rfl (fun ls hl => ?_)
  refine lv_lload_n hx hb dJ9_floorMod_f86c9_5 rfl (lv_at hl 1 rfl) ?_
  refine lv_lload_n hx hb dJ9_floorMod_f86c9_6 rfl (lv_at hl 2 rfl) ?_
  refine lv_lxor hx hb dJ9_floorMod_f86c9_7 ?_
  refine lv_lconst (v := 0) hx hb dJ9_floorMod_f86c9_8 (by decide) ?_
  refine W.lcmp hx hb dJ9_floorMod_f86c9_9 ?_
  refine lv_if_ge (tgt := 25) hx hb dJ9_floorMod_f86c9_10 (by decide) (fun c_10 => ?_) (fun c_10 => ?_)
  · replace hF := hF.trans (if_pos c_10)
    refine lv_lload hx hb dJ9_floorMod_f86c9_25 (lv_at hl 0 rfl) ?_
    exact RT _ _ _ _ _ _ hh (rfl) (Or.inr (Or.inl ⟨_, rfl, by rw [hF], dJ9_floorMod_f86c9_27, rfl⟩))
  · replace hF := hF.trans (if_neg c_10)
    refine lv_lload hx hb dJ9_floorMod_f86c9_13 (lv_at hl 0 rfl) ?_
    refine lv_lconst (v := 0) hx hb dJ9_floorMod_f86c9_15 (by decide) ?_
    refine W.lcmp hx hb dJ9_floorMod_f86c9_16 ?_
    refine lv_if_eq (tgt := 25) hx hb dJ9_floorMod_f86c9_17 (by decide) (fun c_17 => ?_) (fun c_17 => ?_)
    · replace hF := hF.trans (if_pos c_17)
      refine lv_lload hx hb dJ9_floorMod_f86c9_25 (lv_at hl 0 rfl) ?_
      exact RT _ _ _ _ _ _ hh (rfl) (Or.inr (Or.inl ⟨_, rfl, by rw [hF], dJ9_floorMod_f86c9_27, rfl⟩))
    · replace hF := hF.trans (if_neg c_17)
      refine lv_lload hx hb dJ9_floorMod_f86c9_20 (lv_at hl 0 rfl) ?_
      refine lv_lload_n hx hb dJ9_floorMod_f86c9_22 rfl (lv_at hl 2 rfl) ?_
      refine lv_ladd hx hb dJ9_floorMod_f86c9_23 ?_
      exact RT _ _ _ _ _ _ hh (rfl) (Or.inr (Or.inl ⟨_, rfl, by rw [hF], dJ9_floorMod_f86c9_24, rfl⟩))
def F_J9_abs_0f7a4 (x0 : Int32) : Int32 := (if 0 ≤ x0 then x0 else -x0)
set_option maxHeartbeats 2000000 in
set_option maxRecDepth 100000 in
theorem c_J9_abs_0f7a4 (l : Launch) (D : va_G) (cI cZ cC cH : ClassId)  (x0 : Int32)  : MC l D (TY cI cZ cC cH) yJ9_abs_0f7a4 wsJ9_abs_0f7a4 0 0 [.int x0] [] (some (.int (F_J9_abs_0f7a4 x0))) [] := by
  obtain ⟨R, hF⟩ : ∃ R, R = F_J9_abs_0f7a4 x0 := ⟨_, rfl⟩
  rw [← hF]
  refine MC.ofF (cc := cJ9_abs_0f7a4) (maxL := 1) (ret := (some .int)) RJ9 rfl (by decide +kernel) rfl (Nat.le_of_ble_eq_true rfl) ?_
  intro p e s m args below meth c A Q KX RT hh ls hl
  have z0 : (0 : Int32).toInt = 0 := rfl
  have z1 : (1 : Int32).toInt = 1 := rfl
  have zm : (-1 : Int32).toInt = -1 := rfl
  have hx := KX.1
  have hb := KX.2.1
  have hl : lv_has ls 1 [(0, .int x0)] := hl
  unfold F_J9_abs_0f7a4 at hF
  refine lv_iload_n hx hb dJ9_abs_0f7a4_0 rfl (lv_at hl 0 rfl) ?_
  refine lv_if_ge (tgt := 9) hx hb dJ9_abs_0f7a4_1 (by decide) (fun c_1 => ?_) (fun c_1 => ?_)
  · replace hF := hF.trans (if_pos c_1)
    have i_1 : 0 ≤ x0.toInt := ti_le.mp c_1
    refine lv_iload_n hx hb dJ9_abs_0f7a4_9 rfl (lv_at hl 0 rfl) ?_
    exact RT _ _ _ _ _ _ hh (rfl) (Or.inl ⟨_, rfl, by rw [hF], dJ9_abs_0f7a4_10, Or.inl rfl⟩)
  · replace hF := hF.trans (if_neg c_1)
    have i_1 : x0.toInt < 0 := ti_nle c_1
    refine lv_iload_n hx hb dJ9_abs_0f7a4_4 rfl (lv_at hl 0 rfl) ?_
    refine lv_ineg hx hb dJ9_abs_0f7a4_5 ?_
    refine lv_goto (tgt := 10) hx hb dJ9_abs_0f7a4_6 (by decide) ?_
    exact RT _ _ _ _ _ _ hh (rfl) (Or.inl ⟨_, rfl, by rw [hF], dJ9_abs_0f7a4_10, Or.inl rfl⟩)
def F_J9_abs_067f4 (x0 : Int64) : Int64 := (if 0 ≤ (lg_cmp x0 0) then x0 else -x0)
set_option maxHeartbeats 2000000 in
set_option maxRecDepth 100000 in
theorem c_J9_abs_067f4 (l : Launch) (D : va_G) (cI cZ cC cH : ClassId)  (x0 : Int64)  : MC l D (TY cI cZ cC cH) yJ9_abs_067f4 wsJ9_abs_067f4 0 0 [.long x0] [] (some (.long (F_J9_abs_067f4 x0))) [] := by
  obtain ⟨R, hF⟩ : ∃ R, R = F_J9_abs_067f4 x0 := ⟨_, rfl⟩
  rw [← hF]
  refine MC.ofF (cc := cJ9_abs_067f4) (maxL := 2) (ret := (some .long)) RJ9 rfl (by decide +kernel) rfl (Nat.le_of_ble_eq_true rfl) ?_
  intro p e s m args below meth c A Q KX RT hh ls hl
  have z0 : (0 : Int32).toInt = 0 := rfl
  have z1 : (1 : Int32).toInt = 1 := rfl
  have zm : (-1 : Int32).toInt = -1 := rfl
  have hx := KX.1
  have hb := KX.2.1
  have hl : lv_has ls 2 [(0, .long x0)] := hl
  unfold F_J9_abs_067f4 at hF
  refine lv_lload_n hx hb dJ9_abs_067f4_0 rfl (lv_at hl 0 rfl) ?_
  refine lv_lconst (v := 0) hx hb dJ9_abs_067f4_1 (by decide) ?_
  refine W.lcmp hx hb dJ9_abs_067f4_2 ?_
  refine lv_if_ge (tgt := 11) hx hb dJ9_abs_067f4_3 (by decide) (fun c_3 => ?_) (fun c_3 => ?_)
  · replace hF := hF.trans (if_pos c_3)
    refine lv_lload_n hx hb dJ9_abs_067f4_11 rfl (lv_at hl 0 rfl) ?_
    exact RT _ _ _ _ _ _ hh (rfl) (Or.inr (Or.inl ⟨_, rfl, by rw [hF], dJ9_abs_067f4_12, rfl⟩))
  · replace hF := hF.trans (if_neg c_3)
    refine lv_lload_n hx hb dJ9_abs_067f4_6 rfl (lv_at hl 0 rfl) ?_
    refine lv_lneg hx hb dJ9_abs_067f4_7 ?_
    refine lv_goto (tgt := 12) hx hb dJ9_abs_067f4_8 (by decide) ?_
    exact RT _ _ _ _ _ _ hh (rfl) (Or.inr (Or.inl ⟨_, rfl, by rw [hF], dJ9_abs_067f4_12, rfl⟩))
def F_J9_max_7cf53 (x0 : Int32) (x1 : Int32) : Int32 := (if x0 < x1 then x1 else x0)
set_option maxHeartbeats 2000000 in
set_option maxRecDepth 100000 in
theorem c_J9_max_7cf53 (l : Launch) (D : va_G) (cI cZ cC cH : ClassId)  (x0 : Int32) (x1 : Int32)  : MC l D (TY cI cZ cC cH) yJ9_max_7cf53 wsJ9_max_7cf53 0 0 [.int x0, .int x1] [] (some (.int (F_J9_max_7cf53 x0 x1))) [] := by
  obtain ⟨R, hF⟩ : ∃ R, R = F_J9_max_7cf53 x0 x1 := ⟨_, rfl⟩
  rw [← hF]
  refine MC.ofF (cc := cJ9_max_7cf53) (maxL := 2) (ret := (some .int)) RJ9 rfl (by decide +kernel) rfl (Nat.le_of_ble_eq_true rfl) ?_
  intro p e s m args below meth c A Q KX RT hh ls hl
  have z0 : (0 : Int32).toInt = 0 := rfl
  have z1 : (1 : Int32).toInt = 1 := rfl
  have zm : (-1 : Int32).toInt = -1 := rfl
  have hx := KX.1
  have hb := KX.2.1
  have hl : lv_has ls 2 [(0, .int x0), (1, .int x1)] := hl
  unfold F_J9_max_7cf53 at hF
  refine lv_iload_n hx hb dJ9_max_7cf53_0 rfl (lv_at hl 0 rfl) ?_
  refine lv_iload_n hx hb dJ9_max_7cf53_1 rfl (lv_at hl 1 rfl) ?_
  refine lv_icmp_lt (tgt := 9) hx hb dJ9_max_7cf53_2 (by decide) (fun c_2 => ?_) (fun c_2 => ?_)
  · replace hF := hF.trans (if_pos c_2)
    have i_2 : x0.toInt < x1.toInt := ti_lt.mp c_2
    refine lv_iload_n hx hb dJ9_max_7cf53_9 rfl (lv_at hl 1 rfl) ?_
    exact RT _ _ _ _ _ _ hh (rfl) (Or.inl ⟨_, rfl, by rw [hF], dJ9_max_7cf53_10, Or.inl rfl⟩)
  · replace hF := hF.trans (if_neg c_2)
    have i_2 : x1.toInt ≤ x0.toInt := ti_nlt c_2
    refine lv_iload_n hx hb dJ9_max_7cf53_5 rfl (lv_at hl 0 rfl) ?_
    refine lv_goto (tgt := 10) hx hb dJ9_max_7cf53_6 (by decide) ?_
    exact RT _ _ _ _ _ _ hh (rfl) (Or.inl ⟨_, rfl, by rw [hF], dJ9_max_7cf53_10, Or.inl rfl⟩)
def F_J9_max_f86c9 (x0 : Int64) (x2 : Int64) : Int64 := (if (lg_cmp x0 x2) < 0 then x2 else x0)
set_option maxHeartbeats 2000000 in
set_option maxRecDepth 100000 in
theorem c_J9_max_f86c9 (l : Launch) (D : va_G) (cI cZ cC cH : ClassId)  (x0 : Int64) (x2 : Int64)  : MC l D (TY cI cZ cC cH) yJ9_max_f86c9 wsJ9_max_f86c9 0 0 [.long x0, .long x2] [] (some (.long (F_J9_max_f86c9 x0 x2))) [] := by
  obtain ⟨R, hF⟩ : ∃ R, R = F_J9_max_f86c9 x0 x2 := ⟨_, rfl⟩
  rw [← hF]
  refine MC.ofF (cc := cJ9_max_f86c9) (maxL := 4) (ret := (some .long)) RJ9 rfl (by decide +kernel) rfl (Nat.le_of_ble_eq_true rfl) ?_
  intro p e s m args below meth c A Q KX RT hh ls hl
  have z0 : (0 : Int32).toInt = 0 := rfl
  have z1 : (1 : Int32).toInt = 1 := rfl
  have zm : (-1 : Int32).toInt = -1 := rfl
  have hx := KX.1
  have hb := KX.2.1
  have hl : lv_has ls 4 [(0, .long x0), (2, .long x2)] := hl
  unfold F_J9_max_f86c9 at hF
  refine lv_lload_n hx hb dJ9_max_f86c9_0 rfl (lv_at hl 0 rfl) ?_
  refine lv_lload_n hx hb dJ9_max_f86c9_1 rfl (lv_at hl 1 rfl) ?_
  refine W.lcmp hx hb dJ9_max_f86c9_2 ?_
  refine lv_if_lt (tgt := 10) hx hb dJ9_max_f86c9_3 (by decide) (fun c_3 => ?_) (fun c_3 => ?_)
  · replace hF := hF.trans (if_pos c_3)
    refine lv_lload_n hx hb dJ9_max_f86c9_10 rfl (lv_at hl 1 rfl) ?_
    exact RT _ _ _ _ _ _ hh (rfl) (Or.inr (Or.inl ⟨_, rfl, by rw [hF], dJ9_max_f86c9_11, rfl⟩))
  · replace hF := hF.trans (if_neg c_3)
    refine lv_lload_n hx hb dJ9_max_f86c9_6 rfl (lv_at hl 0 rfl) ?_
    refine lv_goto (tgt := 11) hx hb dJ9_max_f86c9_7 (by decide) ?_
    exact RT _ _ _ _ _ _ hh (rfl) (Or.inr (Or.inl ⟨_, rfl, by rw [hF], dJ9_max_f86c9_11, rfl⟩))
def F_J9_min_7cf53 (x0 : Int32) (x1 : Int32) : Int32 := (if x1 < x0 then x1 else x0)
set_option maxHeartbeats 2000000 in
set_option maxRecDepth 100000 in
theorem c_J9_min_7cf53 (l : Launch) (D : va_G) (cI cZ cC cH : ClassId)  (x0 : Int32) (x1 : Int32)  : MC l D (TY cI cZ cC cH) yJ9_min_7cf53 wsJ9_min_7cf53 0 0 [.int x0, .int x1] [] (some (.int (F_J9_min_7cf53 x0 x1))) [] := by
  obtain ⟨R, hF⟩ : ∃ R, R = F_J9_min_7cf53 x0 x1 := ⟨_, rfl⟩
  rw [← hF]
  refine MC.ofF (cc := cJ9_min_7cf53) (maxL := 2) (ret := (some .int)) RJ9 rfl (by decide +kernel) rfl (Nat.le_of_ble_eq_true rfl) ?_
  intro p e s m args below meth c A Q KX RT hh ls hl
  have z0 : (0 : Int32).toInt = 0 := rfl
  have z1 : (1 : Int32).toInt = 1 := rfl
  have zm : (-1 : Int32).toInt = -1 := rfl
  have hx := KX.1
  have hb := KX.2.1
  have hl : lv_has ls 2 [(0, .int x0), (1, .int x1)] := hl
  unfold F_J9_min_7cf53 at hF
  refine lv_iload_n hx hb dJ9_min_7cf53_0 rfl (lv_at hl 0 rfl) ?_
  refine lv_iload_n hx hb dJ9_min_7cf53_1 rfl (lv_at hl 1 rfl) ?_
  refine lv_icmp_gt (tgt := 9) hx hb dJ9_min_7cf53_2 (by decide) (fun c_2 => ?_) (fun c_2 => ?_)
  · replace hF := hF.trans (if_pos c_2)
    have i_2 : x1.toInt < x0.toInt := ti_lt.mp c_2
    refine lv_iload_n hx hb dJ9_min_7cf53_9 rfl (lv_at hl 1 rfl) ?_
    exact RT _ _ _ _ _ _ hh (rfl) (Or.inl ⟨_, rfl, by rw [hF], dJ9_min_7cf53_10, Or.inl rfl⟩)
  · replace hF := hF.trans (if_neg c_2)
    have i_2 : x0.toInt ≤ x1.toInt := ti_nlt c_2
    refine lv_iload_n hx hb dJ9_min_7cf53_5 rfl (lv_at hl 0 rfl) ?_
    refine lv_goto (tgt := 10) hx hb dJ9_min_7cf53_6 (by decide) ?_
    exact RT _ _ _ _ _ _ hh (rfl) (Or.inl ⟨_, rfl, by rw [hF], dJ9_min_7cf53_10, Or.inl rfl⟩)
def F_X6_isBelow (x0 : Int32) (x1 : Int32) : Int32 := (if x0 < 0 then 0 else (if x1 ≤ x0 then 0 else 1))
set_option maxHeartbeats 2000000 in
set_option maxRecDepth 100000 in
theorem c_X6_isBelow (l : Launch) (D : va_G) (cI cZ cC cH : ClassId)  (x0 : Int32) (x1 : Int32)  : MC l D (TY cI cZ cC cH) yX6_isBelow wsX6_isBelow 0 0 [.int x0, .int x1] [] (some (.int (F_X6_isBelow x0 x1))) [] := by
  obtain ⟨R, hF⟩ : ∃ R, R = F_X6_isBelow x0 x1 := ⟨_, rfl⟩
  rw [← hF]
  refine MC.of (cc := cX6_isBelow) (maxL := 2) (ret := (some .boolean)) RX6 rfl (by decide +kernel) rfl (Nat.le_of_ble_eq_true rfl) ?_
  intro p e s m args below meth c A Q KX RT hh ls hl
  have z0 : (0 : Int32).toInt = 0 := rfl
  have z1 : (1 : Int32).toInt = 1 := rfl
  have zm : (-1 : Int32).toInt = -1 := rfl
  have hx := KX.1
  have hb := KX.2.1
  have hl : lv_has ls 2 [(0, .int x0), (1, .int x1)] := hl
  unfold F_X6_isBelow at hF
  refine lv_iload_n hx hb dX6_isBelow_0 rfl (lv_at hl 0 rfl) ?_
  refine lv_if_lt (tgt := 13) hx hb dX6_isBelow_1 (by decide) (fun c_1 => ?_) (fun c_1 => ?_)
  · replace hF := hF.trans (if_pos c_1)
    have i_1 : x0.toInt < 0 := ti_lt.mp c_1
    refine lv_iconst (v := 0) hx hb dX6_isBelow_13 (by decide) ?_
    exact RT _ _ _ _ _ _ hh (rfl) (Or.inl ⟨_, rfl, by rw [hF], dX6_isBelow_14, Or.inr (Or.inl ⟨rfl, Or.inl rfl⟩)⟩)
  · replace hF := hF.trans (if_neg c_1)
    have i_1 : 0 ≤ x0.toInt := ti_nlt c_1
    refine lv_iload_n hx hb dX6_isBelow_4 rfl (lv_at hl 0 rfl) ?_
    refine lv_iload_n hx hb dX6_isBelow_5 rfl (lv_at hl 1 rfl) ?_
    refine lv_icmp_ge (tgt := 13) hx hb dX6_isBelow_6 (by decide) (fun c_6 => ?_) (fun c_6 => ?_)
    · replace hF := hF.trans (if_pos c_6)
      have i_6 : x1.toInt ≤ x0.toInt := ti_le.mp c_6
      refine lv_iconst (v := 0) hx hb dX6_isBelow_13 (by decide) ?_
      exact RT _ _ _ _ _ _ hh (rfl) (Or.inl ⟨_, rfl, by rw [hF], dX6_isBelow_14, Or.inr (Or.inl ⟨rfl, Or.inl rfl⟩)⟩)
    · replace hF := hF.trans (if_neg c_6)
      have i_6 : x0.toInt < x1.toInt := ti_nle c_6
      refine lv_iconst (v := 1) hx hb dX6_isBelow_9 (by decide) ?_
      refine lv_goto (tgt := 14) hx hb dX6_isBelow_10 (by decide) ?_
      exact RT _ _ _ _ _ _ hh (rfl) (Or.inl ⟨_, rfl, by rw [hF], dX6_isBelow_14, Or.inr (Or.inl ⟨rfl, Or.inr rfl⟩)⟩)
theorem z_X6_isBelow (x0 : Int32) (x1 : Int32) : (F_X6_isBelow x0 x1) = 0 ∨ (F_X6_isBelow x0 x1) = 1 := by
  unfold F_X6_isBelow
  split
  · exact Or.inl rfl
  · split
    · exact Or.inl rfl
    · exact Or.inr rfl
def F_X5_isLetter (x0 : Int32) : Int32 := (if x0 < 97 then 0 else (if 122 < x0 then 0 else 1))
set_option maxHeartbeats 2000000 in
set_option maxRecDepth 100000 in
theorem c_X5_isLetter (l : Launch) (D : va_G) (cI cZ cC cH : ClassId)  (x0 : Int32)  : MC l D (TY cI cZ cC cH) yX5_isLetter wsX5_isLetter 0 0 [.int x0] [] (some (.int (F_X5_isLetter x0))) [] := by
  obtain ⟨R, hF⟩ : ∃ R, R = F_X5_isLetter x0 := ⟨_, rfl⟩
  rw [← hF]
  refine MC.of (cc := cX5_isLetter) (maxL := 1) (ret := (some .boolean)) RX5 rfl (by decide +kernel) rfl (Nat.le_of_ble_eq_true rfl) ?_
  intro p e s m args below meth c A Q KX RT hh ls hl
  have z0 : (0 : Int32).toInt = 0 := rfl
  have z1 : (1 : Int32).toInt = 1 := rfl
  have zm : (-1 : Int32).toInt = -1 := rfl
  have hx := KX.1
  have hb := KX.2.1
  have hl : lv_has ls 1 [(0, .int x0)] := hl
  unfold F_X5_isLetter at hF
  refine lv_iload_n hx hb dX5_isLetter_0 rfl (lv_at hl 0 rfl) ?_
  refine lv_bipush (v := 97) hx hb dX5_isLetter_1 (by decide) ?_
  refine lv_icmp_lt (tgt := 16) hx hb dX5_isLetter_3 (by decide) (fun c_3 => ?_) (fun c_3 => ?_)
  · replace hF := hF.trans (if_pos c_3)
    have i_3 : x0.toInt < 97 := ti_lt.mp c_3
    refine lv_iconst (v := 0) hx hb dX5_isLetter_16 (by decide) ?_
    exact RT _ _ _ _ _ _ hh (rfl) (Or.inl ⟨_, rfl, by rw [hF], dX5_isLetter_17, Or.inr (Or.inl ⟨rfl, Or.inl rfl⟩)⟩)
  · replace hF := hF.trans (if_neg c_3)
    have i_3 : 97 ≤ x0.toInt := ti_nlt c_3
    refine lv_iload_n hx hb dX5_isLetter_6 rfl (lv_at hl 0 rfl) ?_
    refine lv_bipush (v := 122) hx hb dX5_isLetter_7 (by decide) ?_
    refine lv_icmp_gt (tgt := 16) hx hb dX5_isLetter_9 (by decide) (fun c_9 => ?_) (fun c_9 => ?_)
    · replace hF := hF.trans (if_pos c_9)
      have i_9 : 122 < x0.toInt := ti_lt.mp c_9
      refine lv_iconst (v := 0) hx hb dX5_isLetter_16 (by decide) ?_
      exact RT _ _ _ _ _ _ hh (rfl) (Or.inl ⟨_, rfl, by rw [hF], dX5_isLetter_17, Or.inr (Or.inl ⟨rfl, Or.inl rfl⟩)⟩)
    · replace hF := hF.trans (if_neg c_9)
      have i_9 : x0.toInt ≤ 122 := ti_nlt c_9
      refine lv_iconst (v := 1) hx hb dX5_isLetter_12 (by decide) ?_
      refine lv_goto (tgt := 17) hx hb dX5_isLetter_13 (by decide) ?_
      exact RT _ _ _ _ _ _ hh (rfl) (Or.inl ⟨_, rfl, by rw [hF], dX5_isLetter_17, Or.inr (Or.inl ⟨rfl, Or.inr rfl⟩)⟩)
theorem z_X5_isLetter (x0 : Int32) : (F_X5_isLetter x0) = 0 ∨ (F_X5_isLetter x0) = 1 := by
  unfold F_X5_isLetter
  split
  · exact Or.inl rfl
  · split
    · exact Or.inl rfl
    · exact Or.inr rfl
def F_X5_isDigit (x0 : Int32) : Int32 := (if x0 < 48 then 0 else (if 57 < x0 then 0 else 1))
set_option maxHeartbeats 2000000 in
set_option maxRecDepth 100000 in
theorem c_X5_isDigit (l : Launch) (D : va_G) (cI cZ cC cH : ClassId)  (x0 : Int32)  : MC l D (TY cI cZ cC cH) yX5_isDigit wsX5_isDigit 0 0 [.int x0] [] (some (.int (F_X5_isDigit x0))) [] := by
  obtain ⟨R, hF⟩ : ∃ R, R = F_X5_isDigit x0 := ⟨_, rfl⟩
  rw [← hF]
  refine MC.of (cc := cX5_isDigit) (maxL := 1) (ret := (some .boolean)) RX5 rfl (by decide +kernel) rfl (Nat.le_of_ble_eq_true rfl) ?_
  intro p e s m args below meth c A Q KX RT hh ls hl
  have z0 : (0 : Int32).toInt = 0 := rfl
  have z1 : (1 : Int32).toInt = 1 := rfl
  have zm : (-1 : Int32).toInt = -1 := rfl
  have hx := KX.1
  have hb := KX.2.1
  have hl : lv_has ls 1 [(0, .int x0)] := hl
  unfold F_X5_isDigit at hF
  refine lv_iload_n hx hb dX5_isDigit_0 rfl (lv_at hl 0 rfl) ?_
  refine lv_bipush (v := 48) hx hb dX5_isDigit_1 (by decide) ?_
  refine lv_icmp_lt (tgt := 16) hx hb dX5_isDigit_3 (by decide) (fun c_3 => ?_) (fun c_3 => ?_)
  · replace hF := hF.trans (if_pos c_3)
    have i_3 : x0.toInt < 48 := ti_lt.mp c_3
    refine lv_iconst (v := 0) hx hb dX5_isDigit_16 (by decide) ?_
    exact RT _ _ _ _ _ _ hh (rfl) (Or.inl ⟨_, rfl, by rw [hF], dX5_isDigit_17, Or.inr (Or.inl ⟨rfl, Or.inl rfl⟩)⟩)
  · replace hF := hF.trans (if_neg c_3)
    have i_3 : 48 ≤ x0.toInt := ti_nlt c_3
    refine lv_iload_n hx hb dX5_isDigit_6 rfl (lv_at hl 0 rfl) ?_
    refine lv_bipush (v := 57) hx hb dX5_isDigit_7 (by decide) ?_
    refine lv_icmp_gt (tgt := 16) hx hb dX5_isDigit_9 (by decide) (fun c_9 => ?_) (fun c_9 => ?_)
    · replace hF := hF.trans (if_pos c_9)
      have i_9 : 57 < x0.toInt := ti_lt.mp c_9
      refine lv_iconst (v := 0) hx hb dX5_isDigit_16 (by decide) ?_
      exact RT _ _ _ _ _ _ hh (rfl) (Or.inl ⟨_, rfl, by rw [hF], dX5_isDigit_17, Or.inr (Or.inl ⟨rfl, Or.inl rfl⟩)⟩)
    · replace hF := hF.trans (if_neg c_9)
      have i_9 : x0.toInt ≤ 57 := ti_nlt c_9
      refine lv_iconst (v := 1) hx hb dX5_isDigit_12 (by decide) ?_
      refine lv_goto (tgt := 17) hx hb dX5_isDigit_13 (by decide) ?_
      exact RT _ _ _ _ _ _ hh (rfl) (Or.inl ⟨_, rfl, by rw [hF], dX5_isDigit_17, Or.inr (Or.inl ⟨rfl, Or.inr rfl⟩)⟩)
theorem z_X5_isDigit (x0 : Int32) : (F_X5_isDigit x0) = 0 ∨ (F_X5_isDigit x0) = 1 := by
  unfold F_X5_isDigit
  split
  · exact Or.inl rfl
  · split
    · exact Or.inl rfl
    · exact Or.inr rfl
theorem X6_isBelow_in {x b : Int32} (h : ¬ F_X6_isBelow x b = 0) : 0 ≤ x.toInt ∧ x.toInt < b.toInt := by
  unfold F_X6_isBelow at h
  by_cases h1 : x < 0
  · simp [h1] at h
  · by_cases h2 : b ≤ x
    · simp [h1, h2] at h
    · exact ⟨ti_nlt h1, ti_nle h2⟩
