def F_J0_coder_7d493 (j0 : Nat) : Int32 := (if (1 : Int32) = 0 then 0 else (0 : Int32))
set_option maxHeartbeats 2000000 in
set_option maxRecDepth 100000 in
theorem c_J0_coder_7d493 (l : Launch) (D : va_G) (cI cZ cC cH : ClassId)  (j0 : Nat) (hj : j0 < 11) : MC l D (TY cI cZ cC cH) yJ0_coder_7d493 wsJ0_coder_7d493 0 0 [.ref (D.2 100 j0)] [] (some (.int (F_J0_coder_7d493 j0))) [] := by
  obtain ⟨R, hF⟩ : ∃ R, R = F_J0_coder_7d493 j0 := ⟨_, rfl⟩
  rw [← hF]
  refine MC.ofF (cc := cJ0_coder_7d493) (maxL := 1) (ret := (some .byte)) RJ0 rfl (by decide +kernel) rfl (Nat.le_of_ble_eq_true rfl) ?_
  intro p e s m args below meth c A Q KX RT hh ls hl
  have z0 : (0 : Int32).toInt = 0 := rfl
  have z1 : (1 : Int32).toInt = 1 := rfl
  have zm : (-1 : Int32).toInt = -1 := rfl
  have hx := KX.1
  have hb := KX.2.1
  have hl : lv_has ls 1 [(0, .ref (D.2 100 j0))] := hl
  unfold F_J0_coder_7d493 at hF
  refine g_compact KX hh (List.mem_of_getElem? (i := 1) rfl) dJ0_coder_7d493_0 ?_
  refine lv_if_eq (tgt := 13) hx hb dJ0_coder_7d493_3 (by decide) (fun c_3 => ?_) (fun c_3 => ?_)
  · replace hF := hF.trans (if_pos c_3)
    have i_3 : (1 : Int32).toInt = 0 := congrArg Int32.toInt c_3
    exfalso; exact absurd c_3 (by decide)
  · replace hF := hF.trans (if_neg c_3)
    have i_3 : ¬ (1 : Int32).toInt = 0 := ti_ne c_3
    refine lv_aload_n hx hb dJ0_coder_7d493_6 rfl (lv_at hl 0 rfl) ?_
    refine g_coder KX hh (by first | with_reducible assumption | omega | decide) (List.mem_of_getElem? (i := 2) rfl) dJ0_coder_7d493_7 ?_
    refine lv_goto (tgt := 14) hx hb dJ0_coder_7d493_10 (by decide) ?_
    exact RT _ _ _ _ _ _ hh (rfl) (Or.inl ⟨_, rfl, by rw [hF], dJ0_coder_7d493_14, Or.inr (Or.inr ⟨_, rfl, rfl⟩)⟩)
def F_J0_isLatin1_aae02 (j0 : Nat) : Int32 := (if (1 : Int32) = 0 then 0 else (if (0 : Int32) = 0 then 1 else 0))
set_option maxHeartbeats 2000000 in
set_option maxRecDepth 100000 in
theorem c_J0_isLatin1_aae02 (l : Launch) (D : va_G) (cI cZ cC cH : ClassId)  (j0 : Nat) (hj : j0 < 11) : MC l D (TY cI cZ cC cH) yJ0_isLatin1_aae02 wsJ0_isLatin1_aae02 0 0 [.ref (D.2 100 j0)] [] (some (.int (F_J0_isLatin1_aae02 j0))) [] := by
  obtain ⟨R, hF⟩ : ∃ R, R = F_J0_isLatin1_aae02 j0 := ⟨_, rfl⟩
  rw [← hF]
  refine MC.ofF (cc := cJ0_isLatin1_aae02) (maxL := 1) (ret := (some .boolean)) RJ0 rfl (by decide +kernel) rfl (Nat.le_of_ble_eq_true rfl) ?_
  intro p e s m args below meth c A Q KX RT hh ls hl
  have z0 : (0 : Int32).toInt = 0 := rfl
  have z1 : (1 : Int32).toInt = 1 := rfl
  have zm : (-1 : Int32).toInt = -1 := rfl
  have hx := KX.1
  have hb := KX.2.1
  have hl : lv_has ls 1 [(0, .ref (D.2 100 j0))] := hl
  unfold F_J0_isLatin1_aae02 at hF
  refine g_compact KX hh (List.mem_of_getElem? (i := 1) rfl) dJ0_isLatin1_aae02_0 ?_
  refine lv_if_eq (tgt := 17) hx hb dJ0_isLatin1_aae02_3 (by decide) (fun c_3 => ?_) (fun c_3 => ?_)
  · replace hF := hF.trans (if_pos c_3)
    have i_3 : (1 : Int32).toInt = 0 := congrArg Int32.toInt c_3
    exfalso; first | exact absurd c_3 (by decide) | exact absurd rfl c_10
  · replace hF := hF.trans (if_neg c_3)
    have i_3 : ¬ (1 : Int32).toInt = 0 := ti_ne c_3
    refine lv_aload_n hx hb dJ0_isLatin1_aae02_6 rfl (lv_at hl 0 rfl) ?_
    refine g_coder KX hh (hj) (List.mem_of_getElem? (i := 2) rfl) dJ0_isLatin1_aae02_7 ?_
    refine lv_if_ne (tgt := 17) hx hb dJ0_isLatin1_aae02_10 (by decide) (fun c_10 => ?_) (fun c_10 => ?_)
    · replace hF := hF.trans (if_neg c_10)
      have i_10 : ¬ (0 : Int32).toInt = 0 := ti_ne c_10
      exfalso; first | exact absurd c_3 (by decide) | exact absurd rfl c_10
    · replace hF := hF.trans (if_pos c_10)
      have i_10 : (0 : Int32).toInt = 0 := congrArg Int32.toInt c_10
      refine lv_iconst (v := 1) hx hb dJ0_isLatin1_aae02_13 (by decide) ?_
      refine lv_goto (tgt := 18) hx hb dJ0_isLatin1_aae02_14 (by decide) ?_
      exact RT _ _ _ _ _ _ hh (rfl) (Or.inl ⟨_, rfl, by rw [hF], dJ0_isLatin1_aae02_18, Or.inr (Or.inl ⟨rfl, Or.inr rfl⟩)⟩)
theorem z_J0_isLatin1_aae02 (j0 : Nat) : (F_J0_isLatin1_aae02 j0) = 0 ∨ (F_J0_isLatin1_aae02 j0) = 1 := by
  unfold F_J0_isLatin1_aae02
  split
  · exact Or.inl rfl
  · split
    · exact Or.inr rfl
    · exact Or.inl rfl
def F_J0_length_8abf5 (j0 : Nat) : Int32 := (slen j0) >>> ((F_J0_coder_7d493 j0) &&& 31)
set_option maxHeartbeats 2000000 in
set_option maxRecDepth 100000 in
theorem c_J0_length_8abf5 (l : Launch) (D : va_G) (cI cZ cC cH : ClassId)  (j0 : Nat) (hj : j0 < 11) : MC l D (TY cI cZ cC cH) yJ0_length_8abf5 wsJ0_length_8abf5 1 20 [.ref (D.2 100 j0)] [] (some (.int (F_J0_length_8abf5 j0))) [] := by
  obtain ⟨R, hF⟩ : ∃ R, R = F_J0_length_8abf5 j0 := ⟨_, rfl⟩
  rw [← hF]
  refine MC.ofF (cc := cJ0_length_8abf5) (maxL := 1) (ret := (some .int)) RJ0 rfl (by decide +kernel) rfl (Nat.le_of_ble_eq_true rfl) ?_
  intro p e s m args below meth c A Q KX RT hh ls hl
  have z0 : (0 : Int32).toInt = 0 := rfl
  have z1 : (1 : Int32).toInt = 1 := rfl
  have zm : (-1 : Int32).toInt = -1 := rfl
  have hx := KX.1
  have hb := KX.2.1
  have hl : lv_has ls 1 [(0, .ref (D.2 100 j0))] := hl
  unfold F_J0_length_8abf5 at hF
  refine lv_aload_n hx hb dJ0_length_8abf5_0 rfl (lv_at hl 0 rfl) ?_
  refine g_value KX hh (by first | with_reducible assumption | omega | decide) (List.mem_of_getElem? (i := 1) rfl) dJ0_length_8abf5_1 ?_
  refine g_slen KX hh (by first | with_reducible assumption | omega | decide) dJ0_length_8abf5_4 ?_
  refine lv_aload_n hx hb dJ0_length_8abf5_5 rfl (lv_at hl 0 rfl) ?_
  refine g_callStr (As := []) (rest := [.int (slen j0)]) KX rfl ⟨Nat.le_of_ble_eq_true rfl, Nat.le_of_ble_eq_true rfl⟩ hh hl (c_J0_coder_7d493 l D cI cZ cC cH  j0 (by first | with_reducible assumption | omega | decide | exact tn_lt (n := 8) (by omega) (by omega))) JN.no 0 gJ0_length_8abf5_J0_coder_7d493 rfl (by decide +kernel) ⟨Nat.le_of_ble_eq_true rfl, Nat.le_of_ble_eq_true rfl⟩ (by first | with_reducible assumption | omega | decide) rfl rfl (Nat.le_of_ble_eq_true rfl) dJ0_length_8abf5_6 (fun H locs hh => ?_)
  refine W.eq (g2 := F0 m 9 ls [.int (F_J0_coder_7d493 j0), .int (slen j0)]) rfl ?_
  refine lv_ishr hx hb dJ0_length_8abf5_9 ?_
  exact RT _ _ _ _ _ _ hh (rfl) (Or.inl ⟨_, rfl, by rw [hF], dJ0_length_8abf5_10, Or.inl rfl⟩)
theorem slen_e : ∀ j, j < 11 → F_J0_length_8abf5 j = slen j := by decide +kernel
theorem cs_J0_length_8abf5 (l : Launch) (D : va_G) (cI cZ cC cH : ClassId) (j0 : Nat) (hj : j0 < 11) : MC l D (TY cI cZ cC cH) yJ0_length_8abf5 wsJ0_length_8abf5 1 20 [.ref (D.2 100 j0)] [] (some (.int (slen j0))) [] := by
  rw [← slen_e j0 hj]
  exact c_J0_length_8abf5 l D cI cZ cC cH j0 hj
def F_J3_checkIndex_8e157 (x0 : Int32) (x1 : Int32) : Int32 := (if x0 < 0 then 0 else (if x0 < x1 then x0 else 0))

set_option maxHeartbeats 2000000 in
set_option maxRecDepth 100000 in
theorem cn_J3_checkIndex_8e157 (l : Launch) (D : va_G) (cI cZ cC cH : ClassId)  (x0 : Int32) (x1 : Int32) (h0 : 0 ≤ x0.toInt) (h1 : x0.toInt < x1.toInt) : MC l D (TY cI cZ cC cH) yJ3_checkIndex_8e157 wsJ3_checkIndex_8e157 0 0 [.int x0, .int x1, .null] [] (some (.int (F_J3_checkIndex_8e157 x0 x1))) [] := by
  obtain ⟨R, hF⟩ : ∃ R, R = F_J3_checkIndex_8e157 x0 x1 := ⟨_, rfl⟩
  rw [← hF]
  refine MC.ofF (cc := cJ3_checkIndex_8e157) (maxL := 3) (ret := (some .int)) RJ3 rfl (by decide +kernel) rfl (Nat.le_of_ble_eq_true rfl) ?_
  intro p e s m args below meth c A Q KX RT hh ls hl
  have z0 : (0 : Int32).toInt = 0 := rfl
  have z1 : (1 : Int32).toInt = 1 := rfl
  have zm : (-1 : Int32).toInt = -1 := rfl
  have hx := KX.1
  have hb := KX.2.1
  have hl : lv_has ls 3 [(0, .int x0), (1, .int x1), (2, .null)] := hl
  unfold F_J3_checkIndex_8e157 at hF
  refine lv_iload_n hx hb dJ3_checkIndex_8e157_0 rfl (lv_at hl 0 rfl) ?_
  refine lv_if_lt (tgt := 9) hx hb dJ3_checkIndex_8e157_1 (by decide) (fun c_1 => ?_) (fun c_1 => ?_)
  · replace hF := hF.trans (if_pos c_1)
    have i_1 : x0.toInt < 0 := ti_lt.mp c_1
    exfalso; omega
  · replace hF := hF.trans (if_neg c_1)
    have i_1 : 0 ≤ x0.toInt := ti_nlt c_1
    refine lv_iload_n hx hb dJ3_checkIndex_8e157_4 rfl (lv_at hl 0 rfl) ?_
    refine lv_iload_n hx hb dJ3_checkIndex_8e157_5 rfl (lv_at hl 1 rfl) ?_
    refine lv_icmp_lt (tgt := 16) hx hb dJ3_checkIndex_8e157_6 (by decide) (fun c_6 => ?_) (fun c_6 => ?_)
    · replace hF := hF.trans (if_pos c_6)
      have i_6 : x0.toInt < x1.toInt := ti_lt.mp c_6
      refine lv_iload_n hx hb dJ3_checkIndex_8e157_16 rfl (lv_at hl 0 rfl) ?_
      exact RT _ _ _ _ _ _ hh (rfl) (Or.inl ⟨_, rfl, by rw [hF], dJ3_checkIndex_8e157_17, Or.inl rfl⟩)
    · replace hF := hF.trans (if_neg c_6)
      have i_6 : x1.toInt ≤ x0.toInt := ti_nlt c_6
      exfalso; omega
set_option maxHeartbeats 2000000 in
set_option maxRecDepth 100000 in
theorem cr_J3_checkIndex_8e157 (l : Launch) (D : va_G) (cI cZ cC cH : ClassId)  (x0 : Int32) (x1 : Int32) (w2 : Nat) (h0 : 0 ≤ x0.toInt) (h1 : x0.toInt < x1.toInt) : MC l D (TY cI cZ cC cH) yJ3_checkIndex_8e157 wsJ3_checkIndex_8e157 0 0 [.int x0, .int x1, .ref w2] [] (some (.int (F_J3_checkIndex_8e157 x0 x1))) [] := by
  obtain ⟨R, hF⟩ : ∃ R, R = F_J3_checkIndex_8e157 x0 x1 := ⟨_, rfl⟩
  rw [← hF]
  refine MC.ofF (cc := cJ3_checkIndex_8e157) (maxL := 3) (ret := (some .int)) RJ3 rfl (by decide +kernel) rfl (Nat.le_of_ble_eq_true rfl) ?_
  intro p e s m args below meth c A Q KX RT hh ls hl
  have z0 : (0 : Int32).toInt = 0 := rfl
  have z1 : (1 : Int32).toInt = 1 := rfl
  have zm : (-1 : Int32).toInt = -1 := rfl
  have hx := KX.1
  have hb := KX.2.1
  have hl : lv_has ls 3 [(0, .int x0), (1, .int x1), (2, .ref w2)] := hl
  unfold F_J3_checkIndex_8e157 at hF
  refine lv_iload_n hx hb dJ3_checkIndex_8e157_0 rfl (lv_at hl 0 rfl) ?_
  refine lv_if_lt (tgt := 9) hx hb dJ3_checkIndex_8e157_1 (by decide) (fun c_1 => ?_) (fun c_1 => ?_)
  · replace hF := hF.trans (if_pos c_1)
    have i_1 : x0.toInt < 0 := ti_lt.mp c_1
    exfalso; omega
  · replace hF := hF.trans (if_neg c_1)
    have i_1 : 0 ≤ x0.toInt := ti_nlt c_1
    refine lv_iload_n hx hb dJ3_checkIndex_8e157_4 rfl (lv_at hl 0 rfl) ?_
    refine lv_iload_n hx hb dJ3_checkIndex_8e157_5 rfl (lv_at hl 1 rfl) ?_
    refine lv_icmp_lt (tgt := 16) hx hb dJ3_checkIndex_8e157_6 (by decide) (fun c_6 => ?_) (fun c_6 => ?_)
    · replace hF := hF.trans (if_pos c_6)
      have i_6 : x0.toInt < x1.toInt := ti_lt.mp c_6
      refine lv_iload_n hx hb dJ3_checkIndex_8e157_16 rfl (lv_at hl 0 rfl) ?_
      exact RT _ _ _ _ _ _ hh (rfl) (Or.inl ⟨_, rfl, by rw [hF], dJ3_checkIndex_8e157_17, Or.inl rfl⟩)
    · replace hF := hF.trans (if_neg c_6)
      have i_6 : x1.toInt ≤ x0.toInt := ti_nlt c_6
      exfalso; omega
theorem cs_J3_checkIndex_8e157 (l : Launch) (D : va_G) (cI cZ cC cH : ClassId) (x0 : Int32) (x1 : Int32) (w2 : Value) (hw : w2 = .null ∨ ∃ t, w2 = .ref t) (h0 : 0 ≤ x0.toInt) (h1 : x0.toInt < x1.toInt) : MC l D (TY cI cZ cC cH) yJ3_checkIndex_8e157 wsJ3_checkIndex_8e157 0 0 [.int x0, .int x1, w2] [] (some (.int (F_J3_checkIndex_8e157 x0 x1))) [] := by
  rcases hw with rfl | ⟨t, rfl⟩
  · exact cn_J3_checkIndex_8e157 l D cI cZ cC cH x0 x1 h0 h1
  · exact cr_J3_checkIndex_8e157 l D cI cZ cC cH x0 x1 t h0 h1
def F_J0_checkIndex_df160 (x0 : Int32) (x1 : Int32) : Unit := ()
set_option maxHeartbeats 2000000 in
set_option maxRecDepth 100000 in
theorem c_J0_checkIndex_df160 (l : Launch) (D : va_G) (cI cZ cC cH : ClassId)  (x0 : Int32) (x1 : Int32) (h0 : 0 ≤ x0.toInt) (h1 : x0.toInt < x1.toInt) : MC l D (TY cI cZ cC cH) yJ0_checkIndex_df160 wsJ0_checkIndex_df160 1 22 [.int x0, .int x1] [] (none) [] := by
  obtain ⟨R, hF⟩ : ∃ R, R = F_J0_checkIndex_df160 x0 x1 := ⟨_, rfl⟩
  try rw [← hF]
  refine MC.ofF (cc := cJ0_checkIndex_df160) (maxL := 2) (ret := none) RJ0 rfl (by decide +kernel) rfl (Nat.le_of_ble_eq_true rfl) ?_
  intro p e s m args below meth c A Q KX RT hh ls hl
  have z0 : (0 : Int32).toInt = 0 := rfl
  have z1 : (1 : Int32).toInt = 1 := rfl
  have zm : (-1 : Int32).toInt = -1 := rfl
  have hx := KX.1
  have hb := KX.2.1
  have hl : lv_has ls 2 [(0, .int x0), (1, .int x1)] := hl
  unfold F_J0_checkIndex_df160 at hF
  refine lv_iload_n hx hb dJ0_checkIndex_df160_0 rfl (lv_at hl 0 rfl) ?_
  refine lv_iload_n hx hb dJ0_checkIndex_df160_1 rfl (lv_at hl 1 rfl) ?_
  refine g_fmt KX hh (List.mem_of_getElem? (i := 1) rfl) dJ0_checkIndex_df160_2 (fun fm_1 hfm_1 => ?_)
  refine g_callS (As := [.int x0, .int x1, fm_1]) (rest := []) KX rfl ⟨Nat.le_of_ble_eq_true rfl, Nat.le_of_ble_eq_true rfl⟩ hh hl (cs_J3_checkIndex_8e157 l D cI cZ cC cH  x0 x1 fm_1 (by first | with_reducible assumption | omega | decide | exact tn_lt (n := 8) (by omega) (by omega)) (by first | with_reducible assumption | omega | decide | exact tn_lt (n := 8) (by omega) (by omega)) (by first | with_reducible assumption | omega | decide | exact tn_lt (n := 8) (by omega) (by omega))) JN.no 3 gJ0_checkIndex_df160_J3_checkIndex_8e157 rfl (by decide +kernel) ⟨Nat.le_of_ble_eq_true rfl, Nat.le_of_ble_eq_true rfl⟩ rfl rfl (Nat.le_of_ble_eq_true rfl) dJ0_checkIndex_df160_5 (fun H locs hh => ?_)
  refine W.eq (g2 := F0 m 8 ls [.int (F_J3_checkIndex_8e157 x0 x1)]) rfl ?_
  refine lv_pop hx hb dJ0_checkIndex_df160_8 rfl ?_
  exact RT _ _ _ _ _ _ hh (rfl) (Or.inr (Or.inr (Or.inl ⟨rfl, rfl, dJ0_checkIndex_df160_9, rfl⟩)))
theorem slen_in {j : Nat} (hj : j < 11) {x : Int32} (h0 : 0 ≤ x.toInt) (h1 : x.toInt < (slen j).toInt) : vp_in x (skLen.getD j 0) := by
  have e : ∀ j, j < 11 → (slen j).toInt = (skLen.getD j 0 : Nat) := by decide +kernel
  rw [e j hj] at h1
  exact vp_in_iff.mpr ⟨h0, h1⟩
def F_J1_charAt_3b067 (j1 : Nat) (x1 : Int32) : Int32 := (((sbyt j1 x1) &&& 255).toUInt32 % 65536).toInt32
set_option maxHeartbeats 2000000 in
set_option maxRecDepth 100000 in
theorem c_J1_charAt_3b067 (l : Launch) (D : va_G) (cI cZ cC cH : ClassId)  (j1 : Nat) (x1 : Int32) (hj : j1 < 11) (h0 : 0 ≤ x1.toInt) (h1 : x1.toInt < (slen j1).toInt) : MC l D (TY cI cZ cC cH) yJ1_charAt_3b067 wsJ1_charAt_3b067 2 43 [.ref (D.2 101 j1), .int x1] [] (some (.int (F_J1_charAt_3b067 j1 x1))) [] := by
  obtain ⟨R, hF⟩ : ∃ R, R = F_J1_charAt_3b067 j1 x1 := ⟨_, rfl⟩
  rw [← hF]
  refine MC.ofF (cc := cJ1_charAt_3b067) (maxL := 2) (ret := (some .char)) RJ1 rfl (by decide +kernel) rfl (Nat.le_of_ble_eq_true rfl) ?_
  intro p e s m args below meth c A Q KX RT hh ls hl
  have z0 : (0 : Int32).toInt = 0 := rfl
  have z1 : (1 : Int32).toInt = 1 := rfl
  have zm : (-1 : Int32).toInt = -1 := rfl
  have hx := KX.1
  have hb := KX.2.1
  have hl : lv_has ls 2 [(0, .ref (D.2 101 j1)), (1, .int x1)] := hl
  unfold F_J1_charAt_3b067 at hF
  refine lv_iload_n hx hb dJ1_charAt_3b067_0 rfl (lv_at hl 1 rfl) ?_
  refine lv_aload_n hx hb dJ1_charAt_3b067_1 rfl (lv_at hl 0 rfl) ?_
  refine g_slen KX hh (hj) dJ1_charAt_3b067_2 ?_
  refine g_callS (As := [.int x1, .int (slen j1)]) (rest := []) KX rfl ⟨Nat.le_of_ble_eq_true rfl, Nat.le_of_ble_eq_true rfl⟩ hh hl (c_J0_checkIndex_df160 l D cI cZ cC cH  x1 (slen j1) (by first | with_reducible assumption | omega | decide | exact tn_lt (n := 8) (by omega) (by omega)) (by first | with_reducible assumption | omega | decide | exact tn_lt (n := 8) (by omega) (by omega))) JN.no 2 gJ1_charAt_3b067_J0_checkIndex_df160 rfl (by decide +kernel) ⟨Nat.le_of_ble_eq_true rfl, Nat.le_of_ble_eq_true rfl⟩ rfl rfl (Nat.le_of_ble_eq_true rfl) dJ1_charAt_3b067_3 (fun H locs hh => ?_)
  refine W.eq (g2 := F0 m 6 ls []) rfl ?_
  refine lv_aload_n hx hb dJ1_charAt_3b067_6 rfl (lv_at hl 0 rfl) ?_
  refine lv_iload_n hx hb dJ1_charAt_3b067_7 rfl (lv_at hl 1 rfl) ?_
  refine g_sbyt KX hh (hj) (slen_in hj h0 h1) dJ1_charAt_3b067_8 ?_
  refine lv_sipush (v := 255) hx hb dJ1_charAt_3b067_9 (by decide) ?_
  refine lv_iand hx hb dJ1_charAt_3b067_12 ?_
  refine lv_i2c hx hb dJ1_charAt_3b067_13 rfl ?_
  exact RT _ _ _ _ _ _ hh (rfl) (Or.inl ⟨_, rfl, by rw [hF], dJ1_charAt_3b067_14, Or.inr (Or.inr ⟨_, rfl, pk_nc _⟩)⟩)
def F_J0_charAt_5068e (j0 : Nat) (x1 : Int32) : Int32 := (if (F_J0_isLatin1_aae02 j0) = 0 then 0 else F_J1_charAt_3b067 j0 x1)
set_option maxHeartbeats 2000000 in
set_option maxRecDepth 100000 in
theorem c_J0_charAt_5068e (l : Launch) (D : va_G) (cI cZ cC cH : ClassId)  (j0 : Nat) (x1 : Int32) (hj : j0 < 11) (h0 : 0 ≤ x1.toInt) (h1 : x1.toInt < (slen j0).toInt) : MC l D (TY cI cZ cC cH) yJ0_charAt_5068e wsJ0_charAt_5068e 3 64 [.ref (D.2 100 j0), .int x1] [] (some (.int (F_J0_charAt_5068e j0 x1))) [] := by
  obtain ⟨R, hF⟩ : ∃ R, R = F_J0_charAt_5068e j0 x1 := ⟨_, rfl⟩
  rw [← hF]
  refine MC.ofF (cc := cJ0_charAt_5068e) (maxL := 2) (ret := (some .char)) RJ0 rfl (by decide +kernel) rfl (Nat.le_of_ble_eq_true rfl) ?_
  intro p e s m args below meth c A Q KX RT hh ls hl
  have z0 : (0 : Int32).toInt = 0 := rfl
  have z1 : (1 : Int32).toInt = 1 := rfl
  have zm : (-1 : Int32).toInt = -1 := rfl
  have hx := KX.1
  have hb := KX.2.1
  have hl : lv_has ls 2 [(0, .ref (D.2 100 j0)), (1, .int x1)] := hl
  unfold F_J0_charAt_5068e at hF
  refine lv_aload_n hx hb dJ0_charAt_5068e_0 rfl (lv_at hl 0 rfl) ?_
  refine g_callStr (As := []) (rest := []) KX rfl ⟨Nat.le_of_ble_eq_true rfl, Nat.le_of_ble_eq_true rfl⟩ hh hl (c_J0_isLatin1_aae02 l D cI cZ cC cH  j0 (by first | with_reducible assumption | omega | decide | exact tn_lt (n := 8) (by omega) (by omega))) JN.no 0 gJ0_charAt_5068e_J0_isLatin1_aae02 rfl (by decide +kernel) ⟨Nat.le_of_ble_eq_true rfl, Nat.le_of_ble_eq_true rfl⟩ (by first | with_reducible assumption | omega | decide) rfl rfl (Nat.le_of_ble_eq_true rfl) dJ0_charAt_5068e_1 (fun H locs hh => ?_)
  refine W.eq (g2 := F0 m 4 ls [.int (F_J0_isLatin1_aae02 j0)]) rfl ?_
  refine lv_if_eq (tgt := 16) hx hb dJ0_charAt_5068e_4 (by decide) (fun c_4 => ?_) (fun c_4 => ?_)
  · replace hF := hF.trans (if_pos c_4)
    exfalso; exact absurd (show (0 : Int32) = 1 from c_4.symm) (by decide)
  · replace hF := hF.trans (if_neg c_4)
    refine lv_aload_n hx hb dJ0_charAt_5068e_7 rfl (lv_at hl 0 rfl) ?_
    refine g_value KX hh (hj) (List.mem_of_getElem? (i := 1) rfl) dJ0_charAt_5068e_8 ?_
    refine lv_iload_n hx hb dJ0_charAt_5068e_11 rfl (lv_at hl 1 rfl) ?_
    refine g_callS (As := [.ref (D.2 101 j0), .int x1]) (rest := []) KX rfl ⟨Nat.le_of_ble_eq_true rfl, Nat.le_of_ble_eq_true rfl⟩ hh hl (c_J1_charAt_3b067 l D cI cZ cC cH  j0 x1 (by first | with_reducible assumption | omega | decide | exact tn_lt (n := 8) (by omega) (by omega)) (by first | with_reducible assumption | omega | decide | exact tn_lt (n := 8) (by omega) (by omega)) (by first | with_reducible assumption | omega | decide | exact tn_lt (n := 8) (by omega) (by omega))) JN.no 2 gJ0_charAt_5068e_J1_charAt_3b067 rfl (by decide +kernel) ⟨Nat.le_of_ble_eq_true rfl, Nat.le_of_ble_eq_true rfl⟩ rfl rfl (Nat.le_of_ble_eq_true rfl) dJ0_charAt_5068e_12 (fun H locs hh => ?_)
    refine W.eq (g2 := F0 m 15 ls [.int (F_J1_charAt_3b067 j0 x1)]) rfl ?_
    exact RT _ _ _ _ _ _ hh (rfl) (Or.inl ⟨_, rfl, by rw [hF], dJ0_charAt_5068e_15, Or.inr (Or.inr ⟨_, rfl, pk_nc _⟩)⟩)
theorem schr_e : ∀ j, j < 11 → ∀ i, i < skLen.getD j 0 → F_J0_charAt_5068e j (nI i) = sbyt j (nI i) := by decide +kernel
theorem schr_e2 {j : Nat} (hj : j < 11) {x : Int32} (h0 : 0 ≤ x.toInt) (h1 : x.toInt < (slen j).toInt) : F_J0_charAt_5068e j x = sbyt j x := by
  have e : ∀ j, j < 11 → (slen j).toInt = (skLen.getD j 0 : Nat) := by decide +kernel
  rw [e j hj] at h1
  have hx : nI x.toInt.toNat = x := Int32.toInt_inj.mp (by rw [nI_toInt (by have := Int32.toInt_lt x; omega)]; omega)
  have := schr_e j hj x.toInt.toNat (by omega)
  rwa [hx] at this
theorem cs_J0_charAt_5068e (l : Launch) (D : va_G) (cI cZ cC cH : ClassId) (j0 : Nat) (x1 : Int32) (hj : j0 < 11) (h0 : 0 ≤ x1.toInt) (h1 : x1.toInt < (slen j0).toInt) : MC l D (TY cI cZ cC cH) yJ0_charAt_5068e wsJ0_charAt_5068e 3 64 [.ref (D.2 100 j0), .int x1] [] (some (.int (sbyt j0 x1))) [] := by
  rw [← schr_e2 hj h0 h1]
  exact c_J0_charAt_5068e l D cI cZ cC cH j0 x1 hj h0 h1
