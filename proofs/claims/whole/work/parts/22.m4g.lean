section G2
variable {p : Program} {l : Launch} {e : Env} {R : Room} {s : State} {m : MethodId} {args : Array Value} {below : List Frame} {meth : Method} {c : Code} {H : Heap} {locs : List Loc} {cells slots : Nat} {Q : State → Prop}
variable {cc : ByteArray} {pc nL : Nat} {ls : Array Slot} {rest : List Value} {D : va_G} {tys : List (ClassId × FieldType)} {A : Nat → Prop} {a : Nat} {w : va_W} {Ts : List Cond} {own : String}
theorem g_zast (C : Cx D tys p s m args c cc nL Ts own A) (hh : HS D A s.heap w H locs) (q0 t0 : Nat) {cA : ClassId} {n : Nat} {f : Nat → Int32} (ha : w[q0]? = some (a, .inl (cA, n, .inl f))) (ht : tys[t0]? = some (cA, .boolean)) {i x : Int32} (hin : vp_in i n) {w' : va_W} (hw : w.set q0 (a, .inl (cA, n, .inl (upd f i.toNatClampNeg (vp_nar .boolean x)))) = w') (hdg : decode cc pc = .ok (.bastore, 1))
    (kk : ∀ (H1 : Heap) (locs1 : List Loc), HS D A s.heap w' H1 locs1 → W p l e R s m args below meth c H1 locs1 cells slots Q (F0 m (pc + 1) ls rest)) : W p l e R s m args below meth c H locs cells slots Q (F0 m pc ls (.int x :: .int i :: .ref a :: rest)) := by
  subst hw
  exact va_zast C.1 C.2.1 C.2.2.2.2.2.1 hh.1 hh.2.1 hh.2.2 q0 t0 ha ht hin hdg (fun H1 locs1 g1 g2 g3 => kk H1 locs1 ⟨g1, g2, g3⟩)
end G2
theorem ix90 {x : Int32} (h0 : 0 ≤ x.toInt) (h1 : x.toInt ≤ 1) : vp_in (90 * x) 180 := by
  have e := ti_mulc x 90 90 rfl (by omega) (by omega)
  exact vp_in_iff.mpr (by rw [e]; omega)
theorem ix90c {x c : Int32} (n : Int) (h0 : 0 ≤ x.toInt) (h1 : x.toInt ≤ 1) (hc : c.toInt = n) (g0 : 0 ≤ n) (g1 : n < 90) : vp_in (90 * x + c) 180 := by
  have e := ti_mulc x 90 90 rfl (by omega) (by omega)
  have e2 := ti_addc (90 * x) c n hc (by rw [e]; omega) (by rw [e]; omega)
  exact vp_in_iff.mpr (by rw [e2, e]; omega)
theorem ix90k {x c k : Int32} (n m : Int) (h0 : 0 ≤ x.toInt) (h1 : x.toInt ≤ 1) (hc : c.toInt = n) (g0 : 0 ≤ n) (g1 : n + m ≤ 90) (k0 : 0 ≤ k.toInt) (k1 : k.toInt < m) : vp_in (90 * x + c + k) 180 := by
  have e := ti_mulc x 90 90 rfl (by omega) (by omega)
  have e2 := ti_addc (90 * x) c n hc (by rw [e]; omega) (by rw [e]; omega)
  have e3 := ti_add (a := 90 * x + c) (b := k) (by rw [e2, e]; omega) (by rw [e2, e]; omega)
  exact vp_in_iff.mpr (by rw [e3, e2, e]; omega)
def F_X7_keep_83 (m_told : Int32) (m_note : Nat → Int32) (m_isKept : Nat → Int32) (x1 : Int32) : Nat → Int32 → (Nat → Int32) → Int32 × (Nat → Int32) × (Nat → Int32)
  | 0, _, _ => default
  | n + 1, x3_3, w_m_image_4 => (if 36 ≤ x3_3 then (F_X7_bits m_told, w_m_image_4, upd m_isKept x1.toNatClampNeg 1) else ((F_X7_keep_83 m_told m_note m_isKept x1 n) (x3_3 + 1) (upd w_m_image_4 (((90 * x1) + 51) + x3_3).toNatClampNeg (m_note x3_3.toNatClampNeg))))
def F_X7_keep_53 (m_told : Int32) (m_clock : Nat → Int32) (m_note : Nat → Int32) (m_isKept : Nat → Int32) (x1 : Int32) : Nat → Int32 → (Nat → Int32) → Int32 × (Nat → Int32) × (Nat → Int32)
  | 0, _, _ => default
  | n + 1, x3_1, w_m_image_2 => (if 48 ≤ x3_1 then (F_X7_keep_83 m_told m_note m_isKept x1 37 0 w_m_image_2) else ((F_X7_keep_53 m_told m_clock m_note m_isKept x1 n) (x3_1 + 1) (upd w_m_image_2 (((90 * x1) + 3) + x3_1).toNatClampNeg (m_clock x3_1.toNatClampNeg))))
def F_X7_keep (m_told : Int32) (m_isRead1 : Int32) (m_clock : Nat → Int32) (m_note : Nat → Int32) (m_noted : Int32) (m_image : Nat → Int32) (m_isKept : Nat → Int32) (x1 : Int32) : Int32 × (Nat → Int32) × (Nat → Int32) := (if (F_X7_in x1 0 1) = 0 then ((-2), m_image, m_isKept) else (F_X7_keep_53 m_told m_clock m_note m_isKept x1 49 0 (upd (upd (upd m_image (90 * x1).toNatClampNeg m_told) ((90 * x1) + 1).toNatClampNeg m_isRead1) ((90 * x1) + 2).toNatClampNeg m_noted)))
theorem in_X7_keep_X7 : ∀ x ∈ u_ws RX7 TX7 26, x ∈ wsX7_keep := by decide +kernel
set_option maxHeartbeats 2000000 in
set_option maxRecDepth 100000 in
theorem c_X7_keep (l : Launch) (D : va_G) (cI cZ cC cH : ClassId) (o a_clock a_note a_text a_read a_fit a_shown a_image a_isKept a_row a_best : Nat) (m_told : Int32) (m_isRead1 : Int32) (m_clock : Nat → Int32) (m_note : Nat → Int32) (m_noted : Int32) (m_bytes : Int32) (m_text : Nat → Int32) (m_position : Int32) (m_tokenAt : Int32) (m_token : Int64) (m_digits : Int32) (m_number : Int32) (m_faultAt : Int32) (m_readMany : Int32) (m_readTold : Int32) (m_read : Nat → Int32) (m_fit : Nat → Int32) (m_shown : Nat → Int32) (m_image : Nat → Int32) (m_isKept : Nat → Int32) (m_row : Nat → Int32) (m_best : Nat → Int32) (m_againAt : Int32) (m_againStep : Int32) (m_orderMany : Int32) (m_orderLeast : Int32) (x1 : Int32)  : MC l D (TY cI cZ cC cH) yX7_keep wsX7_keep 1 22 [.ref o, .int x1] (WM cI cZ cC cH o a_clock a_note a_text a_read a_fit a_shown a_image a_isKept a_row a_best m_told m_isRead1 m_clock m_note m_noted m_bytes m_text m_position m_tokenAt m_token m_digits m_number m_faultAt m_readMany m_readTold m_read m_fit m_shown m_image m_isKept m_row m_best m_againAt m_againStep m_orderMany m_orderLeast) (some (.int ((F_X7_keep m_told m_isRead1 m_clock m_note m_noted m_image m_isKept x1).1))) (WM cI cZ cC cH o a_clock a_note a_text a_read a_fit a_shown a_image a_isKept a_row a_best m_told m_isRead1 m_clock m_note m_noted m_bytes m_text m_position m_tokenAt m_token m_digits m_number m_faultAt m_readMany m_readTold m_read m_fit m_shown (F_X7_keep m_told m_isRead1 m_clock m_note m_noted m_image m_isKept x1).2.1 (F_X7_keep m_told m_isRead1 m_clock m_note m_noted m_image m_isKept x1).2.2 m_row m_best m_againAt m_againStep m_orderMany m_orderLeast) := by
  obtain ⟨R, hF⟩ : ∃ R, R = F_X7_keep m_told m_isRead1 m_clock m_note m_noted m_image m_isKept x1 := ⟨_, rfl⟩
  rw [← hF]
  refine MC.of (cc := cX7_keep) (maxL := 4) (ret := (some .int)) RX7 rfl (by decide +kernel) rfl (Nat.le_of_ble_eq_true rfl) ?_
  intro p e s m args below meth c A Q KX RT hh ls hl
  have z0 : (0 : Int32).toInt = 0 := rfl
  have z1 : (1 : Int32).toInt = 1 := rfl
  have zm : (-1 : Int32).toInt = -1 := rfl
  have hx := KX.1
  have hb := KX.2.1
  have hl : lv_has ls 4 [(0, .ref o), (1, .int x1)] := hl
  unfold F_X7_keep at hF
  refine lv_iload_n hx hb dX7_keep_0 rfl (lv_at hl 1 rfl) ?_
  refine lv_iconst (v := 0) hx hb dX7_keep_1 (by decide) ?_
  refine lv_iconst (v := 1) hx hb dX7_keep_2 (by decide) ?_
  refine g_callS (As := [.int x1, .int 0, .int 1]) (rest := []) KX rfl ⟨Nat.le_of_ble_eq_true rfl, Nat.le_of_ble_eq_true rfl⟩ hh hl (c_X7_in l D cI cZ cC cH  x1 0 1 ) JN.no 3 gX7_keep_X7_in rfl (by decide +kernel) ⟨Nat.le_of_ble_eq_true rfl, Nat.le_of_ble_eq_true rfl⟩ rfl rfl (Nat.le_of_ble_eq_true rfl) dX7_keep_3 (fun H locs hh => ?_)
  refine W.eq (g2 := F0 m 6 ls [.int (F_X7_in x1 0 1)]) rfl ?_
  refine lv_if_ne (tgt := 12) hx hb dX7_keep_6 (by decide) (fun c_6 => ?_) (fun c_6 => ?_)
  · replace hF := hF.trans (if_neg c_6)
    obtain ⟨k0_6, k1_6⟩ : (0 : Int) ≤ x1.toInt ∧ x1.toInt ≤ 1 := X7_in_in c_6
    refine lv_bipush (v := 90) hx hb dX7_keep_12 (by decide) ?_
    refine lv_iload_n hx hb dX7_keep_14 rfl (lv_at hl 1 rfl) ?_
    refine lv_imul hx hb dX7_keep_15 ?_
    refine lv_istore_n (lv' := [(2, .int (90 * x1)), (0, .ref o), (1, .int x1)]) hx hb dX7_keep_16 rfl hl (Nat.le_of_ble_eq_true rfl) rfl (fun ls hl => ?_)
    refine lv_aload_n hx hb dX7_keep_17 rfl (lv_at hl 1 rfl) ?_
    refine g_get KX hh in_X7_keep_X7 0 rfl rfl 18 (by decide) rfl (List.mem_of_getElem? (i := 1) rfl) dX7_keep_18 ?_
    refine lv_iload_n hx hb dX7_keep_21 rfl (lv_at hl 0 rfl) ?_
    refine lv_aload_n hx hb dX7_keep_22 rfl (lv_at hl 1 rfl) ?_
    refine g_get KX hh in_X7_keep_X7 0 rfl rfl 0 (by decide) rfl (List.mem_of_getElem? (i := 2) rfl) dX7_keep_23 ?_
    refine g_iast KX hh 7 0 rfl rfl (ix90 (by omega) (by omega)) (w' := (WM cI cZ cC cH o a_clock a_note a_text a_read a_fit a_shown a_image a_isKept a_row a_best m_told m_isRead1 m_clock m_note m_noted m_bytes m_text m_position m_tokenAt m_token m_digits m_number m_faultAt m_readMany m_readTold m_read m_fit m_shown (upd m_image (90 * x1).toNatClampNeg m_told) m_isKept m_row m_best m_againAt m_againStep m_orderMany m_orderLeast)) rfl dX7_keep_26 (fun H locs hh => ?_)
    refine lv_aload_n hx hb dX7_keep_27 rfl (lv_at hl 1 rfl) ?_
    refine g_get KX hh in_X7_keep_X7 0 rfl rfl 18 (by decide) rfl (List.mem_of_getElem? (i := 1) rfl) dX7_keep_28 ?_
    refine lv_iload_n hx hb dX7_keep_31 rfl (lv_at hl 0 rfl) ?_
    refine lv_iconst (v := 1) hx hb dX7_keep_32 (by decide) ?_
    refine lv_iadd hx hb dX7_keep_33 ?_
    refine lv_aload_n hx hb dX7_keep_34 rfl (lv_at hl 1 rfl) ?_
    refine g_get KX hh in_X7_keep_X7 0 rfl rfl 1 (by decide) rfl (List.mem_of_getElem? (i := 3) rfl) dX7_keep_35 ?_
    refine g_iast KX hh 7 0 rfl rfl (ix90c 1 (by omega) (by omega) rfl (by decide) (by decide)) (w' := (WM cI cZ cC cH o a_clock a_note a_text a_read a_fit a_shown a_image a_isKept a_row a_best m_told m_isRead1 m_clock m_note m_noted m_bytes m_text m_position m_tokenAt m_token m_digits m_number m_faultAt m_readMany m_readTold m_read m_fit m_shown (upd (upd m_image (90 * x1).toNatClampNeg m_told) ((90 * x1) + 1).toNatClampNeg m_isRead1) m_isKept m_row m_best m_againAt m_againStep m_orderMany m_orderLeast)) rfl dX7_keep_38 (fun H locs hh => ?_)
    refine lv_aload_n hx hb dX7_keep_39 rfl (lv_at hl 1 rfl) ?_
    refine g_get KX hh in_X7_keep_X7 0 rfl rfl 18 (by decide) rfl (List.mem_of_getElem? (i := 1) rfl) dX7_keep_40 ?_
    refine lv_iload_n hx hb dX7_keep_43 rfl (lv_at hl 0 rfl) ?_
    refine lv_iconst (v := 2) hx hb dX7_keep_44 (by decide) ?_
    refine lv_iadd hx hb dX7_keep_45 ?_
    refine lv_aload_n hx hb dX7_keep_46 rfl (lv_at hl 1 rfl) ?_
    refine g_get KX hh in_X7_keep_X7 0 rfl rfl 4 (by decide) rfl (List.mem_of_getElem? (i := 4) rfl) dX7_keep_47 ?_
    refine g_iast KX hh 7 0 rfl rfl (ix90c 2 (by omega) (by omega) rfl (by decide) (by decide)) (w' := (WM cI cZ cC cH o a_clock a_note a_text a_read a_fit a_shown a_image a_isKept a_row a_best m_told m_isRead1 m_clock m_note m_noted m_bytes m_text m_position m_tokenAt m_token m_digits m_number m_faultAt m_readMany m_readTold m_read m_fit m_shown (upd (upd (upd m_image (90 * x1).toNatClampNeg m_told) ((90 * x1) + 1).toNatClampNeg m_isRead1) ((90 * x1) + 2).toNatClampNeg m_noted) m_isKept m_row m_best m_againAt m_againStep m_orderMany m_orderLeast)) rfl dX7_keep_50 (fun H locs hh => ?_)
    refine lv_iconst (v := 0) hx hb dX7_keep_51 (by decide) ?_
    refine lv_istore_n (lv' := [(3, .int 0), (2, .int (90 * x1)), (0, .ref o), (1, .int x1)]) hx hb dX7_keep_52 rfl hl (Nat.le_of_ble_eq_true rfl) rfl (fun ls hl => ?_)
    have L_53 : ∀ (n_53 : Nat) (x3_1 : Int32) (w_m_image_2 : Nat → Int32) (i0_53 : 0 ≤ x3_1.toInt) (i1_53 : x3_1.toInt ≤ 48) (_ : (48 - x3_1.toInt).toNat < n_53) (_ : R = (F_X7_keep_53 m_told m_clock m_note m_isKept x1) n_53 x3_1 w_m_image_2) (ls : Array Slot) (H : Heap) (locs : List Loc) (_ : HS D A s.heap (WM cI cZ cC cH o a_clock a_note a_text a_read a_fit a_shown a_image a_isKept a_row a_best m_told m_isRead1 m_clock m_note m_noted m_bytes m_text m_position m_tokenAt m_token m_digits m_number m_faultAt m_readMany m_readTold m_read m_fit m_shown w_m_image_2 m_isKept m_row m_best m_againAt m_againStep m_orderMany m_orderLeast) H locs) (_ : lv_has ls 4 [(3, .int x3_1), (2, .int (90 * x1)), (0, .ref o), (1, .int x1)]), W p l e { frames := 1, cells := 0, slots := 0, locals := 22 } s m args below meth c H locs 0 0 Q (F0 m 53 ls []) := by
      intro n_53
      induction n_53 with
      | zero => intro x3_1 w_m_image_2 i0_53 i1_53 hm; exact absurd hm (Nat.not_lt_zero _)
      | succ n_53 ih_53 =>
        intro x3_1 w_m_image_2 i0_53 i1_53 hm_53 hF ls H locs hh hl
        rw [F_X7_keep_53.eq_2] at hF
        refine lv_iload_n hx hb dX7_keep_53 rfl (lv_at hl 0 rfl) ?_
        refine lv_bipush (v := 48) hx hb dX7_keep_54 (by decide) ?_
        refine lv_icmp_ge (tgt := 81) hx hb dX7_keep_56 (by decide) (fun c_56 => ?_) (fun c_56 => ?_)
        · replace hF := hF.trans (if_pos c_56)
          have i_56 : 48 ≤ x3_1.toInt := ti_le.mp c_56
          refine lv_iconst (v := 0) hx hb dX7_keep_81 (by decide) ?_
          refine lv_istore_n (lv' := [(3, .int 0), (2, .int (90 * x1)), (0, .ref o), (1, .int x1)]) hx hb dX7_keep_82 rfl hl (Nat.le_of_ble_eq_true rfl) rfl (fun ls hl => ?_)
          have L_83 : ∀ (n_83 : Nat) (x3_3 : Int32) (w_m_image_4 : Nat → Int32) (i0_83 : 0 ≤ x3_3.toInt) (i1_83 : x3_3.toInt ≤ 36) (_ : (36 - x3_3.toInt).toNat < n_83) (_ : R = (F_X7_keep_83 m_told m_note m_isKept x1) n_83 x3_3 w_m_image_4) (ls : Array Slot) (H : Heap) (locs : List Loc) (_ : HS D A s.heap (WM cI cZ cC cH o a_clock a_note a_text a_read a_fit a_shown a_image a_isKept a_row a_best m_told m_isRead1 m_clock m_note m_noted m_bytes m_text m_position m_tokenAt m_token m_digits m_number m_faultAt m_readMany m_readTold m_read m_fit m_shown w_m_image_4 m_isKept m_row m_best m_againAt m_againStep m_orderMany m_orderLeast) H locs) (_ : lv_has ls 4 [(3, .int x3_3), (2, .int (90 * x1)), (0, .ref o), (1, .int x1)]), W p l e { frames := 1, cells := 0, slots := 0, locals := 22 } s m args below meth c H locs 0 0 Q (F0 m 83 ls []) := by
            intro n_83
            induction n_83 with
            | zero => intro x3_3 w_m_image_4 i0_83 i1_83 hm; exact absurd hm (Nat.not_lt_zero _)
            | succ n_83 ih_83 =>
              intro x3_3 w_m_image_4 i0_83 i1_83 hm_83 hF ls H locs hh hl
              rw [F_X7_keep_83.eq_2] at hF
              refine lv_iload_n hx hb dX7_keep_83 rfl (lv_at hl 0 rfl) ?_
              refine lv_bipush (v := 36) hx hb dX7_keep_84 (by decide) ?_
              refine lv_icmp_ge (tgt := 112) hx hb dX7_keep_86 (by decide) (fun c_86 => ?_) (fun c_86 => ?_)
              · replace hF := hF.trans (if_pos c_86)
                have i_86 : 36 ≤ x3_3.toInt := ti_le.mp c_86
                refine lv_aload_n hx hb dX7_keep_112 rfl (lv_at hl 2 rfl) ?_
                refine g_get KX hh in_X7_keep_X7 0 rfl rfl 19 (by decide) rfl (List.mem_of_getElem? (i := 7) rfl) dX7_keep_113 ?_
                refine lv_iload_n hx hb dX7_keep_116 rfl (lv_at hl 3 rfl) ?_
                refine lv_iconst (v := 1) hx hb dX7_keep_117 (by decide) ?_
                refine g_zast KX hh 8 1 rfl rfl (vp_in_iff.mpr (by omega)) (w' := (WM cI cZ cC cH o a_clock a_note a_text a_read a_fit a_shown a_image a_isKept a_row a_best m_told m_isRead1 m_clock m_note m_noted m_bytes m_text m_position m_tokenAt m_token m_digits m_number m_faultAt m_readMany m_readTold m_read m_fit m_shown w_m_image_4 (upd m_isKept x1.toNatClampNeg 1) m_row m_best m_againAt m_againStep m_orderMany m_orderLeast)) rfl dX7_keep_118 (fun H locs hh => ?_)
                refine lv_aload_n hx hb dX7_keep_119 rfl (lv_at hl 2 rfl) ?_
                refine g_get KX hh in_X7_keep_X7 0 rfl rfl 0 (by decide) rfl (List.mem_of_getElem? (i := 2) rfl) dX7_keep_120 ?_
                refine g_callS (As := [.int m_told]) (rest := []) KX rfl ⟨Nat.le_of_ble_eq_true rfl, Nat.le_of_ble_eq_true rfl⟩ hh hl (c_X7_bits l D cI cZ cC cH  m_told ) JN.no 1 gX7_keep_X7_bits rfl (by decide +kernel) ⟨Nat.le_of_ble_eq_true rfl, Nat.le_of_ble_eq_true rfl⟩ rfl rfl (Nat.le_of_ble_eq_true rfl) dX7_keep_123 (fun H locs hh => ?_)
                refine W.eq (g2 := F0 m 126 ls [.int (F_X7_bits m_told)]) rfl ?_
                exact RT _ _ _ _ _ _ hh (by rw [hF]) (Or.inl ⟨_, rfl, by rw [hF], dX7_keep_126, Or.inl rfl⟩)
              · replace hF := hF.trans (if_neg c_86)
                have i_86 : x3_3.toInt < 36 := ti_nle c_86
                refine lv_aload_n hx hb dX7_keep_89 rfl (lv_at hl 2 rfl) ?_
                refine g_get KX hh in_X7_keep_X7 0 rfl rfl 18 (by decide) rfl (List.mem_of_getElem? (i := 1) rfl) dX7_keep_90 ?_
                refine lv_iload_n hx hb dX7_keep_93 rfl (lv_at hl 1 rfl) ?_
                refine lv_bipush (v := 51) hx hb dX7_keep_94 (by decide) ?_
                refine lv_iadd hx hb dX7_keep_96 ?_
                refine lv_iload_n hx hb dX7_keep_97 rfl (lv_at hl 0 rfl) ?_
                refine lv_iadd hx hb dX7_keep_98 ?_
                refine lv_aload_n hx hb dX7_keep_99 rfl (lv_at hl 2 rfl) ?_
                refine g_get KX hh in_X7_keep_X7 0 rfl rfl 3 (by decide) rfl (List.mem_of_getElem? (i := 6) rfl) dX7_keep_100 ?_
                refine lv_iload_n hx hb dX7_keep_103 rfl (lv_at hl 0 rfl) ?_
                refine g_iald KX hh 2 0 rfl rfl (vp_in_iff.mpr (by omega)) dX7_keep_104 ?_
                refine g_iast KX hh 7 0 rfl rfl (ix90k 51 36 (by omega) (by omega) rfl (by decide) (by decide) (by omega) (by omega)) (w' := (WM cI cZ cC cH o a_clock a_note a_text a_read a_fit a_shown a_image a_isKept a_row a_best m_told m_isRead1 m_clock m_note m_noted m_bytes m_text m_position m_tokenAt m_token m_digits m_number m_faultAt m_readMany m_readTold m_read m_fit m_shown (upd w_m_image_4 (((90 * x1) + 51) + x3_3).toNatClampNeg (m_note x3_3.toNatClampNeg)) m_isKept m_row m_best m_againAt m_againStep m_orderMany m_orderLeast)) rfl dX7_keep_105 (fun H locs hh => ?_)
                refine lv_iinc (v := x3_3 + 1) (lv' := [(3, .int (x3_3 + 1)), (2, .int (90 * x1)), (0, .ref o), (1, .int x1)]) hx hb dX7_keep_106 hl (k := 0) rfl rfl (Nat.le_of_ble_eq_true rfl) rfl (fun ls hl => ?_)
                refine lv_goto (tgt := 83) hx hb dX7_keep_109 (by decide) ?_
                have e_inc : (x3_3 + 1).toInt = x3_3.toInt + 1 := ti_inc (by omega)
                exact ih_83 (x3_3 + 1) (upd w_m_image_4 (((90 * x1) + 51) + x3_3).toNatClampNeg (m_note x3_3.toNatClampNeg)) (by first | with_reducible assumption | omega | decide) (by first | with_reducible assumption | omega | decide) (by omega) hF _ _ _ hh (lv_sub hl [0, 1, 2, 3] rfl)
          exact L_83 37 0 w_m_image_2 (by first | with_reducible assumption | omega | decide) (by first | with_reducible assumption | omega | decide) (by first | omega | decide | (simp; done)) hF _ _ _ hh (lv_sub hl [0, 1, 2, 3] rfl)
        · replace hF := hF.trans (if_neg c_56)
          have i_56 : x3_1.toInt < 48 := ti_nle c_56
          refine lv_aload_n hx hb dX7_keep_59 rfl (lv_at hl 2 rfl) ?_
          refine g_get KX hh in_X7_keep_X7 0 rfl rfl 18 (by decide) rfl (List.mem_of_getElem? (i := 1) rfl) dX7_keep_60 ?_
          refine lv_iload_n hx hb dX7_keep_63 rfl (lv_at hl 1 rfl) ?_
          refine lv_iconst (v := 3) hx hb dX7_keep_64 (by decide) ?_
          refine lv_iadd hx hb dX7_keep_65 ?_
          refine lv_iload_n hx hb dX7_keep_66 rfl (lv_at hl 0 rfl) ?_
          refine lv_iadd hx hb dX7_keep_67 ?_
          refine lv_aload_n hx hb dX7_keep_68 rfl (lv_at hl 2 rfl) ?_
          refine g_get KX hh in_X7_keep_X7 0 rfl rfl 2 (by decide) rfl (List.mem_of_getElem? (i := 5) rfl) dX7_keep_69 ?_
          refine lv_iload_n hx hb dX7_keep_72 rfl (lv_at hl 0 rfl) ?_
          refine g_iald KX hh 1 0 rfl rfl (vp_in_iff.mpr (by omega)) dX7_keep_73 ?_
          refine g_iast KX hh 7 0 rfl rfl (ix90k 3 48 (by omega) (by omega) rfl (by decide) (by decide) (by omega) (by omega)) (w' := (WM cI cZ cC cH o a_clock a_note a_text a_read a_fit a_shown a_image a_isKept a_row a_best m_told m_isRead1 m_clock m_note m_noted m_bytes m_text m_position m_tokenAt m_token m_digits m_number m_faultAt m_readMany m_readTold m_read m_fit m_shown (upd w_m_image_2 (((90 * x1) + 3) + x3_1).toNatClampNeg (m_clock x3_1.toNatClampNeg)) m_isKept m_row m_best m_againAt m_againStep m_orderMany m_orderLeast)) rfl dX7_keep_74 (fun H locs hh => ?_)
          refine lv_iinc (v := x3_1 + 1) (lv' := [(3, .int (x3_1 + 1)), (2, .int (90 * x1)), (0, .ref o), (1, .int x1)]) hx hb dX7_keep_75 hl (k := 0) rfl rfl (Nat.le_of_ble_eq_true rfl) rfl (fun ls hl => ?_)
          refine lv_goto (tgt := 53) hx hb dX7_keep_78 (by decide) ?_
          have e_inc : (x3_1 + 1).toInt = x3_1.toInt + 1 := ti_inc (by omega)
          exact ih_53 (x3_1 + 1) (upd w_m_image_2 (((90 * x1) + 3) + x3_1).toNatClampNeg (m_clock x3_1.toNatClampNeg)) (by first | with_reducible assumption | omega | decide) (by first | with_reducible assumption | omega | decide) (by omega) hF _ _ _ hh (lv_sub hl [0, 1, 2, 3] rfl)
    exact L_53 49 0 (upd (upd (upd m_image (90 * x1).toNatClampNeg m_told) ((90 * x1) + 1).toNatClampNeg m_isRead1) ((90 * x1) + 2).toNatClampNeg m_noted) (by first | with_reducible assumption | omega | decide) (by first | with_reducible assumption | omega | decide) (by first | omega | decide | (simp; done)) hF _ _ _ hh (lv_sub hl [0, 1, 2, 3] rfl)
  · replace hF := hF.trans (if_pos c_6)
    refine lv_bipush (v := (-2)) hx hb dX7_keep_9 (by decide) ?_
    exact RT _ _ _ _ _ _ hh (by rw [hF]) (Or.inl ⟨_, rfl, by rw [hF], dX7_keep_11, Or.inl rfl⟩)
def F_X7_back_95 (m_image : Nat → Int32) (x1 : Int32) (w_m_clock_2 : Nat → Int32) : Nat → Int32 → (Nat → Int32) → Int32 × Int32 × Int32 × (Nat → Int32) × (Nat → Int32) × Int32
  | 0, _, _ => default
  | n + 1, x3_3, w_m_note_4 => (if 36 ≤ x3_3 then (F_X7_bits (m_image (90 * x1).toNatClampNeg), m_image (90 * x1).toNatClampNeg, m_image ((90 * x1) + 1).toNatClampNeg, w_m_clock_2, w_m_note_4, m_image ((90 * x1) + 2).toNatClampNeg) else ((F_X7_back_95 m_image x1 w_m_clock_2 n) (x3_3 + 1) (upd w_m_note_4 x3_3.toNatClampNeg (m_image (((90 * x1) + 51) + x3_3).toNatClampNeg))))
def F_X7_back_65 (m_note : Nat → Int32) (m_image : Nat → Int32) (x1 : Int32) : Nat → Int32 → (Nat → Int32) → Int32 × Int32 × Int32 × (Nat → Int32) × (Nat → Int32) × Int32
  | 0, _, _ => default
  | n + 1, x3_1, w_m_clock_2 => (if 48 ≤ x3_1 then (F_X7_back_95 m_image x1 w_m_clock_2 37 0 m_note) else ((F_X7_back_65 m_note m_image x1 n) (x3_1 + 1) (upd w_m_clock_2 x3_1.toNatClampNeg (m_image (((90 * x1) + 3) + x3_1).toNatClampNeg))))
def F_X7_back (m_told : Int32) (m_isRead1 : Int32) (m_clock : Nat → Int32) (m_note : Nat → Int32) (m_noted : Int32) (m_image : Nat → Int32) (m_isKept : Nat → Int32) (x1 : Int32) : Int32 × Int32 × Int32 × (Nat → Int32) × (Nat → Int32) × Int32 := (if (F_X7_in x1 0 1) = 0 then ((-2), m_told, m_isRead1, m_clock, m_note, m_noted) else (if (m_isKept x1.toNatClampNeg) = 0 then ((-4), m_told, m_isRead1, m_clock, m_note, m_noted) else (F_X7_back_65 m_note m_image x1 49 0 m_clock)))
theorem in_X7_back_X7 : ∀ x ∈ u_ws RX7 TX7 26, x ∈ wsX7_back := by decide +kernel
set_option maxHeartbeats 2000000 in
set_option maxRecDepth 100000 in
theorem c_X7_back (l : Launch) (D : va_G) (cI cZ cC cH : ClassId) (o a_clock a_note a_text a_read a_fit a_shown a_image a_isKept a_row a_best : Nat) (m_told : Int32) (m_isRead1 : Int32) (m_clock : Nat → Int32) (m_note : Nat → Int32) (m_noted : Int32) (m_bytes : Int32) (m_text : Nat → Int32) (m_position : Int32) (m_tokenAt : Int32) (m_token : Int64) (m_digits : Int32) (m_number : Int32) (m_faultAt : Int32) (m_readMany : Int32) (m_readTold : Int32) (m_read : Nat → Int32) (m_fit : Nat → Int32) (m_shown : Nat → Int32) (m_image : Nat → Int32) (m_isKept : Nat → Int32) (m_row : Nat → Int32) (m_best : Nat → Int32) (m_againAt : Int32) (m_againStep : Int32) (m_orderMany : Int32) (m_orderLeast : Int32) (x1 : Int32)  : MC l D (TY cI cZ cC cH) yX7_back wsX7_back 1 22 [.ref o, .int x1] (WM cI cZ cC cH o a_clock a_note a_text a_read a_fit a_shown a_image a_isKept a_row a_best m_told m_isRead1 m_clock m_note m_noted m_bytes m_text m_position m_tokenAt m_token m_digits m_number m_faultAt m_readMany m_readTold m_read m_fit m_shown m_image m_isKept m_row m_best m_againAt m_againStep m_orderMany m_orderLeast) (some (.int ((F_X7_back m_told m_isRead1 m_clock m_note m_noted m_image m_isKept x1).1))) (WM cI cZ cC cH o a_clock a_note a_text a_read a_fit a_shown a_image a_isKept a_row a_best (F_X7_back m_told m_isRead1 m_clock m_note m_noted m_image m_isKept x1).2.1 (F_X7_back m_told m_isRead1 m_clock m_note m_noted m_image m_isKept x1).2.2.1 (F_X7_back m_told m_isRead1 m_clock m_note m_noted m_image m_isKept x1).2.2.2.1 (F_X7_back m_told m_isRead1 m_clock m_note m_noted m_image m_isKept x1).2.2.2.2.1 (F_X7_back m_told m_isRead1 m_clock m_note m_noted m_image m_isKept x1).2.2.2.2.2 m_bytes m_text m_position m_tokenAt m_token m_digits m_number m_faultAt m_readMany m_readTold m_read m_fit m_shown m_image m_isKept m_row m_best m_againAt m_againStep m_orderMany m_orderLeast) := by
  obtain ⟨R, hF⟩ : ∃ R, R = F_X7_back m_told m_isRead1 m_clock m_note m_noted m_image m_isKept x1 := ⟨_, rfl⟩
  rw [← hF]
  refine MC.of (cc := cX7_back) (maxL := 4) (ret := (some .int)) RX7 rfl (by decide +kernel) rfl (Nat.le_of_ble_eq_true rfl) ?_
  intro p e s m args below meth c A Q KX RT hh ls hl
  have z0 : (0 : Int32).toInt = 0 := rfl
  have z1 : (1 : Int32).toInt = 1 := rfl
  have zm : (-1 : Int32).toInt = -1 := rfl
  have hx := KX.1
  have hb := KX.2.1
  have hl : lv_has ls 4 [(0, .ref o), (1, .int x1)] := hl
  unfold F_X7_back at hF
  refine lv_iload_n hx hb dX7_back_0 rfl (lv_at hl 1 rfl) ?_
  refine lv_iconst (v := 0) hx hb dX7_back_1 (by decide) ?_
  refine lv_iconst (v := 1) hx hb dX7_back_2 (by decide) ?_
  refine g_callS (As := [.int x1, .int 0, .int 1]) (rest := []) KX rfl ⟨Nat.le_of_ble_eq_true rfl, Nat.le_of_ble_eq_true rfl⟩ hh hl (c_X7_in l D cI cZ cC cH  x1 0 1 ) JN.no 3 gX7_back_X7_in rfl (by decide +kernel) ⟨Nat.le_of_ble_eq_true rfl, Nat.le_of_ble_eq_true rfl⟩ rfl rfl (Nat.le_of_ble_eq_true rfl) dX7_back_3 (fun H locs hh => ?_)
  refine W.eq (g2 := F0 m 6 ls [.int (F_X7_in x1 0 1)]) rfl ?_
  refine lv_if_ne (tgt := 12) hx hb dX7_back_6 (by decide) (fun c_6 => ?_) (fun c_6 => ?_)
  · replace hF := hF.trans (if_neg c_6)
    obtain ⟨k0_6, k1_6⟩ : (0 : Int) ≤ x1.toInt ∧ x1.toInt ≤ 1 := X7_in_in c_6
    refine lv_aload_n hx hb dX7_back_12 rfl (lv_at hl 0 rfl) ?_
    refine g_get KX hh in_X7_back_X7 0 rfl rfl 19 (by decide) rfl (List.mem_of_getElem? (i := 1) rfl) dX7_back_13 ?_
    refine lv_iload_n hx hb dX7_back_16 rfl (lv_at hl 1 rfl) ?_
    refine g_zald KX hh 8 1 rfl rfl (vp_in_iff.mpr (by omega)) dX7_back_17 ?_
    refine lv_if_ne (tgt := 24) hx hb dX7_back_18 (by decide) (fun c_18 => ?_) (fun c_18 => ?_)
    · replace hF := hF.trans (if_neg c_18)
      refine lv_bipush (v := 90) hx hb dX7_back_24 (by decide) ?_
      refine lv_iload_n hx hb dX7_back_26 rfl (lv_at hl 1 rfl) ?_
      refine lv_imul hx hb dX7_back_27 ?_
      refine lv_istore_n (lv' := [(2, .int (90 * x1)), (0, .ref o), (1, .int x1)]) hx hb dX7_back_28 rfl hl (Nat.le_of_ble_eq_true rfl) rfl (fun ls hl => ?_)
      refine lv_aload_n hx hb dX7_back_29 rfl (lv_at hl 1 rfl) ?_
      refine lv_aload_n hx hb dX7_back_30 rfl (lv_at hl 1 rfl) ?_
      refine g_get KX hh in_X7_back_X7 0 rfl rfl 18 (by decide) rfl (List.mem_of_getElem? (i := 2) rfl) dX7_back_31 ?_
      refine lv_iload_n hx hb dX7_back_34 rfl (lv_at hl 0 rfl) ?_
      refine g_iald KX hh 7 0 rfl rfl (ix90 (by omega) (by omega)) dX7_back_35 ?_
      refine g_put KX hh in_X7_back_X7 tyX7 tyX7_ok nmX7 0 rfl rfl 0 (by decide) rfl rfl rfl (Nat.le_of_ble_eq_true rfl) (List.mem_of_getElem? (i := 3) rfl) (w' := (WM cI cZ cC cH o a_clock a_note a_text a_read a_fit a_shown a_image a_isKept a_row a_best (m_image (90 * x1).toNatClampNeg) m_isRead1 m_clock m_note m_noted m_bytes m_text m_position m_tokenAt m_token m_digits m_number m_faultAt m_readMany m_readTold m_read m_fit m_shown m_image m_isKept m_row m_best m_againAt m_againStep m_orderMany m_orderLeast)) rfl rfl dX7_back_36 (fun H locs hh => ?_)
      refine lv_aload_n hx hb dX7_back_39 rfl (lv_at hl 1 rfl) ?_
      refine lv_aload_n hx hb dX7_back_40 rfl (lv_at hl 1 rfl) ?_
      refine g_get KX hh in_X7_back_X7 0 rfl rfl 18 (by decide) rfl (List.mem_of_getElem? (i := 2) rfl) dX7_back_41 ?_
      refine lv_iload_n hx hb dX7_back_44 rfl (lv_at hl 0 rfl) ?_
      refine lv_iconst (v := 1) hx hb dX7_back_45 (by decide) ?_
      refine lv_iadd hx hb dX7_back_46 ?_
      refine g_iald KX hh 7 0 rfl rfl (ix90c 1 (by omega) (by omega) rfl (by decide) (by decide)) dX7_back_47 ?_
      refine g_put KX hh in_X7_back_X7 tyX7 tyX7_ok nmX7 0 rfl rfl 1 (by decide) rfl rfl rfl (Nat.le_of_ble_eq_true rfl) (List.mem_of_getElem? (i := 4) rfl) (w' := (WM cI cZ cC cH o a_clock a_note a_text a_read a_fit a_shown a_image a_isKept a_row a_best (m_image (90 * x1).toNatClampNeg) (m_image ((90 * x1) + 1).toNatClampNeg) m_clock m_note m_noted m_bytes m_text m_position m_tokenAt m_token m_digits m_number m_faultAt m_readMany m_readTold m_read m_fit m_shown m_image m_isKept m_row m_best m_againAt m_againStep m_orderMany m_orderLeast)) rfl rfl dX7_back_48 (fun H locs hh => ?_)
      refine lv_aload_n hx hb dX7_back_51 rfl (lv_at hl 1 rfl) ?_
      refine lv_aload_n hx hb dX7_back_52 rfl (lv_at hl 1 rfl) ?_
      refine g_get KX hh in_X7_back_X7 0 rfl rfl 18 (by decide) rfl (List.mem_of_getElem? (i := 2) rfl) dX7_back_53 ?_
      refine lv_iload_n hx hb dX7_back_56 rfl (lv_at hl 0 rfl) ?_
      refine lv_iconst (v := 2) hx hb dX7_back_57 (by decide) ?_
      refine lv_iadd hx hb dX7_back_58 ?_
      refine g_iald KX hh 7 0 rfl rfl (ix90c 2 (by omega) (by omega) rfl (by decide) (by decide)) dX7_back_59 ?_
      refine g_put KX hh in_X7_back_X7 tyX7 tyX7_ok nmX7 0 rfl rfl 4 (by decide) rfl rfl rfl (Nat.le_of_ble_eq_true rfl) (List.mem_of_getElem? (i := 5) rfl) (w' := (WM cI cZ cC cH o a_clock a_note a_text a_read a_fit a_shown a_image a_isKept a_row a_best (m_image (90 * x1).toNatClampNeg) (m_image ((90 * x1) + 1).toNatClampNeg) m_clock m_note (m_image ((90 * x1) + 2).toNatClampNeg) m_bytes m_text m_position m_tokenAt m_token m_digits m_number m_faultAt m_readMany m_readTold m_read m_fit m_shown m_image m_isKept m_row m_best m_againAt m_againStep m_orderMany m_orderLeast)) rfl rfl dX7_back_60 (fun H locs hh => ?_)
      refine lv_iconst (v := 0) hx hb dX7_back_63 (by decide) ?_
      refine lv_istore_n (lv' := [(3, .int 0), (2, .int (90 * x1)), (0, .ref o), (1, .int x1)]) hx hb dX7_back_64 rfl hl (Nat.le_of_ble_eq_true rfl) rfl (fun ls hl => ?_)
      have L_65 : ∀ (n_65 : Nat) (x3_1 : Int32) (w_m_clock_2 : Nat → Int32) (i0_65 : 0 ≤ x3_1.toInt) (i1_65 : x3_1.toInt ≤ 48) (_ : (48 - x3_1.toInt).toNat < n_65) (_ : R = (F_X7_back_65 m_note m_image x1) n_65 x3_1 w_m_clock_2) (ls : Array Slot) (H : Heap) (locs : List Loc) (_ : HS D A s.heap (WM cI cZ cC cH o a_clock a_note a_text a_read a_fit a_shown a_image a_isKept a_row a_best (m_image (90 * x1).toNatClampNeg) (m_image ((90 * x1) + 1).toNatClampNeg) w_m_clock_2 m_note (m_image ((90 * x1) + 2).toNatClampNeg) m_bytes m_text m_position m_tokenAt m_token m_digits m_number m_faultAt m_readMany m_readTold m_read m_fit m_shown m_image m_isKept m_row m_best m_againAt m_againStep m_orderMany m_orderLeast) H locs) (_ : lv_has ls 4 [(3, .int x3_1), (2, .int (90 * x1)), (0, .ref o), (1, .int x1)]), W p l e { frames := 1, cells := 0, slots := 0, locals := 22 } s m args below meth c H locs 0 0 Q (F0 m 65 ls []) := by
        intro n_65
        induction n_65 with
        | zero => intro x3_1 w_m_clock_2 i0_65 i1_65 hm; exact absurd hm (Nat.not_lt_zero _)
        | succ n_65 ih_65 =>
          intro x3_1 w_m_clock_2 i0_65 i1_65 hm_65 hF ls H locs hh hl
          rw [F_X7_back_65.eq_2] at hF
          refine lv_iload_n hx hb dX7_back_65 rfl (lv_at hl 0 rfl) ?_
          refine lv_bipush (v := 48) hx hb dX7_back_66 (by decide) ?_
          refine lv_icmp_ge (tgt := 93) hx hb dX7_back_68 (by decide) (fun c_68 => ?_) (fun c_68 => ?_)
          · replace hF := hF.trans (if_pos c_68)
            have i_68 : 48 ≤ x3_1.toInt := ti_le.mp c_68
            refine lv_iconst (v := 0) hx hb dX7_back_93 (by decide) ?_
            refine lv_istore_n (lv' := [(3, .int 0), (2, .int (90 * x1)), (0, .ref o), (1, .int x1)]) hx hb dX7_back_94 rfl hl (Nat.le_of_ble_eq_true rfl) rfl (fun ls hl => ?_)
            have L_95 : ∀ (n_95 : Nat) (x3_3 : Int32) (w_m_note_4 : Nat → Int32) (i0_95 : 0 ≤ x3_3.toInt) (i1_95 : x3_3.toInt ≤ 36) (_ : (36 - x3_3.toInt).toNat < n_95) (_ : R = (F_X7_back_95 m_image x1 w_m_clock_2) n_95 x3_3 w_m_note_4) (ls : Array Slot) (H : Heap) (locs : List Loc) (_ : HS D A s.heap (WM cI cZ cC cH o a_clock a_note a_text a_read a_fit a_shown a_image a_isKept a_row a_best (m_image (90 * x1).toNatClampNeg) (m_image ((90 * x1) + 1).toNatClampNeg) w_m_clock_2 w_m_note_4 (m_image ((90 * x1) + 2).toNatClampNeg) m_bytes m_text m_position m_tokenAt m_token m_digits m_number m_faultAt m_readMany m_readTold m_read m_fit m_shown m_image m_isKept m_row m_best m_againAt m_againStep m_orderMany m_orderLeast) H locs) (_ : lv_has ls 4 [(3, .int x3_3), (2, .int (90 * x1)), (0, .ref o), (1, .int x1)]), W p l e { frames := 1, cells := 0, slots := 0, locals := 22 } s m args below meth c H locs 0 0 Q (F0 m 95 ls []) := by
              intro n_95
              induction n_95 with
              | zero => intro x3_3 w_m_note_4 i0_95 i1_95 hm; exact absurd hm (Nat.not_lt_zero _)
              | succ n_95 ih_95 =>
                intro x3_3 w_m_note_4 i0_95 i1_95 hm_95 hF ls H locs hh hl
                rw [F_X7_back_95.eq_2] at hF
                refine lv_iload_n hx hb dX7_back_95 rfl (lv_at hl 0 rfl) ?_
                refine lv_bipush (v := 36) hx hb dX7_back_96 (by decide) ?_
                refine lv_icmp_ge (tgt := 124) hx hb dX7_back_98 (by decide) (fun c_98 => ?_) (fun c_98 => ?_)
                · replace hF := hF.trans (if_pos c_98)
                  have i_98 : 36 ≤ x3_3.toInt := ti_le.mp c_98
                  refine lv_aload_n hx hb dX7_back_124 rfl (lv_at hl 2 rfl) ?_
                  refine g_get KX hh in_X7_back_X7 0 rfl rfl 0 (by decide) rfl (List.mem_of_getElem? (i := 3) rfl) dX7_back_125 ?_
                  refine g_callS (As := [.int (m_image (90 * x1).toNatClampNeg)]) (rest := []) KX rfl ⟨Nat.le_of_ble_eq_true rfl, Nat.le_of_ble_eq_true rfl⟩ hh hl (c_X7_bits l D cI cZ cC cH  (m_image (90 * x1).toNatClampNeg) ) JN.no 1 gX7_back_X7_bits rfl (by decide +kernel) ⟨Nat.le_of_ble_eq_true rfl, Nat.le_of_ble_eq_true rfl⟩ rfl rfl (Nat.le_of_ble_eq_true rfl) dX7_back_128 (fun H locs hh => ?_)
                  refine W.eq (g2 := F0 m 131 ls [.int (F_X7_bits (m_image (90 * x1).toNatClampNeg))]) rfl ?_
                  exact RT _ _ _ _ _ _ hh (by rw [hF]) (Or.inl ⟨_, rfl, by rw [hF], dX7_back_131, Or.inl rfl⟩)
                · replace hF := hF.trans (if_neg c_98)
                  have i_98 : x3_3.toInt < 36 := ti_nle c_98
                  refine lv_aload_n hx hb dX7_back_101 rfl (lv_at hl 2 rfl) ?_
                  refine g_get KX hh in_X7_back_X7 0 rfl rfl 3 (by decide) rfl (List.mem_of_getElem? (i := 7) rfl) dX7_back_102 ?_
                  refine lv_iload_n hx hb dX7_back_105 rfl (lv_at hl 0 rfl) ?_
                  refine lv_aload_n hx hb dX7_back_106 rfl (lv_at hl 2 rfl) ?_
                  refine g_get KX hh in_X7_back_X7 0 rfl rfl 18 (by decide) rfl (List.mem_of_getElem? (i := 2) rfl) dX7_back_107 ?_
                  refine lv_iload_n hx hb dX7_back_110 rfl (lv_at hl 1 rfl) ?_
                  refine lv_bipush (v := 51) hx hb dX7_back_111 (by decide) ?_
                  refine lv_iadd hx hb dX7_back_113 ?_
                  refine lv_iload_n hx hb dX7_back_114 rfl (lv_at hl 0 rfl) ?_
                  refine lv_iadd hx hb dX7_back_115 ?_
                  refine g_iald KX hh 7 0 rfl rfl (ix90k 51 36 (by omega) (by omega) rfl (by decide) (by decide) (by omega) (by omega)) dX7_back_116 ?_
                  refine g_iast KX hh 2 0 rfl rfl (vp_in_iff.mpr (by omega)) (w' := (WM cI cZ cC cH o a_clock a_note a_text a_read a_fit a_shown a_image a_isKept a_row a_best (m_image (90 * x1).toNatClampNeg) (m_image ((90 * x1) + 1).toNatClampNeg) w_m_clock_2 (upd w_m_note_4 x3_3.toNatClampNeg (m_image (((90 * x1) + 51) + x3_3).toNatClampNeg)) (m_image ((90 * x1) + 2).toNatClampNeg) m_bytes m_text m_position m_tokenAt m_token m_digits m_number m_faultAt m_readMany m_readTold m_read m_fit m_shown m_image m_isKept m_row m_best m_againAt m_againStep m_orderMany m_orderLeast)) rfl dX7_back_117 (fun H locs hh => ?_)
                  refine lv_iinc (v := x3_3 + 1) (lv' := [(3, .int (x3_3 + 1)), (2, .int (90 * x1)), (0, .ref o), (1, .int x1)]) hx hb dX7_back_118 hl (k := 0) rfl rfl (Nat.le_of_ble_eq_true rfl) rfl (fun ls hl => ?_)
                  refine lv_goto (tgt := 95) hx hb dX7_back_121 (by decide) ?_
                  have e_inc : (x3_3 + 1).toInt = x3_3.toInt + 1 := ti_inc (by omega)
                  exact ih_95 (x3_3 + 1) (upd w_m_note_4 x3_3.toNatClampNeg (m_image (((90 * x1) + 51) + x3_3).toNatClampNeg)) (by first | with_reducible assumption | omega | decide) (by first | with_reducible assumption | omega | decide) (by omega) hF _ _ _ hh (lv_sub hl [0, 1, 2, 3] rfl)
            exact L_95 37 0 m_note (by first | with_reducible assumption | omega | decide) (by first | with_reducible assumption | omega | decide) (by first | omega | decide | (simp; done)) hF _ _ _ hh (lv_sub hl [0, 1, 2, 3] rfl)
          · replace hF := hF.trans (if_neg c_68)
            have i_68 : x3_1.toInt < 48 := ti_nle c_68
            refine lv_aload_n hx hb dX7_back_71 rfl (lv_at hl 2 rfl) ?_
            refine g_get KX hh in_X7_back_X7 0 rfl rfl 2 (by decide) rfl (List.mem_of_getElem? (i := 6) rfl) dX7_back_72 ?_
            refine lv_iload_n hx hb dX7_back_75 rfl (lv_at hl 0 rfl) ?_
            refine lv_aload_n hx hb dX7_back_76 rfl (lv_at hl 2 rfl) ?_
            refine g_get KX hh in_X7_back_X7 0 rfl rfl 18 (by decide) rfl (List.mem_of_getElem? (i := 2) rfl) dX7_back_77 ?_
            refine lv_iload_n hx hb dX7_back_80 rfl (lv_at hl 1 rfl) ?_
            refine lv_iconst (v := 3) hx hb dX7_back_81 (by decide) ?_
            refine lv_iadd hx hb dX7_back_82 ?_
            refine lv_iload_n hx hb dX7_back_83 rfl (lv_at hl 0 rfl) ?_
            refine lv_iadd hx hb dX7_back_84 ?_
            refine g_iald KX hh 7 0 rfl rfl (ix90k 3 48 (by omega) (by omega) rfl (by decide) (by decide) (by omega) (by omega)) dX7_back_85 ?_
            refine g_iast KX hh 1 0 rfl rfl (vp_in_iff.mpr (by omega)) (w' := (WM cI cZ cC cH o a_clock a_note a_text a_read a_fit a_shown a_image a_isKept a_row a_best (m_image (90 * x1).toNatClampNeg) (m_image ((90 * x1) + 1).toNatClampNeg) (upd w_m_clock_2 x3_1.toNatClampNeg (m_image (((90 * x1) + 3) + x3_1).toNatClampNeg)) m_note (m_image ((90 * x1) + 2).toNatClampNeg) m_bytes m_text m_position m_tokenAt m_token m_digits m_number m_faultAt m_readMany m_readTold m_read m_fit m_shown m_image m_isKept m_row m_best m_againAt m_againStep m_orderMany m_orderLeast)) rfl dX7_back_86 (fun H locs hh => ?_)
            refine lv_iinc (v := x3_1 + 1) (lv' := [(3, .int (x3_1 + 1)), (2, .int (90 * x1)), (0, .ref o), (1, .int x1)]) hx hb dX7_back_87 hl (k := 0) rfl rfl (Nat.le_of_ble_eq_true rfl) rfl (fun ls hl => ?_)
            refine lv_goto (tgt := 65) hx hb dX7_back_90 (by decide) ?_
            have e_inc : (x3_1 + 1).toInt = x3_1.toInt + 1 := ti_inc (by omega)
            exact ih_65 (x3_1 + 1) (upd w_m_clock_2 x3_1.toNatClampNeg (m_image (((90 * x1) + 3) + x3_1).toNatClampNeg)) (by first | with_reducible assumption | omega | decide) (by first | with_reducible assumption | omega | decide) (by omega) hF _ _ _ hh (lv_sub hl [0, 1, 2, 3] rfl)
      exact L_65 49 0 m_clock (by first | with_reducible assumption | omega | decide) (by first | with_reducible assumption | omega | decide) (by first | omega | decide | (simp; done)) hF _ _ _ hh (lv_sub hl [0, 1, 2, 3] rfl)
    · replace hF := hF.trans (if_pos c_18)
      refine lv_bipush (v := (-4)) hx hb dX7_back_21 (by decide) ?_
      exact RT _ _ _ _ _ _ hh (by rw [hF]) (Or.inl ⟨_, rfl, by rw [hF], dX7_back_23, Or.inl rfl⟩)
  · replace hF := hF.trans (if_pos c_6)
    refine lv_bipush (v := (-2)) hx hb dX7_back_9 (by decide) ?_
    exact RT _ _ _ _ _ _ hh (by rw [hF]) (Or.inl ⟨_, rfl, by rw [hF], dX7_back_11, Or.inl rfl⟩)
