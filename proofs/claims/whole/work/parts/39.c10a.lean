def F_X6_order_c102 (x1 : Int32) (w_q_many_3 : Int32) (w_q_clocks_4 : Nat → Int32) (w_q_rates_5 : Nat → Int32) (r102_6 : (Nat → Int32)) : Int32 × Int32 × (Nat → Int32) × (Nat → Int32) × (Nat → Int32) := (if x1 = (-1) then (F_X3_leastError r102_6, w_q_many_3, w_q_clocks_4, w_q_rates_5, r102_6) else (if w_q_many_3 ≤ x1 then ((-1), w_q_many_3, w_q_clocks_4, w_q_rates_5, r102_6) else (F_X3_clockAt w_q_many_3 w_q_clocks_4 r102_6 x1, w_q_many_3, w_q_clocks_4, w_q_rates_5, r102_6)))
def F_X6_order_c63 (x2_2 : Int32) (k_17 : Int32 → Int32 → (Nat → Int32) → (Nat → Int32) → Int32 × Int32 × (Nat → Int32) × (Nat → Int32) × (Nat → Int32)) (r63_7 : Int32 × (Nat → Int32) × (Nat → Int32)) : Int32 × Int32 × (Nat → Int32) × (Nat → Int32) × (Nat → Int32) := (k_17 (x2_2 + 1) r63_7.1 r63_7.2.1 r63_7.2.2)
def F_X6_order_17 (p_ck : Nat → Nat → Int32) (q_least : Nat → Int32) (x1 : Int32) : Nat → Int32 → Int32 → (Nat → Int32) → (Nat → Int32) → Int32 × Int32 × (Nat → Int32) × (Nat → Int32) × (Nat → Int32)
  | 0, _, _, _, _ => default
  | n + 1, x2_2, w_q_many_3, w_q_clocks_4, w_q_rates_5 => (if 8 ≤ x2_2 then (if w_q_many_3 < 1 then ((-4), w_q_many_3, w_q_clocks_4, w_q_rates_5, q_least) else (if w_q_many_3 ≤ 6 then (F_X6_order_c102 x1 w_q_many_3 w_q_clocks_4 w_q_rates_5 (F_X3_weigh w_q_many_3 w_q_rates_5 q_least)) else ((-4), w_q_many_3, w_q_clocks_4, w_q_rates_5, q_least))) else (if tld p_ck x2_2 = 0 then ((F_X6_order_17 p_ck q_least x1 n) (x2_2 + 1) w_q_many_3 w_q_clocks_4 w_q_rates_5) else (if (p_ck x2_2.toNatClampNeg 0) = 0 then (if (p_ck x2_2.toNatClampNeg 3) = (p_ck x2_2.toNatClampNeg 4) then (F_X6_order_c63 x2_2 (F_X6_order_17 p_ck q_least x1 n) (F_X3_add w_q_many_3 w_q_clocks_4 w_q_rates_5 x2_2 (p_ck x2_2.toNatClampNeg 3))) else ((F_X6_order_17 p_ck q_least x1 n) (x2_2 + 1) w_q_many_3 w_q_clocks_4 w_q_rates_5)) else ((F_X6_order_17 p_ck q_least x1 n) (x2_2 + 1) w_q_many_3 w_q_clocks_4 w_q_rates_5))))
def F_X6_order_c12 (p_ck : Nat → Nat → Int32) (q_clocks : Nat → Int32) (q_rates : Nat → Int32) (q_least : Nat → Int32) (x1 : Int32) (r12_1 : Int32) : Int32 × Int32 × (Nat → Int32) × (Nat → Int32) × (Nat → Int32) := (F_X6_order_17 p_ck q_least x1 9 0 r12_1 q_clocks q_rates)
def F_X6_order (p_ck : Nat → Nat → Int32) (q_many : Int32) (q_clocks : Nat → Int32) (q_rates : Nat → Int32) (q_least : Nat → Int32) (x1 : Int32) : Int32 × Int32 × (Nat → Int32) × (Nat → Int32) × (Nat → Int32) := (if (-1) ≤ x1 then (F_X6_order_c12 p_ck q_clocks q_rates q_least x1 (F_X3_clear)) else ((-3), q_many, q_clocks, q_rates, q_least))
theorem in_X6_order_X6 : ∀ x ∈ u_ws RX6 TX6 9, x ∈ wsX6_order := by decide +kernel
theorem in_X6_order_X3 : ∀ x ∈ u_ws RX3 TX3 4, x ∈ wsX6_order := by decide +kernel
theorem in_X6_order_X0 : ∀ x ∈ u_ws RX0 TX0 6, x ∈ wsX6_order := by decide +kernel
set_option maxHeartbeats 2000000 in
set_option maxRecDepth 100000 in
theorem c_X6_order (l : Launch) (D : va_G) (cI cZ cC cH : ClassId) (o t_o t_a_bytes t_a_rows p_o p_a_clocks p_n_o p_n_a_clocks p_n_a_minutes p_n_a_dials a_kept a_o a_a_clocks a_n_o a_n_a_clocks a_n_a_minutes a_n_a_dials b_o b_a_clocks b_n_o b_n_a_clocks b_n_a_minutes b_n_a_dials y_o r_o q_o q_a_clocks q_a_rates q_a_least a_misfits a_shown : Nat) (p_c : Nat → Nat) (a_c : Nat → Nat) (b_c : Nat → Nat) (sifted : Int32) (t_length : Int32) (t_lineCount : Int32) (t_start : Int32) (t_end : Int32) (t_bytes : Nat → Int32) (t_rows : Nat → Int32) (p_filled : Int32) (p_ck : Nat → Nat → Int32) (p_n_many : Int32) (p_n_clocks : Nat → Int32) (p_n_minutes : Nat → Int32) (p_n_dials : Nat → Int32) (a_filled : Int32) (a_ck : Nat → Nat → Int32) (a_n_many : Int32) (a_n_clocks : Nat → Int32) (a_n_minutes : Nat → Int32) (a_n_dials : Nat → Int32) (b_filled : Int32) (b_ck : Nat → Nat → Int32) (b_n_many : Int32) (b_n_clocks : Nat → Int32) (b_n_minutes : Nat → Int32) (b_n_dials : Nat → Int32) (y_many : Int32) (y_first : Int32) (y_last : Int32) (y_runs : Int32) (r_kind : Int32) (r_set : Int32) (r_dial : Int32) (r_low : Int32) (r_high : Int32) (r_read : Int32) (q_many : Int32) (q_clocks : Nat → Int32) (q_rates : Nat → Int32) (q_least : Nat → Int32) (misfits : Nat → Int32) (shown : Nat → Int32) (x1 : Int32)  : MC l D (TY cI cZ cC cH) yX6_order wsX6_order 4 88 [.ref o, .int x1] (W6 cI cZ cC cH o t_o t_a_bytes t_a_rows p_o p_a_clocks p_n_o p_n_a_clocks p_n_a_minutes p_n_a_dials a_kept a_o a_a_clocks a_n_o a_n_a_clocks a_n_a_minutes a_n_a_dials b_o b_a_clocks b_n_o b_n_a_clocks b_n_a_minutes b_n_a_dials y_o r_o q_o q_a_clocks q_a_rates q_a_least a_misfits a_shown p_c a_c b_c sifted t_length t_lineCount t_start t_end t_bytes t_rows p_filled p_ck p_n_many p_n_clocks p_n_minutes p_n_dials a_filled a_ck a_n_many a_n_clocks a_n_minutes a_n_dials b_filled b_ck b_n_many b_n_clocks b_n_minutes b_n_dials y_many y_first y_last y_runs r_kind r_set r_dial r_low r_high r_read q_many q_clocks q_rates q_least misfits shown) (some (.int ((F_X6_order p_ck q_many q_clocks q_rates q_least x1).1))) (W6 cI cZ cC cH o t_o t_a_bytes t_a_rows p_o p_a_clocks p_n_o p_n_a_clocks p_n_a_minutes p_n_a_dials a_kept a_o a_a_clocks a_n_o a_n_a_clocks a_n_a_minutes a_n_a_dials b_o b_a_clocks b_n_o b_n_a_clocks b_n_a_minutes b_n_a_dials y_o r_o q_o q_a_clocks q_a_rates q_a_least a_misfits a_shown p_c a_c b_c sifted t_length t_lineCount t_start t_end t_bytes t_rows p_filled p_ck p_n_many p_n_clocks p_n_minutes p_n_dials a_filled a_ck a_n_many a_n_clocks a_n_minutes a_n_dials b_filled b_ck b_n_many b_n_clocks b_n_minutes b_n_dials y_many y_first y_last y_runs r_kind r_set r_dial r_low r_high r_read (F_X6_order p_ck q_many q_clocks q_rates q_least x1).2.1 (F_X6_order p_ck q_many q_clocks q_rates q_least x1).2.2.1 (F_X6_order p_ck q_many q_clocks q_rates q_least x1).2.2.2.1 (F_X6_order p_ck q_many q_clocks q_rates q_least x1).2.2.2.2 misfits shown) := by
  obtain ⟨R, hF⟩ : ∃ R, R = F_X6_order p_ck q_many q_clocks q_rates q_least x1 := ⟨_, rfl⟩
  rw [← hF]
  refine MC.of (cc := cX6_order) (maxL := 4) (ret := (some .int)) RX6 rfl (by decide +kernel) rfl (Nat.le_of_ble_eq_true rfl) ?_
  intro p e s m args below meth c A Q KX RT hh ls hl
  have z0 : (0 : Int32).toInt = 0 := rfl
  have z1 : (1 : Int32).toInt = 1 := rfl
  have zm : (-1 : Int32).toInt = -1 := rfl
  have hx := KX.1
  have hb := KX.2.1
  have hl : lv_has ls 4 [(0, .ref o), (1, .int x1)] := hl
  unfold F_X6_order at hF
  refine lv_iload_n hx hb dX6_order_0 rfl (lv_at hl 1 rfl) ?_
  refine lv_iconst (v := (-1)) hx hb dX6_order_1 (by decide) ?_
  refine lv_icmp_ge (tgt := 8) hx hb dX6_order_2 (by decide) (fun c_2 => ?_) (fun c_2 => ?_)
  · replace hF := hF.trans (if_pos c_2)
    have i_2 : (-1) ≤ x1.toInt := ti_le.mp c_2
    refine lv_aload_n hx hb dX6_order_8 rfl (lv_at hl 0 rfl) ?_
    refine g_get KX hh in_X6_order_X6 0 rfl rfl 5 (by decide) rfl (List.mem_of_getElem? (i := 1) rfl) dX6_order_9 ?_
    refine g_callV (As := []) (rest := []) KX rfl ⟨Nat.le_of_ble_eq_true rfl, Nat.le_of_ble_eq_true rfl⟩ hh hl (c_X3_clear l D cI cZ cC cH q_o q_a_clocks q_a_rates q_a_least q_many q_clocks q_rates q_least  ) (JN.up (ws1 := (W6 cI cZ cC cH o t_o t_a_bytes t_a_rows p_o p_a_clocks p_n_o p_n_a_clocks p_n_a_minutes p_n_a_dials a_kept a_o a_a_clocks a_n_o a_n_a_clocks a_n_a_minutes a_n_a_dials b_o b_a_clocks b_n_o b_n_a_clocks b_n_a_minutes b_n_a_dials y_o r_o q_o q_a_clocks q_a_rates q_a_least a_misfits a_shown p_c a_c b_c sifted t_length t_lineCount t_start t_end t_bytes t_rows p_filled p_ck p_n_many p_n_clocks p_n_minutes p_n_dials a_filled a_ck a_n_many a_n_clocks a_n_minutes a_n_dials b_filled b_ck b_n_many b_n_clocks b_n_minutes b_n_dials y_many y_first y_last y_runs r_kind r_set r_dial r_low r_high r_read (F_X3_clear) q_clocks q_rates q_least misfits shown)) [49, 50, 51, 52] rfl rfl rfl rfl rfl) 0 gX6_order_X3_clear rfl (by decide +kernel) ⟨Nat.le_of_ble_eq_true rfl, Nat.le_of_ble_eq_true rfl⟩ 49 3 rfl rfl rfl rfl rfl (Nat.le_of_ble_eq_true rfl) dX6_order_12 (fun H locs hh => ?_)
    refine W.eq (g2 := F0 m 15 ls []) rfl ?_
    generalize q_12 : F_X3_clear = r12_1 at hh hF ⊢
    have hz12 : r12_1 = 0 := by rw [← q_12]; rfl
    unfold F_X6_order_c12 at hF
    refine lv_iconst (v := 0) hx hb dX6_order_15 (by decide) ?_
    refine lv_istore_n (lv' := [(2, .int 0), (0, .ref o), (1, .int x1)]) hx hb dX6_order_16 rfl hl (Nat.le_of_ble_eq_true rfl) rfl (fun ls hl => ?_)
    have L_17 : ∀ (n_17 : Nat) (x2_2 : Int32) (w_q_many_3 : Int32) (w_q_clocks_4 : Nat → Int32) (w_q_rates_5 : Nat → Int32) (i0_17 : 0 ≤ x2_2.toInt) (i1_17 : x2_2.toInt ≤ 8) (hq0_17 : 0 ≤ w_q_many_3.toInt) (hq1_17 : w_q_many_3.toInt ≤ 8) (_ : (8 - x2_2.toInt).toNat < n_17) (_ : R = (F_X6_order_17 p_ck q_least x1) n_17 x2_2 w_q_many_3 w_q_clocks_4 w_q_rates_5) (ls : Array Slot) (H : Heap) (locs : List Loc) (_ : HS D A s.heap (W6 cI cZ cC cH o t_o t_a_bytes t_a_rows p_o p_a_clocks p_n_o p_n_a_clocks p_n_a_minutes p_n_a_dials a_kept a_o a_a_clocks a_n_o a_n_a_clocks a_n_a_minutes a_n_a_dials b_o b_a_clocks b_n_o b_n_a_clocks b_n_a_minutes b_n_a_dials y_o r_o q_o q_a_clocks q_a_rates q_a_least a_misfits a_shown p_c a_c b_c sifted t_length t_lineCount t_start t_end t_bytes t_rows p_filled p_ck p_n_many p_n_clocks p_n_minutes p_n_dials a_filled a_ck a_n_many a_n_clocks a_n_minutes a_n_dials b_filled b_ck b_n_many b_n_clocks b_n_minutes b_n_dials y_many y_first y_last y_runs r_kind r_set r_dial r_low r_high r_read w_q_many_3 w_q_clocks_4 w_q_rates_5 q_least misfits shown) H locs) (_ : lv_has ls 4 [(2, .int x2_2), (0, .ref o), (1, .int x1)]), W p l e { frames := 4, cells := 0, slots := 0, locals := 88 } s m args below meth c H locs 0 0 Q (F0 m 17 ls []) := by
      intro n_17
      induction n_17 with
      | zero => intro x2_2 w_q_many_3 w_q_clocks_4 w_q_rates_5 i0_17 i1_17 hq0_17 hq1_17 hm; exact absurd hm (Nat.not_lt_zero _)
      | succ n_17 ih_17 =>
        intro x2_2 w_q_many_3 w_q_clocks_4 w_q_rates_5 i0_17 i1_17 hq0_17 hq1_17 hm_17 hF ls H locs hh hl
        rw [F_X6_order_17.eq_2] at hF
        refine lv_iload_n hx hb dX6_order_17 rfl (lv_at hl 0 rfl) ?_
        refine lv_bipush (v := 8) hx hb dX6_order_18 (by decide) ?_
        refine lv_icmp_ge (tgt := 72) hx hb dX6_order_20 (by decide) (fun c_20 => ?_) (fun c_20 => ?_)
        · replace hF := hF.trans (if_pos c_20)
          have i_20 : 8 ≤ x2_2.toInt := ti_le.mp c_20
          refine lv_aload_n hx hb dX6_order_72 rfl (lv_at hl 1 rfl) ?_
          refine g_get KX hh in_X6_order_X6 0 rfl rfl 5 (by decide) rfl (List.mem_of_getElem? (i := 1) rfl) dX6_order_73 ?_
          refine g_get KX hh in_X6_order_X3 49 rfl rfl 0 (by decide) rfl (List.mem_of_getElem? (i := 6) rfl) dX6_order_76 ?_
          refine lv_iconst (v := 1) hx hb dX6_order_79 (by decide) ?_
          refine lv_icmp_lt (tgt := 95) hx hb dX6_order_80 (by decide) (fun c_80 => ?_) (fun c_80 => ?_)
          · replace hF := hF.trans (if_pos c_80)
            have i_80 : w_q_many_3.toInt < 1 := ti_lt.mp c_80
            refine lv_bipush (v := (-4)) hx hb dX6_order_95 (by decide) ?_
            exact RT _ _ _ _ _ _ hh (by rw [hF]) (Or.inl ⟨_, rfl, by rw [hF], dX6_order_97, Or.inl rfl⟩)
          · replace hF := hF.trans (if_neg c_80)
            have i_80 : 1 ≤ w_q_many_3.toInt := ti_nlt c_80
            refine lv_aload_n hx hb dX6_order_83 rfl (lv_at hl 1 rfl) ?_
            refine g_get KX hh in_X6_order_X6 0 rfl rfl 5 (by decide) rfl (List.mem_of_getElem? (i := 1) rfl) dX6_order_84 ?_
            refine g_get KX hh in_X6_order_X3 49 rfl rfl 0 (by decide) rfl (List.mem_of_getElem? (i := 6) rfl) dX6_order_87 ?_
            refine lv_bipush (v := 6) hx hb dX6_order_90 (by decide) ?_
            refine lv_icmp_le (tgt := 98) hx hb dX6_order_92 (by decide) (fun c_92 => ?_) (fun c_92 => ?_)
            · replace hF := hF.trans (if_pos c_92)
              have i_92 : w_q_many_3.toInt ≤ 6 := ti_le.mp c_92
              refine lv_aload_n hx hb dX6_order_98 rfl (lv_at hl 1 rfl) ?_
              refine g_get KX hh in_X6_order_X6 0 rfl rfl 5 (by decide) rfl (List.mem_of_getElem? (i := 1) rfl) dX6_order_99 ?_
              refine g_callV (As := []) (rest := []) KX rfl ⟨Nat.le_of_ble_eq_true rfl, Nat.le_of_ble_eq_true rfl⟩ hh hl (c_X3_weigh l D cI cZ cC cH q_o q_a_clocks q_a_rates q_a_least w_q_many_3 w_q_clocks_4 w_q_rates_5 q_least  (by first | with_reducible assumption | omega | decide | exact tn_lt (n := 8) (by omega) (by omega)) (by first | with_reducible assumption | omega | decide | exact tn_lt (n := 8) (by omega) (by omega))) (JN.up (ws1 := (W6 cI cZ cC cH o t_o t_a_bytes t_a_rows p_o p_a_clocks p_n_o p_n_a_clocks p_n_a_minutes p_n_a_dials a_kept a_o a_a_clocks a_n_o a_n_a_clocks a_n_a_minutes a_n_a_dials b_o b_a_clocks b_n_o b_n_a_clocks b_n_a_minutes b_n_a_dials y_o r_o q_o q_a_clocks q_a_rates q_a_least a_misfits a_shown p_c a_c b_c sifted t_length t_lineCount t_start t_end t_bytes t_rows p_filled p_ck p_n_many p_n_clocks p_n_minutes p_n_dials a_filled a_ck a_n_many a_n_clocks a_n_minutes a_n_dials b_filled b_ck b_n_many b_n_clocks b_n_minutes b_n_dials y_many y_first y_last y_runs r_kind r_set r_dial r_low r_high r_read w_q_many_3 w_q_clocks_4 w_q_rates_5 (F_X3_weigh w_q_many_3 w_q_rates_5 q_least) misfits shown)) [49, 50, 51, 52] rfl rfl rfl rfl rfl) 0 gX6_order_X3_weigh rfl (by decide +kernel) ⟨Nat.le_of_ble_eq_true rfl, Nat.le_of_ble_eq_true rfl⟩ 49 3 rfl rfl rfl rfl rfl (Nat.le_of_ble_eq_true rfl) dX6_order_102 (fun H locs hh => ?_)
              refine W.eq (g2 := F0 m 105 ls []) rfl ?_
              generalize q_102 : F_X3_weigh w_q_many_3 w_q_rates_5 q_least = r102_6 at hh hF ⊢
              unfold F_X6_order_c102 at hF
              refine lv_iload_n hx hb dX6_order_105 rfl (lv_at hl 2 rfl) ?_
              refine lv_iconst (v := (-1)) hx hb dX6_order_106 (by decide) ?_
              refine lv_icmp_ne (tgt := 118) hx hb dX6_order_107 (by decide) (fun c_107 => ?_) (fun c_107 => ?_)
              · replace hF := hF.trans (if_neg c_107)
                have i_107 : ¬ x1.toInt = (-1) := ti_ne c_107
                refine lv_iload_n hx hb dX6_order_118 rfl (lv_at hl 2 rfl) ?_
                refine lv_aload_n hx hb dX6_order_119 rfl (lv_at hl 1 rfl) ?_
                refine g_get KX hh in_X6_order_X6 0 rfl rfl 5 (by decide) rfl (List.mem_of_getElem? (i := 1) rfl) dX6_order_120 ?_
                refine g_get KX hh in_X6_order_X3 49 rfl rfl 0 (by decide) rfl (List.mem_of_getElem? (i := 6) rfl) dX6_order_123 ?_
                refine lv_icmp_ge (tgt := 140) hx hb dX6_order_126 (by decide) (fun c_126 => ?_) (fun c_126 => ?_)
                · replace hF := hF.trans (if_pos c_126)
                  have i_126 : w_q_many_3.toInt ≤ x1.toInt := ti_le.mp c_126
                  refine lv_iconst (v := (-1)) hx hb dX6_order_140 (by decide) ?_
                  exact RT _ _ _ _ _ _ hh (by rw [hF]) (Or.inl ⟨_, rfl, by rw [hF], dX6_order_141, Or.inl rfl⟩)
                · replace hF := hF.trans (if_neg c_126)
                  have i_126 : x1.toInt < w_q_many_3.toInt := ti_nle c_126
                  refine lv_aload_n hx hb dX6_order_129 rfl (lv_at hl 1 rfl) ?_
                  refine g_get KX hh in_X6_order_X6 0 rfl rfl 5 (by decide) rfl (List.mem_of_getElem? (i := 1) rfl) dX6_order_130 ?_
                  refine lv_iload_n hx hb dX6_order_133 rfl (lv_at hl 2 rfl) ?_
                  refine g_callV (As := [.int x1]) (rest := []) KX rfl ⟨Nat.le_of_ble_eq_true rfl, Nat.le_of_ble_eq_true rfl⟩ hh hl (c_X3_clockAt l D cI cZ cC cH q_o q_a_clocks q_a_rates q_a_least w_q_many_3 w_q_clocks_4 w_q_rates_5 r102_6 x1 (by first | with_reducible assumption | omega | decide | exact tn_lt (n := 8) (by omega) (by omega)) (by first | with_reducible assumption | omega | decide | exact tn_lt (n := 8) (by omega) (by omega))) (JN.ro [49, 50, 51, 52] rfl rfl) 1 gX6_order_X3_clockAt rfl (by decide +kernel) ⟨Nat.le_of_ble_eq_true rfl, Nat.le_of_ble_eq_true rfl⟩ 49 3 rfl rfl rfl rfl rfl (Nat.le_of_ble_eq_true rfl) dX6_order_134 (fun H locs hh => ?_)
                  refine W.eq (g2 := F0 m 137 ls [.int (F_X3_clockAt w_q_many_3 w_q_clocks_4 r102_6 x1)]) rfl ?_
                  refine lv_goto (tgt := 141) hx hb dX6_order_137 (by decide) ?_
                  exact RT _ _ _ _ _ _ hh (by rw [hF]) (Or.inl ⟨_, rfl, by rw [hF], dX6_order_141, Or.inl rfl⟩)
              · replace hF := hF.trans (if_pos c_107)
                have i_107 : x1.toInt = (-1) := congrArg Int32.toInt c_107
                refine lv_aload_n hx hb dX6_order_110 rfl (lv_at hl 1 rfl) ?_
                refine g_get KX hh in_X6_order_X6 0 rfl rfl 5 (by decide) rfl (List.mem_of_getElem? (i := 1) rfl) dX6_order_111 ?_
                refine g_callV (As := []) (rest := []) KX rfl ⟨Nat.le_of_ble_eq_true rfl, Nat.le_of_ble_eq_true rfl⟩ hh hl (c_X3_leastError l D cI cZ cC cH q_o q_a_clocks q_a_rates q_a_least w_q_many_3 w_q_clocks_4 w_q_rates_5 r102_6  ) (JN.ro [49, 50, 51, 52] rfl rfl) 0 gX6_order_X3_leastError rfl (by decide +kernel) ⟨Nat.le_of_ble_eq_true rfl, Nat.le_of_ble_eq_true rfl⟩ 49 3 rfl rfl rfl rfl rfl (Nat.le_of_ble_eq_true rfl) dX6_order_114 (fun H locs hh => ?_)
                refine W.eq (g2 := F0 m 117 ls [.int (F_X3_leastError r102_6)]) rfl ?_
                exact RT _ _ _ _ _ _ hh (by rw [hF]) (Or.inl ⟨_, rfl, by rw [hF], dX6_order_117, Or.inl rfl⟩)
            · replace hF := hF.trans (if_neg c_92)
              have i_92 : 6 < w_q_many_3.toInt := ti_nle c_92
              refine lv_bipush (v := (-4)) hx hb dX6_order_95 (by decide) ?_
              exact RT _ _ _ _ _ _ hh (by rw [hF]) (Or.inl ⟨_, rfl, by rw [hF], dX6_order_97, Or.inl rfl⟩)
        · replace hF := hF.trans (if_neg c_20)
          have i_20 : x2_2.toInt < 8 := ti_nle c_20
          refine lv_aload_n hx hb dX6_order_23 rfl (lv_at hl 1 rfl) ?_
          refine g_get KX hh in_X6_order_X6 0 rfl rfl 1 (by decide) rfl (List.mem_of_getElem? (i := 2) rfl) dX6_order_24 ?_
          refine lv_iload_n hx hb dX6_order_27 rfl (lv_at hl 0 rfl) ?_
          refine g_callV (As := [.int x2_2]) (rest := []) KX rfl ⟨Nat.le_of_ble_eq_true rfl, Nat.le_of_ble_eq_true rfl⟩ hh hl (c_X1_toldClock l D cI cZ cC cH p_o p_a_clocks p_n_o p_n_a_clocks p_n_a_minutes p_n_a_dials p_c p_filled p_ck p_n_many p_n_clocks p_n_minutes p_n_dials x2_2 ) (JN.ro [4, 5, 6, 7, 8, 9, 10, 11, 12, 13, 14, 15, 16, 17] rfl (by decide +kernel)) 1 gX6_order_X1_toldClock rfl (by decide +kernel) ⟨Nat.le_of_ble_eq_true rfl, Nat.le_of_ble_eq_true rfl⟩ 4 1 rfl rfl rfl rfl rfl (Nat.le_of_ble_eq_true rfl) dX6_order_28 (fun H locs hh => ?_)
          rcases told_cases p_ck p_c x2_2 with ⟨c_28, e_28⟩ | ⟨c_28, e_28⟩
          · refine W.eq (g2 := F0 m 31 ls [.null]) (by rw [e_28]; rfl) ?_
            replace hF := hF.trans (if_pos c_28)
            refine lv_astore_nN (lv' := [(3, .null), (2, .int x2_2), (0, .ref o), (1, .int x1)]) hx hb dX6_order_31 rfl hl (Nat.le_of_ble_eq_true rfl) rfl (fun ls hl => ?_)
            refine lv_aload_nN hx hb dX6_order_32 rfl (lv_at hl 0 rfl) ?_
            refine lv_ifnullN (tgt := 66) hx hb dX6_order_33 (by decide) ?_
            refine lv_iinc (v := x2_2 + 1) (lv' := [(2, .int (x2_2 + 1)), (3, .null), (0, .ref o), (1, .int x1)]) hx hb dX6_order_66 hl (k := 1) rfl rfl (Nat.le_of_ble_eq_true rfl) rfl (fun ls hl => ?_)
            refine lv_goto (tgt := 17) hx hb dX6_order_69 (by decide) ?_
            have e_inc : (x2_2 + 1).toInt = x2_2.toInt + 1 := ti_inc (by omega)
            exact ih_17 (x2_2 + 1) w_q_many_3 w_q_clocks_4 w_q_rates_5 (by first | with_reducible assumption | omega | decide) (by first | with_reducible assumption | omega | decide) (by first | with_reducible assumption | exact hq63.1 | (rw [hz12]; decide)) (by first | with_reducible assumption | exact hq63.2 | (rw [hz12]; decide)) (by omega) hF _ _ _ hh (lv_sub hl [0, 2, 3] rfl)
          · refine W.eq (g2 := F0 m 31 ls [.ref (p_c x2_2.toNatClampNeg)]) (by rw [e_28]; rfl) ?_
            replace hF := hF.trans (if_neg c_28)
            obtain ⟨k0_28, k1_28⟩ := tld_in c_28
            refine lv_astore_n (lv' := [(3, .ref (p_c x2_2.toNatClampNeg)), (2, .int x2_2), (0, .ref o), (1, .int x1)]) hx hb dX6_order_31 rfl hl (Nat.le_of_ble_eq_true rfl) rfl (fun ls hl => ?_)
            refine lv_aload_n hx hb dX6_order_32 rfl (lv_at hl 0 rfl) ?_
            refine lv_ifnull hx hb dX6_order_33 ?_
            refine lv_aload_n hx hb dX6_order_36 rfl (lv_at hl 0 rfl) ?_
            refine g_get KX hh in_X6_order_X0 (6 + x2_2.toNatClampNeg) (clk_W6_p (tn_lt (k := x2_2) (n := 8) (by omega) (by omega))) rfl 0 (by decide) rfl (List.mem_of_getElem? (i := 3) rfl) dX6_order_37 ?_
            refine lv_if_ne (tgt := 66) hx hb dX6_order_40 (by decide) (fun c_40 => ?_) (fun c_40 => ?_)
            · replace hF := hF.trans (if_neg c_40)
              refine lv_iinc (v := x2_2 + 1) (lv' := [(2, .int (x2_2 + 1)), (3, .ref (p_c x2_2.toNatClampNeg)), (0, .ref o), (1, .int x1)]) hx hb dX6_order_66 hl (k := 1) rfl rfl (Nat.le_of_ble_eq_true rfl) rfl (fun ls hl => ?_)
              refine lv_goto (tgt := 17) hx hb dX6_order_69 (by decide) ?_
              have e_inc : (x2_2 + 1).toInt = x2_2.toInt + 1 := ti_inc (by omega)
              exact ih_17 (x2_2 + 1) w_q_many_3 w_q_clocks_4 w_q_rates_5 (by first | with_reducible assumption | omega | decide) (by first | with_reducible assumption | omega | decide) (by first | with_reducible assumption | exact hq63.1 | (rw [hz12]; decide)) (by first | with_reducible assumption | exact hq63.2 | (rw [hz12]; decide)) (by omega) hF _ _ _ hh (lv_sub hl [0, 2, 3] rfl)
            · replace hF := hF.trans (if_pos c_40)
              refine lv_aload_n hx hb dX6_order_43 rfl (lv_at hl 0 rfl) ?_
              refine g_get KX hh in_X6_order_X0 (6 + x2_2.toNatClampNeg) (clk_W6_p (tn_lt (k := x2_2) (n := 8) (by omega) (by omega))) rfl 3 (by decide) rfl (List.mem_of_getElem? (i := 4) rfl) dX6_order_44 ?_
              refine lv_aload_n hx hb dX6_order_47 rfl (lv_at hl 0 rfl) ?_
              refine g_get KX hh in_X6_order_X0 (6 + x2_2.toNatClampNeg) (clk_W6_p (tn_lt (k := x2_2) (n := 8) (by omega) (by omega))) rfl 4 (by decide) rfl (List.mem_of_getElem? (i := 5) rfl) dX6_order_48 ?_
              refine lv_icmp_ne (tgt := 66) hx hb dX6_order_51 (by decide) (fun c_51 => ?_) (fun c_51 => ?_)
              · replace hF := hF.trans (if_neg c_51)
                refine lv_iinc (v := x2_2 + 1) (lv' := [(2, .int (x2_2 + 1)), (3, .ref (p_c x2_2.toNatClampNeg)), (0, .ref o), (1, .int x1)]) hx hb dX6_order_66 hl (k := 1) rfl rfl (Nat.le_of_ble_eq_true rfl) rfl (fun ls hl => ?_)
                refine lv_goto (tgt := 17) hx hb dX6_order_69 (by decide) ?_
                have e_inc : (x2_2 + 1).toInt = x2_2.toInt + 1 := ti_inc (by omega)
                exact ih_17 (x2_2 + 1) w_q_many_3 w_q_clocks_4 w_q_rates_5 (by first | with_reducible assumption | omega | decide) (by first | with_reducible assumption | omega | decide) (by first | with_reducible assumption | exact hq63.1 | (rw [hz12]; decide)) (by first | with_reducible assumption | exact hq63.2 | (rw [hz12]; decide)) (by omega) hF _ _ _ hh (lv_sub hl [0, 2, 3] rfl)
              · replace hF := hF.trans (if_pos c_51)
                refine lv_aload_n hx hb dX6_order_54 rfl (lv_at hl 2 rfl) ?_
                refine g_get KX hh in_X6_order_X6 0 rfl rfl 5 (by decide) rfl (List.mem_of_getElem? (i := 1) rfl) dX6_order_55 ?_
                refine lv_iload_n hx hb dX6_order_58 rfl (lv_at hl 1 rfl) ?_
                refine lv_aload_n hx hb dX6_order_59 rfl (lv_at hl 0 rfl) ?_
                refine g_get KX hh in_X6_order_X0 (6 + x2_2.toNatClampNeg) (clk_W6_p (tn_lt (k := x2_2) (n := 8) (by omega) (by omega))) rfl 3 (by decide) rfl (List.mem_of_getElem? (i := 4) rfl) dX6_order_60 ?_
                refine g_callV (As := [.int x2_2, .int (p_ck x2_2.toNatClampNeg 3)]) (rest := []) KX rfl ⟨Nat.le_of_ble_eq_true rfl, Nat.le_of_ble_eq_true rfl⟩ hh hl (c_X3_add l D cI cZ cC cH q_o q_a_clocks q_a_rates q_a_least w_q_many_3 w_q_clocks_4 w_q_rates_5 q_least x2_2 (p_ck x2_2.toNatClampNeg 3) (by first | with_reducible assumption | omega | decide | exact tn_lt (n := 8) (by omega) (by omega))) (JN.up (ws1 := (W6 cI cZ cC cH o t_o t_a_bytes t_a_rows p_o p_a_clocks p_n_o p_n_a_clocks p_n_a_minutes p_n_a_dials a_kept a_o a_a_clocks a_n_o a_n_a_clocks a_n_a_minutes a_n_a_dials b_o b_a_clocks b_n_o b_n_a_clocks b_n_a_minutes b_n_a_dials y_o r_o q_o q_a_clocks q_a_rates q_a_least a_misfits a_shown p_c a_c b_c sifted t_length t_lineCount t_start t_end t_bytes t_rows p_filled p_ck p_n_many p_n_clocks p_n_minutes p_n_dials a_filled a_ck a_n_many a_n_clocks a_n_minutes a_n_dials b_filled b_ck b_n_many b_n_clocks b_n_minutes b_n_dials y_many y_first y_last y_runs r_kind r_set r_dial r_low r_high r_read ((F_X3_add w_q_many_3 w_q_clocks_4 w_q_rates_5 x2_2 (p_ck x2_2.toNatClampNeg 3)).1) ((F_X3_add w_q_many_3 w_q_clocks_4 w_q_rates_5 x2_2 (p_ck x2_2.toNatClampNeg 3)).2.1) ((F_X3_add w_q_many_3 w_q_clocks_4 w_q_rates_5 x2_2 (p_ck x2_2.toNatClampNeg 3)).2.2) q_least misfits shown)) [49, 50, 51, 52] rfl rfl rfl rfl rfl) 2 gX6_order_X3_add rfl (by decide +kernel) ⟨Nat.le_of_ble_eq_true rfl, Nat.le_of_ble_eq_true rfl⟩ 49 3 rfl rfl rfl rfl rfl (Nat.le_of_ble_eq_true rfl) dX6_order_63 (fun H locs hh => ?_)
                refine W.eq (g2 := F0 m 66 ls []) rfl ?_
                generalize q_63 : F_X3_add w_q_many_3 w_q_clocks_4 w_q_rates_5 x2_2 (p_ck x2_2.toNatClampNeg 3) = r63_7 at hh hF ⊢
                have hq63 : 0 ≤ r63_7.1.toInt ∧ r63_7.1.toInt ≤ 8 := by rw [← q_63]; exact X3_add_pos hq0_17 hq1_17
                unfold F_X6_order_c63 at hF
                refine lv_iinc (v := x2_2 + 1) (lv' := [(2, .int (x2_2 + 1)), (3, .ref (p_c x2_2.toNatClampNeg)), (0, .ref o), (1, .int x1)]) hx hb dX6_order_66 hl (k := 1) rfl rfl (Nat.le_of_ble_eq_true rfl) rfl (fun ls hl => ?_)
                refine lv_goto (tgt := 17) hx hb dX6_order_69 (by decide) ?_
                have e_inc : (x2_2 + 1).toInt = x2_2.toInt + 1 := ti_inc (by omega)
                exact ih_17 (x2_2 + 1) r63_7.1 r63_7.2.1 r63_7.2.2 (by first | with_reducible assumption | omega | decide) (by first | with_reducible assumption | omega | decide) (by first | with_reducible assumption | exact hq63.1 | (rw [hz12]; decide)) (by first | with_reducible assumption | exact hq63.2 | (rw [hz12]; decide)) (by omega) hF _ _ _ hh (lv_sub hl [0, 2, 3] rfl)
    exact L_17 9 0 r12_1 q_clocks q_rates (by first | with_reducible assumption | omega | decide) (by first | with_reducible assumption | omega | decide) (by first | with_reducible assumption | exact hq63.1 | (rw [hz12]; decide)) (by first | with_reducible assumption | exact hq63.2 | (rw [hz12]; decide)) (by first | omega | decide | (simp; done)) hF _ _ _ hh (lv_sub hl [0, 1, 2] rfl)
  · replace hF := hF.trans (if_neg c_2)
    have i_2 : x1.toInt < (-1) := ti_nle c_2
    refine lv_bipush (v := (-3)) hx hb dX6_order_5 (by decide) ?_
    exact RT _ _ _ _ _ _ hh (by rw [hF]) (Or.inl ⟨_, rfl, by rw [hF], dX6_order_7, Or.inl rfl⟩)
