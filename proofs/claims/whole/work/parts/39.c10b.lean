theorem JN.upg {ws wc w1 ws1 : va_W} (is : List Nat) (h : is.map (fun i => ws[i]?) = wc.map some) (hn : va_nd is = true) (ha : w1.map Prod.fst = wc.map Prod.fst) (h1 : is.map (fun i => ws1[i]?) = w1.map some) (hs : ∀ k, k ∉ is → ws1[k]? = ws[k]?) : JN ws wc w1 ws1 := by
  refine ⟨fun D H hP => jn_P h D H hP, fun A hD => hD.sub is hn h, fun D A H H1 hP hD hk _ hP1 _ => ?_⟩
  have key : ∀ (k : Nat) (q : Nat × va_E), ws1[k]? = some q → (k ∉ is ∧ ws[k]? = some q) ∨ ∃ (j : Nat) (q0 : Nat × va_E), is[j]? = some k ∧ w1[j]? = some q ∧ ws[k]? = some q0 ∧ q0.1 = q.1 := by
    intro k q hq
    by_cases hi : k ∈ is
    · right
      obtain ⟨j, hj⟩ := List.getElem?_of_mem hi
      have e1 : (w1.map some)[j]? = some (ws1[k]?) := by rw [← h1, List.getElem?_map, hj]; rfl
      have e2 : (wc.map some)[j]? = some (ws[k]?) := by rw [← h, List.getElem?_map, hj]; rfl
      rw [List.getElem?_map, hq] at e1
      rw [List.getElem?_map] at e2
      have e3 : (w1.map Prod.fst)[j]? = (wc.map Prod.fst)[j]? := by rw [ha]
      rw [List.getElem?_map, List.getElem?_map] at e3
      cases hw : w1[j]? with
      | none => rw [hw] at e1; cases e1
      | some a =>
        rw [hw] at e1 e3
        cases hc : wc[j]? with
        | none => rw [hc] at e3; cases e3
        | some b =>
          rw [hc] at e2 e3
          have ea : a = q := by simpa using e1
          subst ea
          have eb : ws[k]? = some b := by simpa using e2.symm
          exact ⟨j, b, hj, hw, eb, (by simpa using e3.symm)⟩
    · left
      refine ⟨hi, ?_⟩
      rw [hs k hi] at hq
      exact hq
  refine ⟨fun k q hq => ?_, ⟨fun i j x y hi hj hxy => ?_, fun k q hq => ?_⟩⟩
  · rcases key k q hq with ⟨hi, hw⟩ | ⟨j, q0, -, hw, -, -⟩
    · obtain ⟨g1, g2⟩ := jn_apart h hP hD hi hw
      exact (hP k q hw).kept (hk q.1 g1 g2)
    · exact hP1 j q hw
  · have f : ∀ (k : Nat) (q : Nat × va_E), ws1[k]? = some q → ∃ q0, ws[k]? = some q0 ∧ q0.1 = q.1 := fun k q hq => by
      rcases key k q hq with ⟨-, hw⟩ | ⟨_, q0, -, -, h3, h4⟩
      · exact ⟨q, hw, rfl⟩
      · exact ⟨q0, h3, h4⟩
    obtain ⟨x0, a1, a2⟩ := f i x hi
    obtain ⟨y0, b1, b2⟩ := f j y hj
    exact hD.1 i j x0 y0 a1 b1 (by rw [a2, b2]; exact hxy)
  · rcases key k q hq with ⟨-, hw⟩ | ⟨_, q0, -, -, h3, h4⟩
    · exact hD.2 k q hw
    · rw [← h4]; exact hD.2 k q0 h3
theorem JN.blk {ws wc w1 ws1 H G H' : va_W} (isH isG : List Nat) (a n : Nat) (hwc : wc = H ++ G) (hw1c : w1 = H' ++ G) (hw : ws = ws.take a ++ (H ++ ws.drop (a + n))) (hw1 : ws1 = ws.take a ++ (H' ++ ws.drop (a + n))) (hA : (ws.take a).length = a) (hH : H.length = n) (hH' : H'.length = n) (hin : ∀ k, a ≤ k → k < a + n → k ∈ isH) (h : isH.map (fun i => ws[i]?) = H.map some) (hG : isG.map (fun i => ws[i]?) = G.map some) (h1 : isH.map (fun i => ws1[i]?) = H'.map some) (hG1 : isG.map (fun i => ws1[i]?) = G.map some) (hn : va_nd (isH ++ isG) = true) (ha : H'.map Prod.fst = H.map Prod.fst) : JN ws wc w1 ws1 := by
  subst hwc; subst hw1c
  refine JN.upg (isH ++ isG) (by rw [List.map_append, List.map_append, h, hG]) hn (by rw [List.map_append, List.map_append, ha]) (by rw [List.map_append, List.map_append, h1, hG1]) (fun k hk => ?_)
  have hk1 : k ∉ isH := fun q => hk (List.mem_append_left _ q)
  generalize ws.drop (a + n) = B at hw hw1
  generalize ws.take a = A at hw hw1 hA
  rw [hw1, hw]
  by_cases c : k < A.length
  · rw [List.getElem?_append_left c, List.getElem?_append_left c]
  · have e1 : (A ++ (H' ++ B))[k]? = (H' ++ B)[k - A.length]? := List.getElem?_append_right (by omega)
    have e2 : (A ++ (H ++ B))[k]? = (H ++ B)[k - A.length]? := List.getElem?_append_right (by omega)
    rw [e1, e2]
    by_cases d : k - A.length < n
    · exact absurd (hin k (by omega) (by omega)) hk1
    · have e3 : (H' ++ B)[k - A.length]? = B[k - A.length - H'.length]? := List.getElem?_append_right (by omega)
      have e4 : (H ++ B)[k - A.length]? = B[k - A.length - H.length]? := List.getElem?_append_right (by omega)
      rw [e3, e4, hH, hH']

def F_X6_keep_c21 (p_ck : Nat → Nat → Int32) (a_filled : Int32) (b_filled : Int32) (b_ck : Nat → Nat → Int32) (b_n_many : Int32) (b_n_clocks : Nat → Int32) (b_n_minutes : Nat → Int32) (b_n_dials : Nat → Int32) (x1 : Int32) (r21_1 : (Nat → Nat → Int32) × Int32 × (Nat → Int32) × (Nat → Int32) × (Nat → Int32)) : Int32 × Int32 × (Nat → Nat → Int32) × Int32 × (Nat → Int32) × (Nat → Int32) × (Nat → Int32) × Int32 × (Nat → Nat → Int32) × Int32 × (Nat → Int32) × (Nat → Int32) × (Nat → Int32) := (if x1 = 0 then (F_J6_bitCount_0f7a4 (F_X1_toldBits p_ck), 1, r21_1.1, r21_1.2.1, r21_1.2.2.1, r21_1.2.2.2.1, r21_1.2.2.2.2, b_filled, b_ck, b_n_many, b_n_clocks, b_n_minutes, b_n_dials) else (F_J6_bitCount_0f7a4 (F_X1_toldBits p_ck), a_filled, r21_1.1, r21_1.2.1, r21_1.2.2.1, r21_1.2.2.2.1, r21_1.2.2.2.2, 1, b_ck, b_n_many, b_n_clocks, b_n_minutes, b_n_dials))
def F_X6_keep_c21_2 (p_ck : Nat → Nat → Int32) (a_filled : Int32) (a_ck : Nat → Nat → Int32) (a_n_many : Int32) (a_n_clocks : Nat → Int32) (a_n_minutes : Nat → Int32) (a_n_dials : Nat → Int32) (b_filled : Int32) (x1 : Int32) (r21_2 : (Nat → Nat → Int32) × Int32 × (Nat → Int32) × (Nat → Int32) × (Nat → Int32)) : Int32 × Int32 × (Nat → Nat → Int32) × Int32 × (Nat → Int32) × (Nat → Int32) × (Nat → Int32) × Int32 × (Nat → Nat → Int32) × Int32 × (Nat → Int32) × (Nat → Int32) × (Nat → Int32) := (if x1 = 0 then (F_J6_bitCount_0f7a4 (F_X1_toldBits p_ck), 1, a_ck, a_n_many, a_n_clocks, a_n_minutes, a_n_dials, b_filled, r21_2.1, r21_2.2.1, r21_2.2.2.1, r21_2.2.2.2.1, r21_2.2.2.2.2) else (F_J6_bitCount_0f7a4 (F_X1_toldBits p_ck), a_filled, a_ck, a_n_many, a_n_clocks, a_n_minutes, a_n_dials, 1, r21_2.1, r21_2.2.1, r21_2.2.2.1, r21_2.2.2.2.1, r21_2.2.2.2.2))
def F_X6_keep (p_ck : Nat → Nat → Int32) (p_n_many : Int32) (p_n_clocks : Nat → Int32) (p_n_minutes : Nat → Int32) (p_n_dials : Nat → Int32) (a_filled : Int32) (a_ck : Nat → Nat → Int32) (a_n_many : Int32) (a_n_clocks : Nat → Int32) (a_n_minutes : Nat → Int32) (a_n_dials : Nat → Int32) (b_filled : Int32) (b_ck : Nat → Nat → Int32) (b_n_many : Int32) (b_n_clocks : Nat → Int32) (b_n_minutes : Nat → Int32) (b_n_dials : Nat → Int32) (x1 : Int32) : Int32 × Int32 × (Nat → Nat → Int32) × Int32 × (Nat → Int32) × (Nat → Int32) × (Nat → Int32) × Int32 × (Nat → Nat → Int32) × Int32 × (Nat → Int32) × (Nat → Int32) × (Nat → Int32) := (if (F_X6_isBelow x1 2) = 0 then ((-2), a_filled, a_ck, a_n_many, a_n_clocks, a_n_minutes, a_n_dials, b_filled, b_ck, b_n_many, b_n_clocks, b_n_minutes, b_n_dials) else (if x1 = 0 then (F_X6_keep_c21 p_ck a_filled b_filled b_ck b_n_many b_n_clocks b_n_minutes b_n_dials x1 (F_X1_copy a_ck a_n_clocks a_n_minutes a_n_dials p_ck p_n_many p_n_clocks p_n_minutes p_n_dials)) else (F_X6_keep_c21_2 p_ck a_filled a_ck a_n_many a_n_clocks a_n_minutes a_n_dials b_filled x1 (F_X1_copy b_ck b_n_clocks b_n_minutes b_n_dials p_ck p_n_many p_n_clocks p_n_minutes p_n_dials))))
theorem in_X6_keep_X6 : ∀ x ∈ u_ws RX6 TX6 9, x ∈ wsX6_keep := by decide +kernel
theorem in_X6_keep_X1 : ∀ x ∈ u_ws RX1 TX1 3, x ∈ wsX6_keep := by decide +kernel
set_option maxHeartbeats 2000000 in
set_option maxRecDepth 100000 in
theorem c_X6_keep (l : Launch) (D : va_G) (cI cZ cC cH : ClassId) (o t_o t_a_bytes t_a_rows p_o p_a_clocks p_n_o p_n_a_clocks p_n_a_minutes p_n_a_dials a_kept a_o a_a_clocks a_n_o a_n_a_clocks a_n_a_minutes a_n_a_dials b_o b_a_clocks b_n_o b_n_a_clocks b_n_a_minutes b_n_a_dials y_o r_o q_o q_a_clocks q_a_rates q_a_least a_misfits a_shown : Nat) (p_c : Nat → Nat) (a_c : Nat → Nat) (b_c : Nat → Nat) (sifted : Int32) (t_length : Int32) (t_lineCount : Int32) (t_start : Int32) (t_end : Int32) (t_bytes : Nat → Int32) (t_rows : Nat → Int32) (p_filled : Int32) (p_ck : Nat → Nat → Int32) (p_n_many : Int32) (p_n_clocks : Nat → Int32) (p_n_minutes : Nat → Int32) (p_n_dials : Nat → Int32) (a_filled : Int32) (a_ck : Nat → Nat → Int32) (a_n_many : Int32) (a_n_clocks : Nat → Int32) (a_n_minutes : Nat → Int32) (a_n_dials : Nat → Int32) (b_filled : Int32) (b_ck : Nat → Nat → Int32) (b_n_many : Int32) (b_n_clocks : Nat → Int32) (b_n_minutes : Nat → Int32) (b_n_dials : Nat → Int32) (y_many : Int32) (y_first : Int32) (y_last : Int32) (y_runs : Int32) (r_kind : Int32) (r_set : Int32) (r_dial : Int32) (r_low : Int32) (r_high : Int32) (r_read : Int32) (q_many : Int32) (q_clocks : Nat → Int32) (q_rates : Nat → Int32) (q_least : Nat → Int32) (misfits : Nat → Int32) (shown : Nat → Int32) (x1 : Int32)  : MC l D (TY cI cZ cC cH) yX6_keep wsX6_keep 3 68 [.ref o, .int x1] (W6 cI cZ cC cH o t_o t_a_bytes t_a_rows p_o p_a_clocks p_n_o p_n_a_clocks p_n_a_minutes p_n_a_dials a_kept a_o a_a_clocks a_n_o a_n_a_clocks a_n_a_minutes a_n_a_dials b_o b_a_clocks b_n_o b_n_a_clocks b_n_a_minutes b_n_a_dials y_o r_o q_o q_a_clocks q_a_rates q_a_least a_misfits a_shown p_c a_c b_c sifted t_length t_lineCount t_start t_end t_bytes t_rows p_filled p_ck p_n_many p_n_clocks p_n_minutes p_n_dials a_filled a_ck a_n_many a_n_clocks a_n_minutes a_n_dials b_filled b_ck b_n_many b_n_clocks b_n_minutes b_n_dials y_many y_first y_last y_runs r_kind r_set r_dial r_low r_high r_read q_many q_clocks q_rates q_least misfits shown) (some (.int ((F_X6_keep p_ck p_n_many p_n_clocks p_n_minutes p_n_dials a_filled a_ck a_n_many a_n_clocks a_n_minutes a_n_dials b_filled b_ck b_n_many b_n_clocks b_n_minutes b_n_dials x1).1))) (W6 cI cZ cC cH o t_o t_a_bytes t_a_rows p_o p_a_clocks p_n_o p_n_a_clocks p_n_a_minutes p_n_a_dials a_kept a_o a_a_clocks a_n_o a_n_a_clocks a_n_a_minutes a_n_a_dials b_o b_a_clocks b_n_o b_n_a_clocks b_n_a_minutes b_n_a_dials y_o r_o q_o q_a_clocks q_a_rates q_a_least a_misfits a_shown p_c a_c b_c sifted t_length t_lineCount t_start t_end t_bytes t_rows p_filled p_ck p_n_many p_n_clocks p_n_minutes p_n_dials (F_X6_keep p_ck p_n_many p_n_clocks p_n_minutes p_n_dials a_filled a_ck a_n_many a_n_clocks a_n_minutes a_n_dials b_filled b_ck b_n_many b_n_clocks b_n_minutes b_n_dials x1).2.1 (F_X6_keep p_ck p_n_many p_n_clocks p_n_minutes p_n_dials a_filled a_ck a_n_many a_n_clocks a_n_minutes a_n_dials b_filled b_ck b_n_many b_n_clocks b_n_minutes b_n_dials x1).2.2.1 (F_X6_keep p_ck p_n_many p_n_clocks p_n_minutes p_n_dials a_filled a_ck a_n_many a_n_clocks a_n_minutes a_n_dials b_filled b_ck b_n_many b_n_clocks b_n_minutes b_n_dials x1).2.2.2.1 (F_X6_keep p_ck p_n_many p_n_clocks p_n_minutes p_n_dials a_filled a_ck a_n_many a_n_clocks a_n_minutes a_n_dials b_filled b_ck b_n_many b_n_clocks b_n_minutes b_n_dials x1).2.2.2.2.1 (F_X6_keep p_ck p_n_many p_n_clocks p_n_minutes p_n_dials a_filled a_ck a_n_many a_n_clocks a_n_minutes a_n_dials b_filled b_ck b_n_many b_n_clocks b_n_minutes b_n_dials x1).2.2.2.2.2.1 (F_X6_keep p_ck p_n_many p_n_clocks p_n_minutes p_n_dials a_filled a_ck a_n_many a_n_clocks a_n_minutes a_n_dials b_filled b_ck b_n_many b_n_clocks b_n_minutes b_n_dials x1).2.2.2.2.2.2.1 (F_X6_keep p_ck p_n_many p_n_clocks p_n_minutes p_n_dials a_filled a_ck a_n_many a_n_clocks a_n_minutes a_n_dials b_filled b_ck b_n_many b_n_clocks b_n_minutes b_n_dials x1).2.2.2.2.2.2.2.1 (F_X6_keep p_ck p_n_many p_n_clocks p_n_minutes p_n_dials a_filled a_ck a_n_many a_n_clocks a_n_minutes a_n_dials b_filled b_ck b_n_many b_n_clocks b_n_minutes b_n_dials x1).2.2.2.2.2.2.2.2.1 (F_X6_keep p_ck p_n_many p_n_clocks p_n_minutes p_n_dials a_filled a_ck a_n_many a_n_clocks a_n_minutes a_n_dials b_filled b_ck b_n_many b_n_clocks b_n_minutes b_n_dials x1).2.2.2.2.2.2.2.2.2.1 (F_X6_keep p_ck p_n_many p_n_clocks p_n_minutes p_n_dials a_filled a_ck a_n_many a_n_clocks a_n_minutes a_n_dials b_filled b_ck b_n_many b_n_clocks b_n_minutes b_n_dials x1).2.2.2.2.2.2.2.2.2.2.1 (F_X6_keep p_ck p_n_many p_n_clocks p_n_minutes p_n_dials a_filled a_ck a_n_many a_n_clocks a_n_minutes a_n_dials b_filled b_ck b_n_many b_n_clocks b_n_minutes b_n_dials x1).2.2.2.2.2.2.2.2.2.2.2.1 (F_X6_keep p_ck p_n_many p_n_clocks p_n_minutes p_n_dials a_filled a_ck a_n_many a_n_clocks a_n_minutes a_n_dials b_filled b_ck b_n_many b_n_clocks b_n_minutes b_n_dials x1).2.2.2.2.2.2.2.2.2.2.2.2 y_many y_first y_last y_runs r_kind r_set r_dial r_low r_high r_read q_many q_clocks q_rates q_least misfits shown) := by
  obtain ⟨R, hF⟩ : ∃ R, R = F_X6_keep p_ck p_n_many p_n_clocks p_n_minutes p_n_dials a_filled a_ck a_n_many a_n_clocks a_n_minutes a_n_dials b_filled b_ck b_n_many b_n_clocks b_n_minutes b_n_dials x1 := ⟨_, rfl⟩
  rw [← hF]
  refine MC.of (cc := cX6_keep) (maxL := 2) (ret := (some .int)) RX6 rfl (by decide +kernel) rfl (Nat.le_of_ble_eq_true rfl) ?_
  intro p e s m args below meth c A Q KX RT hh ls hl
  have z0 : (0 : Int32).toInt = 0 := rfl
  have z1 : (1 : Int32).toInt = 1 := rfl
  have zm : (-1 : Int32).toInt = -1 := rfl
  have hx := KX.1
  have hb := KX.2.1
  have hl : lv_has ls 2 [(0, .ref o), (1, .int x1)] := hl
  unfold F_X6_keep at hF
  refine lv_iload_n hx hb dX6_keep_0 rfl (lv_at hl 1 rfl) ?_
  refine lv_iconst (v := 2) hx hb dX6_keep_1 (by decide) ?_
  refine g_callS (As := [.int x1, .int 2]) (rest := []) KX rfl ⟨Nat.le_of_ble_eq_true rfl, Nat.le_of_ble_eq_true rfl⟩ hh hl (c_X6_isBelow l D cI cZ cC cH  x1 2 ) JN.no 2 gX6_keep_X6_isBelow rfl (by decide +kernel) ⟨Nat.le_of_ble_eq_true rfl, Nat.le_of_ble_eq_true rfl⟩ rfl rfl (Nat.le_of_ble_eq_true rfl) dX6_keep_2 (fun H locs hh => ?_)
  refine W.eq (g2 := F0 m 5 ls [.int (F_X6_isBelow x1 2)]) rfl ?_
  refine lv_if_ne (tgt := 11) hx hb dX6_keep_5 (by decide) (fun c_5 => ?_) (fun c_5 => ?_)
  · replace hF := hF.trans (if_neg c_5)
    obtain ⟨k0_5, k1_5⟩ : (0 : Int) ≤ x1.toInt ∧ x1.toInt < 2 := X6_isBelow_in c_5
    refine lv_aload_n hx hb dX6_keep_11 rfl (lv_at hl 0 rfl) ?_
    refine g_get KX hh in_X6_keep_X6 0 rfl rfl 2 (by decide) rfl (List.mem_of_getElem? (i := 1) rfl) dX6_keep_12 ?_
    refine lv_iload_n hx hb dX6_keep_15 rfl (lv_at hl 1 rfl) ?_
    by_cases c_16 : x1 = 0
    · replace hF := hF.trans (if_pos c_16)
      refine g_aald KX hh 18 3 rfl rfl (vp_in_iff.mpr (by omega)) (v := .ref a_o) (by rw [c_16]; rfl) dX6_keep_16 ?_
      refine lv_aload_n hx hb dX6_keep_17 rfl (lv_at hl 0 rfl) ?_
      refine g_get KX hh in_X6_keep_X6 0 rfl rfl 1 (by decide) rfl (List.mem_of_getElem? (i := 2) rfl) dX6_keep_18 ?_
      refine g_callV (As := [.ref p_o]) (rest := []) KX rfl ⟨Nat.le_of_ble_eq_true rfl, Nat.le_of_ble_eq_true rfl⟩ hh hl (c_X1_copy l D cI cZ cC cH a_o a_a_clocks a_n_o a_n_a_clocks a_n_a_minutes a_n_a_dials p_o p_a_clocks p_n_o p_n_a_clocks p_n_a_minutes p_n_a_dials a_c p_c a_filled a_ck a_n_many a_n_clocks a_n_minutes a_n_dials p_filled p_ck p_n_many p_n_clocks p_n_minutes p_n_dials  ) (JN.blk (ws1 := (W6 cI cZ cC cH o t_o t_a_bytes t_a_rows p_o p_a_clocks p_n_o p_n_a_clocks p_n_a_minutes p_n_a_dials a_kept a_o a_a_clocks a_n_o a_n_a_clocks a_n_a_minutes a_n_a_dials b_o b_a_clocks b_n_o b_n_a_clocks b_n_a_minutes b_n_a_dials y_o r_o q_o q_a_clocks q_a_rates q_a_least a_misfits a_shown p_c a_c b_c sifted t_length t_lineCount t_start t_end t_bytes t_rows p_filled p_ck p_n_many p_n_clocks p_n_minutes p_n_dials a_filled ((F_X1_copy a_ck a_n_clocks a_n_minutes a_n_dials p_ck p_n_many p_n_clocks p_n_minutes p_n_dials).1) ((F_X1_copy a_ck a_n_clocks a_n_minutes a_n_dials p_ck p_n_many p_n_clocks p_n_minutes p_n_dials).2.1) ((F_X1_copy a_ck a_n_clocks a_n_minutes a_n_dials p_ck p_n_many p_n_clocks p_n_minutes p_n_dials).2.2.1) ((F_X1_copy a_ck a_n_clocks a_n_minutes a_n_dials p_ck p_n_many p_n_clocks p_n_minutes p_n_dials).2.2.2.1) ((F_X1_copy a_ck a_n_clocks a_n_minutes a_n_dials p_ck p_n_many p_n_clocks p_n_minutes p_n_dials).2.2.2.2) b_filled b_ck b_n_many b_n_clocks b_n_minutes b_n_dials y_many y_first y_last y_runs r_kind r_set r_dial r_low r_high r_read q_many q_clocks q_rates q_least misfits shown)) (H := (WHo cI cZ cC cH a_o a_a_clocks a_n_o a_n_a_clocks a_n_a_minutes a_n_a_dials a_c a_filled a_ck a_n_many a_n_clocks a_n_minutes a_n_dials)) (G := (WHo cI cZ cC cH p_o p_a_clocks p_n_o p_n_a_clocks p_n_a_minutes p_n_a_dials p_c p_filled p_ck p_n_many p_n_clocks p_n_minutes p_n_dials)) (H' := (WHo cI cZ cC cH a_o a_a_clocks a_n_o a_n_a_clocks a_n_a_minutes a_n_a_dials a_c a_filled ((F_X1_copy a_ck a_n_clocks a_n_minutes a_n_dials p_ck p_n_many p_n_clocks p_n_minutes p_n_dials).1) ((F_X1_copy a_ck a_n_clocks a_n_minutes a_n_dials p_ck p_n_many p_n_clocks p_n_minutes p_n_dials).2.1) ((F_X1_copy a_ck a_n_clocks a_n_minutes a_n_dials p_ck p_n_many p_n_clocks p_n_minutes p_n_dials).2.2.1) ((F_X1_copy a_ck a_n_clocks a_n_minutes a_n_dials p_ck p_n_many p_n_clocks p_n_minutes p_n_dials).2.2.2.1) ((F_X1_copy a_ck a_n_clocks a_n_minutes a_n_dials p_ck p_n_many p_n_clocks p_n_minutes p_n_dials).2.2.2.2))) [19, 20, 21, 22, 23, 24, 25, 26, 27, 28, 29, 30, 31, 32] [4, 5, 6, 7, 8, 9, 10, 11, 12, 13, 14, 15, 16, 17] 19 14 rfl rfl rfl rfl rfl rfl rfl (by intro k q1 q2; simp; omega) rfl rfl rfl rfl (by decide +kernel) rfl) 1 gX6_keep_X1_copy rfl (by decide +kernel) ⟨Nat.le_of_ble_eq_true rfl, Nat.le_of_ble_eq_true rfl⟩ 19 1 rfl rfl rfl rfl rfl (Nat.le_of_ble_eq_true rfl) dX6_keep_21 (fun H locs hh => ?_)
      refine W.eq (g2 := F0 m 24 ls []) rfl ?_
      generalize q_21 : F_X1_copy a_ck a_n_clocks a_n_minutes a_n_dials p_ck p_n_many p_n_clocks p_n_minutes p_n_dials = r21_1 at hh hF ⊢
      unfold F_X6_keep_c21 at hF
      refine lv_aload_n hx hb dX6_keep_24 rfl (lv_at hl 0 rfl) ?_
      refine g_get KX hh in_X6_keep_X6 0 rfl rfl 2 (by decide) rfl (List.mem_of_getElem? (i := 1) rfl) dX6_keep_25 ?_
      refine lv_iload_n hx hb dX6_keep_28 rfl (lv_at hl 1 rfl) ?_
      by_cases c_29 : x1 = 0
      · replace hF := hF.trans (if_pos c_29)
        refine g_aald KX hh 18 3 rfl rfl (vp_in_iff.mpr (by omega)) (v := .ref a_o) (by rw [c_29]; rfl) dX6_keep_29 ?_
        refine lv_iconst (v := 1) hx hb dX6_keep_30 (by decide) ?_
        refine g_put KX hh in_X6_keep_X1 tyX1 tyX1_ok nmX1 19 rfl rfl 0 (by decide) rfl rfl rfl (Nat.le_of_ble_eq_true rfl) (List.mem_of_getElem? (i := 3) rfl) (w' := (W6 cI cZ cC cH o t_o t_a_bytes t_a_rows p_o p_a_clocks p_n_o p_n_a_clocks p_n_a_minutes p_n_a_dials a_kept a_o a_a_clocks a_n_o a_n_a_clocks a_n_a_minutes a_n_a_dials b_o b_a_clocks b_n_o b_n_a_clocks b_n_a_minutes b_n_a_dials y_o r_o q_o q_a_clocks q_a_rates q_a_least a_misfits a_shown p_c a_c b_c sifted t_length t_lineCount t_start t_end t_bytes t_rows p_filled p_ck p_n_many p_n_clocks p_n_minutes p_n_dials 1 r21_1.1 r21_1.2.1 r21_1.2.2.1 r21_1.2.2.2.1 r21_1.2.2.2.2 b_filled b_ck b_n_many b_n_clocks b_n_minutes b_n_dials y_many y_first y_last y_runs r_kind r_set r_dial r_low r_high r_read q_many q_clocks q_rates q_least misfits shown)) rfl rfl dX6_keep_31 (fun H locs hh => ?_)
        refine lv_aload_n hx hb dX6_keep_34 rfl (lv_at hl 0 rfl) ?_
        refine g_get KX hh in_X6_keep_X6 0 rfl rfl 1 (by decide) rfl (List.mem_of_getElem? (i := 2) rfl) dX6_keep_35 ?_
        refine g_callV (As := []) (rest := []) KX rfl ⟨Nat.le_of_ble_eq_true rfl, Nat.le_of_ble_eq_true rfl⟩ hh hl (c_X1_toldBits l D cI cZ cC cH p_o p_a_clocks p_n_o p_n_a_clocks p_n_a_minutes p_n_a_dials p_c p_filled p_ck p_n_many p_n_clocks p_n_minutes p_n_dials  ) (JN.ro [4, 5, 6, 7, 8, 9, 10, 11, 12, 13, 14, 15, 16, 17] rfl (by decide +kernel)) 0 gX6_keep_X1_toldBits rfl (by decide +kernel) ⟨Nat.le_of_ble_eq_true rfl, Nat.le_of_ble_eq_true rfl⟩ 4 1 rfl rfl rfl rfl rfl (Nat.le_of_ble_eq_true rfl) dX6_keep_38 (fun H locs hh => ?_)
        refine W.eq (g2 := F0 m 41 ls [.int (F_X1_toldBits p_ck)]) rfl ?_
        refine g_callS (As := [.int (F_X1_toldBits p_ck)]) (rest := []) KX rfl ⟨Nat.le_of_ble_eq_true rfl, Nat.le_of_ble_eq_true rfl⟩ hh hl (c_J6_bitCount_0f7a4 l D cI cZ cC cH  (F_X1_toldBits p_ck) ) JN.no 1 gX6_keep_J6_bitCount_0f7a4 rfl (by decide +kernel) ⟨Nat.le_of_ble_eq_true rfl, Nat.le_of_ble_eq_true rfl⟩ rfl rfl (Nat.le_of_ble_eq_true rfl) dX6_keep_41 (fun H locs hh => ?_)
        refine W.eq (g2 := F0 m 44 ls [.int (F_J6_bitCount_0f7a4 (F_X1_toldBits p_ck))]) rfl ?_
        exact RT _ _ _ _ _ _ hh (by rw [hF]) (Or.inl ⟨_, rfl, by rw [hF], dX6_keep_44, Or.inl rfl⟩)
      · replace hF := hF.trans (if_neg c_29)
        refine g_aald KX hh 18 3 rfl rfl (vp_in_iff.mpr (by omega)) (v := .ref b_o) (by rw [ix_one (by omega) (by omega) c_29]; rfl) dX6_keep_29 ?_
        refine lv_iconst (v := 1) hx hb dX6_keep_30 (by decide) ?_
        refine g_put KX hh in_X6_keep_X1 tyX1 tyX1_ok nmX1 33 rfl rfl 0 (by decide) rfl rfl rfl (Nat.le_of_ble_eq_true rfl) (List.mem_of_getElem? (i := 3) rfl) (w' := (W6 cI cZ cC cH o t_o t_a_bytes t_a_rows p_o p_a_clocks p_n_o p_n_a_clocks p_n_a_minutes p_n_a_dials a_kept a_o a_a_clocks a_n_o a_n_a_clocks a_n_a_minutes a_n_a_dials b_o b_a_clocks b_n_o b_n_a_clocks b_n_a_minutes b_n_a_dials y_o r_o q_o q_a_clocks q_a_rates q_a_least a_misfits a_shown p_c a_c b_c sifted t_length t_lineCount t_start t_end t_bytes t_rows p_filled p_ck p_n_many p_n_clocks p_n_minutes p_n_dials a_filled r21_1.1 r21_1.2.1 r21_1.2.2.1 r21_1.2.2.2.1 r21_1.2.2.2.2 1 b_ck b_n_many b_n_clocks b_n_minutes b_n_dials y_many y_first y_last y_runs r_kind r_set r_dial r_low r_high r_read q_many q_clocks q_rates q_least misfits shown)) rfl rfl dX6_keep_31 (fun H locs hh => ?_)
        refine lv_aload_n hx hb dX6_keep_34 rfl (lv_at hl 0 rfl) ?_
        refine g_get KX hh in_X6_keep_X6 0 rfl rfl 1 (by decide) rfl (List.mem_of_getElem? (i := 2) rfl) dX6_keep_35 ?_
        refine g_callV (As := []) (rest := []) KX rfl ⟨Nat.le_of_ble_eq_true rfl, Nat.le_of_ble_eq_true rfl⟩ hh hl (c_X1_toldBits l D cI cZ cC cH p_o p_a_clocks p_n_o p_n_a_clocks p_n_a_minutes p_n_a_dials p_c p_filled p_ck p_n_many p_n_clocks p_n_minutes p_n_dials  ) (JN.ro [4, 5, 6, 7, 8, 9, 10, 11, 12, 13, 14, 15, 16, 17] rfl (by decide +kernel)) 0 gX6_keep_X1_toldBits rfl (by decide +kernel) ⟨Nat.le_of_ble_eq_true rfl, Nat.le_of_ble_eq_true rfl⟩ 4 1 rfl rfl rfl rfl rfl (Nat.le_of_ble_eq_true rfl) dX6_keep_38 (fun H locs hh => ?_)
        refine W.eq (g2 := F0 m 41 ls [.int (F_X1_toldBits p_ck)]) rfl ?_
        refine g_callS (As := [.int (F_X1_toldBits p_ck)]) (rest := []) KX rfl ⟨Nat.le_of_ble_eq_true rfl, Nat.le_of_ble_eq_true rfl⟩ hh hl (c_J6_bitCount_0f7a4 l D cI cZ cC cH  (F_X1_toldBits p_ck) ) JN.no 1 gX6_keep_J6_bitCount_0f7a4 rfl (by decide +kernel) ⟨Nat.le_of_ble_eq_true rfl, Nat.le_of_ble_eq_true rfl⟩ rfl rfl (Nat.le_of_ble_eq_true rfl) dX6_keep_41 (fun H locs hh => ?_)
        refine W.eq (g2 := F0 m 44 ls [.int (F_J6_bitCount_0f7a4 (F_X1_toldBits p_ck))]) rfl ?_
        exact RT _ _ _ _ _ _ hh (by rw [hF]) (Or.inl ⟨_, rfl, by rw [hF], dX6_keep_44, Or.inl rfl⟩)
    · replace hF := hF.trans (if_neg c_16)
      refine g_aald KX hh 18 3 rfl rfl (vp_in_iff.mpr (by omega)) (v := .ref b_o) (by rw [ix_one (by omega) (by omega) c_16]; rfl) dX6_keep_16 ?_
      refine lv_aload_n hx hb dX6_keep_17 rfl (lv_at hl 0 rfl) ?_
      refine g_get KX hh in_X6_keep_X6 0 rfl rfl 1 (by decide) rfl (List.mem_of_getElem? (i := 2) rfl) dX6_keep_18 ?_
      refine g_callV (As := [.ref p_o]) (rest := []) KX rfl ⟨Nat.le_of_ble_eq_true rfl, Nat.le_of_ble_eq_true rfl⟩ hh hl (c_X1_copy l D cI cZ cC cH b_o b_a_clocks b_n_o b_n_a_clocks b_n_a_minutes b_n_a_dials p_o p_a_clocks p_n_o p_n_a_clocks p_n_a_minutes p_n_a_dials b_c p_c b_filled b_ck b_n_many b_n_clocks b_n_minutes b_n_dials p_filled p_ck p_n_many p_n_clocks p_n_minutes p_n_dials  ) (JN.blk (ws1 := (W6 cI cZ cC cH o t_o t_a_bytes t_a_rows p_o p_a_clocks p_n_o p_n_a_clocks p_n_a_minutes p_n_a_dials a_kept a_o a_a_clocks a_n_o a_n_a_clocks a_n_a_minutes a_n_a_dials b_o b_a_clocks b_n_o b_n_a_clocks b_n_a_minutes b_n_a_dials y_o r_o q_o q_a_clocks q_a_rates q_a_least a_misfits a_shown p_c a_c b_c sifted t_length t_lineCount t_start t_end t_bytes t_rows p_filled p_ck p_n_many p_n_clocks p_n_minutes p_n_dials a_filled a_ck a_n_many a_n_clocks a_n_minutes a_n_dials b_filled ((F_X1_copy b_ck b_n_clocks b_n_minutes b_n_dials p_ck p_n_many p_n_clocks p_n_minutes p_n_dials).1) ((F_X1_copy b_ck b_n_clocks b_n_minutes b_n_dials p_ck p_n_many p_n_clocks p_n_minutes p_n_dials).2.1) ((F_X1_copy b_ck b_n_clocks b_n_minutes b_n_dials p_ck p_n_many p_n_clocks p_n_minutes p_n_dials).2.2.1) ((F_X1_copy b_ck b_n_clocks b_n_minutes b_n_dials p_ck p_n_many p_n_clocks p_n_minutes p_n_dials).2.2.2.1) ((F_X1_copy b_ck b_n_clocks b_n_minutes b_n_dials p_ck p_n_many p_n_clocks p_n_minutes p_n_dials).2.2.2.2) y_many y_first y_last y_runs r_kind r_set r_dial r_low r_high r_read q_many q_clocks q_rates q_least misfits shown)) (H := (WHo cI cZ cC cH b_o b_a_clocks b_n_o b_n_a_clocks b_n_a_minutes b_n_a_dials b_c b_filled b_ck b_n_many b_n_clocks b_n_minutes b_n_dials)) (G := (WHo cI cZ cC cH p_o p_a_clocks p_n_o p_n_a_clocks p_n_a_minutes p_n_a_dials p_c p_filled p_ck p_n_many p_n_clocks p_n_minutes p_n_dials)) (H' := (WHo cI cZ cC cH b_o b_a_clocks b_n_o b_n_a_clocks b_n_a_minutes b_n_a_dials b_c b_filled ((F_X1_copy b_ck b_n_clocks b_n_minutes b_n_dials p_ck p_n_many p_n_clocks p_n_minutes p_n_dials).1) ((F_X1_copy b_ck b_n_clocks b_n_minutes b_n_dials p_ck p_n_many p_n_clocks p_n_minutes p_n_dials).2.1) ((F_X1_copy b_ck b_n_clocks b_n_minutes b_n_dials p_ck p_n_many p_n_clocks p_n_minutes p_n_dials).2.2.1) ((F_X1_copy b_ck b_n_clocks b_n_minutes b_n_dials p_ck p_n_many p_n_clocks p_n_minutes p_n_dials).2.2.2.1) ((F_X1_copy b_ck b_n_clocks b_n_minutes b_n_dials p_ck p_n_many p_n_clocks p_n_minutes p_n_dials).2.2.2.2))) [33, 34, 35, 36, 37, 38, 39, 40, 41, 42, 43, 44, 45, 46] [4, 5, 6, 7, 8, 9, 10, 11, 12, 13, 14, 15, 16, 17] 33 14 rfl rfl rfl rfl rfl rfl rfl (by intro k q1 q2; simp; omega) rfl rfl rfl rfl (by decide +kernel) rfl) 1 gX6_keep_X1_copy rfl (by decide +kernel) ⟨Nat.le_of_ble_eq_true rfl, Nat.le_of_ble_eq_true rfl⟩ 33 1 rfl rfl rfl rfl rfl (Nat.le_of_ble_eq_true rfl) dX6_keep_21 (fun H locs hh => ?_)
      refine W.eq (g2 := F0 m 24 ls []) rfl ?_
      generalize q_21 : F_X1_copy b_ck b_n_clocks b_n_minutes b_n_dials p_ck p_n_many p_n_clocks p_n_minutes p_n_dials = r21_2 at hh hF ⊢
      unfold F_X6_keep_c21_2 at hF
      refine lv_aload_n hx hb dX6_keep_24 rfl (lv_at hl 0 rfl) ?_
      refine g_get KX hh in_X6_keep_X6 0 rfl rfl 2 (by decide) rfl (List.mem_of_getElem? (i := 1) rfl) dX6_keep_25 ?_
      refine lv_iload_n hx hb dX6_keep_28 rfl (lv_at hl 1 rfl) ?_
      by_cases c_29 : x1 = 0
      · replace hF := hF.trans (if_pos c_29)
        refine g_aald KX hh 18 3 rfl rfl (vp_in_iff.mpr (by omega)) (v := .ref a_o) (by rw [c_29]; rfl) dX6_keep_29 ?_
        refine lv_iconst (v := 1) hx hb dX6_keep_30 (by decide) ?_
        refine g_put KX hh in_X6_keep_X1 tyX1 tyX1_ok nmX1 19 rfl rfl 0 (by decide) rfl rfl rfl (Nat.le_of_ble_eq_true rfl) (List.mem_of_getElem? (i := 3) rfl) (w' := (W6 cI cZ cC cH o t_o t_a_bytes t_a_rows p_o p_a_clocks p_n_o p_n_a_clocks p_n_a_minutes p_n_a_dials a_kept a_o a_a_clocks a_n_o a_n_a_clocks a_n_a_minutes a_n_a_dials b_o b_a_clocks b_n_o b_n_a_clocks b_n_a_minutes b_n_a_dials y_o r_o q_o q_a_clocks q_a_rates q_a_least a_misfits a_shown p_c a_c b_c sifted t_length t_lineCount t_start t_end t_bytes t_rows p_filled p_ck p_n_many p_n_clocks p_n_minutes p_n_dials 1 a_ck a_n_many a_n_clocks a_n_minutes a_n_dials b_filled r21_2.1 r21_2.2.1 r21_2.2.2.1 r21_2.2.2.2.1 r21_2.2.2.2.2 y_many y_first y_last y_runs r_kind r_set r_dial r_low r_high r_read q_many q_clocks q_rates q_least misfits shown)) rfl rfl dX6_keep_31 (fun H locs hh => ?_)
        refine lv_aload_n hx hb dX6_keep_34 rfl (lv_at hl 0 rfl) ?_
        refine g_get KX hh in_X6_keep_X6 0 rfl rfl 1 (by decide) rfl (List.mem_of_getElem? (i := 2) rfl) dX6_keep_35 ?_
        refine g_callV (As := []) (rest := []) KX rfl ⟨Nat.le_of_ble_eq_true rfl, Nat.le_of_ble_eq_true rfl⟩ hh hl (c_X1_toldBits l D cI cZ cC cH p_o p_a_clocks p_n_o p_n_a_clocks p_n_a_minutes p_n_a_dials p_c p_filled p_ck p_n_many p_n_clocks p_n_minutes p_n_dials  ) (JN.ro [4, 5, 6, 7, 8, 9, 10, 11, 12, 13, 14, 15, 16, 17] rfl (by decide +kernel)) 0 gX6_keep_X1_toldBits rfl (by decide +kernel) ⟨Nat.le_of_ble_eq_true rfl, Nat.le_of_ble_eq_true rfl⟩ 4 1 rfl rfl rfl rfl rfl (Nat.le_of_ble_eq_true rfl) dX6_keep_38 (fun H locs hh => ?_)
        refine W.eq (g2 := F0 m 41 ls [.int (F_X1_toldBits p_ck)]) rfl ?_
        refine g_callS (As := [.int (F_X1_toldBits p_ck)]) (rest := []) KX rfl ⟨Nat.le_of_ble_eq_true rfl, Nat.le_of_ble_eq_true rfl⟩ hh hl (c_J6_bitCount_0f7a4 l D cI cZ cC cH  (F_X1_toldBits p_ck) ) JN.no 1 gX6_keep_J6_bitCount_0f7a4 rfl (by decide +kernel) ⟨Nat.le_of_ble_eq_true rfl, Nat.le_of_ble_eq_true rfl⟩ rfl rfl (Nat.le_of_ble_eq_true rfl) dX6_keep_41 (fun H locs hh => ?_)
        refine W.eq (g2 := F0 m 44 ls [.int (F_J6_bitCount_0f7a4 (F_X1_toldBits p_ck))]) rfl ?_
        exact RT _ _ _ _ _ _ hh (by rw [hF]) (Or.inl ⟨_, rfl, by rw [hF], dX6_keep_44, Or.inl rfl⟩)
      · replace hF := hF.trans (if_neg c_29)
        refine g_aald KX hh 18 3 rfl rfl (vp_in_iff.mpr (by omega)) (v := .ref b_o) (by rw [ix_one (by omega) (by omega) c_29]; rfl) dX6_keep_29 ?_
        refine lv_iconst (v := 1) hx hb dX6_keep_30 (by decide) ?_
        refine g_put KX hh in_X6_keep_X1 tyX1 tyX1_ok nmX1 33 rfl rfl 0 (by decide) rfl rfl rfl (Nat.le_of_ble_eq_true rfl) (List.mem_of_getElem? (i := 3) rfl) (w' := (W6 cI cZ cC cH o t_o t_a_bytes t_a_rows p_o p_a_clocks p_n_o p_n_a_clocks p_n_a_minutes p_n_a_dials a_kept a_o a_a_clocks a_n_o a_n_a_clocks a_n_a_minutes a_n_a_dials b_o b_a_clocks b_n_o b_n_a_clocks b_n_a_minutes b_n_a_dials y_o r_o q_o q_a_clocks q_a_rates q_a_least a_misfits a_shown p_c a_c b_c sifted t_length t_lineCount t_start t_end t_bytes t_rows p_filled p_ck p_n_many p_n_clocks p_n_minutes p_n_dials a_filled a_ck a_n_many a_n_clocks a_n_minutes a_n_dials 1 r21_2.1 r21_2.2.1 r21_2.2.2.1 r21_2.2.2.2.1 r21_2.2.2.2.2 y_many y_first y_last y_runs r_kind r_set r_dial r_low r_high r_read q_many q_clocks q_rates q_least misfits shown)) rfl rfl dX6_keep_31 (fun H locs hh => ?_)
        refine lv_aload_n hx hb dX6_keep_34 rfl (lv_at hl 0 rfl) ?_
        refine g_get KX hh in_X6_keep_X6 0 rfl rfl 1 (by decide) rfl (List.mem_of_getElem? (i := 2) rfl) dX6_keep_35 ?_
        refine g_callV (As := []) (rest := []) KX rfl ⟨Nat.le_of_ble_eq_true rfl, Nat.le_of_ble_eq_true rfl⟩ hh hl (c_X1_toldBits l D cI cZ cC cH p_o p_a_clocks p_n_o p_n_a_clocks p_n_a_minutes p_n_a_dials p_c p_filled p_ck p_n_many p_n_clocks p_n_minutes p_n_dials  ) (JN.ro [4, 5, 6, 7, 8, 9, 10, 11, 12, 13, 14, 15, 16, 17] rfl (by decide +kernel)) 0 gX6_keep_X1_toldBits rfl (by decide +kernel) ⟨Nat.le_of_ble_eq_true rfl, Nat.le_of_ble_eq_true rfl⟩ 4 1 rfl rfl rfl rfl rfl (Nat.le_of_ble_eq_true rfl) dX6_keep_38 (fun H locs hh => ?_)
        refine W.eq (g2 := F0 m 41 ls [.int (F_X1_toldBits p_ck)]) rfl ?_
        refine g_callS (As := [.int (F_X1_toldBits p_ck)]) (rest := []) KX rfl ⟨Nat.le_of_ble_eq_true rfl, Nat.le_of_ble_eq_true rfl⟩ hh hl (c_J6_bitCount_0f7a4 l D cI cZ cC cH  (F_X1_toldBits p_ck) ) JN.no 1 gX6_keep_J6_bitCount_0f7a4 rfl (by decide +kernel) ⟨Nat.le_of_ble_eq_true rfl, Nat.le_of_ble_eq_true rfl⟩ rfl rfl (Nat.le_of_ble_eq_true rfl) dX6_keep_41 (fun H locs hh => ?_)
        refine W.eq (g2 := F0 m 44 ls [.int (F_J6_bitCount_0f7a4 (F_X1_toldBits p_ck))]) rfl ?_
        exact RT _ _ _ _ _ _ hh (by rw [hF]) (Or.inl ⟨_, rfl, by rw [hF], dX6_keep_44, Or.inl rfl⟩)
  · replace hF := hF.trans (if_pos c_5)
    refine lv_bipush (v := (-2)) hx hb dX6_keep_8 (by decide) ?_
    exact RT _ _ _ _ _ _ hh (by rw [hF]) (Or.inl ⟨_, rfl, by rw [hF], dX6_keep_10, Or.inl rfl⟩)
