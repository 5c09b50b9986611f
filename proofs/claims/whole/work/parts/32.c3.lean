/-- one clock of eight is told anew -/
def ckU (ck : Nat → Nat → Int32) (j : Nat) (a0 a1 a2 a3 a4 a5 : Int32) : Nat → Nat → Int32 := fun i f => if i = j then (match f with | 0 => a0 | 1 => a1 | 2 => a2 | 3 => a3 | 4 => a4 | _ => a5) else ck i f
theorem JN.upf {ws wc w1 ws1 : va_W} (is : List Nat) (h : is.map (fun i => ws[i]?) = wc.map some) (hn : va_nd is = true) (ha : w1.map Prod.fst = wc.map Prod.fst) {k0 : Nat} {x0 : Nat × va_E} (h1 : is.map (fun i => ws1[i]?) = w1.map some) (hs : ws.set k0 x0 = ws1) (hk0 : k0 ∈ is) : JN ws wc w1 ws1 := by
  refine ⟨fun D H hP => jn_P h D H hP, fun A hD => hD.sub is hn h, fun D A H H1 hP hD hk _ hP1 _ => ?_⟩
  have key : ∀ (k : Nat) (q : Nat × va_E), ws1[k]? = some q → (k ∉ is ∧ ws[k]? = some q) ∨ ∃ (j : Nat) (q0 : Nat × va_E), is[j]? = some k ∧ w1[j]? = some q ∧ ws[k]? = some q0 ∧ q0.1 = q.1 := by
    intro k q hq
    by_cases hi : k ∈ is
    · right
      obtain ⟨j, hj⟩ := List.getElem?_of_mem hi
      have e1 : (w1.map some)[j]? = some (ws1[k]?) := by rw [← h1, List.getElem?_map, hj]; rfl
      have e2 : (wc.map some)[j]? = some (ws[k]?) := by rw [← h, List.getElem?_map, hj]; rfl
      rw [List.getElem?_map, hq] at e1
      rw [List.getElem?_map] at e2
      have e3 : (w1.map Prod.fst)[j]? = (wc.map Prod.fst)[j]? := by rw [ha]
      rw [List.getElem?_map, List.getElem?_map] at e3
      cases hw : w1[j]? with
      | none => rw [hw] at e1; cases e1
      | some a =>
        rw [hw] at e1 e3
        cases hc : wc[j]? with
        | none => rw [hc] at e3; cases e3
        | some b =>
          rw [hc] at e2 e3
          have ea : a = q := by simpa using e1
          subst ea
          have eb : ws[k]? = some b := by simpa using e2.symm
          exact ⟨j, b, hj, hw, eb, (by simpa using e3.symm)⟩
    · left
      refine ⟨hi, ?_⟩
      rw [← hs, List.getElem?_set_ne (fun e => hi (by rw [← e]; exact hk0))] at hq
      exact hq
  refine ⟨fun k q hq => ?_, ⟨fun i j x y hi hj hxy => ?_, fun k q hq => ?_⟩⟩
  · rcases key k q hq with ⟨hi, hw⟩ | ⟨j, q0, -, hw, -, -⟩
    · obtain ⟨g1, g2⟩ := jn_apart h hP hD hi hw
      exact (hP k q hw).kept (hk q.1 g1 g2)
    · exact hP1 j q hw
  · have f : ∀ (k : Nat) (q : Nat × va_E), ws1[k]? = some q → ∃ q0, ws[k]? = some q0 ∧ q0.1 = q.1 := fun k q hq => by
      rcases key k q hq with ⟨-, hw⟩ | ⟨_, q0, -, -, h3, h4⟩
      · exact ⟨q, hw, rfl⟩
      · exact ⟨q0, h3, h4⟩
    obtain ⟨x0, a1, a2⟩ := f i x hi
    obtain ⟨y0, b1, b2⟩ := f j y hj
    exact hD.1 i j x0 y0 a1 b1 (by rw [a2, b2]; exact hxy)
  · rcases key k q hq with ⟨-, hw⟩ | ⟨_, q0, -, -, h3, h4⟩
    · exact hD.2 k q hw
    · rw [← h4]; exact hD.2 k q0 h3

abbrev WHo (cI cZ cC cH : ClassId) (h_o h_a_clocks h_n_o h_n_a_clocks h_n_a_minutes h_n_a_dials : Nat) (h_c : Nat → Nat) (h_filled : Int32) (h_ck : Nat → Nat → Int32) (h_n_many : Int32) (h_n_clocks : Nat → Int32) (h_n_minutes : Nat → Int32) (h_n_dials : Nat → Int32) : va_W := [(h_o, .inr (1, [.int h_filled, .ref h_a_clocks, .ref h_n_o])), (h_a_clocks, .inl (cC, 8, .inr (.inr (.inr (.inr (fun i => some (h_c i))))))), (h_c 0, .inr (0, [.int (h_ck 0 0), .int (h_ck 0 1), .int (h_ck 0 2), .int (h_ck 0 3), .int (h_ck 0 4), .int (h_ck 0 5)])), (h_c 1, .inr (0, [.int (h_ck 1 0), .int (h_ck 1 1), .int (h_ck 1 2), .int (h_ck 1 3), .int (h_ck 1 4), .int (h_ck 1 5)])), (h_c 2, .inr (0, [.int (h_ck 2 0), .int (h_ck 2 1), .int (h_ck 2 2), .int (h_ck 2 3), .int (h_ck 2 4), .int (h_ck 2 5)])), (h_c 3, .inr (0, [.int (h_ck 3 0), .int (h_ck 3 1), .int (h_ck 3 2), .int (h_ck 3 3), .int (h_ck 3 4), .int (h_ck 3 5)])), (h_c 4, .inr (0, [.int (h_ck 4 0), .int (h_ck 4 1), .int (h_ck 4 2), .int (h_ck 4 3), .int (h_ck 4 4), .int (h_ck 4 5)])), (h_c 5, .inr (0, [.int (h_ck 5 0), .int (h_ck 5 1), .int (h_ck 5 2), .int (h_ck 5 3), .int (h_ck 5 4), .int (h_ck 5 5)])), (h_c 6, .inr (0, [.int (h_ck 6 0), .int (h_ck 6 1), .int (h_ck 6 2), .int (h_ck 6 3), .int (h_ck 6 4), .int (h_ck 6 5)])), (h_c 7, .inr (0, [.int (h_ck 7 0), .int (h_ck 7 1), .int (h_ck 7 2), .int (h_ck 7 3), .int (h_ck 7 4), .int (h_ck 7 5)])), (h_n_o, .inr (2, [.int h_n_many, .ref h_n_a_clocks, .ref h_n_a_minutes, .ref h_n_a_dials])), (h_n_a_clocks, .inl (cI, 12, .inl h_n_clocks)), (h_n_a_minutes, .inl (cI, 12, .inl h_n_minutes)), (h_n_a_dials, .inl (cI, 12, .inl h_n_dials))]
abbrev WNC (cI cZ cC cH : ClassId) (n_o n_a_clocks n_a_minutes n_a_dials k_o : Nat) (n_many : Int32) (n_clocks : Nat → Int32) (n_minutes : Nat → Int32) (n_dials : Nat → Int32) (k_kind : Int32) (k_set : Int32) (k_dial : Int32) (k_low : Int32) (k_high : Int32) (k_read : Int32) : va_W := [(n_o, .inr (2, [.int n_many, .ref n_a_clocks, .ref n_a_minutes, .ref n_a_dials])), (n_a_clocks, .inl (cI, 12, .inl n_clocks)), (n_a_minutes, .inl (cI, 12, .inl n_minutes)), (n_a_dials, .inl (cI, 12, .inl n_dials)), (k_o, .inr (0, [.int k_kind, .int k_set, .int k_dial, .int k_low, .int k_high, .int k_read]))]
abbrev WHH (cI cZ cC cH : ClassId) (h_o h_a_clocks h_n_o h_n_a_clocks h_n_a_minutes h_n_a_dials g_o g_a_clocks g_n_o g_n_a_clocks g_n_a_minutes g_n_a_dials : Nat) (h_c : Nat → Nat) (g_c : Nat → Nat) (h_filled : Int32) (h_ck : Nat → Nat → Int32) (h_n_many : Int32) (h_n_clocks : Nat → Int32) (h_n_minutes : Nat → Int32) (h_n_dials : Nat → Int32) (g_filled : Int32) (g_ck : Nat → Nat → Int32) (g_n_many : Int32) (g_n_clocks : Nat → Int32) (g_n_minutes : Nat → Int32) (g_n_dials : Nat → Int32) : va_W := [(h_o, .inr (1, [.int h_filled, .ref h_a_clocks, .ref h_n_o])), (h_a_clocks, .inl (cC, 8, .inr (.inr (.inr (.inr (fun i => some (h_c i))))))), (h_c 0, .inr (0, [.int (h_ck 0 0), .int (h_ck 0 1), .int (h_ck 0 2), .int (h_ck 0 3), .int (h_ck 0 4), .int (h_ck 0 5)])), (h_c 1, .inr (0, [.int (h_ck 1 0), .int (h_ck 1 1), .int (h_ck 1 2), .int (h_ck 1 3), .int (h_ck 1 4), .int (h_ck 1 5)])), (h_c 2, .inr (0, [.int (h_ck 2 0), .int (h_ck 2 1), .int (h_ck 2 2), .int (h_ck 2 3), .int (h_ck 2 4), .int (h_ck 2 5)])), (h_c 3, .inr (0, [.int (h_ck 3 0), .int (h_ck 3 1), .int (h_ck 3 2), .int (h_ck 3 3), .int (h_ck 3 4), .int (h_ck 3 5)])), (h_c 4, .inr (0, [.int (h_ck 4 0), .int (h_ck 4 1), .int (h_ck 4 2), .int (h_ck 4 3), .int (h_ck 4 4), .int (h_ck 4 5)])), (h_c 5, .inr (0, [.int (h_ck 5 0), .int (h_ck 5 1), .int (h_ck 5 2), .int (h_ck 5 3), .int (h_ck 5 4), .int (h_ck 5 5)])), (h_c 6, .inr (0, [.int (h_ck 6 0), .int (h_ck 6 1), .int (h_ck 6 2), .int (h_ck 6 3), .int (h_ck 6 4), .int (h_ck 6 5)])), (h_c 7, .inr (0, [.int (h_ck 7 0), .int (h_ck 7 1), .int (h_ck 7 2), .int (h_ck 7 3), .int (h_ck 7 4), .int (h_ck 7 5)])), (h_n_o, .inr (2, [.int h_n_many, .ref h_n_a_clocks, .ref h_n_a_minutes, .ref h_n_a_dials])), (h_n_a_clocks, .inl (cI, 12, .inl h_n_clocks)), (h_n_a_minutes, .inl (cI, 12, .inl h_n_minutes)), (h_n_a_dials, .inl (cI, 12, .inl h_n_dials)), (g_o, .inr (1, [.int g_filled, .ref g_a_clocks, .ref g_n_o])), (g_a_clocks, .inl (cC, 8, .inr (.inr (.inr (.inr (fun i => some (g_c i))))))), (g_c 0, .inr (0, [.int (g_ck 0 0), .int (g_ck 0 1), .int (g_ck 0 2), .int (g_ck 0 3), .int (g_ck 0 4), .int (g_ck 0 5)])), (g_c 1, .inr (0, [.int (g_ck 1 0), .int (g_ck 1 1), .int (g_ck 1 2), .int (g_ck 1 3), .int (g_ck 1 4), .int (g_ck 1 5)])), (g_c 2, .inr (0, [.int (g_ck 2 0), .int (g_ck 2 1), .int (g_ck 2 2), .int (g_ck 2 3), .int (g_ck 2 4), .int (g_ck 2 5)])), (g_c 3, .inr (0, [.int (g_ck 3 0), .int (g_ck 3 1), .int (g_ck 3 2), .int (g_ck 3 3), .int (g_ck 3 4), .int (g_ck 3 5)])), (g_c 4, .inr (0, [.int (g_ck 4 0), .int (g_ck 4 1), .int (g_ck 4 2), .int (g_ck 4 3), .int (g_ck 4 4), .int (g_ck 4 5)])), (g_c 5, .inr (0, [.int (g_ck 5 0), .int (g_ck 5 1), .int (g_ck 5 2), .int (g_ck 5 3), .int (g_ck 5 4), .int (g_ck 5 5)])), (g_c 6, .inr (0, [.int (g_ck 6 0), .int (g_ck 6 1), .int (g_ck 6 2), .int (g_ck 6 3), .int (g_ck 6 4), .int (g_ck 6 5)])), (g_c 7, .inr (0, [.int (g_ck 7 0), .int (g_ck 7 1), .int (g_ck 7 2), .int (g_ck 7 3), .int (g_ck 7 4), .int (g_ck 7 5)])), (g_n_o, .inr (2, [.int g_n_many, .ref g_n_a_clocks, .ref g_n_a_minutes, .ref g_n_a_dials])), (g_n_a_clocks, .inl (cI, 12, .inl g_n_clocks)), (g_n_a_minutes, .inl (cI, 12, .inl g_n_minutes)), (g_n_a_dials, .inl (cI, 12, .inl g_n_dials))]
abbrev WHT (cI cZ cC cH : ClassId) (h_o h_a_clocks h_n_o h_n_a_clocks h_n_a_minutes h_n_a_dials t_o t_a_bytes t_a_rows : Nat) (h_c : Nat → Nat) (h_filled : Int32) (h_ck : Nat → Nat → Int32) (h_n_many : Int32) (h_n_clocks : Nat → Int32) (h_n_minutes : Nat → Int32) (h_n_dials : Nat → Int32) (t_length : Int32) (t_lineCount : Int32) (t_start : Int32) (t_end : Int32) (t_bytes : Nat → Int32) (t_rows : Nat → Int32) : va_W := [(h_o, .inr (1, [.int h_filled, .ref h_a_clocks, .ref h_n_o])), (h_a_clocks, .inl (cC, 8, .inr (.inr (.inr (.inr (fun i => some (h_c i))))))), (h_c 0, .inr (0, [.int (h_ck 0 0), .int (h_ck 0 1), .int (h_ck 0 2), .int (h_ck 0 3), .int (h_ck 0 4), .int (h_ck 0 5)])), (h_c 1, .inr (0, [.int (h_ck 1 0), .int (h_ck 1 1), .int (h_ck 1 2), .int (h_ck 1 3), .int (h_ck 1 4), .int (h_ck 1 5)])), (h_c 2, .inr (0, [.int (h_ck 2 0), .int (h_ck 2 1), .int (h_ck 2 2), .int (h_ck 2 3), .int (h_ck 2 4), .int (h_ck 2 5)])), (h_c 3, .inr (0, [.int (h_ck 3 0), .int (h_ck 3 1), .int (h_ck 3 2), .int (h_ck 3 3), .int (h_ck 3 4), .int (h_ck 3 5)])), (h_c 4, .inr (0, [.int (h_ck 4 0), .int (h_ck 4 1), .int (h_ck 4 2), .int (h_ck 4 3), .int (h_ck 4 4), .int (h_ck 4 5)])), (h_c 5, .inr (0, [.int (h_ck 5 0), .int (h_ck 5 1), .int (h_ck 5 2), .int (h_ck 5 3), .int (h_ck 5 4), .int (h_ck 5 5)])), (h_c 6, .inr (0, [.int (h_ck 6 0), .int (h_ck 6 1), .int (h_ck 6 2), .int (h_ck 6 3), .int (h_ck 6 4), .int (h_ck 6 5)])), (h_c 7, .inr (0, [.int (h_ck 7 0), .int (h_ck 7 1), .int (h_ck 7 2), .int (h_ck 7 3), .int (h_ck 7 4), .int (h_ck 7 5)])), (h_n_o, .inr (2, [.int h_n_many, .ref h_n_a_clocks, .ref h_n_a_minutes, .ref h_n_a_dials])), (h_n_a_clocks, .inl (cI, 12, .inl h_n_clocks)), (h_n_a_minutes, .inl (cI, 12, .inl h_n_minutes)), (h_n_a_dials, .inl (cI, 12, .inl h_n_dials)), (t_o, .inr (5, [.ref t_a_bytes, .int t_length, .ref t_a_rows, .int t_lineCount, .int t_start, .int t_end])), (t_a_bytes, .inl (cI, 200, .inl t_bytes)), (t_a_rows, .inl (cI, 48, .inl t_rows))]
theorem clk_WHo {cI cZ cC cH : ClassId} {h_o h_a_clocks h_n_o h_n_a_clocks h_n_a_minutes h_n_a_dials : Nat} {h_c : Nat → Nat} {h_filled : Int32} {h_ck : Nat → Nat → Int32} {h_n_many : Int32} {h_n_clocks : Nat → Int32} {h_n_minutes : Nat → Int32} {h_n_dials : Nat → Int32} {j : Nat} (h : j < 8) : (WHo cI cZ cC cH h_o h_a_clocks h_n_o h_n_a_clocks h_n_a_minutes h_n_a_dials h_c h_filled h_ck h_n_many h_n_clocks h_n_minutes h_n_dials)[2 + j]? = some (h_c j, .inr (0, [.int (h_ck j 0), .int (h_ck j 1), .int (h_ck j 2), .int (h_ck j 3), .int (h_ck j 4), .int (h_ck j 5)])) := by
  match j, h with
  | 0, _ => rfl
  | 1, _ => rfl
  | 2, _ => rfl
  | 3, _ => rfl
  | 4, _ => rfl
  | 5, _ => rfl
  | 6, _ => rfl
  | 7, _ => rfl
theorem clkU_WHo {cI cZ cC cH : ClassId} {h_o h_a_clocks h_n_o h_n_a_clocks h_n_a_minutes h_n_a_dials : Nat} {h_c : Nat → Nat} {h_filled : Int32} {h_ck : Nat → Nat → Int32} {h_n_many : Int32} {h_n_clocks : Nat → Int32} {h_n_minutes : Nat → Int32} {h_n_dials : Nat → Int32} {j : Nat} (h : j < 8) {a0 a1 a2 a3 a4 a5 : Int32} : (WHo cI cZ cC cH h_o h_a_clocks h_n_o h_n_a_clocks h_n_a_minutes h_n_a_dials h_c h_filled (ckU h_ck j a0 a1 a2 a3 a4 a5) h_n_many h_n_clocks h_n_minutes h_n_dials)[2 + j]? = some (h_c j, .inr (0, [.int (a0), .int (a1), .int (a2), .int (a3), .int (a4), .int (a5)])) := by
  match j, h with
  | 0, _ => rfl
  | 1, _ => rfl
  | 2, _ => rfl
  | 3, _ => rfl
  | 4, _ => rfl
  | 5, _ => rfl
  | 6, _ => rfl
  | 7, _ => rfl
theorem set_WHo {cI cZ cC cH : ClassId} {h_o h_a_clocks h_n_o h_n_a_clocks h_n_a_minutes h_n_a_dials : Nat} {h_c : Nat → Nat} {h_filled : Int32} {h_ck : Nat → Nat → Int32} {h_n_many : Int32} {h_n_clocks : Nat → Int32} {h_n_minutes : Nat → Int32} {h_n_dials : Nat → Int32} {j : Nat} (h : j < 8) {a0 a1 a2 a3 a4 a5 : Int32} : (WHo cI cZ cC cH h_o h_a_clocks h_n_o h_n_a_clocks h_n_a_minutes h_n_a_dials h_c h_filled h_ck h_n_many h_n_clocks h_n_minutes h_n_dials).set (2 + j) (h_c j, .inr (0, [.int (a0), .int (a1), .int (a2), .int (a3), .int (a4), .int (a5)])) = (WHo cI cZ cC cH h_o h_a_clocks h_n_o h_n_a_clocks h_n_a_minutes h_n_a_dials h_c h_filled (ckU h_ck j a0 a1 a2 a3 a4 a5) h_n_many h_n_clocks h_n_minutes h_n_dials) := by
  match j, h with
  | 0, _ => rfl
  | 1, _ => rfl
  | 2, _ => rfl
  | 3, _ => rfl
  | 4, _ => rfl
  | 5, _ => rfl
  | 6, _ => rfl
  | 7, _ => rfl
def F_X3_errorBehind_42 (x2_2 : Int32)  : Int32 := F_J9_abs_0f7a4 x2_2
def F_X3_errorBehind_4 (q_many : Int32) (q_rates : Nat → Int32) (x1 : Int32) : Nat → Int32 → Int32 → Int32
  | 0, _, _ => default
  | n + 1, x3_1, x2_2 => (if q_many ≤ x3_1 then F_X3_errorBehind_42 x2_2 else (if 8 ≤ x3_1 then F_X3_errorBehind_42 x2_2 else (if ((x1 >>> (x3_1 &&& 31)) &&& 1) = 1 then ((F_X3_errorBehind_4 q_many q_rates x1 n) (x3_1 + 1) (x2_2 + (q_rates x3_1.toNatClampNeg))) else ((F_X3_errorBehind_4 q_many q_rates x1 n) (x3_1 + 1) x2_2))))
def F_X3_errorBehind (q_many : Int32) (q_rates : Nat → Int32) (x1 : Int32) : Int32 := (F_X3_errorBehind_4 q_many q_rates x1 9 0 0)
theorem gm_X3_errorBehind_J9_abs_0f7a4_38 : GoodIn wsX3_errorBehind (va_wsS RX3 38 yJ9_abs_0f7a4 wsJ9_abs_0f7a4) := goodIn_of _ (by decide +kernel)
theorem in_X3_errorBehind_X3 : ∀ x ∈ u_ws RX3 TX3 4, x ∈ wsX3_errorBehind := by decide +kernel
set_option maxHeartbeats 2000000 in
set_option maxRecDepth 100000 in
theorem c_X3_errorBehind (l : Launch) (D : va_G) (cI cZ cC cH : ClassId) (q_o q_a_clocks q_a_rates q_a_least : Nat) (q_many : Int32) (q_clocks : Nat → Int32) (q_rates : Nat → Int32) (q_least : Nat → Int32) (x1 : Int32)  : MC l D (TY cI cZ cC cH) yX3_errorBehind wsX3_errorBehind 1 20 [.ref q_o, .int x1] (WQu cI cZ cC cH q_o q_a_clocks q_a_rates q_a_least q_many q_clocks q_rates q_least) (some (.int (F_X3_errorBehind q_many q_rates x1))) (WQu cI cZ cC cH q_o q_a_clocks q_a_rates q_a_least q_many q_clocks q_rates q_least) := by
  obtain ⟨R, hF⟩ : ∃ R, R = F_X3_errorBehind q_many q_rates x1 := ⟨_, rfl⟩
  rw [← hF]
  refine MC.of (cc := cX3_errorBehind) (maxL := 4) (ret := (some .int)) RX3 rfl (by decide +kernel) rfl (Nat.le_of_ble_eq_true rfl) ?_
  intro p e s m args below meth c A Q KX RT hh ls hl
  have z0 : (0 : Int32).toInt = 0 := rfl
  have z1 : (1 : Int32).toInt = 1 := rfl
  have zm : (-1 : Int32).toInt = -1 := rfl
  have hx := KX.1
  have hb := KX.2.1
  have hl : lv_has ls 4 [(0, .ref q_o), (1, .int x1)] := hl
  unfold F_X3_errorBehind at hF
  refine lv_iconst (v := 0) hx hb dX3_errorBehind_0 (by decide) ?_
  refine lv_istore_n (lv' := [(2, .int 0), (0, .ref q_o), (1, .int x1)]) hx hb dX3_errorBehind_1 rfl hl (Nat.le_of_ble_eq_true rfl) rfl (fun ls hl => ?_)
  refine lv_iconst (v := 0) hx hb dX3_errorBehind_2 (by decide) ?_
  refine lv_istore_n (lv' := [(3, .int 0), (2, .int 0), (0, .ref q_o), (1, .int x1)]) hx hb dX3_errorBehind_3 rfl hl (Nat.le_of_ble_eq_true rfl) rfl (fun ls hl => ?_)
  have L_4 : ∀ (n_4 : Nat) (x3_1 : Int32) (x2_2 : Int32) (i0_4 : 0 ≤ x3_1.toInt) (i1_4 : x3_1.toInt ≤ 8) (_ : (8 - x3_1.toInt).toNat < n_4) (_ : R = (F_X3_errorBehind_4 q_many q_rates x1) n_4 x3_1 x2_2) (ls : Array Slot) (H : Heap) (locs : List Loc) (_ : HS D A s.heap (WQu cI cZ cC cH q_o q_a_clocks q_a_rates q_a_least q_many q_clocks q_rates q_least) H locs) (_ : lv_has ls 4 [(3, .int x3_1), (2, .int x2_2), (0, .ref q_o), (1, .int x1)]), W p l e { frames := 1, cells := 0, slots := 0, locals := 20 } s m args below meth c H locs 0 0 Q (F0 m 4 ls []) := by
    intro n_4
    induction n_4 with
    | zero => intro x3_1 x2_2 i0_4 i1_4 hm; exact absurd hm (Nat.not_lt_zero _)
    | succ n_4 ih_4 =>
      intro x3_1 x2_2 i0_4 i1_4 hm_4 hF ls H locs hh hl
      rw [F_X3_errorBehind_4.eq_2] at hF
      refine lv_iload_n hx hb dX3_errorBehind_4 rfl (lv_at hl 0 rfl) ?_
      refine lv_aload_n hx hb dX3_errorBehind_5 rfl (lv_at hl 2 rfl) ?_
      refine g_get KX hh in_X3_errorBehind_X3 0 rfl rfl 0 (by decide) rfl (List.mem_of_getElem? (i := 1) rfl) dX3_errorBehind_6 ?_
      have K_42 : ∀ (_ : R = (F_X3_errorBehind_42 x2_2)) (ls : Array Slot) (H : Heap) (locs : List Loc) (_ : HS D A s.heap (WQu cI cZ cC cH q_o q_a_clocks q_a_rates q_a_least q_many q_clocks q_rates q_least) H locs) (_ : lv_has ls 4 [(3, .int x3_1), (2, .int x2_2), (0, .ref q_o), (1, .int x1)]), W p l e { frames := 1, cells := 0, slots := 0, locals := 20 } s m args below meth c H locs 0 0 Q (F0 m 42 ls []) := by
        intro  hF ls H locs hh hl
        unfold F_X3_errorBehind_42 at hF
        refine lv_iload_n hx hb dX3_errorBehind_42 rfl (lv_at hl 1 rfl) ?_
        refine g_callS (As := [.int x2_2]) (rest := []) KX rfl ⟨Nat.le_of_ble_eq_true rfl, Nat.le_of_ble_eq_true rfl⟩ hh hl (c_J9_abs_0f7a4 l D cI cZ cC cH  x2_2 ) JN.no 1 gm_X3_errorBehind_J9_abs_0f7a4_38 rfl (by decide +kernel) ⟨Nat.le_of_ble_eq_true rfl, Nat.le_of_ble_eq_true rfl⟩ rfl rfl (Nat.le_of_ble_eq_true rfl) dX3_errorBehind_43 (fun H locs hh => ?_)
        refine W.eq (g2 := F0 m 46 ls [.int (F_J9_abs_0f7a4 x2_2)]) rfl ?_
        exact RT _ _ _ _ _ _ hh (rfl) (Or.inl ⟨_, rfl, by rw [hF], dX3_errorBehind_46, Or.inl rfl⟩)
      refine lv_icmp_ge (tgt := 42) hx hb dX3_errorBehind_9 (by decide) (fun c_9 => ?_) (fun c_9 => ?_)
      · replace hF := hF.trans (if_pos c_9)
        have i_9 : q_many.toInt ≤ x3_1.toInt := ti_le.mp c_9
        exact K_42   hF _ _ _ hh (lv_sub hl [0, 1, 2, 3] rfl)
      · replace hF := hF.trans (if_neg c_9)
        have i_9 : x3_1.toInt < q_many.toInt := ti_nle c_9
        refine lv_iload_n hx hb dX3_errorBehind_12 rfl (lv_at hl 0 rfl) ?_
        refine lv_bipush (v := 8) hx hb dX3_errorBehind_13 (by decide) ?_
        refine lv_icmp_ge (tgt := 42) hx hb dX3_errorBehind_15 (by decide) (fun c_15 => ?_) (fun c_15 => ?_)
        · replace hF := hF.trans (if_pos c_15)
          have i_15 : 8 ≤ x3_1.toInt := ti_le.mp c_15
          exact K_42   hF _ _ _ hh (lv_sub hl [0, 1, 2, 3] rfl)
        · replace hF := hF.trans (if_neg c_15)
          have i_15 : x3_1.toInt < 8 := ti_nle c_15
          refine lv_iload_n hx hb dX3_errorBehind_18 rfl (lv_at hl 3 rfl) ?_
          refine lv_iload_n hx hb dX3_errorBehind_19 rfl (lv_at hl 0 rfl) ?_
          refine lv_ishr hx hb dX3_errorBehind_20 ?_
          refine lv_iconst (v := 1) hx hb dX3_errorBehind_21 (by decide) ?_
          refine lv_iand hx hb dX3_errorBehind_22 ?_
          refine lv_iconst (v := 1) hx hb dX3_errorBehind_23 (by decide) ?_
          refine lv_icmp_ne (tgt := 36) hx hb dX3_errorBehind_24 (by decide) (fun c_24 => ?_) (fun c_24 => ?_)
          · replace hF := hF.trans (if_neg c_24)
            have i_24 : ¬ ((x1 >>> (x3_1 &&& 31)) &&& 1).toInt = 1 := ti_ne c_24
            refine lv_iinc (v := x3_1 + 1) (lv' := [(3, .int (x3_1 + 1)), (2, .int x2_2), (0, .ref q_o), (1, .int x1)]) hx hb dX3_errorBehind_36 hl (k := 0) rfl rfl (Nat.le_of_ble_eq_true rfl) rfl (fun ls hl => ?_)
            refine lv_goto (tgt := 4) hx hb dX3_errorBehind_39 (by decide) ?_
            have e_inc : (x3_1 + 1).toInt = x3_1.toInt + 1 := ti_inc (by omega)
            exact ih_4 (x3_1 + 1) x2_2 (by first | with_reducible assumption | omega | decide) (by first | with_reducible assumption | omega | decide) (by omega) hF _ _ _ hh (lv_sub hl [0, 1, 2, 3] rfl)
          · replace hF := hF.trans (if_pos c_24)
            have i_24 : ((x1 >>> (x3_1 &&& 31)) &&& 1).toInt = 1 := congrArg Int32.toInt c_24
            refine lv_iload_n hx hb dX3_errorBehind_27 rfl (lv_at hl 1 rfl) ?_
            refine lv_aload_n hx hb dX3_errorBehind_28 rfl (lv_at hl 2 rfl) ?_
            refine g_get KX hh in_X3_errorBehind_X3 0 rfl rfl 2 (by decide) rfl (List.mem_of_getElem? (i := 2) rfl) dX3_errorBehind_29 ?_
            refine lv_iload_n hx hb dX3_errorBehind_32 rfl (lv_at hl 0 rfl) ?_
            refine g_iald KX hh 2 0 rfl rfl (vp_in_iff.mpr (by omega)) dX3_errorBehind_33 ?_
            refine lv_iadd hx hb dX3_errorBehind_34 ?_
            refine lv_istore_n (lv' := [(2, .int (x2_2 + (q_rates x3_1.toNatClampNeg))), (3, .int x3_1), (0, .ref q_o), (1, .int x1)]) hx hb dX3_errorBehind_35 rfl hl (Nat.le_of_ble_eq_true rfl) rfl (fun ls hl => ?_)
            refine lv_iinc (v := x3_1 + 1) (lv' := [(3, .int (x3_1 + 1)), (2, .int (x2_2 + (q_rates x3_1.toNatClampNeg))), (0, .ref q_o), (1, .int x1)]) hx hb dX3_errorBehind_36 hl (k := 1) rfl rfl (Nat.le_of_ble_eq_true rfl) rfl (fun ls hl => ?_)
            refine lv_goto (tgt := 4) hx hb dX3_errorBehind_39 (by decide) ?_
            have e_inc : (x3_1 + 1).toInt = x3_1.toInt + 1 := ti_inc (by omega)
            exact ih_4 (x3_1 + 1) (x2_2 + (q_rates x3_1.toNatClampNeg)) (by first | with_reducible assumption | omega | decide) (by first | with_reducible assumption | omega | decide) (by omega) hF _ _ _ hh (lv_sub hl [0, 1, 2, 3] rfl)
  exact L_4 9 0 0 (by first | with_reducible assumption | omega | decide) (by first | with_reducible assumption | omega | decide) (by first | omega | decide | (simp; done)) hF _ _ _ hh (lv_sub hl [0, 1, 2, 3] rfl)
def F_X3_weigh_45 (x1_1 : Int32) (w_q_least_2 : Nat → Int32) (x3_3 : Int32) (k_11 : Int32 → Int32 → (Nat → Int32))  : (Nat → Int32) := (k_11 (x3_3 + 1) (F_X3_leastBehind w_q_least_2 (x1_1 ||| (1 <<< (x3_3 &&& 31)))))
def F_X3_weigh_11 (q_many : Int32) (q_rates : Nat → Int32) (x1_1 : Int32) (w_q_least_2 : Nat → Int32) (k_3 : Int32 → (Nat → Int32) → (Nat → Int32)) : Nat → Int32 → Int32 → (Nat → Int32)
  | 0, _, _ => default
  | n + 1, x3_3, x2_4 => (if q_many ≤ x3_3 then (k_3 (x1_1 + (-1)) (upd w_q_least_2 x1_1.toNatClampNeg (F_J9_max_7cf53 x2_4 (F_X3_errorBehind q_many q_rates x1_1)))) else (if ((x1_1 >>> (x3_3 &&& 31)) &&& 1) = 0 then (if x2_4 = (-1) then F_X3_weigh_45 x1_1 w_q_least_2 x3_3 (F_X3_weigh_11 q_many q_rates x1_1 w_q_least_2 k_3 n) else (if x2_4 ≤ (F_X3_leastBehind w_q_least_2 (x1_1 ||| (1 <<< (x3_3 &&& 31)))) then ((F_X3_weigh_11 q_many q_rates x1_1 w_q_least_2 k_3 n) (x3_3 + 1) x2_4) else F_X3_weigh_45 x1_1 w_q_least_2 x3_3 (F_X3_weigh_11 q_many q_rates x1_1 w_q_least_2 k_3 n))) else ((F_X3_weigh_11 q_many q_rates x1_1 w_q_least_2 k_3 n) (x3_3 + 1) x2_4)))
def F_X3_weigh_3 (q_many : Int32) (q_rates : Nat → Int32) : Nat → Int32 → (Nat → Int32) → (Nat → Int32)
  | 0, _, _ => default
  | n + 1, x1_1, w_q_least_2 => (if x1_1 < 0 then w_q_least_2 else (F_X3_weigh_11 q_many q_rates x1_1 w_q_least_2 (F_X3_weigh_3 q_many q_rates n) 9 0 (-1)))
def F_X3_weigh (q_many : Int32) (q_rates : Nat → Int32) (q_least : Nat → Int32) : (Nat → Int32) := (F_X3_weigh_3 q_many q_rates 65 63 q_least)
theorem gm_X3_weigh_J9_max_7cf53_32 : GoodIn wsX3_weigh (va_wsS RX3 32 yJ9_max_7cf53 wsJ9_max_7cf53) := goodIn_of _ (by decide +kernel)
theorem in_X3_weigh_X3 : ∀ x ∈ u_ws RX3 TX3 4, x ∈ wsX3_weigh := by decide +kernel
set_option maxHeartbeats 2000000 in
set_option maxRecDepth 100000 in
theorem c_X3_weigh (l : Launch) (D : va_G) (cI cZ cC cH : ClassId) (q_o q_a_clocks q_a_rates q_a_least : Nat) (q_many : Int32) (q_clocks : Nat → Int32) (q_rates : Nat → Int32) (q_least : Nat → Int32)  (hq0 : 0 ≤ q_many.toInt) (hq1 : q_many.toInt ≤ 8) : MC l D (TY cI cZ cC cH) yX3_weigh wsX3_weigh 2 43 [.ref q_o] (WQu cI cZ cC cH q_o q_a_clocks q_a_rates q_a_least q_many q_clocks q_rates q_least) (none) (WQu cI cZ cC cH q_o q_a_clocks q_a_rates q_a_least q_many q_clocks q_rates (F_X3_weigh q_many q_rates q_least)) := by
  obtain ⟨R, hF⟩ : ∃ R, R = F_X3_weigh q_many q_rates q_least := ⟨_, rfl⟩
  rw [← hF]
  refine MC.of (cc := cX3_weigh) (maxL := 4) (ret := none) RX3 rfl (by decide +kernel) rfl (Nat.le_of_ble_eq_true rfl) ?_
  intro p e s m args below meth c A Q KX RT hh ls hl
  have z0 : (0 : Int32).toInt = 0 := rfl
  have z1 : (1 : Int32).toInt = 1 := rfl
  have zm : (-1 : Int32).toInt = -1 := rfl
  have hx := KX.1
  have hb := KX.2.1
  have hl : lv_has ls 4 [(0, .ref q_o)] := hl
  unfold F_X3_weigh at hF
  refine lv_bipush (v := 63) hx hb dX3_weigh_0 (by decide) ?_
  refine lv_istore_n (lv' := [(1, .int 63), (0, .ref q_o)]) hx hb dX3_weigh_2 rfl hl (Nat.le_of_ble_eq_true rfl) rfl (fun ls hl => ?_)
  have L_3 : ∀ (n_3 : Nat) (x1_1 : Int32) (w_q_least_2 : Nat → Int32) (i0_3 : -1 ≤ x1_1.toInt) (i1_3 : x1_1.toInt ≤ 63) (_ : (x1_1.toInt + 1).toNat < n_3) (_ : R = (F_X3_weigh_3 q_many q_rates) n_3 x1_1 w_q_least_2) (ls : Array Slot) (H : Heap) (locs : List Loc) (_ : HS D A s.heap (WQu cI cZ cC cH q_o q_a_clocks q_a_rates q_a_least q_many q_clocks q_rates w_q_least_2) H locs) (_ : lv_has ls 4 [(1, .int x1_1), (0, .ref q_o)]), W p l e { frames := 2, cells := 0, slots := 0, locals := 43 } s m args below meth c H locs 0 0 Q (F0 m 3 ls []) := by
    intro n_3
    induction n_3 with
    | zero => intro x1_1 w_q_least_2 i0_3 i1_3 hm; exact absurd hm (Nat.not_lt_zero _)
    | succ n_3 ih_3 =>
      intro x1_1 w_q_least_2 i0_3 i1_3 hm_3 hF ls H locs hh hl
      rw [F_X3_weigh_3.eq_2] at hF
      refine lv_iload_n hx hb dX3_weigh_3 rfl (lv_at hl 0 rfl) ?_
      refine lv_if_lt (tgt := 82) hx hb dX3_weigh_4 (by decide) (fun c_4 => ?_) (fun c_4 => ?_)
      · replace hF := hF.trans (if_pos c_4)
        have i_4 : x1_1.toInt < 0 := ti_lt.mp c_4
        exact RT _ _ _ _ _ _ hh (by rw [hF]) (Or.inr (Or.inr (Or.inl ⟨rfl, rfl, dX3_weigh_82, rfl⟩)))
      · replace hF := hF.trans (if_neg c_4)
        have i_4 : 0 ≤ x1_1.toInt := ti_nlt c_4
        refine lv_iconst (v := (-1)) hx hb dX3_weigh_7 (by decide) ?_
        refine lv_istore_n (lv' := [(2, .int (-1)), (1, .int x1_1), (0, .ref q_o)]) hx hb dX3_weigh_8 rfl hl (Nat.le_of_ble_eq_true rfl) rfl (fun ls hl => ?_)
        refine lv_iconst (v := 0) hx hb dX3_weigh_9 (by decide) ?_
        refine lv_istore_n (lv' := [(3, .int 0), (2, .int (-1)), (1, .int x1_1), (0, .ref q_o)]) hx hb dX3_weigh_10 rfl hl (Nat.le_of_ble_eq_true rfl) rfl (fun ls hl => ?_)
        have L_11 : ∀ (n_11 : Nat) (x3_3 : Int32) (x2_4 : Int32) (i0_11 : 0 ≤ x3_3.toInt) (i1_11 : x3_3.toInt ≤ q_many.toInt) (_ : (q_many.toInt - x3_3.toInt).toNat < n_11) (_ : R = (F_X3_weigh_11 q_many q_rates x1_1 w_q_least_2 ((F_X3_weigh_3 q_many q_rates) n_3)) n_11 x3_3 x2_4) (ls : Array Slot) (H : Heap) (locs : List Loc) (_ : HS D A s.heap (WQu cI cZ cC cH q_o q_a_clocks q_a_rates q_a_least q_many q_clocks q_rates w_q_least_2) H locs) (_ : lv_has ls 4 [(3, .int x3_3), (2, .int x2_4), (1, .int x1_1), (0, .ref q_o)]), W p l e { frames := 2, cells := 0, slots := 0, locals := 43 } s m args below meth c H locs 0 0 Q (F0 m 11 ls []) := by
          intro n_11
          induction n_11 with
          | zero => intro x3_3 x2_4 i0_11 i1_11 hm; exact absurd hm (Nat.not_lt_zero _)
          | succ n_11 ih_11 =>
            intro x3_3 x2_4 i0_11 i1_11 hm_11 hF ls H locs hh hl
            rw [F_X3_weigh_11.eq_2] at hF
            refine lv_iload_n hx hb dX3_weigh_11 rfl (lv_at hl 0 rfl) ?_
            refine lv_aload_n hx hb dX3_weigh_12 rfl (lv_at hl 3 rfl) ?_
            refine g_get KX hh in_X3_weigh_X3 0 rfl rfl 0 (by decide) rfl (List.mem_of_getElem? (i := 1) rfl) dX3_weigh_13 ?_
            refine lv_icmp_ge (tgt := 61) hx hb dX3_weigh_16 (by decide) (fun c_16 => ?_) (fun c_16 => ?_)
            · replace hF := hF.trans (if_pos c_16)
              have i_16 : q_many.toInt ≤ x3_3.toInt := ti_le.mp c_16
              refine lv_aload_n hx hb dX3_weigh_61 rfl (lv_at hl 3 rfl) ?_
              refine g_get KX hh in_X3_weigh_X3 0 rfl rfl 3 (by decide) rfl (List.mem_of_getElem? (i := 2) rfl) dX3_weigh_62 ?_
              refine lv_iload_n hx hb dX3_weigh_65 rfl (lv_at hl 2 rfl) ?_
              refine lv_iload_n hx hb dX3_weigh_66 rfl (lv_at hl 1 rfl) ?_
              refine lv_aload_n hx hb dX3_weigh_67 rfl (lv_at hl 3 rfl) ?_
              refine lv_iload_n hx hb dX3_weigh_68 rfl (lv_at hl 2 rfl) ?_
              refine g_callV (As := [.int x1_1]) (rest := [.int x2_4, .int x1_1, .ref q_a_least]) KX rfl ⟨Nat.le_of_ble_eq_true rfl, Nat.le_of_ble_eq_true rfl⟩ hh hl (c_X3_errorBehind l D cI cZ cC cH q_o q_a_clocks q_a_rates q_a_least q_many q_clocks q_rates w_q_least_2 x1_1 ) JN.all 1 gX3_weigh_X3_errorBehind rfl (by decide +kernel) ⟨Nat.le_of_ble_eq_true rfl, Nat.le_of_ble_eq_true rfl⟩ 0 3 rfl rfl rfl rfl rfl (Nat.le_of_ble_eq_true rfl) dX3_weigh_69 (fun H locs hh => ?_)
              refine W.eq (g2 := F0 m 72 ls [.int (F_X3_errorBehind q_many q_rates x1_1), .int x2_4, .int x1_1, .ref q_a_least]) rfl ?_
              refine g_callS (As := [.int x2_4, .int (F_X3_errorBehind q_many q_rates x1_1)]) (rest := [.int x1_1, .ref q_a_least]) KX rfl ⟨Nat.le_of_ble_eq_true rfl, Nat.le_of_ble_eq_true rfl⟩ hh hl (c_J9_max_7cf53 l D cI cZ cC cH  x2_4 (F_X3_errorBehind q_many q_rates x1_1) ) JN.no 2 gm_X3_weigh_J9_max_7cf53_32 rfl (by decide +kernel) ⟨Nat.le_of_ble_eq_true rfl, Nat.le_of_ble_eq_true rfl⟩ rfl rfl (Nat.le_of_ble_eq_true rfl) dX3_weigh_72 (fun H locs hh => ?_)
              refine W.eq (g2 := F0 m 75 ls [.int (F_J9_max_7cf53 x2_4 (F_X3_errorBehind q_many q_rates x1_1)), .int x1_1, .ref q_a_least]) rfl ?_
              refine g_iast KX hh 3 0 rfl rfl (vp_in_iff.mpr (by omega)) (w' := (WQu cI cZ cC cH q_o q_a_clocks q_a_rates q_a_least q_many q_clocks q_rates (upd w_q_least_2 x1_1.toNatClampNeg (F_J9_max_7cf53 x2_4 (F_X3_errorBehind q_many q_rates x1_1))))) rfl dX3_weigh_75 (fun H locs hh => ?_)
              refine lv_iinc (v := x1_1 + (-1)) (lv' := [(1, .int (x1_1 + (-1))), (3, .int x3_3), (2, .int x2_4), (0, .ref q_o)]) hx hb dX3_weigh_76 hl (k := 2) rfl rfl (Nat.le_of_ble_eq_true rfl) rfl (fun ls hl => ?_)
              refine lv_goto (tgt := 3) hx hb dX3_weigh_79 (by decide) ?_
              exact ih_3 (x1_1 + (-1)) (upd w_q_least_2 x1_1.toNatClampNeg (F_J9_max_7cf53 x2_4 (F_X3_errorBehind q_many q_rates x1_1))) (by first | (rw [ti_dec] <;> omega) | decide) (by first | (rw [ti_dec] <;> omega) | decide) (by rw [ti_dec] <;> omega) hF _ _ _ hh (lv_sub hl [0, 3] rfl)
            · replace hF := hF.trans (if_neg c_16)
              have i_16 : x3_3.toInt < q_many.toInt := ti_nle c_16
              refine lv_iload_n hx hb dX3_weigh_19 rfl (lv_at hl 2 rfl) ?_
              refine lv_iload_n hx hb dX3_weigh_20 rfl (lv_at hl 0 rfl) ?_
              refine lv_ishr hx hb dX3_weigh_21 ?_
              refine lv_iconst (v := 1) hx hb dX3_weigh_22 (by decide) ?_
              refine lv_iand hx hb dX3_weigh_23 ?_
              refine lv_if_ne (tgt := 55) hx hb dX3_weigh_24 (by decide) (fun c_24 => ?_) (fun c_24 => ?_)
              · replace hF := hF.trans (if_neg c_24)
                have i_24 : ¬ ((x1_1 >>> (x3_3 &&& 31)) &&& 1).toInt = 0 := ti_ne c_24
                refine lv_iinc (v := x3_3 + 1) (lv' := [(3, .int (x3_3 + 1)), (2, .int x2_4), (1, .int x1_1), (0, .ref q_o)]) hx hb dX3_weigh_55 hl (k := 0) rfl rfl (Nat.le_of_ble_eq_true rfl) rfl (fun ls hl => ?_)
                refine lv_goto (tgt := 11) hx hb dX3_weigh_58 (by decide) ?_
                exact ih_11 (x3_3 + 1) x2_4 (by first | (rw [ti_inc] <;> omega) | omega | decide) (by first | (rw [ti_inc] <;> omega) | omega | decide) (by rw [ti_inc] <;> omega) hF _ _ _ hh (lv_sub hl [0, 1, 2, 3] rfl)
              · replace hF := hF.trans (if_pos c_24)
                have i_24 : ((x1_1 >>> (x3_3 &&& 31)) &&& 1).toInt = 0 := congrArg Int32.toInt c_24
                refine lv_iload_n hx hb dX3_weigh_27 rfl (lv_at hl 1 rfl) ?_
                refine lv_iconst (v := (-1)) hx hb dX3_weigh_28 (by decide) ?_
                have K_45 : ∀ (_ : R = (F_X3_weigh_45 x1_1 w_q_least_2 x3_3 ((F_X3_weigh_11 q_many q_rates x1_1 w_q_least_2 ((F_X3_weigh_3 q_many q_rates) n_3)) n_11))) (ls : Array Slot) (H : Heap) (locs : List Loc) (_ : HS D A s.heap (WQu cI cZ cC cH q_o q_a_clocks q_a_rates q_a_least q_many q_clocks q_rates w_q_least_2) H locs) (_ : lv_has ls 4 [(3, .int x3_3), (2, .int x2_4), (1, .int x1_1), (0, .ref q_o)]), W p l e { frames := 2, cells := 0, slots := 0, locals := 43 } s m args below meth c H locs 0 0 Q (F0 m 45 ls []) := by
                  intro  hF ls H locs hh hl
                  unfold F_X3_weigh_45 at hF
                  refine lv_aload_n hx hb dX3_weigh_45 rfl (lv_at hl 3 rfl) ?_
                  refine lv_iload_n hx hb dX3_weigh_46 rfl (lv_at hl 2 rfl) ?_
                  refine lv_iconst (v := 1) hx hb dX3_weigh_47 (by decide) ?_
                  refine lv_iload_n hx hb dX3_weigh_48 rfl (lv_at hl 0 rfl) ?_
                  refine lv_ishl hx hb dX3_weigh_49 ?_
                  refine lv_ior hx hb dX3_weigh_50 ?_
                  refine g_callV (As := [.int (x1_1 ||| (1 <<< (x3_3 &&& 31)))]) (rest := []) KX rfl ⟨Nat.le_of_ble_eq_true rfl, Nat.le_of_ble_eq_true rfl⟩ hh hl (c_X3_leastBehind l D cI cZ cC cH q_o q_a_clocks q_a_rates q_a_least q_many q_clocks q_rates w_q_least_2 (x1_1 ||| (1 <<< (x3_3 &&& 31))) ) JN.all 1 gX3_weigh_X3_leastBehind rfl (by decide +kernel) ⟨Nat.le_of_ble_eq_true rfl, Nat.le_of_ble_eq_true rfl⟩ 0 3 rfl rfl rfl rfl rfl (Nat.le_of_ble_eq_true rfl) dX3_weigh_51 (fun H locs hh => ?_)
                  refine W.eq (g2 := F0 m 54 ls [.int (F_X3_leastBehind w_q_least_2 (x1_1 ||| (1 <<< (x3_3 &&& 31))))]) rfl ?_
                  refine lv_istore_n (lv' := [(2, .int (F_X3_leastBehind w_q_least_2 (x1_1 ||| (1 <<< (x3_3 &&& 31))))), (3, .int x3_3), (1, .int x1_1), (0, .ref q_o)]) hx hb dX3_weigh_54 rfl hl (Nat.le_of_ble_eq_true rfl) rfl (fun ls hl => ?_)
                  refine lv_iinc (v := x3_3 + 1) (lv' := [(3, .int (x3_3 + 1)), (2, .int (F_X3_leastBehind w_q_least_2 (x1_1 ||| (1 <<< (x3_3 &&& 31))))), (1, .int x1_1), (0, .ref q_o)]) hx hb dX3_weigh_55 hl (k := 1) rfl rfl (Nat.le_of_ble_eq_true rfl) rfl (fun ls hl => ?_)
                  refine lv_goto (tgt := 11) hx hb dX3_weigh_58 (by decide) ?_
                  exact ih_11 (x3_3 + 1) (F_X3_leastBehind w_q_least_2 (x1_1 ||| (1 <<< (x3_3 &&& 31)))) (by first | (rw [ti_inc] <;> omega) | omega | decide) (by first | (rw [ti_inc] <;> omega) | omega | decide) (by rw [ti_inc] <;> omega) hF _ _ _ hh (lv_sub hl [0, 1, 2, 3] rfl)
                refine lv_icmp_eq (tgt := 45) hx hb dX3_weigh_29 (by decide) (fun c_29 => ?_) (fun c_29 => ?_)
                · replace hF := hF.trans (if_pos c_29)
                  have i_29 : x2_4.toInt = (-1) := congrArg Int32.toInt c_29
                  exact K_45   hF _ _ _ hh (lv_sub hl [0, 1, 2, 3] rfl)
                · replace hF := hF.trans (if_neg c_29)
                  have i_29 : ¬ x2_4.toInt = (-1) := ti_ne c_29
                  refine lv_aload_n hx hb dX3_weigh_32 rfl (lv_at hl 3 rfl) ?_
                  refine lv_iload_n hx hb dX3_weigh_33 rfl (lv_at hl 2 rfl) ?_
                  refine lv_iconst (v := 1) hx hb dX3_weigh_34 (by decide) ?_
                  refine lv_iload_n hx hb dX3_weigh_35 rfl (lv_at hl 0 rfl) ?_
                  refine lv_ishl hx hb dX3_weigh_36 ?_
                  refine lv_ior hx hb dX3_weigh_37 ?_
                  refine g_callV (As := [.int (x1_1 ||| (1 <<< (x3_3 &&& 31)))]) (rest := []) KX rfl ⟨Nat.le_of_ble_eq_true rfl, Nat.le_of_ble_eq_true rfl⟩ hh hl (c_X3_leastBehind l D cI cZ cC cH q_o q_a_clocks q_a_rates q_a_least q_many q_clocks q_rates w_q_least_2 (x1_1 ||| (1 <<< (x3_3 &&& 31))) ) JN.all 1 gX3_weigh_X3_leastBehind rfl (by decide +kernel) ⟨Nat.le_of_ble_eq_true rfl, Nat.le_of_ble_eq_true rfl⟩ 0 3 rfl rfl rfl rfl rfl (Nat.le_of_ble_eq_true rfl) dX3_weigh_38 (fun H locs hh => ?_)
                  refine W.eq (g2 := F0 m 41 ls [.int (F_X3_leastBehind w_q_least_2 (x1_1 ||| (1 <<< (x3_3 &&& 31))))]) rfl ?_
                  refine lv_iload_n hx hb dX3_weigh_41 rfl (lv_at hl 1 rfl) ?_
                  refine lv_icmp_ge (tgt := 55) hx hb dX3_weigh_42 (by decide) (fun c_42 => ?_) (fun c_42 => ?_)
                  · replace hF := hF.trans (if_pos c_42)
                    refine lv_iinc (v := x3_3 + 1) (lv' := [(3, .int (x3_3 + 1)), (2, .int x2_4), (1, .int x1_1), (0, .ref q_o)]) hx hb dX3_weigh_55 hl (k := 0) rfl rfl (Nat.le_of_ble_eq_true rfl) rfl (fun ls hl => ?_)
                    refine lv_goto (tgt := 11) hx hb dX3_weigh_58 (by decide) ?_
                    exact ih_11 (x3_3 + 1) x2_4 (by first | (rw [ti_inc] <;> omega) | omega | decide) (by first | (rw [ti_inc] <;> omega) | omega | decide) (by rw [ti_inc] <;> omega) hF _ _ _ hh (lv_sub hl [0, 1, 2, 3] rfl)
                  · replace hF := hF.trans (if_neg c_42)
                    exact K_45   hF _ _ _ hh (lv_sub hl [0, 1, 2, 3] rfl)
        exact L_11 9 0 (-1) (by first | (rw [ti_inc] <;> omega) | omega | decide) (by first | (rw [ti_inc] <;> omega) | omega | decide) (by first | omega | decide | (simp; done)) hF _ _ _ hh (lv_sub hl [0, 1, 2, 3] rfl)
  exact L_3 65 63 q_least (by first | (rw [ti_dec] <;> omega) | decide) (by first | (rw [ti_dec] <;> omega) | decide) (by first | omega | decide | (simp; done)) hF _ _ _ hh (lv_sub hl [0, 1] rfl)
def F_X3_firstBehind_2 (q_many : Int32) (q_least : Nat → Int32) (x1 : Int32) : Nat → Int32 → Int32
  | 0, _ => default
  | n + 1, x2_1 => (if q_many ≤ x2_1 then 0 else (if ((x1 >>> (x2_1 &&& 31)) &&& 1) = 0 then (if (q_least (0 : Int32).toNatClampNeg) < (F_X3_leastBehind q_least (x1 ||| (1 <<< (x2_1 &&& 31)))) then ((F_X3_firstBehind_2 q_many q_least x1 n) (x2_1 + 1)) else x2_1) else ((F_X3_firstBehind_2 q_many q_least x1 n) (x2_1 + 1))))
def F_X3_firstBehind (q_many : Int32) (q_least : Nat → Int32) (x1 : Int32) : Int32 := (F_X3_firstBehind_2 q_many q_least x1 9 0)
theorem in_X3_firstBehind_X3 : ∀ x ∈ u_ws RX3 TX3 4, x ∈ wsX3_firstBehind := by decide +kernel
set_option maxHeartbeats 2000000 in
set_option maxRecDepth 100000 in
theorem c_X3_firstBehind (l : Launch) (D : va_G) (cI cZ cC cH : ClassId) (q_o q_a_clocks q_a_rates q_a_least : Nat) (q_many : Int32) (q_clocks : Nat → Int32) (q_rates : Nat → Int32) (q_least : Nat → Int32) (x1 : Int32) (hq0 : 0 ≤ q_many.toInt) (hq1 : q_many.toInt ≤ 8) : MC l D (TY cI cZ cC cH) yX3_firstBehind wsX3_firstBehind 2 42 [.ref q_o, .int x1] (WQu cI cZ cC cH q_o q_a_clocks q_a_rates q_a_least q_many q_clocks q_rates q_least) (some (.int (F_X3_firstBehind q_many q_least x1))) (WQu cI cZ cC cH q_o q_a_clocks q_a_rates q_a_least q_many q_clocks q_rates q_least) := by
  obtain ⟨R, hF⟩ : ∃ R, R = F_X3_firstBehind q_many q_least x1 := ⟨_, rfl⟩
  rw [← hF]
  refine MC.of (cc := cX3_firstBehind) (maxL := 3) (ret := (some .int)) RX3 rfl (by decide +kernel) rfl (Nat.le_of_ble_eq_true rfl) ?_
  intro p e s m args below meth c A Q KX RT hh ls hl
  have z0 : (0 : Int32).toInt = 0 := rfl
  have z1 : (1 : Int32).toInt = 1 := rfl
  have zm : (-1 : Int32).toInt = -1 := rfl
  have hx := KX.1
  have hb := KX.2.1
  have hl : lv_has ls 3 [(0, .ref q_o), (1, .int x1)] := hl
  unfold F_X3_firstBehind at hF
  refine lv_iconst (v := 0) hx hb dX3_firstBehind_0 (by decide) ?_
  refine lv_istore_n (lv' := [(2, .int 0), (0, .ref q_o), (1, .int x1)]) hx hb dX3_firstBehind_1 rfl hl (Nat.le_of_ble_eq_true rfl) rfl (fun ls hl => ?_)
  have L_2 : ∀ (n_2 : Nat) (x2_1 : Int32) (i0_2 : 0 ≤ x2_1.toInt) (i1_2 : x2_1.toInt ≤ q_many.toInt) (_ : (q_many.toInt - x2_1.toInt).toNat < n_2) (_ : R = (F_X3_firstBehind_2 q_many q_least x1) n_2 x2_1) (ls : Array Slot) (H : Heap) (locs : List Loc) (_ : HS D A s.heap (WQu cI cZ cC cH q_o q_a_clocks q_a_rates q_a_least q_many q_clocks q_rates q_least) H locs) (_ : lv_has ls 3 [(2, .int x2_1), (0, .ref q_o), (1, .int x1)]), W p l e { frames := 2, cells := 0, slots := 0, locals := 42 } s m args below meth c H locs 0 0 Q (F0 m 2 ls []) := by
    intro n_2
    induction n_2 with
    | zero => intro x2_1 i0_2 i1_2 hm; exact absurd hm (Nat.not_lt_zero _)
    | succ n_2 ih_2 =>
      intro x2_1 i0_2 i1_2 hm_2 hF ls H locs hh hl
      rw [F_X3_firstBehind_2.eq_2] at hF
      refine lv_iload_n hx hb dX3_firstBehind_2 rfl (lv_at hl 0 rfl) ?_
      refine lv_aload_n hx hb dX3_firstBehind_3 rfl (lv_at hl 1 rfl) ?_
      refine g_get KX hh in_X3_firstBehind_X3 0 rfl rfl 0 (by decide) rfl (List.mem_of_getElem? (i := 1) rfl) dX3_firstBehind_4 ?_
      refine lv_icmp_ge (tgt := 44) hx hb dX3_firstBehind_7 (by decide) (fun c_7 => ?_) (fun c_7 => ?_)
      · replace hF := hF.trans (if_pos c_7)
        have i_7 : q_many.toInt ≤ x2_1.toInt := ti_le.mp c_7
        refine lv_iconst (v := 0) hx hb dX3_firstBehind_44 (by decide) ?_
        exact RT _ _ _ _ _ _ hh (rfl) (Or.inl ⟨_, rfl, by rw [hF], dX3_firstBehind_45, Or.inl rfl⟩)
      · replace hF := hF.trans (if_neg c_7)
        have i_7 : x2_1.toInt < q_many.toInt := ti_nle c_7
        refine lv_iload_n hx hb dX3_firstBehind_10 rfl (lv_at hl 2 rfl) ?_
        refine lv_iload_n hx hb dX3_firstBehind_11 rfl (lv_at hl 0 rfl) ?_
        refine lv_ishr hx hb dX3_firstBehind_12 ?_
        refine lv_iconst (v := 1) hx hb dX3_firstBehind_13 (by decide) ?_
        refine lv_iand hx hb dX3_firstBehind_14 ?_
        refine lv_if_ne (tgt := 38) hx hb dX3_firstBehind_15 (by decide) (fun c_15 => ?_) (fun c_15 => ?_)
        · replace hF := hF.trans (if_neg c_15)
          have i_15 : ¬ ((x1 >>> (x2_1 &&& 31)) &&& 1).toInt = 0 := ti_ne c_15
          refine lv_iinc (v := x2_1 + 1) (lv' := [(2, .int (x2_1 + 1)), (0, .ref q_o), (1, .int x1)]) hx hb dX3_firstBehind_38 hl (k := 0) rfl rfl (Nat.le_of_ble_eq_true rfl) rfl (fun ls hl => ?_)
          refine lv_goto (tgt := 2) hx hb dX3_firstBehind_41 (by decide) ?_
          exact ih_2 (x2_1 + 1) (by first | (rw [ti_inc] <;> omega) | omega | decide) (by first | (rw [ti_inc] <;> omega) | omega | decide) (by rw [ti_inc] <;> omega) hF _ _ _ hh (lv_sub hl [0, 1, 2] rfl)
        · replace hF := hF.trans (if_pos c_15)
          have i_15 : ((x1 >>> (x2_1 &&& 31)) &&& 1).toInt = 0 := congrArg Int32.toInt c_15
          refine lv_aload_n hx hb dX3_firstBehind_18 rfl (lv_at hl 1 rfl) ?_
          refine lv_iload_n hx hb dX3_firstBehind_19 rfl (lv_at hl 2 rfl) ?_
          refine lv_iconst (v := 1) hx hb dX3_firstBehind_20 (by decide) ?_
          refine lv_iload_n hx hb dX3_firstBehind_21 rfl (lv_at hl 0 rfl) ?_
          refine lv_ishl hx hb dX3_firstBehind_22 ?_
          refine lv_ior hx hb dX3_firstBehind_23 ?_
          refine g_callV (As := [.int (x1 ||| (1 <<< (x2_1 &&& 31)))]) (rest := []) KX rfl ⟨Nat.le_of_ble_eq_true rfl, Nat.le_of_ble_eq_true rfl⟩ hh hl (c_X3_leastBehind l D cI cZ cC cH q_o q_a_clocks q_a_rates q_a_least q_many q_clocks q_rates q_least (x1 ||| (1 <<< (x2_1 &&& 31))) ) JN.all 1 gX3_firstBehind_X3_leastBehind rfl (by decide +kernel) ⟨Nat.le_of_ble_eq_true rfl, Nat.le_of_ble_eq_true rfl⟩ 0 3 rfl rfl rfl rfl rfl (Nat.le_of_ble_eq_true rfl) dX3_firstBehind_24 (fun H locs hh => ?_)
          refine W.eq (g2 := F0 m 27 ls [.int (F_X3_leastBehind q_least (x1 ||| (1 <<< (x2_1 &&& 31))))]) rfl ?_
          refine lv_aload_n hx hb dX3_firstBehind_27 rfl (lv_at hl 1 rfl) ?_
          refine g_get KX hh in_X3_firstBehind_X3 0 rfl rfl 3 (by decide) rfl (List.mem_of_getElem? (i := 2) rfl) dX3_firstBehind_28 ?_
          refine lv_iconst (v := 0) hx hb dX3_firstBehind_31 (by decide) ?_
          refine g_iald KX hh 3 0 rfl rfl (vp_in_iff.mpr (by decide)) dX3_firstBehind_32 ?_
          refine lv_icmp_gt (tgt := 38) hx hb dX3_firstBehind_33 (by decide) (fun c_33 => ?_) (fun c_33 => ?_)
          · replace hF := hF.trans (if_pos c_33)
            refine lv_iinc (v := x2_1 + 1) (lv' := [(2, .int (x2_1 + 1)), (0, .ref q_o), (1, .int x1)]) hx hb dX3_firstBehind_38 hl (k := 0) rfl rfl (Nat.le_of_ble_eq_true rfl) rfl (fun ls hl => ?_)
            refine lv_goto (tgt := 2) hx hb dX3_firstBehind_41 (by decide) ?_
            exact ih_2 (x2_1 + 1) (by first | (rw [ti_inc] <;> omega) | omega | decide) (by first | (rw [ti_inc] <;> omega) | omega | decide) (by rw [ti_inc] <;> omega) hF _ _ _ hh (lv_sub hl [0, 1, 2] rfl)
          · replace hF := hF.trans (if_neg c_33)
            refine lv_iload_n hx hb dX3_firstBehind_36 rfl (lv_at hl 0 rfl) ?_
            exact RT _ _ _ _ _ _ hh (rfl) (Or.inl ⟨_, rfl, by rw [hF], dX3_firstBehind_37, Or.inl rfl⟩)
  exact L_2 9 0 (by first | (rw [ti_inc] <;> omega) | omega | decide) (by first | (rw [ti_inc] <;> omega) | omega | decide) (by first | omega | decide | (simp; done)) hF _ _ _ hh (lv_sub hl [0, 1, 2] rfl)
def F_X3_clockAt_40 (q_clocks : Nat → Int32) (x3_2 : Int32)  : Int32 := (if (F_X6_isBelow x3_2 8) = 0 then (-1) else q_clocks x3_2.toNatClampNeg)
def F_X3_clockAt_7 (q_many : Int32) (q_clocks : Nat → Int32) (q_least : Nat → Int32) (x1 : Int32) : Nat → Int32 → Int32 → Int32 → Int32
  | 0, _, _, _ => default
  | n + 1, x4_1, x3_2, x2_3 => (if x1 < x4_1 then F_X3_clockAt_40 q_clocks x3_2 else (if q_many ≤ x4_1 then F_X3_clockAt_40 q_clocks x3_2 else ((F_X3_clockAt_7 q_many q_clocks q_least x1 n) (x4_1 + 1) (F_X3_firstBehind q_many q_least x2_3) (x2_3 ||| (1 <<< ((F_X3_firstBehind q_many q_least x2_3) &&& 31))))))
def F_X3_clockAt (q_many : Int32) (q_clocks : Nat → Int32) (q_least : Nat → Int32) (x1 : Int32) : Int32 := (F_X3_clockAt_7 q_many q_clocks q_least x1 9 0 0 0)
theorem in_X3_clockAt_X3 : ∀ x ∈ u_ws RX3 TX3 4, x ∈ wsX3_clockAt := by decide +kernel
set_option maxHeartbeats 2000000 in
set_option maxRecDepth 100000 in
theorem c_X3_clockAt (l : Launch) (D : va_G) (cI cZ cC cH : ClassId) (q_o q_a_clocks q_a_rates q_a_least : Nat) (q_many : Int32) (q_clocks : Nat → Int32) (q_rates : Nat → Int32) (q_least : Nat → Int32) (x1 : Int32) (hq0 : 0 ≤ q_many.toInt) (hq1 : q_many.toInt ≤ 8) : MC l D (TY cI cZ cC cH) yX3_clockAt wsX3_clockAt 3 64 [.ref q_o, .int x1] (WQu cI cZ cC cH q_o q_a_clocks q_a_rates q_a_least q_many q_clocks q_rates q_least) (some (.int (F_X3_clockAt q_many q_clocks q_least x1))) (WQu cI cZ cC cH q_o q_a_clocks q_a_rates q_a_least q_many q_clocks q_rates q_least) := by
  obtain ⟨R, hF⟩ : ∃ R, R = F_X3_clockAt q_many q_clocks q_least x1 := ⟨_, rfl⟩
  rw [← hF]
  refine MC.of (cc := cX3_clockAt) (maxL := 5) (ret := (some .int)) RX3 rfl (by decide +kernel) rfl (Nat.le_of_ble_eq_true rfl) ?_
  intro p e s m args below meth c A Q KX RT hh ls hl
  have z0 : (0 : Int32).toInt = 0 := rfl
  have z1 : (1 : Int32).toInt = 1 := rfl
  have zm : (-1 : Int32).toInt = -1 := rfl
  have hx := KX.1
  have hb := KX.2.1
  have hl : lv_has ls 5 [(0, .ref q_o), (1, .int x1)] := hl
  unfold F_X3_clockAt at hF
  refine lv_iconst (v := 0) hx hb dX3_clockAt_0 (by decide) ?_
  refine lv_istore_n (lv' := [(2, .int 0), (0, .ref q_o), (1, .int x1)]) hx hb dX3_clockAt_1 rfl hl (Nat.le_of_ble_eq_true rfl) rfl (fun ls hl => ?_)
  refine lv_iconst (v := 0) hx hb dX3_clockAt_2 (by decide) ?_
  refine lv_istore_n (lv' := [(3, .int 0), (2, .int 0), (0, .ref q_o), (1, .int x1)]) hx hb dX3_clockAt_3 rfl hl (Nat.le_of_ble_eq_true rfl) rfl (fun ls hl => ?_)
  refine lv_iconst (v := 0) hx hb dX3_clockAt_4 (by decide) ?_
  refine lv_istore (lv' := [(4, .int 0), (3, .int 0), (2, .int 0), (0, .ref q_o), (1, .int x1)]) hx hb dX3_clockAt_5 hl (Nat.le_of_ble_eq_true rfl) rfl (fun ls hl => ?_)
  have L_7 : ∀ (n_7 : Nat) (x4_1 : Int32) (x3_2 : Int32) (x2_3 : Int32) (i0_7 : 0 ≤ x4_1.toInt) (i1_7 : x4_1.toInt ≤ q_many.toInt) (_ : (q_many.toInt - x4_1.toInt).toNat < n_7) (_ : R = (F_X3_clockAt_7 q_many q_clocks q_least x1) n_7 x4_1 x3_2 x2_3) (ls : Array Slot) (H : Heap) (locs : List Loc) (_ : HS D A s.heap (WQu cI cZ cC cH q_o q_a_clocks q_a_rates q_a_least q_many q_clocks q_rates q_least) H locs) (_ : lv_has ls 5 [(4, .int x4_1), (3, .int x3_2), (2, .int x2_3), (0, .ref q_o), (1, .int x1)]), W p l e { frames := 3, cells := 0, slots := 0, locals := 64 } s m args below meth c H locs 0 0 Q (F0 m 7 ls []) := by
    intro n_7
    induction n_7 with
    | zero => intro x4_1 x3_2 x2_3 i0_7 i1_7 hm; exact absurd hm (Nat.not_lt_zero _)
    | succ n_7 ih_7 =>
      intro x4_1 x3_2 x2_3 i0_7 i1_7 hm_7 hF ls H locs hh hl
      rw [F_X3_clockAt_7.eq_2] at hF
      refine lv_iload hx hb dX3_clockAt_7 (lv_at hl 0 rfl) ?_
      refine lv_iload_n hx hb dX3_clockAt_9 rfl (lv_at hl 4 rfl) ?_
      have K_40 : ∀ (_ : R = (F_X3_clockAt_40 q_clocks x3_2)) (ls : Array Slot) (H : Heap) (locs : List Loc) (_ : HS D A s.heap (WQu cI cZ cC cH q_o q_a_clocks q_a_rates q_a_least q_many q_clocks q_rates q_least) H locs) (_ : lv_has ls 5 [(4, .int x4_1), (3, .int x3_2), (2, .int x2_3), (0, .ref q_o), (1, .int x1)]), W p l e { frames := 3, cells := 0, slots := 0, locals := 64 } s m args below meth c H locs 0 0 Q (F0 m 40 ls []) := by
        intro  hF ls H locs hh hl
        unfold F_X3_clockAt_40 at hF
        refine lv_iload_n hx hb dX3_clockAt_40 rfl (lv_at hl 1 rfl) ?_
        refine lv_bipush (v := 8) hx hb dX3_clockAt_41 (by decide) ?_
        refine g_callN (host := "WrongClocks") (As := [.int x3_2, .int 8]) (rest := []) KX rfl ⟨Nat.le_of_ble_eq_true rfl, Nat.le_of_ble_eq_true rfl⟩ hh hl (c_X6_isBelow l D cI cZ cC cH  x3_2 8 ) JN.no 2 gX3_clockAt_X6_isBelow_n41 rfl (by decide +kernel) (List.mem_of_getElem? (i := 14) rfl) (List.mem_of_getElem? (i := 13) rfl) (by decide +kernel) ⟨Nat.le_of_ble_eq_true rfl, Nat.le_of_ble_eq_true rfl⟩ rfl rfl (Nat.le_of_ble_eq_true rfl) dX3_clockAt_43 (fun H locs hh => ?_)
        refine W.eq (g2 := F0 m 46 ls [.int (F_X6_isBelow x3_2 8)]) rfl ?_
        refine lv_if_eq (tgt := 58) hx hb dX3_clockAt_46 (by decide) (fun c_46 => ?_) (fun c_46 => ?_)
        · replace hF := hF.trans (if_pos c_46)
          refine lv_iconst (v := (-1)) hx hb dX3_clockAt_58 (by decide) ?_
          exact RT _ _ _ _ _ _ hh (rfl) (Or.inl ⟨_, rfl, by rw [hF], dX3_clockAt_59, Or.inl rfl⟩)
        · replace hF := hF.trans (if_neg c_46)
          obtain ⟨k0_46, k1_46⟩ : (0 : Int) ≤ x3_2.toInt ∧ x3_2.toInt < 8 := X6_isBelow_in c_46
          refine lv_aload_n hx hb dX3_clockAt_49 rfl (lv_at hl 3 rfl) ?_
          refine g_get KX hh in_X3_clockAt_X3 0 rfl rfl 1 (by decide) rfl (List.mem_of_getElem? (i := 2) rfl) dX3_clockAt_50 ?_
          refine lv_iload_n hx hb dX3_clockAt_53 rfl (lv_at hl 1 rfl) ?_
          refine g_iald KX hh 1 0 rfl rfl (vp_in_iff.mpr (by omega)) dX3_clockAt_54 ?_
          refine lv_goto (tgt := 59) hx hb dX3_clockAt_55 (by decide) ?_
          exact RT _ _ _ _ _ _ hh (rfl) (Or.inl ⟨_, rfl, by rw [hF], dX3_clockAt_59, Or.inl rfl⟩)
      refine lv_icmp_gt (tgt := 40) hx hb dX3_clockAt_10 (by decide) (fun c_10 => ?_) (fun c_10 => ?_)
      · replace hF := hF.trans (if_pos c_10)
        have i_10 : x1.toInt < x4_1.toInt := ti_lt.mp c_10
        exact K_40   hF _ _ _ hh (lv_sub hl [0, 1, 2, 3, 4] rfl)
      · replace hF := hF.trans (if_neg c_10)
        have i_10 : x4_1.toInt ≤ x1.toInt := ti_nlt c_10
        refine lv_iload hx hb dX3_clockAt_13 (lv_at hl 0 rfl) ?_
        refine lv_aload_n hx hb dX3_clockAt_15 rfl (lv_at hl 3 rfl) ?_
        refine g_get KX hh in_X3_clockAt_X3 0 rfl rfl 0 (by decide) rfl (List.mem_of_getElem? (i := 1) rfl) dX3_clockAt_16 ?_
        refine lv_icmp_ge (tgt := 40) hx hb dX3_clockAt_19 (by decide) (fun c_19 => ?_) (fun c_19 => ?_)
        · replace hF := hF.trans (if_pos c_19)
          have i_19 : q_many.toInt ≤ x4_1.toInt := ti_le.mp c_19
          exact K_40   hF _ _ _ hh (lv_sub hl [0, 1, 2, 3, 4] rfl)
        · replace hF := hF.trans (if_neg c_19)
          have i_19 : x4_1.toInt < q_many.toInt := ti_nle c_19
          refine lv_aload_n hx hb dX3_clockAt_22 rfl (lv_at hl 3 rfl) ?_
          refine lv_iload_n hx hb dX3_clockAt_23 rfl (lv_at hl 2 rfl) ?_
          refine g_callV (As := [.int x2_3]) (rest := []) KX rfl ⟨Nat.le_of_ble_eq_true rfl, Nat.le_of_ble_eq_true rfl⟩ hh hl (c_X3_firstBehind l D cI cZ cC cH q_o q_a_clocks q_a_rates q_a_least q_many q_clocks q_rates q_least x2_3 (by first | with_reducible assumption | omega | decide | exact tn_lt (n := 8) (by omega) (by omega)) (by first | with_reducible assumption | omega | decide | exact tn_lt (n := 8) (by omega) (by omega))) JN.all 1 gX3_clockAt_X3_firstBehind rfl (by decide +kernel) ⟨Nat.le_of_ble_eq_true rfl, Nat.le_of_ble_eq_true rfl⟩ 0 3 rfl rfl rfl rfl rfl (Nat.le_of_ble_eq_true rfl) dX3_clockAt_24 (fun H locs hh => ?_)
          refine W.eq (g2 := F0 m 27 ls [.int (F_X3_firstBehind q_many q_least x2_3)]) rfl ?_
          refine lv_istore_n (lv' := [(3, .int (F_X3_firstBehind q_many q_least x2_3)), (4, .int x4_1), (2, .int x2_3), (0, .ref q_o), (1, .int x1)]) hx hb dX3_clockAt_27 rfl hl (Nat.le_of_ble_eq_true rfl) rfl (fun ls hl => ?_)
          refine lv_iload_n hx hb dX3_clockAt_28 rfl (lv_at hl 2 rfl) ?_
          refine lv_iconst (v := 1) hx hb dX3_clockAt_29 (by decide) ?_
          refine lv_iload_n hx hb dX3_clockAt_30 rfl (lv_at hl 0 rfl) ?_
          refine lv_ishl hx hb dX3_clockAt_31 ?_
          refine lv_ior hx hb dX3_clockAt_32 ?_
          refine lv_istore_n (lv' := [(2, .int (x2_3 ||| (1 <<< ((F_X3_firstBehind q_many q_least x2_3) &&& 31)))), (3, .int (F_X3_firstBehind q_many q_least x2_3)), (4, .int x4_1), (0, .ref q_o), (1, .int x1)]) hx hb dX3_clockAt_33 rfl hl (Nat.le_of_ble_eq_true rfl) rfl (fun ls hl => ?_)
          refine lv_iinc (v := x4_1 + 1) (lv' := [(4, .int (x4_1 + 1)), (2, .int (x2_3 ||| (1 <<< ((F_X3_firstBehind q_many q_least x2_3) &&& 31)))), (3, .int (F_X3_firstBehind q_many q_least x2_3)), (0, .ref q_o), (1, .int x1)]) hx hb dX3_clockAt_34 hl (k := 2) rfl rfl (Nat.le_of_ble_eq_true rfl) rfl (fun ls hl => ?_)
          refine lv_goto (tgt := 7) hx hb dX3_clockAt_37 (by decide) ?_
          exact ih_7 (x4_1 + 1) (F_X3_firstBehind q_many q_least x2_3) (x2_3 ||| (1 <<< ((F_X3_firstBehind q_many q_least x2_3) &&& 31))) (by first | (rw [ti_inc] <;> omega) | omega | decide) (by first | (rw [ti_inc] <;> omega) | omega | decide) (by rw [ti_inc] <;> omega) hF _ _ _ hh (lv_sub hl [0, 2, 1, 3, 4] rfl)
  exact L_7 9 0 0 0 (by first | (rw [ti_inc] <;> omega) | omega | decide) (by first | (rw [ti_inc] <;> omega) | omega | decide) (by first | omega | decide | (simp; done)) hF _ _ _ hh (lv_sub hl [0, 1, 2, 3, 4] rfl)
theorem X2_add_pos {m : Int32} {a b c : Nat → Int32} {x y z : Int32} (h : 0 ≤ m.toInt) : 0 ≤ (F_X2_add m a b c x y z).2.1.toInt := by
  unfold F_X2_add
  split
  · rename_i h1
    have h2 := ti_lt.mp h1
    have e : (12 : Int32).toInt = 12 := rfl
    show 0 ≤ (m + 1).toInt
    rw [ti_inc (by omega)]; omega
  · exact h
theorem ixr {a b : Int32} (h0 : 0 ≤ a.toInt) (h1 : a.toInt < 8) (g0 : 0 ≤ b.toInt) (g1 : b.toInt < 6) : vp_in (a * 6 + b) 48 := by
  have e6 : (6 : Int32).toInt = 6 := rfl
  have e := ti_mul (a := a) (b := 6) (by rw [e6]; omega) (by rw [e6]; omega)
  refine vp_in_iff.mpr ?_
  rw [ti_add (by rw [e, e6]; omega) (by rw [e, e6]; omega), e, e6]
  omega
def F_X2_copy_c40 (x2_1 : Int32) (k_7 : Int32 → Int32 → (Nat → Int32) → (Nat → Int32) → (Nat → Int32) → Int32 × (Nat → Int32) × (Nat → Int32) × (Nat → Int32)) (r40_6 : Int32 × Int32 × (Nat → Int32) × (Nat → Int32) × (Nat → Int32)) : Int32 × (Nat → Int32) × (Nat → Int32) × (Nat → Int32) := (k_7 (x2_1 + 1) r40_6.2.1 r40_6.2.2.1 r40_6.2.2.2.1 r40_6.2.2.2.2)
def F_X2_copy_7 (g_many : Int32) (g_clocks : Nat → Int32) (g_minutes : Nat → Int32) (g_dials : Nat → Int32) : Nat → Int32 → Int32 → (Nat → Int32) → (Nat → Int32) → (Nat → Int32) → Int32 × (Nat → Int32) × (Nat → Int32) × (Nat → Int32)
  | 0, _, _, _, _, _ => default
  | n + 1, x2_1, w_n_many_2, w_n_clocks_3, w_n_minutes_4, w_n_dials_5 => (if g_many ≤ x2_1 then (w_n_many_2, w_n_clocks_3, w_n_minutes_4, w_n_dials_5) else (if 12 ≤ x2_1 then (w_n_many_2, w_n_clocks_3, w_n_minutes_4, w_n_dials_5) else (F_X2_copy_c40 x2_1 (F_X2_copy_7 g_many g_clocks g_minutes g_dials n) (F_X2_add w_n_many_2 w_n_clocks_3 w_n_minutes_4 w_n_dials_5 (g_clocks x2_1.toNatClampNeg) (g_minutes x2_1.toNatClampNeg) (g_dials x2_1.toNatClampNeg)))))
def F_X2_copy (n_clocks : Nat → Int32) (n_minutes : Nat → Int32) (n_dials : Nat → Int32) (g_many : Int32) (g_clocks : Nat → Int32) (g_minutes : Nat → Int32) (g_dials : Nat → Int32) : Int32 × (Nat → Int32) × (Nat → Int32) × (Nat → Int32) := (F_X2_copy_7 g_many g_clocks g_minutes g_dials 13 0 0 n_clocks n_minutes n_dials)
theorem in_X2_copy_X2 : ∀ x ∈ u_ws RX2 TX2 4, x ∈ wsX2_copy := by decide +kernel
set_option maxHeartbeats 2000000 in
set_option maxRecDepth 100000 in
theorem c_X2_copy (l : Launch) (D : va_G) (cI cZ cC cH : ClassId) (n_o n_a_clocks n_a_minutes n_a_dials g_o g_a_clocks g_a_minutes g_a_dials : Nat) (n_many : Int32) (n_clocks : Nat → Int32) (n_minutes : Nat → Int32) (n_dials : Nat → Int32) (g_many : Int32) (g_clocks : Nat → Int32) (g_minutes : Nat → Int32) (g_dials : Nat → Int32)   : MC l D (TY cI cZ cC cH) yX2_copy wsX2_copy 1 23 [.ref n_o, .ref g_o] (WNN cI cZ cC cH n_o n_a_clocks n_a_minutes n_a_dials g_o g_a_clocks g_a_minutes g_a_dials n_many n_clocks n_minutes n_dials g_many g_clocks g_minutes g_dials) (none) (WNN cI cZ cC cH n_o n_a_clocks n_a_minutes n_a_dials g_o g_a_clocks g_a_minutes g_a_dials (F_X2_copy n_clocks n_minutes n_dials g_many g_clocks g_minutes g_dials).1 (F_X2_copy n_clocks n_minutes n_dials g_many g_clocks g_minutes g_dials).2.1 (F_X2_copy n_clocks n_minutes n_dials g_many g_clocks g_minutes g_dials).2.2.1 (F_X2_copy n_clocks n_minutes n_dials g_many g_clocks g_minutes g_dials).2.2.2 g_many g_clocks g_minutes g_dials) := by
  obtain ⟨R, hF⟩ : ∃ R, R = F_X2_copy n_clocks n_minutes n_dials g_many g_clocks g_minutes g_dials := ⟨_, rfl⟩
  rw [← hF]
  refine MC.of (cc := cX2_copy) (maxL := 3) (ret := none) RX2 rfl (by decide +kernel) rfl (Nat.le_of_ble_eq_true rfl) ?_
  intro p e s m args below meth c A Q KX RT hh ls hl
  have z0 : (0 : Int32).toInt = 0 := rfl
  have z1 : (1 : Int32).toInt = 1 := rfl
  have zm : (-1 : Int32).toInt = -1 := rfl
  have hx := KX.1
  have hb := KX.2.1
  have hl : lv_has ls 3 [(0, .ref n_o), (1, .ref g_o)] := hl
  unfold F_X2_copy at hF
  refine lv_aload_n hx hb dX2_copy_0 rfl (lv_at hl 0 rfl) ?_
  refine lv_iconst (v := 0) hx hb dX2_copy_1 (by decide) ?_
  refine g_put KX hh in_X2_copy_X2 tyX2 tyX2_ok nmX2 0 rfl rfl 0 (by decide) rfl rfl rfl (Nat.le_of_ble_eq_true rfl) (List.mem_of_getElem? (i := 1) rfl) (w' := (WNN cI cZ cC cH n_o n_a_clocks n_a_minutes n_a_dials g_o g_a_clocks g_a_minutes g_a_dials 0 n_clocks n_minutes n_dials g_many g_clocks g_minutes g_dials)) rfl rfl dX2_copy_2 (fun H locs hh => ?_)
  refine lv_iconst (v := 0) hx hb dX2_copy_5 (by decide) ?_
  refine lv_istore_n (lv' := [(2, .int 0), (0, .ref n_o), (1, .ref g_o)]) hx hb dX2_copy_6 rfl hl (Nat.le_of_ble_eq_true rfl) rfl (fun ls hl => ?_)
  have L_7 : ∀ (n_7 : Nat) (x2_1 : Int32) (w_n_many_2 : Int32) (w_n_clocks_3 : Nat → Int32) (w_n_minutes_4 : Nat → Int32) (w_n_dials_5 : Nat → Int32) (i0_7 : 0 ≤ x2_1.toInt) (i1_7 : x2_1.toInt ≤ 12) (hn_7 : 0 ≤ w_n_many_2.toInt) (_ : (12 - x2_1.toInt).toNat < n_7) (_ : R = (F_X2_copy_7 g_many g_clocks g_minutes g_dials) n_7 x2_1 w_n_many_2 w_n_clocks_3 w_n_minutes_4 w_n_dials_5) (ls : Array Slot) (H : Heap) (locs : List Loc) (_ : HS D A s.heap (WNN cI cZ cC cH n_o n_a_clocks n_a_minutes n_a_dials g_o g_a_clocks g_a_minutes g_a_dials w_n_many_2 w_n_clocks_3 w_n_minutes_4 w_n_dials_5 g_many g_clocks g_minutes g_dials) H locs) (_ : lv_has ls 3 [(2, .int x2_1), (0, .ref n_o), (1, .ref g_o)]), W p l e { frames := 1, cells := 0, slots := 0, locals := 23 } s m args below meth c H locs 0 0 Q (F0 m 7 ls []) := by
    intro n_7
    induction n_7 with
    | zero => intro x2_1 w_n_many_2 w_n_clocks_3 w_n_minutes_4 w_n_dials_5 i0_7 i1_7 hn_7 hm; exact absurd hm (Nat.not_lt_zero _)
    | succ n_7 ih_7 =>
      intro x2_1 w_n_many_2 w_n_clocks_3 w_n_minutes_4 w_n_dials_5 i0_7 i1_7 hn_7 hm_7 hF ls H locs hh hl
      rw [F_X2_copy_7.eq_2] at hF
      refine lv_iload_n hx hb dX2_copy_7 rfl (lv_at hl 0 rfl) ?_
      refine lv_aload_n hx hb dX2_copy_8 rfl (lv_at hl 2 rfl) ?_
      refine g_get KX hh in_X2_copy_X2 4 rfl rfl 0 (by decide) rfl (List.mem_of_getElem? (i := 1) rfl) dX2_copy_9 ?_
      refine lv_icmp_ge (tgt := 50) hx hb dX2_copy_12 (by decide) (fun c_12 => ?_) (fun c_12 => ?_)
      · replace hF := hF.trans (if_pos c_12)
        have i_12 : g_many.toInt ≤ x2_1.toInt := ti_le.mp c_12
        exact RT _ _ _ _ _ _ hh (by rw [hF]) (Or.inr (Or.inr (Or.inl ⟨rfl, rfl, dX2_copy_50, rfl⟩)))
      · replace hF := hF.trans (if_neg c_12)
        have i_12 : x2_1.toInt < g_many.toInt := ti_nle c_12
        refine lv_iload_n hx hb dX2_copy_15 rfl (lv_at hl 0 rfl) ?_
        refine lv_bipush (v := 12) hx hb dX2_copy_16 (by decide) ?_
        refine lv_icmp_ge (tgt := 50) hx hb dX2_copy_18 (by decide) (fun c_18 => ?_) (fun c_18 => ?_)
        · replace hF := hF.trans (if_pos c_18)
          have i_18 : 12 ≤ x2_1.toInt := ti_le.mp c_18
          exact RT _ _ _ _ _ _ hh (by rw [hF]) (Or.inr (Or.inr (Or.inl ⟨rfl, rfl, dX2_copy_50, rfl⟩)))
        · replace hF := hF.trans (if_neg c_18)
          have i_18 : x2_1.toInt < 12 := ti_nle c_18
          refine lv_aload_n hx hb dX2_copy_21 rfl (lv_at hl 1 rfl) ?_
          refine lv_aload_n hx hb dX2_copy_22 rfl (lv_at hl 2 rfl) ?_
          refine g_get KX hh in_X2_copy_X2 4 rfl rfl 1 (by decide) rfl (List.mem_of_getElem? (i := 2) rfl) dX2_copy_23 ?_
          refine lv_iload_n hx hb dX2_copy_26 rfl (lv_at hl 0 rfl) ?_
          refine g_iald KX hh 5 0 rfl rfl (vp_in_iff.mpr (by omega)) dX2_copy_27 ?_
          refine lv_aload_n hx hb dX2_copy_28 rfl (lv_at hl 2 rfl) ?_
          refine g_get KX hh in_X2_copy_X2 4 rfl rfl 2 (by decide) rfl (List.mem_of_getElem? (i := 3) rfl) dX2_copy_29 ?_
          refine lv_iload_n hx hb dX2_copy_32 rfl (lv_at hl 0 rfl) ?_
          refine g_iald KX hh 6 0 rfl rfl (vp_in_iff.mpr (by omega)) dX2_copy_33 ?_
          refine lv_aload_n hx hb dX2_copy_34 rfl (lv_at hl 2 rfl) ?_
          refine g_get KX hh in_X2_copy_X2 4 rfl rfl 3 (by decide) rfl (List.mem_of_getElem? (i := 4) rfl) dX2_copy_35 ?_
          refine lv_iload_n hx hb dX2_copy_38 rfl (lv_at hl 0 rfl) ?_
          refine g_iald KX hh 7 0 rfl rfl (vp_in_iff.mpr (by omega)) dX2_copy_39 ?_
          refine g_callV (As := [.int (g_clocks x2_1.toNatClampNeg), .int (g_minutes x2_1.toNatClampNeg), .int (g_dials x2_1.toNatClampNeg)]) (rest := []) KX rfl ⟨Nat.le_of_ble_eq_true rfl, Nat.le_of_ble_eq_true rfl⟩ hh hl (c_X2_add l D cI cZ cC cH n_o n_a_clocks n_a_minutes n_a_dials w_n_many_2 w_n_clocks_3 w_n_minutes_4 w_n_dials_5 (g_clocks x2_1.toNatClampNeg) (g_minutes x2_1.toNatClampNeg) (g_dials x2_1.toNatClampNeg) (by first | with_reducible assumption | omega | decide | exact tn_lt (n := 8) (by omega) (by omega))) (JN.up (ws1 := (WNN cI cZ cC cH n_o n_a_clocks n_a_minutes n_a_dials g_o g_a_clocks g_a_minutes g_a_dials ((F_X2_add w_n_many_2 w_n_clocks_3 w_n_minutes_4 w_n_dials_5 (g_clocks x2_1.toNatClampNeg) (g_minutes x2_1.toNatClampNeg) (g_dials x2_1.toNatClampNeg)).2.1) ((F_X2_add w_n_many_2 w_n_clocks_3 w_n_minutes_4 w_n_dials_5 (g_clocks x2_1.toNatClampNeg) (g_minutes x2_1.toNatClampNeg) (g_dials x2_1.toNatClampNeg)).2.2.1) ((F_X2_add w_n_many_2 w_n_clocks_3 w_n_minutes_4 w_n_dials_5 (g_clocks x2_1.toNatClampNeg) (g_minutes x2_1.toNatClampNeg) (g_dials x2_1.toNatClampNeg)).2.2.2.1) ((F_X2_add w_n_many_2 w_n_clocks_3 w_n_minutes_4 w_n_dials_5 (g_clocks x2_1.toNatClampNeg) (g_minutes x2_1.toNatClampNeg) (g_dials x2_1.toNatClampNeg)).2.2.2.2) g_many g_clocks g_minutes g_dials)) [0, 1, 2, 3] rfl rfl rfl rfl rfl) 3 gX2_copy_X2_add rfl (by decide +kernel) ⟨Nat.le_of_ble_eq_true rfl, Nat.le_of_ble_eq_true rfl⟩ 0 2 rfl rfl rfl rfl rfl (Nat.le_of_ble_eq_true rfl) dX2_copy_40 (fun H locs hh => ?_)
          refine W.eq (g2 := F0 m 43 ls [.int ((F_X2_add w_n_many_2 w_n_clocks_3 w_n_minutes_4 w_n_dials_5 (g_clocks x2_1.toNatClampNeg) (g_minutes x2_1.toNatClampNeg) (g_dials x2_1.toNatClampNeg)).1)]) rfl ?_
          generalize q_40 : F_X2_add w_n_many_2 w_n_clocks_3 w_n_minutes_4 w_n_dials_5 (g_clocks x2_1.toNatClampNeg) (g_minutes x2_1.toNatClampNeg) (g_dials x2_1.toNatClampNeg) = r40_6 at hh hF ⊢
          have hz_40 : r40_6.1 = 0 ∨ r40_6.1 = 1 := by rw [← q_40]; exact z_X2_add _ _ _ _ _ _ _
          have hm_40 : 0 ≤ r40_6.2.1.toInt := by rw [← q_40]; exact X2_add_pos hn_7
          unfold F_X2_copy_c40 at hF
          refine lv_pop hx hb dX2_copy_43 rfl ?_
          refine lv_iinc (v := x2_1 + 1) (lv' := [(2, .int (x2_1 + 1)), (0, .ref n_o), (1, .ref g_o)]) hx hb dX2_copy_44 hl (k := 0) rfl rfl (Nat.le_of_ble_eq_true rfl) rfl (fun ls hl => ?_)
          refine lv_goto (tgt := 7) hx hb dX2_copy_47 (by decide) ?_
          have e_inc : (x2_1 + 1).toInt = x2_1.toInt + 1 := ti_inc (by omega)
          exact ih_7 (x2_1 + 1) r40_6.2.1 r40_6.2.2.1 r40_6.2.2.2.1 r40_6.2.2.2.2 (by first | with_reducible assumption | omega | decide) (by first | with_reducible assumption | omega | decide) (by first | with_reducible assumption | omega | decide) (by omega) hF _ _ _ hh (lv_sub hl [0, 1, 2] rfl)
  exact L_7 13 0 0 n_clocks n_minutes n_dials (by first | with_reducible assumption | omega | decide) (by first | with_reducible assumption | omega | decide) (by first | with_reducible assumption | omega | decide) (by first | omega | decide | (simp; done)) hF _ _ _ hh (lv_sub hl [0, 1, 2] rfl)
def F_X2_allow_125 (x7_2 : Int32) (x6_3 : Int32)  : Int32 := (if 1440 ≤ (x7_2 - x6_3) then 0 else 1)
def F_X2_allow_83 (n_minutes : Nat → Int32) (n_dials : Nat → Int32) (k_kind : Int32) (x3 : Int32) (x8_1 : Int32) (x7_2 : Int32) (x6_3 : Int32) (k_15 : Int32 → Int32 → Int32 → Int32 → Int32 → Int32) (x5_6 : Int32) (x4_7 : Int32) : Int32 := (k_15 (x8_1 + 1) (F_J9_max_7cf53 x7_2 ((F_J9_floorMod_7cf53 (((((n_dials x8_1.toNatClampNeg) * 1440) - (F_X0_way k_kind (n_minutes x8_1.toNatClampNeg) x3)) - x5_6) + 518400) 1036800) - 518400)) (F_J9_min_7cf53 x6_3 ((F_J9_floorMod_7cf53 (((((n_dials x8_1.toNatClampNeg) * 1440) - (F_X0_way k_kind (n_minutes x8_1.toNatClampNeg) x3)) - x5_6) + 518400) 1036800) - 518400)) x5_6 x4_7)
def F_X2_allow_15 (n_many : Int32) (n_clocks : Nat → Int32) (n_minutes : Nat → Int32) (n_dials : Nat → Int32) (k_kind : Int32) (x1 : Int32) (x3 : Int32) : Nat → Int32 → Int32 → Int32 → Int32 → Int32 → Int32
  | 0, _, _, _, _, _ => default
  | n + 1, x8_1, x7_2, x6_3, x5_4, x4_5 => (if n_many ≤ x8_1 then F_X2_allow_125 x7_2 x6_3 else (if 12 ≤ x8_1 then F_X2_allow_125 x7_2 x6_3 else (if (n_clocks x8_1.toNatClampNeg) = x1 then (if x4_5 = 0 then (F_X2_allow_83 n_minutes n_dials k_kind x3 x8_1 x7_2 x6_3 (F_X2_allow_15 n_many n_clocks n_minutes n_dials k_kind x1 x3 n) (((n_dials x8_1.toNatClampNeg) * 1440) - (F_X0_way k_kind (n_minutes x8_1.toNatClampNeg) x3)) 1) else (F_X2_allow_83 n_minutes n_dials k_kind x3 x8_1 x7_2 x6_3 (F_X2_allow_15 n_many n_clocks n_minutes n_dials k_kind x1 x3 n) x5_4 x4_5)) else ((F_X2_allow_15 n_many n_clocks n_minutes n_dials k_kind x1 x3 n) (x8_1 + 1) x7_2 x6_3 x5_4 x4_5))))
def F_X2_allow (n_many : Int32) (n_clocks : Nat → Int32) (n_minutes : Nat → Int32) (n_dials : Nat → Int32) (k_kind : Int32) (x1 : Int32) (x3 : Int32) : Int32 := (F_X2_allow_15 n_many n_clocks n_minutes n_dials k_kind x1 x3 13 0 0 0 0 0)
theorem gm_X2_allow_J9_min_7cf53_42 : GoodIn wsX2_allow (va_wsS RX2 42 yJ9_min_7cf53 wsJ9_min_7cf53) := goodIn_of _ (by decide +kernel)
theorem gm_X2_allow_J9_max_7cf53_45 : GoodIn wsX2_allow (va_wsS RX2 45 yJ9_max_7cf53 wsJ9_max_7cf53) := goodIn_of _ (by decide +kernel)
theorem in_X2_allow_X2 : ∀ x ∈ u_ws RX2 TX2 4, x ∈ wsX2_allow := by decide +kernel
set_option maxHeartbeats 2000000 in
set_option maxRecDepth 100000 in
theorem c_X2_allow (l : Launch) (D : va_G) (cI cZ cC cH : ClassId) (n_o n_a_clocks n_a_minutes n_a_dials k_o : Nat) (n_many : Int32) (n_clocks : Nat → Int32) (n_minutes : Nat → Int32) (n_dials : Nat → Int32) (k_kind : Int32) (k_set : Int32) (k_dial : Int32) (k_low : Int32) (k_high : Int32) (k_read : Int32) (x1 : Int32) (x3 : Int32)  : MC l D (TY cI cZ cC cH) yX2_allow wsX2_allow 1 23 [.ref n_o, .int x1, .ref k_o, .int x3] (WNC cI cZ cC cH n_o n_a_clocks n_a_minutes n_a_dials k_o n_many n_clocks n_minutes n_dials k_kind k_set k_dial k_low k_high k_read) (some (.int (F_X2_allow n_many n_clocks n_minutes n_dials k_kind x1 x3))) (WNC cI cZ cC cH n_o n_a_clocks n_a_minutes n_a_dials k_o n_many n_clocks n_minutes n_dials k_kind k_set k_dial k_low k_high k_read) := by
  obtain ⟨R, hF⟩ : ∃ R, R = F_X2_allow n_many n_clocks n_minutes n_dials k_kind x1 x3 := ⟨_, rfl⟩
  rw [← hF]
  refine MC.of (cc := cX2_allow) (maxL := 11) (ret := (some .boolean)) RX2 rfl (by decide +kernel) rfl (Nat.le_of_ble_eq_true rfl) ?_
  intro p e s m args below meth c A Q KX RT hh ls hl
  have z0 : (0 : Int32).toInt = 0 := rfl
  have z1 : (1 : Int32).toInt = 1 := rfl
  have zm : (-1 : Int32).toInt = -1 := rfl
  have hx := KX.1
  have hb := KX.2.1
  have hl : lv_has ls 11 [(0, .ref n_o), (1, .int x1), (2, .ref k_o), (3, .int x3)] := hl
  unfold F_X2_allow at hF
  refine lv_iconst (v := 0) hx hb dX2_allow_0 (by decide) ?_
  refine lv_istore (lv' := [(4, .int 0), (0, .ref n_o), (1, .int x1), (2, .ref k_o), (3, .int x3)]) hx hb dX2_allow_1 hl (Nat.le_of_ble_eq_true rfl) rfl (fun ls hl => ?_)
  refine lv_iconst (v := 0) hx hb dX2_allow_3 (by decide) ?_
  refine lv_istore (lv' := [(5, .int 0), (4, .int 0), (0, .ref n_o), (1, .int x1), (2, .ref k_o), (3, .int x3)]) hx hb dX2_allow_4 hl (Nat.le_of_ble_eq_true rfl) rfl (fun ls hl => ?_)
  refine lv_iconst (v := 0) hx hb dX2_allow_6 (by decide) ?_
  refine lv_istore (lv' := [(6, .int 0), (5, .int 0), (4, .int 0), (0, .ref n_o), (1, .int x1), (2, .ref k_o), (3, .int x3)]) hx hb dX2_allow_7 hl (Nat.le_of_ble_eq_true rfl) rfl (fun ls hl => ?_)
  refine lv_iconst (v := 0) hx hb dX2_allow_9 (by decide) ?_
  refine lv_istore (lv' := [(7, .int 0), (6, .int 0), (5, .int 0), (4, .int 0), (0, .ref n_o), (1, .int x1), (2, .ref k_o), (3, .int x3)]) hx hb dX2_allow_10 hl (Nat.le_of_ble_eq_true rfl) rfl (fun ls hl => ?_)
  refine lv_iconst (v := 0) hx hb dX2_allow_12 (by decide) ?_
  refine lv_istore (lv' := [(8, .int 0), (7, .int 0), (6, .int 0), (5, .int 0), (4, .int 0), (0, .ref n_o), (1, .int x1), (2, .ref k_o), (3, .int x3)]) hx hb dX2_allow_13 hl (Nat.le_of_ble_eq_true rfl) rfl (fun ls hl => ?_)
  have L_15 : ∀ (n_15 : Nat) (x8_1 : Int32) (x7_2 : Int32) (x6_3 : Int32) (x5_4 : Int32) (x4_5 : Int32) (i0_15 : 0 ≤ x8_1.toInt) (i1_15 : x8_1.toInt ≤ 12) (_ : (12 - x8_1.toInt).toNat < n_15) (_ : R = (F_X2_allow_15 n_many n_clocks n_minutes n_dials k_kind x1 x3) n_15 x8_1 x7_2 x6_3 x5_4 x4_5) (ls : Array Slot) (H : Heap) (locs : List Loc) (_ : HS D A s.heap (WNC cI cZ cC cH n_o n_a_clocks n_a_minutes n_a_dials k_o n_many n_clocks n_minutes n_dials k_kind k_set k_dial k_low k_high k_read) H locs) (_ : lv_has ls 11 [(8, .int x8_1), (7, .int x7_2), (6, .int x6_3), (5, .int x5_4), (4, .int x4_5), (0, .ref n_o), (1, .int x1), (2, .ref k_o), (3, .int x3)]), W p l e { frames := 1, cells := 0, slots := 0, locals := 23 } s m args below meth c H locs 0 0 Q (F0 m 15 ls []) := by
    intro n_15
    induction n_15 with
    | zero => intro x8_1 x7_2 x6_3 x5_4 x4_5 i0_15 i1_15 hm; exact absurd hm (Nat.not_lt_zero _)
    | succ n_15 ih_15 =>
      intro x8_1 x7_2 x6_3 x5_4 x4_5 i0_15 i1_15 hm_15 hF ls H locs hh hl
      rw [F_X2_allow_15.eq_2] at hF
      refine lv_iload hx hb dX2_allow_15 (lv_at hl 0 rfl) ?_
      refine lv_aload_n hx hb dX2_allow_17 rfl (lv_at hl 5 rfl) ?_
      refine g_get KX hh in_X2_allow_X2 0 rfl rfl 0 (by decide) rfl (List.mem_of_getElem? (i := 1) rfl) dX2_allow_18 ?_
      have K_125 : ∀ (_ : R = (F_X2_allow_125 x7_2 x6_3)) (ls : Array Slot) (H : Heap) (locs : List Loc) (_ : HS D A s.heap (WNC cI cZ cC cH n_o n_a_clocks n_a_minutes n_a_dials k_o n_many n_clocks n_minutes n_dials k_kind k_set k_dial k_low k_high k_read) H locs) (_ : lv_has ls 11 [(8, .int x8_1), (7, .int x7_2), (6, .int x6_3), (5, .int x5_4), (4, .int x4_5), (0, .ref n_o), (1, .int x1), (2, .ref k_o), (3, .int x3)]), W p l e { frames := 1, cells := 0, slots := 0, locals := 23 } s m args below meth c H locs 0 0 Q (F0 m 125 ls []) := by
        intro  hF ls H locs hh hl
        unfold F_X2_allow_125 at hF
        refine lv_iload hx hb dX2_allow_125 (lv_at hl 1 rfl) ?_
        refine lv_iload hx hb dX2_allow_127 (lv_at hl 2 rfl) ?_
        refine lv_isub hx hb dX2_allow_129 ?_
        refine lv_sipush (v := 1440) hx hb dX2_allow_130 (by decide) ?_
        refine lv_icmp_ge (tgt := 140) hx hb dX2_allow_133 (by decide) (fun c_133 => ?_) (fun c_133 => ?_)
        · replace hF := hF.trans (if_pos c_133)
          have i_133 : 1440 ≤ (x7_2 - x6_3).toInt := ti_le.mp c_133
          refine lv_iconst (v := 0) hx hb dX2_allow_140 (by decide) ?_
          exact RT _ _ _ _ _ _ hh (rfl) (Or.inl ⟨_, rfl, by rw [hF], dX2_allow_141, Or.inr (Or.inl ⟨rfl, Or.inl rfl⟩)⟩)
        · replace hF := hF.trans (if_neg c_133)
          have i_133 : (x7_2 - x6_3).toInt < 1440 := ti_nle c_133
          refine lv_iconst (v := 1) hx hb dX2_allow_136 (by decide) ?_
          refine lv_goto (tgt := 141) hx hb dX2_allow_137 (by decide) ?_
          exact RT _ _ _ _ _ _ hh (rfl) (Or.inl ⟨_, rfl, by rw [hF], dX2_allow_141, Or.inr (Or.inl ⟨rfl, Or.inr rfl⟩)⟩)
      refine lv_icmp_ge (tgt := 125) hx hb dX2_allow_21 (by decide) (fun c_21 => ?_) (fun c_21 => ?_)
      · replace hF := hF.trans (if_pos c_21)
        have i_21 : n_many.toInt ≤ x8_1.toInt := ti_le.mp c_21
        exact K_125   hF _ _ _ hh (lv_sub hl [0, 1, 2, 3, 4, 5, 6, 7, 8] rfl)
      · replace hF := hF.trans (if_neg c_21)
        have i_21 : x8_1.toInt < n_many.toInt := ti_nle c_21
        refine lv_iload hx hb dX2_allow_24 (lv_at hl 0 rfl) ?_
        refine lv_bipush (v := 12) hx hb dX2_allow_26 (by decide) ?_
        refine lv_icmp_ge (tgt := 125) hx hb dX2_allow_28 (by decide) (fun c_28 => ?_) (fun c_28 => ?_)
        · replace hF := hF.trans (if_pos c_28)
          have i_28 : 12 ≤ x8_1.toInt := ti_le.mp c_28
          exact K_125   hF _ _ _ hh (lv_sub hl [0, 1, 2, 3, 4, 5, 6, 7, 8] rfl)
        · replace hF := hF.trans (if_neg c_28)
          have i_28 : x8_1.toInt < 12 := ti_nle c_28
          refine lv_aload_n hx hb dX2_allow_31 rfl (lv_at hl 5 rfl) ?_
          refine g_get KX hh in_X2_allow_X2 0 rfl rfl 1 (by decide) rfl (List.mem_of_getElem? (i := 2) rfl) dX2_allow_32 ?_
          refine lv_iload hx hb dX2_allow_35 (lv_at hl 0 rfl) ?_
          refine g_iald KX hh 1 0 rfl rfl (vp_in_iff.mpr (by omega)) dX2_allow_37 ?_
          refine lv_iload_n hx hb dX2_allow_38 rfl (lv_at hl 6 rfl) ?_
          refine lv_icmp_eq (tgt := 45) hx hb dX2_allow_39 (by decide) (fun c_39 => ?_) (fun c_39 => ?_)
          · replace hF := hF.trans (if_pos c_39)
            refine lv_aload_n hx hb dX2_allow_45 rfl (lv_at hl 5 rfl) ?_
            refine g_get KX hh in_X2_allow_X2 0 rfl rfl 3 (by decide) rfl (List.mem_of_getElem? (i := 3) rfl) dX2_allow_46 ?_
            refine lv_iload hx hb dX2_allow_49 (lv_at hl 0 rfl) ?_
            refine g_iald KX hh 3 0 rfl rfl (vp_in_iff.mpr (by omega)) dX2_allow_51 ?_
            refine lv_sipush (v := 1440) hx hb dX2_allow_52 (by decide) ?_
            refine lv_imul hx hb dX2_allow_55 ?_
            refine lv_aload_n hx hb dX2_allow_56 rfl (lv_at hl 7 rfl) ?_
            refine lv_aload_n hx hb dX2_allow_57 rfl (lv_at hl 5 rfl) ?_
            refine g_get KX hh in_X2_allow_X2 0 rfl rfl 2 (by decide) rfl (List.mem_of_getElem? (i := 4) rfl) dX2_allow_58 ?_
            refine lv_iload hx hb dX2_allow_61 (lv_at hl 0 rfl) ?_
            refine g_iald KX hh 2 0 rfl rfl (vp_in_iff.mpr (by omega)) dX2_allow_63 ?_
            refine lv_iload_n hx hb dX2_allow_64 rfl (lv_at hl 8 rfl) ?_
            refine g_callV (As := [.int (n_minutes x8_1.toNatClampNeg), .int x3]) (rest := [.int ((n_dials x8_1.toNatClampNeg) * 1440)]) KX rfl ⟨Nat.le_of_ble_eq_true rfl, Nat.le_of_ble_eq_true rfl⟩ hh hl (c_X0_way l D cI cZ cC cH k_o k_kind k_set k_dial k_low k_high k_read (n_minutes x8_1.toNatClampNeg) x3 ) (JN.ro [4] rfl rfl) 2 gX2_allow_X0_way rfl (by decide +kernel) ⟨Nat.le_of_ble_eq_true rfl, Nat.le_of_ble_eq_true rfl⟩ 4 0 rfl rfl rfl rfl rfl (Nat.le_of_ble_eq_true rfl) dX2_allow_65 (fun H locs hh => ?_)
            refine W.eq (g2 := F0 m 68 ls [.int (F_X0_way k_kind (n_minutes x8_1.toNatClampNeg) x3), .int ((n_dials x8_1.toNatClampNeg) * 1440)]) rfl ?_
            refine lv_isub hx hb dX2_allow_68 ?_
            refine lv_istore (lv' := [(9, .int (((n_dials x8_1.toNatClampNeg) * 1440) - (F_X0_way k_kind (n_minutes x8_1.toNatClampNeg) x3))), (8, .int x8_1), (7, .int x7_2), (6, .int x6_3), (5, .int x5_4), (4, .int x4_5), (0, .ref n_o), (1, .int x1), (2, .ref k_o), (3, .int x3)]) hx hb dX2_allow_69 hl (Nat.le_of_ble_eq_true rfl) rfl (fun ls hl => ?_)
            refine lv_iload hx hb dX2_allow_71 (lv_at hl 5 rfl) ?_
            have K_83 : ∀ (x5_6 : Int32) (x4_7 : Int32) (_ : R = (F_X2_allow_83 n_minutes n_dials k_kind x3 x8_1 x7_2 x6_3 ((F_X2_allow_15 n_many n_clocks n_minutes n_dials k_kind x1 x3) n_15)) x5_6 x4_7) (ls : Array Slot) (H : Heap) (locs : List Loc) (_ : HS D A s.heap (WNC cI cZ cC cH n_o n_a_clocks n_a_minutes n_a_dials k_o n_many n_clocks n_minutes n_dials k_kind k_set k_dial k_low k_high k_read) H locs) (_ : lv_has ls 11 [(9, .int (((n_dials x8_1.toNatClampNeg) * 1440) - (F_X0_way k_kind (n_minutes x8_1.toNatClampNeg) x3))), (8, .int x8_1), (7, .int x7_2), (6, .int x6_3), (5, .int x5_6), (4, .int x4_7), (0, .ref n_o), (1, .int x1), (2, .ref k_o), (3, .int x3)]), W p l e { frames := 1, cells := 0, slots := 0, locals := 23 } s m args below meth c H locs 0 0 Q (F0 m 83 ls []) := by
              intro x5_6 x4_7 hF ls H locs hh hl
              unfold F_X2_allow_83 at hF
              refine lv_iload hx hb dX2_allow_83 (lv_at hl 0 rfl) ?_
              refine lv_iload hx hb dX2_allow_85 (lv_at hl 4 rfl) ?_
              refine lv_isub hx hb dX2_allow_87 ?_
              refine lv_ldc (v := 518400) hx hb KX.2.2.2.1 (KX.2.2.2.2.1 _ (List.mem_of_getElem? (i := 5) rfl)) dX2_allow_88 ?_
              refine lv_iadd hx hb dX2_allow_90 ?_
              refine lv_ldc (v := 1036800) hx hb KX.2.2.2.1 (KX.2.2.2.2.1 _ (List.mem_of_getElem? (i := 6) rfl)) dX2_allow_91 ?_
              refine g_callS (As := [.int (((((n_dials x8_1.toNatClampNeg) * 1440) - (F_X0_way k_kind (n_minutes x8_1.toNatClampNeg) x3)) - x5_6) + 518400), .int 1036800]) (rest := []) KX rfl ⟨Nat.le_of_ble_eq_true rfl, Nat.le_of_ble_eq_true rfl⟩ hh hl (c_J9_floorMod_7cf53 l D cI cZ cC cH  (((((n_dials x8_1.toNatClampNeg) * 1440) - (F_X0_way k_kind (n_minutes x8_1.toNatClampNeg) x3)) - x5_6) + 518400) 1036800 (by first | with_reducible assumption | omega | decide | exact tn_lt (n := 8) (by omega) (by omega))) JN.no 2 gX2_allow_J9_floorMod_7cf53 rfl (by decide +kernel) ⟨Nat.le_of_ble_eq_true rfl, Nat.le_of_ble_eq_true rfl⟩ rfl rfl (Nat.le_of_ble_eq_true rfl) dX2_allow_93 (fun H locs hh => ?_)
              refine W.eq (g2 := F0 m 96 ls [.int (F_J9_floorMod_7cf53 (((((n_dials x8_1.toNatClampNeg) * 1440) - (F_X0_way k_kind (n_minutes x8_1.toNatClampNeg) x3)) - x5_6) + 518400) 1036800)]) rfl ?_
              refine lv_ldc (v := 518400) hx hb KX.2.2.2.1 (KX.2.2.2.2.1 _ (List.mem_of_getElem? (i := 5) rfl)) dX2_allow_96 ?_
              refine lv_isub hx hb dX2_allow_98 ?_
              refine lv_istore (lv' := [(10, .int ((F_J9_floorMod_7cf53 (((((n_dials x8_1.toNatClampNeg) * 1440) - (F_X0_way k_kind (n_minutes x8_1.toNatClampNeg) x3)) - x5_6) + 518400) 1036800) - 518400)), (9, .int (((n_dials x8_1.toNatClampNeg) * 1440) - (F_X0_way k_kind (n_minutes x8_1.toNatClampNeg) x3))), (8, .int x8_1), (7, .int x7_2), (6, .int x6_3), (5, .int x5_6), (4, .int x4_7), (0, .ref n_o), (1, .int x1), (2, .ref k_o), (3, .int x3)]) hx hb dX2_allow_99 hl (Nat.le_of_ble_eq_true rfl) rfl (fun ls hl => ?_)
              refine lv_iload hx hb dX2_allow_101 (lv_at hl 4 rfl) ?_
              refine lv_iload hx hb dX2_allow_103 (lv_at hl 0 rfl) ?_
              refine g_callS (As := [.int x6_3, .int ((F_J9_floorMod_7cf53 (((((n_dials x8_1.toNatClampNeg) * 1440) - (F_X0_way k_kind (n_minutes x8_1.toNatClampNeg) x3)) - x5_6) + 518400) 1036800) - 518400)]) (rest := []) KX rfl ⟨Nat.le_of_ble_eq_true rfl, Nat.le_of_ble_eq_true rfl⟩ hh hl (c_J9_min_7cf53 l D cI cZ cC cH  x6_3 ((F_J9_floorMod_7cf53 (((((n_dials x8_1.toNatClampNeg) * 1440) - (F_X0_way k_kind (n_minutes x8_1.toNatClampNeg) x3)) - x5_6) + 518400) 1036800) - 518400) ) JN.no 2 gm_X2_allow_J9_min_7cf53_42 rfl (by decide +kernel) ⟨Nat.le_of_ble_eq_true rfl, Nat.le_of_ble_eq_true rfl⟩ rfl rfl (Nat.le_of_ble_eq_true rfl) dX2_allow_105 (fun H locs hh => ?_)
              refine W.eq (g2 := F0 m 108 ls [.int (F_J9_min_7cf53 x6_3 ((F_J9_floorMod_7cf53 (((((n_dials x8_1.toNatClampNeg) * 1440) - (F_X0_way k_kind (n_minutes x8_1.toNatClampNeg) x3)) - x5_6) + 518400) 1036800) - 518400))]) rfl ?_
              refine lv_istore (lv' := [(6, .int (F_J9_min_7cf53 x6_3 ((F_J9_floorMod_7cf53 (((((n_dials x8_1.toNatClampNeg) * 1440) - (F_X0_way k_kind (n_minutes x8_1.toNatClampNeg) x3)) - x5_6) + 518400) 1036800) - 518400))), (10, .int ((F_J9_floorMod_7cf53 (((((n_dials x8_1.toNatClampNeg) * 1440) - (F_X0_way k_kind (n_minutes x8_1.toNatClampNeg) x3)) - x5_6) + 518400) 1036800) - 518400)), (9, .int (((n_dials x8_1.toNatClampNeg) * 1440) - (F_X0_way k_kind (n_minutes x8_1.toNatClampNeg) x3))), (8, .int x8_1), (7, .int x7_2), (5, .int x5_6), (4, .int x4_7), (0, .ref n_o), (1, .int x1), (2, .ref k_o), (3, .int x3)]) hx hb dX2_allow_108 hl (Nat.le_of_ble_eq_true rfl) rfl (fun ls hl => ?_)
              refine lv_iload hx hb dX2_allow_110 (lv_at hl 4 rfl) ?_
              refine lv_iload hx hb dX2_allow_112 (lv_at hl 1 rfl) ?_
              refine g_callS (As := [.int x7_2, .int ((F_J9_floorMod_7cf53 (((((n_dials x8_1.toNatClampNeg) * 1440) - (F_X0_way k_kind (n_minutes x8_1.toNatClampNeg) x3)) - x5_6) + 518400) 1036800) - 518400)]) (rest := []) KX rfl ⟨Nat.le_of_ble_eq_true rfl, Nat.le_of_ble_eq_true rfl⟩ hh hl (c_J9_max_7cf53 l D cI cZ cC cH  x7_2 ((F_J9_floorMod_7cf53 (((((n_dials x8_1.toNatClampNeg) * 1440) - (F_X0_way k_kind (n_minutes x8_1.toNatClampNeg) x3)) - x5_6) + 518400) 1036800) - 518400) ) JN.no 2 gm_X2_allow_J9_max_7cf53_45 rfl (by decide +kernel) ⟨Nat.le_of_ble_eq_true rfl, Nat.le_of_ble_eq_true rfl⟩ rfl rfl (Nat.le_of_ble_eq_true rfl) dX2_allow_114 (fun H locs hh => ?_)
              refine W.eq (g2 := F0 m 117 ls [.int (F_J9_max_7cf53 x7_2 ((F_J9_floorMod_7cf53 (((((n_dials x8_1.toNatClampNeg) * 1440) - (F_X0_way k_kind (n_minutes x8_1.toNatClampNeg) x3)) - x5_6) + 518400) 1036800) - 518400))]) rfl ?_
              refine lv_istore (lv' := [(7, .int (F_J9_max_7cf53 x7_2 ((F_J9_floorMod_7cf53 (((((n_dials x8_1.toNatClampNeg) * 1440) - (F_X0_way k_kind (n_minutes x8_1.toNatClampNeg) x3)) - x5_6) + 518400) 1036800) - 518400))), (6, .int (F_J9_min_7cf53 x6_3 ((F_J9_floorMod_7cf53 (((((n_dials x8_1.toNatClampNeg) * 1440) - (F_X0_way k_kind (n_minutes x8_1.toNatClampNeg) x3)) - x5_6) + 518400) 1036800) - 518400))), (10, .int ((F_J9_floorMod_7cf53 (((((n_dials x8_1.toNatClampNeg) * 1440) - (F_X0_way k_kind (n_minutes x8_1.toNatClampNeg) x3)) - x5_6) + 518400) 1036800) - 518400)), (9, .int (((n_dials x8_1.toNatClampNeg) * 1440) - (F_X0_way k_kind (n_minutes x8_1.toNatClampNeg) x3))), (8, .int x8_1), (5, .int x5_6), (4, .int x4_7), (0, .ref n_o), (1, .int x1), (2, .ref k_o), (3, .int x3)]) hx hb dX2_allow_117 hl (Nat.le_of_ble_eq_true rfl) rfl (fun ls hl => ?_)
              refine lv_iinc (v := x8_1 + 1) (lv' := [(8, .int (x8_1 + 1)), (7, .int (F_J9_max_7cf53 x7_2 ((F_J9_floorMod_7cf53 (((((n_dials x8_1.toNatClampNeg) * 1440) - (F_X0_way k_kind (n_minutes x8_1.toNatClampNeg) x3)) - x5_6) + 518400) 1036800) - 518400))), (6, .int (F_J9_min_7cf53 x6_3 ((F_J9_floorMod_7cf53 (((((n_dials x8_1.toNatClampNeg) * 1440) - (F_X0_way k_kind (n_minutes x8_1.toNatClampNeg) x3)) - x5_6) + 518400) 1036800) - 518400))), (10, .int ((F_J9_floorMod_7cf53 (((((n_dials x8_1.toNatClampNeg) * 1440) - (F_X0_way k_kind (n_minutes x8_1.toNatClampNeg) x3)) - x5_6) + 518400) 1036800) - 518400)), (9, .int (((n_dials x8_1.toNatClampNeg) * 1440) - (F_X0_way k_kind (n_minutes x8_1.toNatClampNeg) x3))), (5, .int x5_6), (4, .int x4_7), (0, .ref n_o), (1, .int x1), (2, .ref k_o), (3, .int x3)]) hx hb dX2_allow_119 hl (k := 4) rfl rfl (Nat.le_of_ble_eq_true rfl) rfl (fun ls hl => ?_)
              refine lv_goto (tgt := 15) hx hb dX2_allow_122 (by decide) ?_
              have e_inc : (x8_1 + 1).toInt = x8_1.toInt + 1 := ti_inc (by omega)
              exact ih_15 (x8_1 + 1) (F_J9_max_7cf53 x7_2 ((F_J9_floorMod_7cf53 (((((n_dials x8_1.toNatClampNeg) * 1440) - (F_X0_way k_kind (n_minutes x8_1.toNatClampNeg) x3)) - x5_6) + 518400) 1036800) - 518400)) (F_J9_min_7cf53 x6_3 ((F_J9_floorMod_7cf53 (((((n_dials x8_1.toNatClampNeg) * 1440) - (F_X0_way k_kind (n_minutes x8_1.toNatClampNeg) x3)) - x5_6) + 518400) 1036800) - 518400)) x5_6 x4_7 (by first | with_reducible assumption | omega | decide) (by first | with_reducible assumption | omega | decide) (by omega) hF _ _ _ hh (lv_sub hl [0, 1, 2, 5, 6, 7, 8, 9, 10] rfl)
            refine lv_if_ne (tgt := 83) hx hb dX2_allow_73 (by decide) (fun c_73 => ?_) (fun c_73 => ?_)
            · replace hF := hF.trans (if_neg c_73)
              have i_73 : ¬ x4_5.toInt = 0 := ti_ne c_73
              exact K_83 x5_4 x4_5  hF _ _ _ hh (lv_sub hl [0, 1, 2, 3, 4, 5, 6, 7, 8, 9] rfl)
            · replace hF := hF.trans (if_pos c_73)
              have i_73 : x4_5.toInt = 0 := congrArg Int32.toInt c_73
              refine lv_iload hx hb dX2_allow_76 (lv_at hl 0 rfl) ?_
              refine lv_istore (lv' := [(5, .int (((n_dials x8_1.toNatClampNeg) * 1440) - (F_X0_way k_kind (n_minutes x8_1.toNatClampNeg) x3))), (9, .int (((n_dials x8_1.toNatClampNeg) * 1440) - (F_X0_way k_kind (n_minutes x8_1.toNatClampNeg) x3))), (8, .int x8_1), (7, .int x7_2), (6, .int x6_3), (4, .int x4_5), (0, .ref n_o), (1, .int x1), (2, .ref k_o), (3, .int x3)]) hx hb dX2_allow_78 hl (Nat.le_of_ble_eq_true rfl) rfl (fun ls hl => ?_)
              refine lv_iconst (v := 1) hx hb dX2_allow_80 (by decide) ?_
              refine lv_istore (lv' := [(4, .int 1), (5, .int (((n_dials x8_1.toNatClampNeg) * 1440) - (F_X0_way k_kind (n_minutes x8_1.toNatClampNeg) x3))), (9, .int (((n_dials x8_1.toNatClampNeg) * 1440) - (F_X0_way k_kind (n_minutes x8_1.toNatClampNeg) x3))), (8, .int x8_1), (7, .int x7_2), (6, .int x6_3), (0, .ref n_o), (1, .int x1), (2, .ref k_o), (3, .int x3)]) hx hb dX2_allow_81 hl (Nat.le_of_ble_eq_true rfl) rfl (fun ls hl => ?_)
              exact K_83 (((n_dials x8_1.toNatClampNeg) * 1440) - (F_X0_way k_kind (n_minutes x8_1.toNatClampNeg) x3)) 1  hF _ _ _ hh (lv_sub hl [2, 3, 4, 5, 1, 0, 6, 7, 8, 9] rfl)
          · replace hF := hF.trans (if_neg c_39)
            refine lv_goto (tgt := 119) hx hb dX2_allow_42 (by decide) ?_
            refine lv_iinc (v := x8_1 + 1) (lv' := [(8, .int (x8_1 + 1)), (7, .int x7_2), (6, .int x6_3), (5, .int x5_4), (4, .int x4_5), (0, .ref n_o), (1, .int x1), (2, .ref k_o), (3, .int x3)]) hx hb dX2_allow_119 hl (k := 0) rfl rfl (Nat.le_of_ble_eq_true rfl) rfl (fun ls hl => ?_)
            refine lv_goto (tgt := 15) hx hb dX2_allow_122 (by decide) ?_
            have e_inc : (x8_1 + 1).toInt = x8_1.toInt + 1 := ti_inc (by omega)
            exact ih_15 (x8_1 + 1) x7_2 x6_3 x5_4 x4_5 (by first | with_reducible assumption | omega | decide) (by first | with_reducible assumption | omega | decide) (by omega) hF _ _ _ hh (lv_sub hl [0, 1, 2, 3, 4, 5, 6, 7, 8] rfl)
  exact L_15 13 0 0 0 0 0 (by first | with_reducible assumption | omega | decide) (by first | with_reducible assumption | omega | decide) (by first | omega | decide | (simp; done)) hF _ _ _ hh (lv_sub hl [0, 1, 2, 3, 4, 5, 6, 7, 8] rfl)
theorem zb_F_X2_allow_125 {x7_2 : Int32} {x6_3 : Int32}  : (F_X2_allow_125 x7_2 x6_3) = 0 ∨ (F_X2_allow_125 x7_2 x6_3) = 1 := by
  unfold F_X2_allow_125
  split
  · exact Or.inl rfl
  · exact Or.inr rfl
theorem zb_F_X2_allow_83 {n_minutes : Nat → Int32} {n_dials : Nat → Int32} {k_kind : Int32} {x3 : Int32} {x8_1 : Int32} {x7_2 : Int32} {x6_3 : Int32} {k_15 : Int32 → Int32 → Int32 → Int32 → Int32 → Int32} {x5_6 : Int32} {x4_7 : Int32} (hk : ∀ a0 a1 a2 a3 a4, (k_15 a0 a1 a2 a3 a4) = 0 ∨ (k_15 a0 a1 a2 a3 a4) = 1) : (F_X2_allow_83 n_minutes n_dials k_kind x3 x8_1 x7_2 x6_3 k_15 x5_6 x4_7) = 0 ∨ (F_X2_allow_83 n_minutes n_dials k_kind x3 x8_1 x7_2 x6_3 k_15 x5_6 x4_7) = 1 := by
  unfold F_X2_allow_83
  exact hk _ _ _ _ _
theorem zb_F_X2_allow_15 {n_many : Int32} {n_clocks : Nat → Int32} {n_minutes : Nat → Int32} {n_dials : Nat → Int32} {k_kind : Int32} {x1 : Int32} {x3 : Int32} : ∀ (n : Nat) (x8_1 : Int32) (x7_2 : Int32) (x6_3 : Int32) (x5_4 : Int32) (x4_5 : Int32), (F_X2_allow_15 n_many n_clocks n_minutes n_dials k_kind x1 x3 n x8_1 x7_2 x6_3 x5_4 x4_5) = 0 ∨ (F_X2_allow_15 n_many n_clocks n_minutes n_dials k_kind x1 x3 n x8_1 x7_2 x6_3 x5_4 x4_5) = 1 := by
  intro n
  induction n with
  | zero => intros; exact Or.inl rfl
  | succ n ih =>
    intros
    rw [F_X2_allow_15.eq_2]
    split
    · exact zb_F_X2_allow_125 
    · split
      · exact zb_F_X2_allow_125 
      · split
        · split
          · exact zb_F_X2_allow_83 ih
          · exact zb_F_X2_allow_83 ih
        · exact ih _ _ _ _ _
theorem z_X2_allow (n_many : Int32) (n_clocks : Nat → Int32) (n_minutes : Nat → Int32) (n_dials : Nat → Int32) (k_kind : Int32) (x1 : Int32) (x3 : Int32) : (F_X2_allow n_many n_clocks n_minutes n_dials k_kind x1 x3) = 0 ∨ (F_X2_allow n_many n_clocks n_minutes n_dials k_kind x1 x3) = 1 := by
  unfold F_X2_allow
  exact zb_F_X2_allow_15 _ _ _ _ _ _
def F_X5_number (t_rows : Nat → Int32) (x1 : Int32) (x2 : Int32) : Int32 := (if (F_X6_isBelow x1 8) = 0 then (-1) else (if (F_X6_isBelow x2 6) = 0 then (-1) else t_rows ((x1 * 6) + x2).toNatClampNeg))
theorem in_X5_number_X5 : ∀ x ∈ u_ws RX5 TX5 6, x ∈ wsX5_number := by decide +kernel
set_option maxHeartbeats 2000000 in
set_option maxRecDepth 100000 in
theorem c_X5_number (l : Launch) (D : va_G) (cI cZ cC cH : ClassId) (t_o t_a_bytes t_a_rows : Nat) (t_length : Int32) (t_lineCount : Int32) (t_start : Int32) (t_end : Int32) (t_bytes : Nat → Int32) (t_rows : Nat → Int32) (x1 : Int32) (x2 : Int32)  : MC l D (TY cI cZ cC cH) yX5_number wsX5_number 1 21 [.ref t_o, .int x1, .int x2] (WTx cI cZ cC cH t_o t_a_bytes t_a_rows t_length t_lineCount t_start t_end t_bytes t_rows) (some (.int (F_X5_number t_rows x1 x2))) (WTx cI cZ cC cH t_o t_a_bytes t_a_rows t_length t_lineCount t_start t_end t_bytes t_rows) := by
  obtain ⟨R, hF⟩ : ∃ R, R = F_X5_number t_rows x1 x2 := ⟨_, rfl⟩
  rw [← hF]
  refine MC.of (cc := cX5_number) (maxL := 3) (ret := (some .int)) RX5 rfl (by decide +kernel) rfl (Nat.le_of_ble_eq_true rfl) ?_
  intro p e s m args below meth c A Q KX RT hh ls hl
  have z0 : (0 : Int32).toInt = 0 := rfl
  have z1 : (1 : Int32).toInt = 1 := rfl
  have zm : (-1 : Int32).toInt = -1 := rfl
  have hx := KX.1
  have hb := KX.2.1
  have hl : lv_has ls 3 [(0, .ref t_o), (1, .int x1), (2, .int x2)] := hl
  unfold F_X5_number at hF
  refine lv_iload_n hx hb dX5_number_0 rfl (lv_at hl 1 rfl) ?_
  refine lv_bipush (v := 8) hx hb dX5_number_1 (by decide) ?_
  refine g_callN (host := "WrongClocks") (As := [.int x1, .int 8]) (rest := []) KX rfl ⟨Nat.le_of_ble_eq_true rfl, Nat.le_of_ble_eq_true rfl⟩ hh hl (c_X6_isBelow l D cI cZ cC cH  x1 8 ) JN.no 2 gX5_number_X6_isBelow_n31 rfl (by decide +kernel) (List.mem_of_getElem? (i := 3) rfl) (List.mem_of_getElem? (i := 2) rfl) (by decide +kernel) ⟨Nat.le_of_ble_eq_true rfl, Nat.le_of_ble_eq_true rfl⟩ rfl rfl (Nat.le_of_ble_eq_true rfl) dX5_number_3 (fun H locs hh => ?_)
  refine W.eq (g2 := F0 m 6 ls [.int (F_X6_isBelow x1 8)]) rfl ?_
  refine lv_if_eq (tgt := 32) hx hb dX5_number_6 (by decide) (fun c_6 => ?_) (fun c_6 => ?_)
  · replace hF := hF.trans (if_pos c_6)
    refine lv_iconst (v := (-1)) hx hb dX5_number_32 (by decide) ?_
    exact RT _ _ _ _ _ _ hh (rfl) (Or.inl ⟨_, rfl, by rw [hF], dX5_number_33, Or.inl rfl⟩)
  · replace hF := hF.trans (if_neg c_6)
    obtain ⟨k0_6, k1_6⟩ : (0 : Int) ≤ x1.toInt ∧ x1.toInt < 8 := X6_isBelow_in c_6
    refine lv_iload_n hx hb dX5_number_9 rfl (lv_at hl 2 rfl) ?_
    refine lv_bipush (v := 6) hx hb dX5_number_10 (by decide) ?_
    refine g_callN (host := "WrongClocks") (As := [.int x2, .int 6]) (rest := []) KX rfl ⟨Nat.le_of_ble_eq_true rfl, Nat.le_of_ble_eq_true rfl⟩ hh hl (c_X6_isBelow l D cI cZ cC cH  x2 6 ) JN.no 2 gX5_number_X6_isBelow_n31 rfl (by decide +kernel) (List.mem_of_getElem? (i := 3) rfl) (List.mem_of_getElem? (i := 2) rfl) (by decide +kernel) ⟨Nat.le_of_ble_eq_true rfl, Nat.le_of_ble_eq_true rfl⟩ rfl rfl (Nat.le_of_ble_eq_true rfl) dX5_number_12 (fun H locs hh => ?_)
    refine W.eq (g2 := F0 m 15 ls [.int (F_X6_isBelow x2 6)]) rfl ?_
    refine lv_if_eq (tgt := 32) hx hb dX5_number_15 (by decide) (fun c_15 => ?_) (fun c_15 => ?_)
    · replace hF := hF.trans (if_pos c_15)
      refine lv_iconst (v := (-1)) hx hb dX5_number_32 (by decide) ?_
      exact RT _ _ _ _ _ _ hh (rfl) (Or.inl ⟨_, rfl, by rw [hF], dX5_number_33, Or.inl rfl⟩)
    · replace hF := hF.trans (if_neg c_15)
      obtain ⟨k0_15, k1_15⟩ : (0 : Int) ≤ x2.toInt ∧ x2.toInt < 6 := X6_isBelow_in c_15
      refine lv_aload_n hx hb dX5_number_18 rfl (lv_at hl 0 rfl) ?_
      refine g_get KX hh in_X5_number_X5 0 rfl rfl 2 (by decide) rfl (List.mem_of_getElem? (i := 1) rfl) dX5_number_19 ?_
      refine lv_iload_n hx hb dX5_number_22 rfl (lv_at hl 1 rfl) ?_
      refine lv_bipush (v := 6) hx hb dX5_number_23 (by decide) ?_
      refine lv_imul hx hb dX5_number_25 ?_
      refine lv_iload_n hx hb dX5_number_26 rfl (lv_at hl 2 rfl) ?_
      refine lv_iadd hx hb dX5_number_27 ?_
      refine g_iald KX hh 2 0 rfl rfl (ixr (by omega) (by omega) (by omega) (by omega)) dX5_number_28 ?_
      refine lv_goto (tgt := 33) hx hb dX5_number_29 (by decide) ?_
      exact RT _ _ _ _ _ _ hh (rfl) (Or.inl ⟨_, rfl, by rw [hF], dX5_number_33, Or.inl rfl⟩)
def F_X5_takeToken_119 (t_length : Int32) (t_bytes : Nat → Int32) (w_t_start_1 : Int32) : Nat → Int32 → Int32 × Int32
  | 0, _ => default
  | n + 1, w_t_end_2 => (if t_length ≤ w_t_end_2 then (w_t_start_1, w_t_end_2) else (if (F_X5_isDigit (F_X5_signAt t_length t_bytes w_t_end_2)) = 0 then (w_t_start_1, w_t_end_2) else ((F_X5_takeToken_119 t_length t_bytes w_t_start_1 n) (w_t_end_2 + 1))))
def F_X5_takeToken_67 (t_length : Int32) (t_bytes : Nat → Int32) (w_t_start_1 : Int32) : Nat → Int32 → Int32 × Int32
  | 0, _ => default
  | n + 1, w_t_end_3 => (if t_length ≤ w_t_end_3 then (w_t_start_1, w_t_end_3) else (if (F_X5_isLetter (F_X5_signAt t_length t_bytes w_t_end_3)) = 0 then (w_t_start_1, w_t_end_3) else ((F_X5_takeToken_67 t_length t_bytes w_t_start_1 n) (w_t_end_3 + 1))))
def F_X5_takeToken_45 (t_length : Int32) (t_bytes : Nat → Int32) (w_t_start_1 : Int32)  : Int32 × Int32 := (if (F_X5_isLetter (F_X5_signAt t_length t_bytes w_t_start_1)) = 0 then (if (F_X5_isDigit (F_X5_signAt t_length t_bytes w_t_start_1)) = 0 then (if t_length ≤ w_t_start_1 then (w_t_start_1, w_t_start_1) else (w_t_start_1, w_t_start_1 + 1)) else (F_X5_takeToken_119 t_length t_bytes w_t_start_1 201 w_t_start_1)) else (F_X5_takeToken_67 t_length t_bytes w_t_start_1 201 w_t_start_1))
def F_X5_takeToken_8 (t_length : Int32) (t_bytes : Nat → Int32) : Nat → Int32 → Int32 × Int32
  | 0, _ => default
  | n + 1, w_t_start_1 => (if t_length ≤ w_t_start_1 then F_X5_takeToken_45 t_length t_bytes w_t_start_1 else (if (F_X5_signAt t_length t_bytes w_t_start_1) = 32 then ((F_X5_takeToken_8 t_length t_bytes n) (w_t_start_1 + 1)) else F_X5_takeToken_45 t_length t_bytes w_t_start_1))
def F_X5_takeToken (t_length : Int32) (t_end : Int32) (t_bytes : Nat → Int32) : Int32 × Int32 := (F_X5_takeToken_8 t_length t_bytes 201 t_end)
theorem in_X5_takeToken_X5 : ∀ x ∈ u_ws RX5 TX5 6, x ∈ wsX5_takeToken := by decide +kernel
set_option maxHeartbeats 2000000 in
set_option maxRecDepth 100000 in
theorem c_X5_takeToken (l : Launch) (D : va_G) (cI cZ cC cH : ClassId) (t_o t_a_bytes t_a_rows : Nat) (t_length : Int32) (t_lineCount : Int32) (t_start : Int32) (t_end : Int32) (t_bytes : Nat → Int32) (t_rows : Nat → Int32)  (he0 : 0 ≤ t_end.toInt) (ht1 : t_length.toInt ≤ 200) : MC l D (TY cI cZ cC cH) yX5_takeToken wsX5_takeToken 1 21 [.ref t_o] (WTx cI cZ cC cH t_o t_a_bytes t_a_rows t_length t_lineCount t_start t_end t_bytes t_rows) (none) (WTx cI cZ cC cH t_o t_a_bytes t_a_rows t_length t_lineCount (F_X5_takeToken t_length t_end t_bytes).1 (F_X5_takeToken t_length t_end t_bytes).2 t_bytes t_rows) := by
  obtain ⟨R, hF⟩ : ∃ R, R = F_X5_takeToken t_length t_end t_bytes := ⟨_, rfl⟩
  rw [← hF]
  refine MC.of (cc := cX5_takeToken) (maxL := 1) (ret := none) RX5 rfl (by decide +kernel) rfl (Nat.le_of_ble_eq_true rfl) ?_
  intro p e s m args below meth c A Q KX RT hh ls hl
  have z0 : (0 : Int32).toInt = 0 := rfl
  have z1 : (1 : Int32).toInt = 1 := rfl
  have zm : (-1 : Int32).toInt = -1 := rfl
  have hx := KX.1
  have hb := KX.2.1
  have hl : lv_has ls 1 [(0, .ref t_o)] := hl
  unfold F_X5_takeToken at hF
  refine lv_aload_n hx hb dX5_takeToken_0 rfl (lv_at hl 0 rfl) ?_
  refine lv_aload_n hx hb dX5_takeToken_1 rfl (lv_at hl 0 rfl) ?_
  refine g_get KX hh in_X5_takeToken_X5 0 rfl rfl 5 (by decide) rfl (List.mem_of_getElem? (i := 1) rfl) dX5_takeToken_2 ?_
  refine g_put KX hh in_X5_takeToken_X5 tyX5 tyX5_ok nmX5 0 rfl rfl 4 (by decide) rfl rfl rfl (Nat.le_of_ble_eq_true rfl) (List.mem_of_getElem? (i := 2) rfl) (w' := (WTx cI cZ cC cH t_o t_a_bytes t_a_rows t_length t_lineCount t_end t_end t_bytes t_rows)) rfl rfl dX5_takeToken_5 (fun H locs hh => ?_)
  have L_8 : ∀ (n_8 : Nat) (w_t_start_1 : Int32) (i0_8 : 0 ≤ w_t_start_1.toInt) (_ : (t_length.toInt - w_t_start_1.toInt).toNat < n_8) (_ : R = (F_X5_takeToken_8 t_length t_bytes) n_8 w_t_start_1) (ls : Array Slot) (H : Heap) (locs : List Loc) (_ : HS D A s.heap (WTx cI cZ cC cH t_o t_a_bytes t_a_rows t_length t_lineCount w_t_start_1 t_end t_bytes t_rows) H locs) (_ : lv_has ls 1 [(0, .ref t_o)]), W p l e { frames := 1, cells := 0, slots := 0, locals := 21 } s m args below meth c H locs 0 0 Q (F0 m 8 ls []) := by
    intro n_8
    induction n_8 with
    | zero => intro w_t_start_1 i0_8 hm; exact absurd hm (Nat.not_lt_zero _)
    | succ n_8 ih_8 =>
      intro w_t_start_1 i0_8 hm_8 hF ls H locs hh hl
      rw [F_X5_takeToken_8.eq_2] at hF
      refine lv_aload_n hx hb dX5_takeToken_8 rfl (lv_at hl 0 rfl) ?_
      refine g_get KX hh in_X5_takeToken_X5 0 rfl rfl 4 (by decide) rfl (List.mem_of_getElem? (i := 2) rfl) dX5_takeToken_9 ?_
      refine lv_aload_n hx hb dX5_takeToken_12 rfl (lv_at hl 0 rfl) ?_
      refine g_get KX hh in_X5_takeToken_X5 0 rfl rfl 1 (by decide) rfl (List.mem_of_getElem? (i := 3) rfl) dX5_takeToken_13 ?_
      have K_45 : ∀ (_ : R = (F_X5_takeToken_45 t_length t_bytes w_t_start_1)) (ls : Array Slot) (H : Heap) (locs : List Loc) (_ : HS D A s.heap (WTx cI cZ cC cH t_o t_a_bytes t_a_rows t_length t_lineCount w_t_start_1 t_end t_bytes t_rows) H locs) (_ : lv_has ls 1 [(0, .ref t_o)]), W p l e { frames := 1, cells := 0, slots := 0, locals := 21 } s m args below meth c H locs 0 0 Q (F0 m 45 ls []) := by
        intro  hF ls H locs hh hl
        unfold F_X5_takeToken_45 at hF
        refine lv_aload_n hx hb dX5_takeToken_45 rfl (lv_at hl 0 rfl) ?_
        refine lv_aload_n hx hb dX5_takeToken_46 rfl (lv_at hl 0 rfl) ?_
        refine g_get KX hh in_X5_takeToken_X5 0 rfl rfl 4 (by decide) rfl (List.mem_of_getElem? (i := 2) rfl) dX5_takeToken_47 ?_
        refine g_put KX hh in_X5_takeToken_X5 tyX5 tyX5_ok nmX5 0 rfl rfl 5 (by decide) rfl rfl rfl (Nat.le_of_ble_eq_true rfl) (List.mem_of_getElem? (i := 1) rfl) (w' := (WTx cI cZ cC cH t_o t_a_bytes t_a_rows t_length t_lineCount w_t_start_1 w_t_start_1 t_bytes t_rows)) rfl rfl dX5_takeToken_50 (fun H locs hh => ?_)
        refine lv_aload_n hx hb dX5_takeToken_53 rfl (lv_at hl 0 rfl) ?_
        refine lv_aload_n hx hb dX5_takeToken_54 rfl (lv_at hl 0 rfl) ?_
        refine g_get KX hh in_X5_takeToken_X5 0 rfl rfl 4 (by decide) rfl (List.mem_of_getElem? (i := 2) rfl) dX5_takeToken_55 ?_
        refine g_callV (As := [.int w_t_start_1]) (rest := []) KX rfl ⟨Nat.le_of_ble_eq_true rfl, Nat.le_of_ble_eq_true rfl⟩ hh hl (c_X5_signAt l D cI cZ cC cH t_o t_a_bytes t_a_rows t_length t_lineCount w_t_start_1 w_t_start_1 t_bytes t_rows w_t_start_1 ) JN.all 1 gX5_takeToken_X5_signAt rfl (by decide +kernel) ⟨Nat.le_of_ble_eq_true rfl, Nat.le_of_ble_eq_true rfl⟩ 0 5 rfl rfl rfl rfl rfl (Nat.le_of_ble_eq_true rfl) dX5_takeToken_58 (fun H locs hh => ?_)
        refine W.eq (g2 := F0 m 61 ls [.int (F_X5_signAt t_length t_bytes w_t_start_1)]) rfl ?_
        refine g_callS (As := [.int (F_X5_signAt t_length t_bytes w_t_start_1)]) (rest := []) KX rfl ⟨Nat.le_of_ble_eq_true rfl, Nat.le_of_ble_eq_true rfl⟩ hh hl (c_X5_isLetter l D cI cZ cC cH  (F_X5_signAt t_length t_bytes w_t_start_1) ) JN.no 1 gX5_takeToken_X5_isLetter rfl (by decide +kernel) ⟨Nat.le_of_ble_eq_true rfl, Nat.le_of_ble_eq_true rfl⟩ rfl rfl (Nat.le_of_ble_eq_true rfl) dX5_takeToken_61 (fun H locs hh => ?_)
        refine W.eq (g2 := F0 m 64 ls [.int (F_X5_isLetter (F_X5_signAt t_length t_bytes w_t_start_1))]) rfl ?_
        refine lv_if_eq (tgt := 105) hx hb dX5_takeToken_64 (by decide) (fun c_64 => ?_) (fun c_64 => ?_)
        · replace hF := hF.trans (if_pos c_64)
          refine lv_aload_n hx hb dX5_takeToken_105 rfl (lv_at hl 0 rfl) ?_
          refine lv_aload_n hx hb dX5_takeToken_106 rfl (lv_at hl 0 rfl) ?_
          refine g_get KX hh in_X5_takeToken_X5 0 rfl rfl 4 (by decide) rfl (List.mem_of_getElem? (i := 2) rfl) dX5_takeToken_107 ?_
          refine g_callV (As := [.int w_t_start_1]) (rest := []) KX rfl ⟨Nat.le_of_ble_eq_true rfl, Nat.le_of_ble_eq_true rfl⟩ hh hl (c_X5_signAt l D cI cZ cC cH t_o t_a_bytes t_a_rows t_length t_lineCount w_t_start_1 w_t_start_1 t_bytes t_rows w_t_start_1 ) JN.all 1 gX5_takeToken_X5_signAt rfl (by decide +kernel) ⟨Nat.le_of_ble_eq_true rfl, Nat.le_of_ble_eq_true rfl⟩ 0 5 rfl rfl rfl rfl rfl (Nat.le_of_ble_eq_true rfl) dX5_takeToken_110 (fun H locs hh => ?_)
          refine W.eq (g2 := F0 m 113 ls [.int (F_X5_signAt t_length t_bytes w_t_start_1)]) rfl ?_
          refine g_callS (As := [.int (F_X5_signAt t_length t_bytes w_t_start_1)]) (rest := []) KX rfl ⟨Nat.le_of_ble_eq_true rfl, Nat.le_of_ble_eq_true rfl⟩ hh hl (c_X5_isDigit l D cI cZ cC cH  (F_X5_signAt t_length t_bytes w_t_start_1) ) JN.no 1 gX5_takeToken_X5_isDigit rfl (by decide +kernel) ⟨Nat.le_of_ble_eq_true rfl, Nat.le_of_ble_eq_true rfl⟩ rfl rfl (Nat.le_of_ble_eq_true rfl) dX5_takeToken_113 (fun H locs hh => ?_)
          refine W.eq (g2 := F0 m 116 ls [.int (F_X5_isDigit (F_X5_signAt t_length t_bytes w_t_start_1))]) rfl ?_
          refine lv_if_eq (tgt := 157) hx hb dX5_takeToken_116 (by decide) (fun c_116 => ?_) (fun c_116 => ?_)
          · replace hF := hF.trans (if_pos c_116)
            refine lv_aload_n hx hb dX5_takeToken_157 rfl (lv_at hl 0 rfl) ?_
            refine g_get KX hh in_X5_takeToken_X5 0 rfl rfl 4 (by decide) rfl (List.mem_of_getElem? (i := 2) rfl) dX5_takeToken_158 ?_
            refine lv_aload_n hx hb dX5_takeToken_161 rfl (lv_at hl 0 rfl) ?_
            refine g_get KX hh in_X5_takeToken_X5 0 rfl rfl 1 (by decide) rfl (List.mem_of_getElem? (i := 3) rfl) dX5_takeToken_162 ?_
            refine lv_icmp_ge (tgt := 178) hx hb dX5_takeToken_165 (by decide) (fun c_165 => ?_) (fun c_165 => ?_)
            · replace hF := hF.trans (if_pos c_165)
              have i_165 : t_length.toInt ≤ w_t_start_1.toInt := ti_le.mp c_165
              exact RT _ _ _ _ _ _ hh (by rw [hF]) (Or.inr (Or.inr (Or.inl ⟨rfl, rfl, dX5_takeToken_178, rfl⟩)))
            · replace hF := hF.trans (if_neg c_165)
              have i_165 : w_t_start_1.toInt < t_length.toInt := ti_nle c_165
              refine lv_aload_n hx hb dX5_takeToken_168 rfl (lv_at hl 0 rfl) ?_
              refine lv_dup hx hb dX5_takeToken_169 rfl ?_
              refine g_get KX hh in_X5_takeToken_X5 0 rfl rfl 5 (by decide) rfl (List.mem_of_getElem? (i := 1) rfl) dX5_takeToken_170 ?_
              refine lv_iconst (v := 1) hx hb dX5_takeToken_173 (by decide) ?_
              refine lv_iadd hx hb dX5_takeToken_174 ?_
              refine g_put KX hh in_X5_takeToken_X5 tyX5 tyX5_ok nmX5 0 rfl rfl 5 (by decide) rfl rfl rfl (Nat.le_of_ble_eq_true rfl) (List.mem_of_getElem? (i := 1) rfl) (w' := (WTx cI cZ cC cH t_o t_a_bytes t_a_rows t_length t_lineCount w_t_start_1 (w_t_start_1 + 1) t_bytes t_rows)) rfl rfl dX5_takeToken_175 (fun H locs hh => ?_)
              exact RT _ _ _ _ _ _ hh (by rw [hF]) (Or.inr (Or.inr (Or.inl ⟨rfl, rfl, dX5_takeToken_178, rfl⟩)))
          · replace hF := hF.trans (if_neg c_116)
            have L_119 : ∀ (n_119 : Nat) (w_t_end_2 : Int32) (i0_119 : 0 ≤ w_t_end_2.toInt) (_ : (t_length.toInt - w_t_end_2.toInt).toNat < n_119) (_ : R = (F_X5_takeToken_119 t_length t_bytes w_t_start_1) n_119 w_t_end_2) (ls : Array Slot) (H : Heap) (locs : List Loc) (_ : HS D A s.heap (WTx cI cZ cC cH t_o t_a_bytes t_a_rows t_length t_lineCount w_t_start_1 w_t_end_2 t_bytes t_rows) H locs) (_ : lv_has ls 1 [(0, .ref t_o)]), W p l e { frames := 1, cells := 0, slots := 0, locals := 21 } s m args below meth c H locs 0 0 Q (F0 m 119 ls []) := by
              intro n_119
              induction n_119 with
              | zero => intro w_t_end_2 i0_119 hm; exact absurd hm (Nat.not_lt_zero _)
              | succ n_119 ih_119 =>
                intro w_t_end_2 i0_119 hm_119 hF ls H locs hh hl
                rw [F_X5_takeToken_119.eq_2] at hF
                refine lv_aload_n hx hb dX5_takeToken_119 rfl (lv_at hl 0 rfl) ?_
                refine g_get KX hh in_X5_takeToken_X5 0 rfl rfl 5 (by decide) rfl (List.mem_of_getElem? (i := 1) rfl) dX5_takeToken_120 ?_
                refine lv_aload_n hx hb dX5_takeToken_123 rfl (lv_at hl 0 rfl) ?_
                refine g_get KX hh in_X5_takeToken_X5 0 rfl rfl 1 (by decide) rfl (List.mem_of_getElem? (i := 3) rfl) dX5_takeToken_124 ?_
                refine lv_icmp_ge (tgt := 178) hx hb dX5_takeToken_127 (by decide) (fun c_127 => ?_) (fun c_127 => ?_)
                · replace hF := hF.trans (if_pos c_127)
                  have i_127 : t_length.toInt ≤ w_t_end_2.toInt := ti_le.mp c_127
                  exact RT _ _ _ _ _ _ hh (by rw [hF]) (Or.inr (Or.inr (Or.inl ⟨rfl, rfl, dX5_takeToken_178, rfl⟩)))
                · replace hF := hF.trans (if_neg c_127)
                  have i_127 : w_t_end_2.toInt < t_length.toInt := ti_nle c_127
                  refine lv_aload_n hx hb dX5_takeToken_130 rfl (lv_at hl 0 rfl) ?_
                  refine lv_aload_n hx hb dX5_takeToken_131 rfl (lv_at hl 0 rfl) ?_
                  refine g_get KX hh in_X5_takeToken_X5 0 rfl rfl 5 (by decide) rfl (List.mem_of_getElem? (i := 1) rfl) dX5_takeToken_132 ?_
                  refine g_callV (As := [.int w_t_end_2]) (rest := []) KX rfl ⟨Nat.le_of_ble_eq_true rfl, Nat.le_of_ble_eq_true rfl⟩ hh hl (c_X5_signAt l D cI cZ cC cH t_o t_a_bytes t_a_rows t_length t_lineCount w_t_start_1 w_t_end_2 t_bytes t_rows w_t_end_2 ) JN.all 1 gX5_takeToken_X5_signAt rfl (by decide +kernel) ⟨Nat.le_of_ble_eq_true rfl, Nat.le_of_ble_eq_true rfl⟩ 0 5 rfl rfl rfl rfl rfl (Nat.le_of_ble_eq_true rfl) dX5_takeToken_135 (fun H locs hh => ?_)
                  refine W.eq (g2 := F0 m 138 ls [.int (F_X5_signAt t_length t_bytes w_t_end_2)]) rfl ?_
                  refine g_callS (As := [.int (F_X5_signAt t_length t_bytes w_t_end_2)]) (rest := []) KX rfl ⟨Nat.le_of_ble_eq_true rfl, Nat.le_of_ble_eq_true rfl⟩ hh hl (c_X5_isDigit l D cI cZ cC cH  (F_X5_signAt t_length t_bytes w_t_end_2) ) JN.no 1 gX5_takeToken_X5_isDigit rfl (by decide +kernel) ⟨Nat.le_of_ble_eq_true rfl, Nat.le_of_ble_eq_true rfl⟩ rfl rfl (Nat.le_of_ble_eq_true rfl) dX5_takeToken_138 (fun H locs hh => ?_)
                  refine W.eq (g2 := F0 m 141 ls [.int (F_X5_isDigit (F_X5_signAt t_length t_bytes w_t_end_2))]) rfl ?_
                  refine lv_if_eq (tgt := 178) hx hb dX5_takeToken_141 (by decide) (fun c_141 => ?_) (fun c_141 => ?_)
                  · replace hF := hF.trans (if_pos c_141)
                    exact RT _ _ _ _ _ _ hh (by rw [hF]) (Or.inr (Or.inr (Or.inl ⟨rfl, rfl, dX5_takeToken_178, rfl⟩)))
                  · replace hF := hF.trans (if_neg c_141)
                    refine lv_aload_n hx hb dX5_takeToken_144 rfl (lv_at hl 0 rfl) ?_
                    refine lv_dup hx hb dX5_takeToken_145 rfl ?_
                    refine g_get KX hh in_X5_takeToken_X5 0 rfl rfl 5 (by decide) rfl (List.mem_of_getElem? (i := 1) rfl) dX5_takeToken_146 ?_
                    refine lv_iconst (v := 1) hx hb dX5_takeToken_149 (by decide) ?_
                    refine lv_iadd hx hb dX5_takeToken_150 ?_
                    refine g_put KX hh in_X5_takeToken_X5 tyX5 tyX5_ok nmX5 0 rfl rfl 5 (by decide) rfl rfl rfl (Nat.le_of_ble_eq_true rfl) (List.mem_of_getElem? (i := 1) rfl) (w' := (WTx cI cZ cC cH t_o t_a_bytes t_a_rows t_length t_lineCount w_t_start_1 (w_t_end_2 + 1) t_bytes t_rows)) rfl rfl dX5_takeToken_151 (fun H locs hh => ?_)
                    refine lv_goto (tgt := 119) hx hb dX5_takeToken_154 (by decide) ?_
                    exact ih_119 (w_t_end_2 + 1) (by first | with_reducible assumption | (rw [ti_inc] <;> omega) | omega) (by rw [ti_inc] <;> omega) hF _ _ _ hh (lv_sub hl [0] rfl)
            exact L_119 201 w_t_start_1 (by first | with_reducible assumption | (rw [ti_inc] <;> omega) | omega) (by omega) hF _ _ _ hh (lv_sub hl [0] rfl)
        · replace hF := hF.trans (if_neg c_64)
          have L_67 : ∀ (n_67 : Nat) (w_t_end_3 : Int32) (i0_67 : 0 ≤ w_t_end_3.toInt) (_ : (t_length.toInt - w_t_end_3.toInt).toNat < n_67) (_ : R = (F_X5_takeToken_67 t_length t_bytes w_t_start_1) n_67 w_t_end_3) (ls : Array Slot) (H : Heap) (locs : List Loc) (_ : HS D A s.heap (WTx cI cZ cC cH t_o t_a_bytes t_a_rows t_length t_lineCount w_t_start_1 w_t_end_3 t_bytes t_rows) H locs) (_ : lv_has ls 1 [(0, .ref t_o)]), W p l e { frames := 1, cells := 0, slots := 0, locals := 21 } s m args below meth c H locs 0 0 Q (F0 m 67 ls []) := by
            intro n_67
            induction n_67 with
            | zero => intro w_t_end_3 i0_67 hm; exact absurd hm (Nat.not_lt_zero _)
            | succ n_67 ih_67 =>
              intro w_t_end_3 i0_67 hm_67 hF ls H locs hh hl
              rw [F_X5_takeToken_67.eq_2] at hF
              refine lv_aload_n hx hb dX5_takeToken_67 rfl (lv_at hl 0 rfl) ?_
              refine g_get KX hh in_X5_takeToken_X5 0 rfl rfl 5 (by decide) rfl (List.mem_of_getElem? (i := 1) rfl) dX5_takeToken_68 ?_
              refine lv_aload_n hx hb dX5_takeToken_71 rfl (lv_at hl 0 rfl) ?_
              refine g_get KX hh in_X5_takeToken_X5 0 rfl rfl 1 (by decide) rfl (List.mem_of_getElem? (i := 3) rfl) dX5_takeToken_72 ?_
              refine lv_icmp_ge (tgt := 178) hx hb dX5_takeToken_75 (by decide) (fun c_75 => ?_) (fun c_75 => ?_)
              · replace hF := hF.trans (if_pos c_75)
                have i_75 : t_length.toInt ≤ w_t_end_3.toInt := ti_le.mp c_75
                exact RT _ _ _ _ _ _ hh (by rw [hF]) (Or.inr (Or.inr (Or.inl ⟨rfl, rfl, dX5_takeToken_178, rfl⟩)))
              · replace hF := hF.trans (if_neg c_75)
                have i_75 : w_t_end_3.toInt < t_length.toInt := ti_nle c_75
                refine lv_aload_n hx hb dX5_takeToken_78 rfl (lv_at hl 0 rfl) ?_
                refine lv_aload_n hx hb dX5_takeToken_79 rfl (lv_at hl 0 rfl) ?_
                refine g_get KX hh in_X5_takeToken_X5 0 rfl rfl 5 (by decide) rfl (List.mem_of_getElem? (i := 1) rfl) dX5_takeToken_80 ?_
                refine g_callV (As := [.int w_t_end_3]) (rest := []) KX rfl ⟨Nat.le_of_ble_eq_true rfl, Nat.le_of_ble_eq_true rfl⟩ hh hl (c_X5_signAt l D cI cZ cC cH t_o t_a_bytes t_a_rows t_length t_lineCount w_t_start_1 w_t_end_3 t_bytes t_rows w_t_end_3 ) JN.all 1 gX5_takeToken_X5_signAt rfl (by decide +kernel) ⟨Nat.le_of_ble_eq_true rfl, Nat.le_of_ble_eq_true rfl⟩ 0 5 rfl rfl rfl rfl rfl (Nat.le_of_ble_eq_true rfl) dX5_takeToken_83 (fun H locs hh => ?_)
                refine W.eq (g2 := F0 m 86 ls [.int (F_X5_signAt t_length t_bytes w_t_end_3)]) rfl ?_
                refine g_callS (As := [.int (F_X5_signAt t_length t_bytes w_t_end_3)]) (rest := []) KX rfl ⟨Nat.le_of_ble_eq_true rfl, Nat.le_of_ble_eq_true rfl⟩ hh hl (c_X5_isLetter l D cI cZ cC cH  (F_X5_signAt t_length t_bytes w_t_end_3) ) JN.no 1 gX5_takeToken_X5_isLetter rfl (by decide +kernel) ⟨Nat.le_of_ble_eq_true rfl, Nat.le_of_ble_eq_true rfl⟩ rfl rfl (Nat.le_of_ble_eq_true rfl) dX5_takeToken_86 (fun H locs hh => ?_)
                refine W.eq (g2 := F0 m 89 ls [.int (F_X5_isLetter (F_X5_signAt t_length t_bytes w_t_end_3))]) rfl ?_
                refine lv_if_eq (tgt := 178) hx hb dX5_takeToken_89 (by decide) (fun c_89 => ?_) (fun c_89 => ?_)
                · replace hF := hF.trans (if_pos c_89)
                  exact RT _ _ _ _ _ _ hh (by rw [hF]) (Or.inr (Or.inr (Or.inl ⟨rfl, rfl, dX5_takeToken_178, rfl⟩)))
                · replace hF := hF.trans (if_neg c_89)
                  refine lv_aload_n hx hb dX5_takeToken_92 rfl (lv_at hl 0 rfl) ?_
                  refine lv_dup hx hb dX5_takeToken_93 rfl ?_
                  refine g_get KX hh in_X5_takeToken_X5 0 rfl rfl 5 (by decide) rfl (List.mem_of_getElem? (i := 1) rfl) dX5_takeToken_94 ?_
                  refine lv_iconst (v := 1) hx hb dX5_takeToken_97 (by decide) ?_
                  refine lv_iadd hx hb dX5_takeToken_98 ?_
                  refine g_put KX hh in_X5_takeToken_X5 tyX5 tyX5_ok nmX5 0 rfl rfl 5 (by decide) rfl rfl rfl (Nat.le_of_ble_eq_true rfl) (List.mem_of_getElem? (i := 1) rfl) (w' := (WTx cI cZ cC cH t_o t_a_bytes t_a_rows t_length t_lineCount w_t_start_1 (w_t_end_3 + 1) t_bytes t_rows)) rfl rfl dX5_takeToken_99 (fun H locs hh => ?_)
                  refine lv_goto (tgt := 67) hx hb dX5_takeToken_102 (by decide) ?_
                  exact ih_67 (w_t_end_3 + 1) (by first | with_reducible assumption | (rw [ti_inc] <;> omega) | omega) (by rw [ti_inc] <;> omega) hF _ _ _ hh (lv_sub hl [0] rfl)
          exact L_67 201 w_t_start_1 (by first | with_reducible assumption | (rw [ti_inc] <;> omega) | omega) (by omega) hF _ _ _ hh (lv_sub hl [0] rfl)
      refine lv_icmp_ge (tgt := 45) hx hb dX5_takeToken_16 (by decide) (fun c_16 => ?_) (fun c_16 => ?_)
      · replace hF := hF.trans (if_pos c_16)
        have i_16 : t_length.toInt ≤ w_t_start_1.toInt := ti_le.mp c_16
        exact K_45   hF _ _ _ hh (lv_sub hl [0] rfl)
      · replace hF := hF.trans (if_neg c_16)
        have i_16 : w_t_start_1.toInt < t_length.toInt := ti_nle c_16
        refine lv_aload_n hx hb dX5_takeToken_19 rfl (lv_at hl 0 rfl) ?_
        refine lv_aload_n hx hb dX5_takeToken_20 rfl (lv_at hl 0 rfl) ?_
        refine g_get KX hh in_X5_takeToken_X5 0 rfl rfl 4 (by decide) rfl (List.mem_of_getElem? (i := 2) rfl) dX5_takeToken_21 ?_
        refine g_callV (As := [.int w_t_start_1]) (rest := []) KX rfl ⟨Nat.le_of_ble_eq_true rfl, Nat.le_of_ble_eq_true rfl⟩ hh hl (c_X5_signAt l D cI cZ cC cH t_o t_a_bytes t_a_rows t_length t_lineCount w_t_start_1 t_end t_bytes t_rows w_t_start_1 ) JN.all 1 gX5_takeToken_X5_signAt rfl (by decide +kernel) ⟨Nat.le_of_ble_eq_true rfl, Nat.le_of_ble_eq_true rfl⟩ 0 5 rfl rfl rfl rfl rfl (Nat.le_of_ble_eq_true rfl) dX5_takeToken_24 (fun H locs hh => ?_)
        refine W.eq (g2 := F0 m 27 ls [.int (F_X5_signAt t_length t_bytes w_t_start_1)]) rfl ?_
        refine lv_bipush (v := 32) hx hb dX5_takeToken_27 (by decide) ?_
        refine lv_icmp_ne (tgt := 45) hx hb dX5_takeToken_29 (by decide) (fun c_29 => ?_) (fun c_29 => ?_)
        · replace hF := hF.trans (if_neg c_29)
          exact K_45   hF _ _ _ hh (lv_sub hl [0] rfl)
        · replace hF := hF.trans (if_pos c_29)
          refine lv_aload_n hx hb dX5_takeToken_32 rfl (lv_at hl 0 rfl) ?_
          refine lv_dup hx hb dX5_takeToken_33 rfl ?_
          refine g_get KX hh in_X5_takeToken_X5 0 rfl rfl 4 (by decide) rfl (List.mem_of_getElem? (i := 2) rfl) dX5_takeToken_34 ?_
          refine lv_iconst (v := 1) hx hb dX5_takeToken_37 (by decide) ?_
          refine lv_iadd hx hb dX5_takeToken_38 ?_
          refine g_put KX hh in_X5_takeToken_X5 tyX5 tyX5_ok nmX5 0 rfl rfl 4 (by decide) rfl rfl rfl (Nat.le_of_ble_eq_true rfl) (List.mem_of_getElem? (i := 2) rfl) (w' := (WTx cI cZ cC cH t_o t_a_bytes t_a_rows t_length t_lineCount (w_t_start_1 + 1) t_end t_bytes t_rows)) rfl rfl dX5_takeToken_39 (fun H locs hh => ?_)
          refine lv_goto (tgt := 8) hx hb dX5_takeToken_42 (by decide) ?_
          exact ih_8 (w_t_start_1 + 1) (by first | with_reducible assumption | (rw [ti_inc] <;> omega) | omega) (by rw [ti_inc] <;> omega) hF _ _ _ hh (lv_sub hl [0] rfl)
  exact L_8 201 t_end (by first | with_reducible assumption | (rw [ti_inc] <;> omega) | omega) (by omega) hF _ _ _ hh (lv_sub hl [0] rfl)
def F_X5_knownBehind_39 (t_rows : Nat → Int32) (x1 : Int32) (x2 : Int32)  : Int32 := x2 ||| (1 <<< ((F_X5_number t_rows x1 1) &&& 31))
def F_X5_knownBehind (t_rows : Nat → Int32) (x1 : Int32) (x2 : Int32) : Int32 := (if (F_X5_number t_rows x1 0) = 3 then x2 &&& ((1 <<< ((F_X5_number t_rows x1 1) &&& 31)) ^^^ (-1)) else (if (F_X5_number t_rows x1 0) = 0 then F_X5_knownBehind_39 t_rows x1 x2 else (if (F_X5_number t_rows x1 0) = 1 then F_X5_knownBehind_39 t_rows x1 x2 else (if (F_X5_number t_rows x1 0) = 2 then F_X5_knownBehind_39 t_rows x1 x2 else x2))))
set_option maxHeartbeats 2000000 in
set_option maxRecDepth 100000 in
theorem c_X5_knownBehind (l : Launch) (D : va_G) (cI cZ cC cH : ClassId) (t_o t_a_bytes t_a_rows : Nat) (t_length : Int32) (t_lineCount : Int32) (t_start : Int32) (t_end : Int32) (t_bytes : Nat → Int32) (t_rows : Nat → Int32) (x1 : Int32) (x2 : Int32)  : MC l D (TY cI cZ cC cH) yX5_knownBehind wsX5_knownBehind 2 43 [.ref t_o, .int x1, .int x2] (WTx cI cZ cC cH t_o t_a_bytes t_a_rows t_length t_lineCount t_start t_end t_bytes t_rows) (some (.int (F_X5_knownBehind t_rows x1 x2))) (WTx cI cZ cC cH t_o t_a_bytes t_a_rows t_length t_lineCount t_start t_end t_bytes t_rows) := by
  obtain ⟨R, hF⟩ : ∃ R, R = F_X5_knownBehind t_rows x1 x2 := ⟨_, rfl⟩
  rw [← hF]
  refine MC.of (cc := cX5_knownBehind) (maxL := 4) (ret := (some .int)) RX5 rfl (by decide +kernel) rfl (Nat.le_of_ble_eq_true rfl) ?_
  intro p e s m args below meth c A Q KX RT hh ls hl
  have z0 : (0 : Int32).toInt = 0 := rfl
  have z1 : (1 : Int32).toInt = 1 := rfl
  have zm : (-1 : Int32).toInt = -1 := rfl
  have hx := KX.1
  have hb := KX.2.1
  have hl : lv_has ls 4 [(0, .ref t_o), (1, .int x1), (2, .int x2)] := hl
  unfold F_X5_knownBehind at hF
  refine lv_aload_n hx hb dX5_knownBehind_0 rfl (lv_at hl 0 rfl) ?_
  refine lv_iload_n hx hb dX5_knownBehind_1 rfl (lv_at hl 1 rfl) ?_
  refine lv_iconst (v := 0) hx hb dX5_knownBehind_2 (by decide) ?_
  refine g_callV (As := [.int x1, .int 0]) (rest := []) KX rfl ⟨Nat.le_of_ble_eq_true rfl, Nat.le_of_ble_eq_true rfl⟩ hh hl (c_X5_number l D cI cZ cC cH t_o t_a_bytes t_a_rows t_length t_lineCount t_start t_end t_bytes t_rows x1 0 ) JN.all 2 gX5_knownBehind_X5_number rfl (by decide +kernel) ⟨Nat.le_of_ble_eq_true rfl, Nat.le_of_ble_eq_true rfl⟩ 0 5 rfl rfl rfl rfl rfl (Nat.le_of_ble_eq_true rfl) dX5_knownBehind_3 (fun H locs hh => ?_)
  refine W.eq (g2 := F0 m 6 ls [.int (F_X5_number t_rows x1 0)]) rfl ?_
  refine lv_istore_n (lv' := [(3, .int (F_X5_number t_rows x1 0)), (0, .ref t_o), (1, .int x1), (2, .int x2)]) hx hb dX5_knownBehind_6 rfl hl (Nat.le_of_ble_eq_true rfl) rfl (fun ls hl => ?_)
  refine lv_iload_n hx hb dX5_knownBehind_7 rfl (lv_at hl 0 rfl) ?_
  refine lv_iconst (v := 3) hx hb dX5_knownBehind_8 (by decide) ?_
  refine lv_icmp_ne (tgt := 25) hx hb dX5_knownBehind_9 (by decide) (fun c_9 => ?_) (fun c_9 => ?_)
  · replace hF := hF.trans (if_neg c_9)
    refine lv_iload_n hx hb dX5_knownBehind_25 rfl (lv_at hl 0 rfl) ?_
    have K_39 : ∀ (_ : R = (F_X5_knownBehind_39 t_rows x1 x2)) (ls : Array Slot) (H : Heap) (locs : List Loc) (_ : HS D A s.heap (WTx cI cZ cC cH t_o t_a_bytes t_a_rows t_length t_lineCount t_start t_end t_bytes t_rows) H locs) (_ : lv_has ls 4 [(3, .int (F_X5_number t_rows x1 0)), (0, .ref t_o), (1, .int x1), (2, .int x2)]), W p l e { frames := 2, cells := 0, slots := 0, locals := 43 } s m args below meth c H locs 0 0 Q (F0 m 39 ls []) := by
      intro  hF ls H locs hh hl
      unfold F_X5_knownBehind_39 at hF
      refine lv_iload_n hx hb dX5_knownBehind_39 rfl (lv_at hl 3 rfl) ?_
      refine lv_iconst (v := 1) hx hb dX5_knownBehind_40 (by decide) ?_
      refine lv_aload_n hx hb dX5_knownBehind_41 rfl (lv_at hl 1 rfl) ?_
      refine lv_iload_n hx hb dX5_knownBehind_42 rfl (lv_at hl 2 rfl) ?_
      refine lv_iconst (v := 1) hx hb dX5_knownBehind_43 (by decide) ?_
      refine g_callV (As := [.int x1, .int 1]) (rest := [.int 1, .int x2]) KX rfl ⟨Nat.le_of_ble_eq_true rfl, Nat.le_of_ble_eq_true rfl⟩ hh hl (c_X5_number l D cI cZ cC cH t_o t_a_bytes t_a_rows t_length t_lineCount t_start t_end t_bytes t_rows x1 1 ) JN.all 2 gX5_knownBehind_X5_number rfl (by decide +kernel) ⟨Nat.le_of_ble_eq_true rfl, Nat.le_of_ble_eq_true rfl⟩ 0 5 rfl rfl rfl rfl rfl (Nat.le_of_ble_eq_true rfl) dX5_knownBehind_44 (fun H locs hh => ?_)
      refine W.eq (g2 := F0 m 47 ls [.int (F_X5_number t_rows x1 1), .int 1, .int x2]) rfl ?_
      refine lv_ishl hx hb dX5_knownBehind_47 ?_
      refine lv_ior hx hb dX5_knownBehind_48 ?_
      exact RT _ _ _ _ _ _ hh (rfl) (Or.inl ⟨_, rfl, by rw [hF], dX5_knownBehind_49, Or.inl rfl⟩)
    refine lv_if_eq (tgt := 39) hx hb dX5_knownBehind_26 (by decide) (fun c_26 => ?_) (fun c_26 => ?_)
    · replace hF := hF.trans (if_pos c_26)
      exact K_39   hF _ _ _ hh (lv_sub hl [0, 1, 2, 3] rfl)
    · replace hF := hF.trans (if_neg c_26)
      refine lv_iload_n hx hb dX5_knownBehind_29 rfl (lv_at hl 0 rfl) ?_
      refine lv_iconst (v := 1) hx hb dX5_knownBehind_30 (by decide) ?_
      refine lv_icmp_eq (tgt := 39) hx hb dX5_knownBehind_31 (by decide) (fun c_31 => ?_) (fun c_31 => ?_)
      · replace hF := hF.trans (if_pos c_31)
        exact K_39   hF _ _ _ hh (lv_sub hl [0, 1, 2, 3] rfl)
      · replace hF := hF.trans (if_neg c_31)
        refine lv_iload_n hx hb dX5_knownBehind_34 rfl (lv_at hl 0 rfl) ?_
        refine lv_iconst (v := 2) hx hb dX5_knownBehind_35 (by decide) ?_
        refine lv_icmp_ne (tgt := 50) hx hb dX5_knownBehind_36 (by decide) (fun c_36 => ?_) (fun c_36 => ?_)
        · replace hF := hF.trans (if_neg c_36)
          refine lv_iload_n hx hb dX5_knownBehind_50 rfl (lv_at hl 3 rfl) ?_
          exact RT _ _ _ _ _ _ hh (rfl) (Or.inl ⟨_, rfl, by rw [hF], dX5_knownBehind_51, Or.inl rfl⟩)
        · replace hF := hF.trans (if_pos c_36)
          exact K_39   hF _ _ _ hh (lv_sub hl [0, 1, 2, 3] rfl)
  · replace hF := hF.trans (if_pos c_9)
    refine lv_iload_n hx hb dX5_knownBehind_12 rfl (lv_at hl 3 rfl) ?_
    refine lv_iconst (v := 1) hx hb dX5_knownBehind_13 (by decide) ?_
    refine lv_aload_n hx hb dX5_knownBehind_14 rfl (lv_at hl 1 rfl) ?_
    refine lv_iload_n hx hb dX5_knownBehind_15 rfl (lv_at hl 2 rfl) ?_
    refine lv_iconst (v := 1) hx hb dX5_knownBehind_16 (by decide) ?_
    refine g_callV (As := [.int x1, .int 1]) (rest := [.int 1, .int x2]) KX rfl ⟨Nat.le_of_ble_eq_true rfl, Nat.le_of_ble_eq_true rfl⟩ hh hl (c_X5_number l D cI cZ cC cH t_o t_a_bytes t_a_rows t_length t_lineCount t_start t_end t_bytes t_rows x1 1 ) JN.all 2 gX5_knownBehind_X5_number rfl (by decide +kernel) ⟨Nat.le_of_ble_eq_true rfl, Nat.le_of_ble_eq_true rfl⟩ 0 5 rfl rfl rfl rfl rfl (Nat.le_of_ble_eq_true rfl) dX5_knownBehind_17 (fun H locs hh => ?_)
    refine W.eq (g2 := F0 m 20 ls [.int (F_X5_number t_rows x1 1), .int 1, .int x2]) rfl ?_
    refine lv_ishl hx hb dX5_knownBehind_20 ?_
    refine lv_iconst (v := (-1)) hx hb dX5_knownBehind_21 (by decide) ?_
    refine lv_ixor hx hb dX5_knownBehind_22 ?_
    refine lv_iand hx hb dX5_knownBehind_23 ?_
    exact RT _ _ _ _ _ _ hh (rfl) (Or.inl ⟨_, rfl, by rw [hF], dX5_knownBehind_24, Or.inl rfl⟩)
def F_X5_numberTaken_36 (t_length : Int32) (t_end : Int32) (t_bytes : Nat → Int32) : Nat → Int32 → Int32 → Int32
  | 0, _, _ => default
  | n + 1, x2_1, x1_2 => (if t_end ≤ x2_1 then x1_2 else ((F_X5_numberTaken_36 t_length t_end t_bytes n) (x2_1 + 1) (((x1_2 * 10) + (F_X5_signAt t_length t_bytes x2_1)) - 48)))
def F_X5_numberTaken (t_length : Int32) (t_start : Int32) (t_end : Int32) (t_bytes : Nat → Int32) : Int32 := (if 4 < (t_end - t_start) then (-1) else (if (F_X5_isDigit (F_X5_signAt t_length t_bytes t_start)) = 0 then (-1) else (F_X5_numberTaken_36 t_length t_end t_bytes ((t_end.toInt - t_start.toInt).toNat + 1) t_start 0)))
theorem in_X5_numberTaken_X5 : ∀ x ∈ u_ws RX5 TX5 6, x ∈ wsX5_numberTaken := by decide +kernel
set_option maxHeartbeats 2000000 in
set_option maxRecDepth 100000 in
theorem c_X5_numberTaken (l : Launch) (D : va_G) (cI cZ cC cH : ClassId) (t_o t_a_bytes t_a_rows : Nat) (t_length : Int32) (t_lineCount : Int32) (t_start : Int32) (t_end : Int32) (t_bytes : Nat → Int32) (t_rows : Nat → Int32)   : MC l D (TY cI cZ cC cH) yX5_numberTaken wsX5_numberTaken 1 21 [.ref t_o] (WTx cI cZ cC cH t_o t_a_bytes t_a_rows t_length t_lineCount t_start t_end t_bytes t_rows) (some (.int (F_X5_numberTaken t_length t_start t_end t_bytes))) (WTx cI cZ cC cH t_o t_a_bytes t_a_rows t_length t_lineCount t_start t_end t_bytes t_rows) := by
  obtain ⟨R, hF⟩ : ∃ R, R = F_X5_numberTaken t_length t_start t_end t_bytes := ⟨_, rfl⟩
  rw [← hF]
  refine MC.of (cc := cX5_numberTaken) (maxL := 3) (ret := (some .int)) RX5 rfl (by decide +kernel) rfl (Nat.le_of_ble_eq_true rfl) ?_
  intro p e s m args below meth c A Q KX RT hh ls hl
  have z0 : (0 : Int32).toInt = 0 := rfl
  have z1 : (1 : Int32).toInt = 1 := rfl
  have zm : (-1 : Int32).toInt = -1 := rfl
  have hx := KX.1
  have hb := KX.2.1
  have hl : lv_has ls 3 [(0, .ref t_o)] := hl
  unfold F_X5_numberTaken at hF
  refine lv_aload_n hx hb dX5_numberTaken_0 rfl (lv_at hl 0 rfl) ?_
  refine g_get KX hh in_X5_numberTaken_X5 0 rfl rfl 5 (by decide) rfl (List.mem_of_getElem? (i := 1) rfl) dX5_numberTaken_1 ?_
  refine lv_aload_n hx hb dX5_numberTaken_4 rfl (lv_at hl 0 rfl) ?_
  refine g_get KX hh in_X5_numberTaken_X5 0 rfl rfl 4 (by decide) rfl (List.mem_of_getElem? (i := 2) rfl) dX5_numberTaken_5 ?_
  refine lv_isub hx hb dX5_numberTaken_8 ?_
  refine lv_iconst (v := 4) hx hb dX5_numberTaken_9 (by decide) ?_
  refine lv_icmp_gt (tgt := 27) hx hb dX5_numberTaken_10 (by decide) (fun c_10 => ?_) (fun c_10 => ?_)
  · replace hF := hF.trans (if_pos c_10)
    have i_10 : 4 < (t_end - t_start).toInt := ti_lt.mp c_10
    refine lv_iconst (v := (-1)) hx hb dX5_numberTaken_27 (by decide) ?_
    exact RT _ _ _ _ _ _ hh (rfl) (Or.inl ⟨_, rfl, by rw [hF], dX5_numberTaken_28, Or.inl rfl⟩)
  · replace hF := hF.trans (if_neg c_10)
    have i_10 : (t_end - t_start).toInt ≤ 4 := ti_nlt c_10
    refine lv_aload_n hx hb dX5_numberTaken_13 rfl (lv_at hl 0 rfl) ?_
    refine lv_aload_n hx hb dX5_numberTaken_14 rfl (lv_at hl 0 rfl) ?_
    refine g_get KX hh in_X5_numberTaken_X5 0 rfl rfl 4 (by decide) rfl (List.mem_of_getElem? (i := 2) rfl) dX5_numberTaken_15 ?_
    refine g_callV (As := [.int t_start]) (rest := []) KX rfl ⟨Nat.le_of_ble_eq_true rfl, Nat.le_of_ble_eq_true rfl⟩ hh hl (c_X5_signAt l D cI cZ cC cH t_o t_a_bytes t_a_rows t_length t_lineCount t_start t_end t_bytes t_rows t_start ) JN.all 1 gX5_numberTaken_X5_signAt rfl (by decide +kernel) ⟨Nat.le_of_ble_eq_true rfl, Nat.le_of_ble_eq_true rfl⟩ 0 5 rfl rfl rfl rfl rfl (Nat.le_of_ble_eq_true rfl) dX5_numberTaken_18 (fun H locs hh => ?_)
    refine W.eq (g2 := F0 m 21 ls [.int (F_X5_signAt t_length t_bytes t_start)]) rfl ?_
    refine g_callS (As := [.int (F_X5_signAt t_length t_bytes t_start)]) (rest := []) KX rfl ⟨Nat.le_of_ble_eq_true rfl, Nat.le_of_ble_eq_true rfl⟩ hh hl (c_X5_isDigit l D cI cZ cC cH  (F_X5_signAt t_length t_bytes t_start) ) JN.no 1 gX5_numberTaken_X5_isDigit rfl (by decide +kernel) ⟨Nat.le_of_ble_eq_true rfl, Nat.le_of_ble_eq_true rfl⟩ rfl rfl (Nat.le_of_ble_eq_true rfl) dX5_numberTaken_21 (fun H locs hh => ?_)
    refine W.eq (g2 := F0 m 24 ls [.int (F_X5_isDigit (F_X5_signAt t_length t_bytes t_start))]) rfl ?_
    refine lv_if_ne (tgt := 29) hx hb dX5_numberTaken_24 (by decide) (fun c_24 => ?_) (fun c_24 => ?_)
    · replace hF := hF.trans (if_neg c_24)
      refine lv_iconst (v := 0) hx hb dX5_numberTaken_29 (by decide) ?_
      refine lv_istore_n (lv' := [(1, .int 0), (0, .ref t_o)]) hx hb dX5_numberTaken_30 rfl hl (Nat.le_of_ble_eq_true rfl) rfl (fun ls hl => ?_)
      refine lv_aload_n hx hb dX5_numberTaken_31 rfl (lv_at hl 1 rfl) ?_
      refine g_get KX hh in_X5_numberTaken_X5 0 rfl rfl 4 (by decide) rfl (List.mem_of_getElem? (i := 2) rfl) dX5_numberTaken_32 ?_
      refine lv_istore_n (lv' := [(2, .int t_start), (1, .int 0), (0, .ref t_o)]) hx hb dX5_numberTaken_35 rfl hl (Nat.le_of_ble_eq_true rfl) rfl (fun ls hl => ?_)
      have L_36 : ∀ (n_36 : Nat) (x2_1 : Int32) (x1_2 : Int32) (_ : (t_end.toInt - x2_1.toInt).toNat < n_36) (_ : R = (F_X5_numberTaken_36 t_length t_end t_bytes) n_36 x2_1 x1_2) (ls : Array Slot) (H : Heap) (locs : List Loc) (_ : HS D A s.heap (WTx cI cZ cC cH t_o t_a_bytes t_a_rows t_length t_lineCount t_start t_end t_bytes t_rows) H locs) (_ : lv_has ls 3 [(2, .int x2_1), (1, .int x1_2), (0, .ref t_o)]), W p l e { frames := 1, cells := 0, slots := 0, locals := 21 } s m args below meth c H locs 0 0 Q (F0 m 36 ls []) := by
        intro n_36
        induction n_36 with
        | zero => intro x2_1 x1_2 hm; exact absurd hm (Nat.not_lt_zero _)
        | succ n_36 ih_36 =>
          intro x2_1 x1_2 hm_36 hF ls H locs hh hl
          rw [F_X5_numberTaken_36.eq_2] at hF
          refine lv_iload_n hx hb dX5_numberTaken_36 rfl (lv_at hl 0 rfl) ?_
          refine lv_aload_n hx hb dX5_numberTaken_37 rfl (lv_at hl 2 rfl) ?_
          refine g_get KX hh in_X5_numberTaken_X5 0 rfl rfl 5 (by decide) rfl (List.mem_of_getElem? (i := 1) rfl) dX5_numberTaken_38 ?_
          refine lv_icmp_ge (tgt := 64) hx hb dX5_numberTaken_41 (by decide) (fun c_41 => ?_) (fun c_41 => ?_)
          · replace hF := hF.trans (if_pos c_41)
            have i_41 : t_end.toInt ≤ x2_1.toInt := ti_le.mp c_41
            refine lv_iload_n hx hb dX5_numberTaken_64 rfl (lv_at hl 1 rfl) ?_
            exact RT _ _ _ _ _ _ hh (rfl) (Or.inl ⟨_, rfl, by rw [hF], dX5_numberTaken_65, Or.inl rfl⟩)
          · replace hF := hF.trans (if_neg c_41)
            have i_41 : x2_1.toInt < t_end.toInt := ti_nle c_41
            refine lv_iload_n hx hb dX5_numberTaken_44 rfl (lv_at hl 1 rfl) ?_
            refine lv_bipush (v := 10) hx hb dX5_numberTaken_45 (by decide) ?_
            refine lv_imul hx hb dX5_numberTaken_47 ?_
            refine lv_aload_n hx hb dX5_numberTaken_48 rfl (lv_at hl 2 rfl) ?_
            refine lv_iload_n hx hb dX5_numberTaken_49 rfl (lv_at hl 0 rfl) ?_
            refine g_callV (As := [.int x2_1]) (rest := [.int (x1_2 * 10)]) KX rfl ⟨Nat.le_of_ble_eq_true rfl, Nat.le_of_ble_eq_true rfl⟩ hh hl (c_X5_signAt l D cI cZ cC cH t_o t_a_bytes t_a_rows t_length t_lineCount t_start t_end t_bytes t_rows x2_1 ) JN.all 1 gX5_numberTaken_X5_signAt rfl (by decide +kernel) ⟨Nat.le_of_ble_eq_true rfl, Nat.le_of_ble_eq_true rfl⟩ 0 5 rfl rfl rfl rfl rfl (Nat.le_of_ble_eq_true rfl) dX5_numberTaken_50 (fun H locs hh => ?_)
            refine W.eq (g2 := F0 m 53 ls [.int (F_X5_signAt t_length t_bytes x2_1), .int (x1_2 * 10)]) rfl ?_
            refine lv_iadd hx hb dX5_numberTaken_53 ?_
            refine lv_bipush (v := 48) hx hb dX5_numberTaken_54 (by decide) ?_
            refine lv_isub hx hb dX5_numberTaken_56 ?_
            refine lv_istore_n (lv' := [(1, .int (((x1_2 * 10) + (F_X5_signAt t_length t_bytes x2_1)) - 48)), (2, .int x2_1), (0, .ref t_o)]) hx hb dX5_numberTaken_57 rfl hl (Nat.le_of_ble_eq_true rfl) rfl (fun ls hl => ?_)
            refine lv_iinc (v := x2_1 + 1) (lv' := [(2, .int (x2_1 + 1)), (1, .int (((x1_2 * 10) + (F_X5_signAt t_length t_bytes x2_1)) - 48)), (0, .ref t_o)]) hx hb dX5_numberTaken_58 hl (k := 1) rfl rfl (Nat.le_of_ble_eq_true rfl) rfl (fun ls hl => ?_)
            refine lv_goto (tgt := 36) hx hb dX5_numberTaken_61 (by decide) ?_
            exact ih_36 (x2_1 + 1) (((x1_2 * 10) + (F_X5_signAt t_length t_bytes x2_1)) - 48)  (by have hlt := Int32.toInt_lt t_end; rw [ti_inc] <;> omega) hF _ _ _ hh (lv_sub hl [0, 1, 2] rfl)
      exact L_36 ((t_end.toInt - t_start.toInt).toNat + 1) t_start 0  (by omega) hF _ _ _ hh (lv_sub hl [0, 1, 2] rfl)
    · replace hF := hF.trans (if_pos c_24)
      refine lv_iconst (v := (-1)) hx hb dX5_numberTaken_27 (by decide) ?_
      exact RT _ _ _ _ _ _ hh (rfl) (Or.inl ⟨_, rfl, by rw [hF], dX5_numberTaken_28, Or.inl rfl⟩)
def F_X5_mostOf (x0 : Int32) : Int32 := (if x0 = 65 then 719 else if x0 = 75 then 7 else if x0 = 77 then 719 else if x0 = 83 then 4319 else 240)
set_option maxHeartbeats 2000000 in
set_option maxRecDepth 100000 in
theorem c_X5_mostOf (l : Launch) (D : va_G) (cI cZ cC cH : ClassId)  (x0 : Int32)  : MC l D (TY cI cZ cC cH) yX5_mostOf wsX5_mostOf 0 0 [.int x0] [] (some (.int (F_X5_mostOf x0))) [] := by
  obtain ⟨R, hF⟩ : ∃ R, R = F_X5_mostOf x0 := ⟨_, rfl⟩
  rw [← hF]
  refine MC.of (cc := cX5_mostOf) (maxL := 1) (ret := (some .int)) RX5 rfl (by decide +kernel) rfl (Nat.le_of_ble_eq_true rfl) ?_
  intro p e s m args below meth c A Q KX RT hh ls hl
  have z0 : (0 : Int32).toInt = 0 := rfl
  have z1 : (1 : Int32).toInt = 1 := rfl
  have zm : (-1 : Int32).toInt = -1 := rfl
  have hx := KX.1
  have hb := KX.2.1
  have hl : lv_has ls 1 [(0, .int x0)] := hl
  unfold F_X5_mostOf at hF
  refine lv_iload_n hx hb dX5_mostOf_0 rfl (lv_at hl 0 rfl) ?_
  by_cases c_1_0 : x0 = 65
  · replace hF := hF.trans (if_pos c_1_0)
    have i_1_0 : x0.toInt = 65 := congrArg Int32.toInt c_1_0
    refine W.eq (g2 := F0 m 1 ls (.int 65 :: [])) (by rw [c_1_0]) ?_
    refine lv_lookup (tgt := 51) (off := 50) hx hb dX5_mostOf_1 rfl rfl (by decide) ?_
    refine lv_sipush (v := 719) hx hb dX5_mostOf_51 (by decide) ?_
    exact RT _ _ _ _ _ _ hh (rfl) (Or.inl ⟨_, rfl, by rw [hF], dX5_mostOf_54, Or.inl rfl⟩)
  replace hF := hF.trans (if_neg c_1_0)
  by_cases c_1_1 : x0 = 75
  · replace hF := hF.trans (if_pos c_1_1)
    have i_1_1 : x0.toInt = 75 := congrArg Int32.toInt c_1_1
    refine W.eq (g2 := F0 m 1 ls (.int 75 :: [])) (by rw [c_1_1]) ?_
    refine lv_lookup (tgt := 44) (off := 43) hx hb dX5_mostOf_1 rfl rfl (by decide) ?_
    refine lv_bipush (v := 7) hx hb dX5_mostOf_44 (by decide) ?_
    exact RT _ _ _ _ _ _ hh (rfl) (Or.inl ⟨_, rfl, by rw [hF], dX5_mostOf_46, Or.inl rfl⟩)
  replace hF := hF.trans (if_neg c_1_1)
  by_cases c_1_2 : x0 = 77
  · replace hF := hF.trans (if_pos c_1_2)
    have i_1_2 : x0.toInt = 77 := congrArg Int32.toInt c_1_2
    refine W.eq (g2 := F0 m 1 ls (.int 77 :: [])) (by rw [c_1_2]) ?_
    refine lv_lookup (tgt := 51) (off := 50) hx hb dX5_mostOf_1 rfl rfl (by decide) ?_
    refine lv_sipush (v := 719) hx hb dX5_mostOf_51 (by decide) ?_
    exact RT _ _ _ _ _ _ hh (rfl) (Or.inl ⟨_, rfl, by rw [hF], dX5_mostOf_54, Or.inl rfl⟩)
  replace hF := hF.trans (if_neg c_1_2)
  by_cases c_1_3 : x0 = 83
  · replace hF := hF.trans (if_pos c_1_3)
    have i_1_3 : x0.toInt = 83 := congrArg Int32.toInt c_1_3
    refine W.eq (g2 := F0 m 1 ls (.int 83 :: [])) (by rw [c_1_3]) ?_
    refine lv_lookup (tgt := 47) (off := 46) hx hb dX5_mostOf_1 rfl rfl (by decide) ?_
    refine lv_sipush (v := 4319) hx hb dX5_mostOf_47 (by decide) ?_
    exact RT _ _ _ _ _ _ hh (rfl) (Or.inl ⟨_, rfl, by rw [hF], dX5_mostOf_50, Or.inl rfl⟩)
  replace hF := hF.trans (if_neg c_1_3)
  refine lv_lookup (tgt := 55) (off := 54) hx hb dX5_mostOf_1 rfl (by have h1 := sw_ne (y := 65) (k := 65) c_1_0 rfl; have h2 := sw_ne (y := 75) (k := 75) c_1_1 rfl; have h3 := sw_ne (y := 77) (k := 77) c_1_2 rfl; have h4 := sw_ne (y := 83) (k := 83) c_1_3 rfl; simp [Op.lookupswitch.offset, h1, Ne.symm h1, h2, Ne.symm h2, h3, Ne.symm h3, h4, Ne.symm h4]) (by decide) ?_
  refine lv_sipush (v := 240) hx hb dX5_mostOf_55 (by decide) ?_
  exact RT _ _ _ _ _ _ hh (rfl) (Or.inl ⟨_, rfl, by rw [hF], dX5_mostOf_58, Or.inl rfl⟩)
def F_X1_toldClock (h_c : Nat → Nat) (h_ck : Nat → Nat → Int32) (x1 : Int32) : (Option Nat) := (if (F_X6_isBelow x1 8) = 0 then none else (if (h_ck x1.toNatClampNeg 0) = (-1) then none else (some (h_c x1.toNatClampNeg))))
theorem in_X1_toldClock_X1 : ∀ x ∈ u_ws RX1 TX1 3, x ∈ wsX1_toldClock := by decide +kernel
theorem in_X1_toldClock_X0 : ∀ x ∈ u_ws RX0 TX0 6, x ∈ wsX1_toldClock := by decide +kernel
set_option maxHeartbeats 2000000 in
set_option maxRecDepth 100000 in
theorem c_X1_toldClock (l : Launch) (D : va_G) (cI cZ cC cH : ClassId) (h_o h_a_clocks h_n_o h_n_a_clocks h_n_a_minutes h_n_a_dials : Nat) (h_c : Nat → Nat) (h_filled : Int32) (h_ck : Nat → Nat → Int32) (h_n_many : Int32) (h_n_clocks : Nat → Int32) (h_n_minutes : Nat → Int32) (h_n_dials : Nat → Int32) (x1 : Int32)  : MC l D (TY cI cZ cC cH) yX1_toldClock wsX1_toldClock 1 21 [.ref h_o, .int x1] (WHo cI cZ cC cH h_o h_a_clocks h_n_o h_n_a_clocks h_n_a_minutes h_n_a_dials h_c h_filled h_ck h_n_many h_n_clocks h_n_minutes h_n_dials) (some (va_rf (F_X1_toldClock h_c h_ck x1))) (WHo cI cZ cC cH h_o h_a_clocks h_n_o h_n_a_clocks h_n_a_minutes h_n_a_dials h_c h_filled h_ck h_n_many h_n_clocks h_n_minutes h_n_dials) := by
  obtain ⟨R, hF⟩ : ∃ R, R = F_X1_toldClock h_c h_ck x1 := ⟨_, rfl⟩
  rw [← hF]
  refine MC.of (cc := cX1_toldClock) (maxL := 2) (ret := (some (.object "WrongClocks$Clock"))) RX1 rfl (by decide +kernel) rfl (Nat.le_of_ble_eq_true rfl) ?_
  intro p e s m args below meth c A Q KX RT hh ls hl
  have z0 : (0 : Int32).toInt = 0 := rfl
  have z1 : (1 : Int32).toInt = 1 := rfl
  have zm : (-1 : Int32).toInt = -1 := rfl
  have hx := KX.1
  have hb := KX.2.1
  have hl : lv_has ls 2 [(0, .ref h_o), (1, .int x1)] := hl
  unfold F_X1_toldClock at hF
  refine lv_iload_n hx hb dX1_toldClock_0 rfl (lv_at hl 1 rfl) ?_
  refine lv_bipush (v := 8) hx hb dX1_toldClock_1 (by decide) ?_
  refine g_callN (host := "WrongClocks") (As := [.int x1, .int 8]) (rest := []) KX rfl ⟨Nat.le_of_ble_eq_true rfl, Nat.le_of_ble_eq_true rfl⟩ hh hl (c_X6_isBelow l D cI cZ cC cH  x1 8 ) JN.no 2 gX1_toldClock_X6_isBelow_n36 rfl (by decide +kernel) (List.mem_of_getElem? (i := 4) rfl) (List.mem_of_getElem? (i := 3) rfl) (by decide +kernel) ⟨Nat.le_of_ble_eq_true rfl, Nat.le_of_ble_eq_true rfl⟩ rfl rfl (Nat.le_of_ble_eq_true rfl) dX1_toldClock_3 (fun H locs hh => ?_)
  refine W.eq (g2 := F0 m 6 ls [.int (F_X6_isBelow x1 8)]) rfl ?_
  refine lv_if_eq (tgt := 22) hx hb dX1_toldClock_6 (by decide) (fun c_6 => ?_) (fun c_6 => ?_)
  · replace hF := hF.trans (if_pos c_6)
    refine lv_null hx hb dX1_toldClock_22 ?_
    exact RT _ _ _ _ _ _ hh (rfl) (Or.inr (Or.inr (Or.inr ⟨_, _, rfl, by rw [hF]; rfl, dX1_toldClock_23, rfl, Or.inl ⟨_, rfl⟩, Or.inl rfl⟩)))
  · replace hF := hF.trans (if_neg c_6)
    obtain ⟨k0_6, k1_6⟩ : (0 : Int) ≤ x1.toInt ∧ x1.toInt < 8 := X6_isBelow_in c_6
    refine lv_aload_n hx hb dX1_toldClock_9 rfl (lv_at hl 0 rfl) ?_
    refine g_get KX hh in_X1_toldClock_X1 0 rfl rfl 1 (by decide) rfl (List.mem_of_getElem? (i := 1) rfl) dX1_toldClock_10 ?_
    refine lv_iload_n hx hb dX1_toldClock_13 rfl (lv_at hl 1 rfl) ?_
    refine g_aald KX hh 1 2 rfl rfl (vp_in_iff.mpr (by omega)) (v := .ref (h_c x1.toNatClampNeg)) rfl dX1_toldClock_14 ?_
    refine g_get KX hh in_X1_toldClock_X0 (2 + x1.toNatClampNeg) (clk_WHo (tn_lt (k := x1) (n := 8) (by omega) (by omega))) rfl 0 (by decide) rfl (List.mem_of_getElem? (i := 2) rfl) dX1_toldClock_15 ?_
    refine lv_iconst (v := (-1)) hx hb dX1_toldClock_18 (by decide) ?_
    refine lv_icmp_ne (tgt := 24) hx hb dX1_toldClock_19 (by decide) (fun c_19 => ?_) (fun c_19 => ?_)
    · replace hF := hF.trans (if_neg c_19)
      refine lv_aload_n hx hb dX1_toldClock_24 rfl (lv_at hl 0 rfl) ?_
      refine g_get KX hh in_X1_toldClock_X1 0 rfl rfl 1 (by decide) rfl (List.mem_of_getElem? (i := 1) rfl) dX1_toldClock_25 ?_
      refine lv_iload_n hx hb dX1_toldClock_28 rfl (lv_at hl 1 rfl) ?_
      refine g_aald KX hh 1 2 rfl rfl (vp_in_iff.mpr (by omega)) (v := .ref (h_c x1.toNatClampNeg)) rfl dX1_toldClock_29 ?_
      exact RT _ _ _ _ _ _ hh (rfl) (Or.inr (Or.inr (Or.inr ⟨_, _, rfl, by rw [hF]; rfl, dX1_toldClock_30, rfl, Or.inl ⟨_, rfl⟩, Or.inr ⟨_, rfl⟩⟩)))
    · replace hF := hF.trans (if_pos c_19)
      refine lv_null hx hb dX1_toldClock_22 ?_
      exact RT _ _ _ _ _ _ hh (rfl) (Or.inr (Or.inr (Or.inr ⟨_, _, rfl, by rw [hF]; rfl, dX1_toldClock_23, rfl, Or.inl ⟨_, rfl⟩, Or.inl rfl⟩)))
def F_X1_toldBits_4 (h_ck : Nat → Nat → Int32) : Nat → Int32 → Int32 → Int32
  | 0, _, _ => default
  | n + 1, x2_1, x1_2 => (if 8 ≤ x2_1 then x1_2 else (if (h_ck x2_1.toNatClampNeg 0) = (-1) then ((F_X1_toldBits_4 h_ck n) (x2_1 + 1) (x1_2 ||| 0)) else ((F_X1_toldBits_4 h_ck n) (x2_1 + 1) (x1_2 ||| (1 <<< (x2_1 &&& 31))))))
def F_X1_toldBits (h_ck : Nat → Nat → Int32) : Int32 := (F_X1_toldBits_4 h_ck 9 0 0)
theorem in_X1_toldBits_X1 : ∀ x ∈ u_ws RX1 TX1 3, x ∈ wsX1_toldBits := by decide +kernel
theorem in_X1_toldBits_X0 : ∀ x ∈ u_ws RX0 TX0 6, x ∈ wsX1_toldBits := by decide +kernel
set_option maxHeartbeats 2000000 in
set_option maxRecDepth 100000 in
theorem c_X1_toldBits (l : Launch) (D : va_G) (cI cZ cC cH : ClassId) (h_o h_a_clocks h_n_o h_n_a_clocks h_n_a_minutes h_n_a_dials : Nat) (h_c : Nat → Nat) (h_filled : Int32) (h_ck : Nat → Nat → Int32) (h_n_many : Int32) (h_n_clocks : Nat → Int32) (h_n_minutes : Nat → Int32) (h_n_dials : Nat → Int32)   : MC l D (TY cI cZ cC cH) yX1_toldBits wsX1_toldBits 0 0 [.ref h_o] (WHo cI cZ cC cH h_o h_a_clocks h_n_o h_n_a_clocks h_n_a_minutes h_n_a_dials h_c h_filled h_ck h_n_many h_n_clocks h_n_minutes h_n_dials) (some (.int (F_X1_toldBits h_ck))) (WHo cI cZ cC cH h_o h_a_clocks h_n_o h_n_a_clocks h_n_a_minutes h_n_a_dials h_c h_filled h_ck h_n_many h_n_clocks h_n_minutes h_n_dials) := by
  obtain ⟨R, hF⟩ : ∃ R, R = F_X1_toldBits h_ck := ⟨_, rfl⟩
  rw [← hF]
  refine MC.of (cc := cX1_toldBits) (maxL := 3) (ret := (some .int)) RX1 rfl (by decide +kernel) rfl (Nat.le_of_ble_eq_true rfl) ?_
  intro p e s m args below meth c A Q KX RT hh ls hl
  have z0 : (0 : Int32).toInt = 0 := rfl
  have z1 : (1 : Int32).toInt = 1 := rfl
  have zm : (-1 : Int32).toInt = -1 := rfl
  have hx := KX.1
  have hb := KX.2.1
  have hl : lv_has ls 3 [(0, .ref h_o)] := hl
  unfold F_X1_toldBits at hF
  refine lv_iconst (v := 0) hx hb dX1_toldBits_0 (by decide) ?_
  refine lv_istore_n (lv' := [(1, .int 0), (0, .ref h_o)]) hx hb dX1_toldBits_1 rfl hl (Nat.le_of_ble_eq_true rfl) rfl (fun ls hl => ?_)
  refine lv_iconst (v := 0) hx hb dX1_toldBits_2 (by decide) ?_
  refine lv_istore_n (lv' := [(2, .int 0), (1, .int 0), (0, .ref h_o)]) hx hb dX1_toldBits_3 rfl hl (Nat.le_of_ble_eq_true rfl) rfl (fun ls hl => ?_)
  have L_4 : ∀ (n_4 : Nat) (x2_1 : Int32) (x1_2 : Int32) (i0_4 : 0 ≤ x2_1.toInt) (i1_4 : x2_1.toInt ≤ 8) (_ : (8 - x2_1.toInt).toNat < n_4) (_ : R = (F_X1_toldBits_4 h_ck) n_4 x2_1 x1_2) (ls : Array Slot) (H : Heap) (locs : List Loc) (_ : HS D A s.heap (WHo cI cZ cC cH h_o h_a_clocks h_n_o h_n_a_clocks h_n_a_minutes h_n_a_dials h_c h_filled h_ck h_n_many h_n_clocks h_n_minutes h_n_dials) H locs) (_ : lv_has ls 3 [(2, .int x2_1), (1, .int x1_2), (0, .ref h_o)]), W p l e { frames := 0, cells := 0, slots := 0, locals := 0 } s m args below meth c H locs 0 0 Q (F0 m 4 ls []) := by
    intro n_4
    induction n_4 with
    | zero => intro x2_1 x1_2 i0_4 i1_4 hm; exact absurd hm (Nat.not_lt_zero _)
    | succ n_4 ih_4 =>
      intro x2_1 x1_2 i0_4 i1_4 hm_4 hF ls H locs hh hl
      rw [F_X1_toldBits_4.eq_2] at hF
      refine lv_iload_n hx hb dX1_toldBits_4 rfl (lv_at hl 0 rfl) ?_
      refine lv_bipush (v := 8) hx hb dX1_toldBits_5 (by decide) ?_
      refine lv_icmp_ge (tgt := 39) hx hb dX1_toldBits_7 (by decide) (fun c_7 => ?_) (fun c_7 => ?_)
      · replace hF := hF.trans (if_pos c_7)
        have i_7 : 8 ≤ x2_1.toInt := ti_le.mp c_7
        refine lv_iload_n hx hb dX1_toldBits_39 rfl (lv_at hl 1 rfl) ?_
        exact RT _ _ _ _ _ _ hh (rfl) (Or.inl ⟨_, rfl, by rw [hF], dX1_toldBits_40, Or.inl rfl⟩)
      · replace hF := hF.trans (if_neg c_7)
        have i_7 : x2_1.toInt < 8 := ti_nle c_7
        refine lv_iload_n hx hb dX1_toldBits_10 rfl (lv_at hl 1 rfl) ?_
        refine lv_aload_n hx hb dX1_toldBits_11 rfl (lv_at hl 2 rfl) ?_
        refine g_get KX hh in_X1_toldBits_X1 0 rfl rfl 1 (by decide) rfl (List.mem_of_getElem? (i := 1) rfl) dX1_toldBits_12 ?_
        refine lv_iload_n hx hb dX1_toldBits_15 rfl (lv_at hl 0 rfl) ?_
        refine g_aald KX hh 1 2 rfl rfl (vp_in_iff.mpr (by omega)) (v := .ref (h_c x2_1.toNatClampNeg)) rfl dX1_toldBits_16 ?_
        refine g_get KX hh in_X1_toldBits_X0 (2 + x2_1.toNatClampNeg) (clk_WHo (tn_lt (k := x2_1) (n := 8) (by omega) (by omega))) rfl 0 (by decide) rfl (List.mem_of_getElem? (i := 2) rfl) dX1_toldBits_17 ?_
        refine lv_iconst (v := (-1)) hx hb dX1_toldBits_20 (by decide) ?_
        refine lv_icmp_ne (tgt := 28) hx hb dX1_toldBits_21 (by decide) (fun c_21 => ?_) (fun c_21 => ?_)
        · replace hF := hF.trans (if_neg c_21)
          refine lv_iconst (v := 1) hx hb dX1_toldBits_28 (by decide) ?_
          refine lv_iload_n hx hb dX1_toldBits_29 rfl (lv_at hl 0 rfl) ?_
          refine lv_ishl hx hb dX1_toldBits_30 ?_
          refine lv_ior hx hb dX1_toldBits_31 ?_
          refine lv_istore_n (lv' := [(1, .int (x1_2 ||| (1 <<< (x2_1 &&& 31)))), (2, .int x2_1), (0, .ref h_o)]) hx hb dX1_toldBits_32 rfl hl (Nat.le_of_ble_eq_true rfl) rfl (fun ls hl => ?_)
          refine lv_iinc (v := x2_1 + 1) (lv' := [(2, .int (x2_1 + 1)), (1, .int (x1_2 ||| (1 <<< (x2_1 &&& 31)))), (0, .ref h_o)]) hx hb dX1_toldBits_33 hl (k := 1) rfl rfl (Nat.le_of_ble_eq_true rfl) rfl (fun ls hl => ?_)
          refine lv_goto (tgt := 4) hx hb dX1_toldBits_36 (by decide) ?_
          have e_inc : (x2_1 + 1).toInt = x2_1.toInt + 1 := ti_inc (by omega)
          exact ih_4 (x2_1 + 1) (x1_2 ||| (1 <<< (x2_1 &&& 31))) (by first | with_reducible assumption | omega | decide) (by first | with_reducible assumption | omega | decide) (by omega) hF _ _ _ hh (lv_sub hl [0, 1, 2] rfl)
        · replace hF := hF.trans (if_pos c_21)
          refine lv_iconst (v := 0) hx hb dX1_toldBits_24 (by decide) ?_
          refine lv_goto (tgt := 31) hx hb dX1_toldBits_25 (by decide) ?_
          refine lv_ior hx hb dX1_toldBits_31 ?_
          refine lv_istore_n (lv' := [(1, .int (x1_2 ||| 0)), (2, .int x2_1), (0, .ref h_o)]) hx hb dX1_toldBits_32 rfl hl (Nat.le_of_ble_eq_true rfl) rfl (fun ls hl => ?_)
          refine lv_iinc (v := x2_1 + 1) (lv' := [(2, .int (x2_1 + 1)), (1, .int (x1_2 ||| 0)), (0, .ref h_o)]) hx hb dX1_toldBits_33 hl (k := 1) rfl rfl (Nat.le_of_ble_eq_true rfl) rfl (fun ls hl => ?_)
          refine lv_goto (tgt := 4) hx hb dX1_toldBits_36 (by decide) ?_
          have e_inc : (x2_1 + 1).toInt = x2_1.toInt + 1 := ti_inc (by omega)
          exact ih_4 (x2_1 + 1) (x1_2 ||| 0) (by first | with_reducible assumption | omega | decide) (by first | with_reducible assumption | omega | decide) (by omega) hF _ _ _ hh (lv_sub hl [0, 1, 2] rfl)
  exact L_4 9 0 0 (by first | with_reducible assumption | omega | decide) (by first | with_reducible assumption | omega | decide) (by first | omega | decide | (simp; done)) hF _ _ _ hh (lv_sub hl [0, 1, 2] rfl)
def F_X1_readBits_4 (h_ck : Nat → Nat → Int32) : Nat → Int32 → Int32 → Int32
  | 0, _, _ => default
  | n + 1, x2_1, x1_2 => (if 8 ≤ x2_1 then x1_2 else (if (h_ck x2_1.toNatClampNeg 5) = (-1) then ((F_X1_readBits_4 h_ck n) (x2_1 + 1) (x1_2 ||| 0)) else ((F_X1_readBits_4 h_ck n) (x2_1 + 1) (x1_2 ||| (1 <<< (x2_1 &&& 31))))))
def F_X1_readBits (h_ck : Nat → Nat → Int32) : Int32 := (F_X1_readBits_4 h_ck 9 0 0)
theorem in_X1_readBits_X1 : ∀ x ∈ u_ws RX1 TX1 3, x ∈ wsX1_readBits := by decide +kernel
theorem in_X1_readBits_X0 : ∀ x ∈ u_ws RX0 TX0 6, x ∈ wsX1_readBits := by decide +kernel
set_option maxHeartbeats 2000000 in
set_option maxRecDepth 100000 in
theorem c_X1_readBits (l : Launch) (D : va_G) (cI cZ cC cH : ClassId) (h_o h_a_clocks h_n_o h_n_a_clocks h_n_a_minutes h_n_a_dials : Nat) (h_c : Nat → Nat) (h_filled : Int32) (h_ck : Nat → Nat → Int32) (h_n_many : Int32) (h_n_clocks : Nat → Int32) (h_n_minutes : Nat → Int32) (h_n_dials : Nat → Int32)   : MC l D (TY cI cZ cC cH) yX1_readBits wsX1_readBits 0 0 [.ref h_o] (WHo cI cZ cC cH h_o h_a_clocks h_n_o h_n_a_clocks h_n_a_minutes h_n_a_dials h_c h_filled h_ck h_n_many h_n_clocks h_n_minutes h_n_dials) (some (.int (F_X1_readBits h_ck))) (WHo cI cZ cC cH h_o h_a_clocks h_n_o h_n_a_clocks h_n_a_minutes h_n_a_dials h_c h_filled h_ck h_n_many h_n_clocks h_n_minutes h_n_dials) := by
  obtain ⟨R, hF⟩ : ∃ R, R = F_X1_readBits h_ck := ⟨_, rfl⟩
  rw [← hF]
  refine MC.of (cc := cX1_readBits) (maxL := 3) (ret := (some .int)) RX1 rfl (by decide +kernel) rfl (Nat.le_of_ble_eq_true rfl) ?_
  intro p e s m args below meth c A Q KX RT hh ls hl
  have z0 : (0 : Int32).toInt = 0 := rfl
  have z1 : (1 : Int32).toInt = 1 := rfl
  have zm : (-1 : Int32).toInt = -1 := rfl
  have hx := KX.1
  have hb := KX.2.1
  have hl : lv_has ls 3 [(0, .ref h_o)] := hl
  unfold F_X1_readBits at hF
  refine lv_iconst (v := 0) hx hb dX1_readBits_0 (by decide) ?_
  refine lv_istore_n (lv' := [(1, .int 0), (0, .ref h_o)]) hx hb dX1_readBits_1 rfl hl (Nat.le_of_ble_eq_true rfl) rfl (fun ls hl => ?_)
  refine lv_iconst (v := 0) hx hb dX1_readBits_2 (by decide) ?_
  refine lv_istore_n (lv' := [(2, .int 0), (1, .int 0), (0, .ref h_o)]) hx hb dX1_readBits_3 rfl hl (Nat.le_of_ble_eq_true rfl) rfl (fun ls hl => ?_)
  have L_4 : ∀ (n_4 : Nat) (x2_1 : Int32) (x1_2 : Int32) (i0_4 : 0 ≤ x2_1.toInt) (i1_4 : x2_1.toInt ≤ 8) (_ : (8 - x2_1.toInt).toNat < n_4) (_ : R = (F_X1_readBits_4 h_ck) n_4 x2_1 x1_2) (ls : Array Slot) (H : Heap) (locs : List Loc) (_ : HS D A s.heap (WHo cI cZ cC cH h_o h_a_clocks h_n_o h_n_a_clocks h_n_a_minutes h_n_a_dials h_c h_filled h_ck h_n_many h_n_clocks h_n_minutes h_n_dials) H locs) (_ : lv_has ls 3 [(2, .int x2_1), (1, .int x1_2), (0, .ref h_o)]), W p l e { frames := 0, cells := 0, slots := 0, locals := 0 } s m args below meth c H locs 0 0 Q (F0 m 4 ls []) := by
    intro n_4
    induction n_4 with
    | zero => intro x2_1 x1_2 i0_4 i1_4 hm; exact absurd hm (Nat.not_lt_zero _)
    | succ n_4 ih_4 =>
      intro x2_1 x1_2 i0_4 i1_4 hm_4 hF ls H locs hh hl
      rw [F_X1_readBits_4.eq_2] at hF
      refine lv_iload_n hx hb dX1_readBits_4 rfl (lv_at hl 0 rfl) ?_
      refine lv_bipush (v := 8) hx hb dX1_readBits_5 (by decide) ?_
      refine lv_icmp_ge (tgt := 39) hx hb dX1_readBits_7 (by decide) (fun c_7 => ?_) (fun c_7 => ?_)
      · replace hF := hF.trans (if_pos c_7)
        have i_7 : 8 ≤ x2_1.toInt := ti_le.mp c_7
        refine lv_iload_n hx hb dX1_readBits_39 rfl (lv_at hl 1 rfl) ?_
        exact RT _ _ _ _ _ _ hh (rfl) (Or.inl ⟨_, rfl, by rw [hF], dX1_readBits_40, Or.inl rfl⟩)
      · replace hF := hF.trans (if_neg c_7)
        have i_7 : x2_1.toInt < 8 := ti_nle c_7
        refine lv_iload_n hx hb dX1_readBits_10 rfl (lv_at hl 1 rfl) ?_
        refine lv_aload_n hx hb dX1_readBits_11 rfl (lv_at hl 2 rfl) ?_
        refine g_get KX hh in_X1_readBits_X1 0 rfl rfl 1 (by decide) rfl (List.mem_of_getElem? (i := 1) rfl) dX1_readBits_12 ?_
        refine lv_iload_n hx hb dX1_readBits_15 rfl (lv_at hl 0 rfl) ?_
        refine g_aald KX hh 1 2 rfl rfl (vp_in_iff.mpr (by omega)) (v := .ref (h_c x2_1.toNatClampNeg)) rfl dX1_readBits_16 ?_
        refine g_get KX hh in_X1_readBits_X0 (2 + x2_1.toNatClampNeg) (clk_WHo (tn_lt (k := x2_1) (n := 8) (by omega) (by omega))) rfl 5 (by decide) rfl (List.mem_of_getElem? (i := 2) rfl) dX1_readBits_17 ?_
        refine lv_iconst (v := (-1)) hx hb dX1_readBits_20 (by decide) ?_
        refine lv_icmp_ne (tgt := 28) hx hb dX1_readBits_21 (by decide) (fun c_21 => ?_) (fun c_21 => ?_)
        · replace hF := hF.trans (if_neg c_21)
          refine lv_iconst (v := 1) hx hb dX1_readBits_28 (by decide) ?_
          refine lv_iload_n hx hb dX1_readBits_29 rfl (lv_at hl 0 rfl) ?_
          refine lv_ishl hx hb dX1_readBits_30 ?_
          refine lv_ior hx hb dX1_readBits_31 ?_
          refine lv_istore_n (lv' := [(1, .int (x1_2 ||| (1 <<< (x2_1 &&& 31)))), (2, .int x2_1), (0, .ref h_o)]) hx hb dX1_readBits_32 rfl hl (Nat.le_of_ble_eq_true rfl) rfl (fun ls hl => ?_)
          refine lv_iinc (v := x2_1 + 1) (lv' := [(2, .int (x2_1 + 1)), (1, .int (x1_2 ||| (1 <<< (x2_1 &&& 31)))), (0, .ref h_o)]) hx hb dX1_readBits_33 hl (k := 1) rfl rfl (Nat.le_of_ble_eq_true rfl) rfl (fun ls hl => ?_)
          refine lv_goto (tgt := 4) hx hb dX1_readBits_36 (by decide) ?_
          have e_inc : (x2_1 + 1).toInt = x2_1.toInt + 1 := ti_inc (by omega)
          exact ih_4 (x2_1 + 1) (x1_2 ||| (1 <<< (x2_1 &&& 31))) (by first | with_reducible assumption | omega | decide) (by first | with_reducible assumption | omega | decide) (by omega) hF _ _ _ hh (lv_sub hl [0, 1, 2] rfl)
        · replace hF := hF.trans (if_pos c_21)
          refine lv_iconst (v := 0) hx hb dX1_readBits_24 (by decide) ?_
          refine lv_goto (tgt := 31) hx hb dX1_readBits_25 (by decide) ?_
          refine lv_ior hx hb dX1_readBits_31 ?_
          refine lv_istore_n (lv' := [(1, .int (x1_2 ||| 0)), (2, .int x2_1), (0, .ref h_o)]) hx hb dX1_readBits_32 rfl hl (Nat.le_of_ble_eq_true rfl) rfl (fun ls hl => ?_)
          refine lv_iinc (v := x2_1 + 1) (lv' := [(2, .int (x2_1 + 1)), (1, .int (x1_2 ||| 0)), (0, .ref h_o)]) hx hb dX1_readBits_33 hl (k := 1) rfl rfl (Nat.le_of_ble_eq_true rfl) rfl (fun ls hl => ?_)
          refine lv_goto (tgt := 4) hx hb dX1_readBits_36 (by decide) ?_
          have e_inc : (x2_1 + 1).toInt = x2_1.toInt + 1 := ti_inc (by omega)
          exact ih_4 (x2_1 + 1) (x1_2 ||| 0) (by first | with_reducible assumption | omega | decide) (by first | with_reducible assumption | omega | decide) (by omega) hF _ _ _ hh (lv_sub hl [0, 1, 2] rfl)
  exact L_4 9 0 0 (by first | with_reducible assumption | omega | decide) (by first | with_reducible assumption | omega | decide) (by first | omega | decide | (simp; done)) hF _ _ _ hh (lv_sub hl [0, 1, 2] rfl)
def F_X1_misfitsAt_4 (h_ck : Nat → Nat → Int32) (x1 : Int32) : Nat → Int32 → Int32 → Int32
  | 0, _, _ => default
  | n + 1, x3_1, x2_2 => (if 8 ≤ x3_1 then x2_2 else (if (h_ck x3_1.toNatClampNeg 5) = (-1) then ((F_X1_misfitsAt_4 h_ck x1 n) (x3_1 + 1) x2_2) else (if (F_X0_canShow (h_ck x3_1.toNatClampNeg 0) (h_ck x3_1.toNatClampNeg 1) (h_ck x3_1.toNatClampNeg 2) (h_ck x3_1.toNatClampNeg 3) (h_ck x3_1.toNatClampNeg 4) x1 (h_ck x3_1.toNatClampNeg 5)) = 0 then ((F_X1_misfitsAt_4 h_ck x1 n) (x3_1 + 1) (x2_2 ||| (1 <<< (x3_1 &&& 31)))) else ((F_X1_misfitsAt_4 h_ck x1 n) (x3_1 + 1) x2_2))))
def F_X1_misfitsAt (h_ck : Nat → Nat → Int32) (x1 : Int32) : Int32 := (F_X1_misfitsAt_4 h_ck x1 9 0 0)
theorem in_X1_misfitsAt_X1 : ∀ x ∈ u_ws RX1 TX1 3, x ∈ wsX1_misfitsAt := by decide +kernel
theorem in_X1_misfitsAt_X0 : ∀ x ∈ u_ws RX0 TX0 6, x ∈ wsX1_misfitsAt := by decide +kernel
set_option maxHeartbeats 2000000 in
set_option maxRecDepth 100000 in
theorem c_X1_misfitsAt (l : Launch) (D : va_G) (cI cZ cC cH : ClassId) (h_o h_a_clocks h_n_o h_n_a_clocks h_n_a_minutes h_n_a_dials : Nat) (h_c : Nat → Nat) (h_filled : Int32) (h_ck : Nat → Nat → Int32) (h_n_many : Int32) (h_n_clocks : Nat → Int32) (h_n_minutes : Nat → Int32) (h_n_dials : Nat → Int32) (x1 : Int32)  : MC l D (TY cI cZ cC cH) yX1_misfitsAt wsX1_misfitsAt 3 71 [.ref h_o, .int x1] (WHo cI cZ cC cH h_o h_a_clocks h_n_o h_n_a_clocks h_n_a_minutes h_n_a_dials h_c h_filled h_ck h_n_many h_n_clocks h_n_minutes h_n_dials) (some (.int (F_X1_misfitsAt h_ck x1))) (WHo cI cZ cC cH h_o h_a_clocks h_n_o h_n_a_clocks h_n_a_minutes h_n_a_dials h_c h_filled h_ck h_n_many h_n_clocks h_n_minutes h_n_dials) := by
  obtain ⟨R, hF⟩ : ∃ R, R = F_X1_misfitsAt h_ck x1 := ⟨_, rfl⟩
  rw [← hF]
  refine MC.of (cc := cX1_misfitsAt) (maxL := 5) (ret := (some .int)) RX1 rfl (by decide +kernel) rfl (Nat.le_of_ble_eq_true rfl) ?_
  intro p e s m args below meth c A Q KX RT hh ls hl
  have z0 : (0 : Int32).toInt = 0 := rfl
  have z1 : (1 : Int32).toInt = 1 := rfl
  have zm : (-1 : Int32).toInt = -1 := rfl
  have hx := KX.1
  have hb := KX.2.1
  have hl : lv_has ls 5 [(0, .ref h_o), (1, .int x1)] := hl
  unfold F_X1_misfitsAt at hF
  refine lv_iconst (v := 0) hx hb dX1_misfitsAt_0 (by decide) ?_
  refine lv_istore_n (lv' := [(2, .int 0), (0, .ref h_o), (1, .int x1)]) hx hb dX1_misfitsAt_1 rfl hl (Nat.le_of_ble_eq_true rfl) rfl (fun ls hl => ?_)
  refine lv_iconst (v := 0) hx hb dX1_misfitsAt_2 (by decide) ?_
  refine lv_istore_n (lv' := [(3, .int 0), (2, .int 0), (0, .ref h_o), (1, .int x1)]) hx hb dX1_misfitsAt_3 rfl hl (Nat.le_of_ble_eq_true rfl) rfl (fun ls hl => ?_)
  have L_4 : ∀ (n_4 : Nat) (x3_1 : Int32) (x2_2 : Int32) (i0_4 : 0 ≤ x3_1.toInt) (i1_4 : x3_1.toInt ≤ 8) (_ : (8 - x3_1.toInt).toNat < n_4) (_ : R = (F_X1_misfitsAt_4 h_ck x1) n_4 x3_1 x2_2) (ls : Array Slot) (H : Heap) (locs : List Loc) (_ : HS D A s.heap (WHo cI cZ cC cH h_o h_a_clocks h_n_o h_n_a_clocks h_n_a_minutes h_n_a_dials h_c h_filled h_ck h_n_many h_n_clocks h_n_minutes h_n_dials) H locs) (_ : lv_has ls 5 [(3, .int x3_1), (2, .int x2_2), (0, .ref h_o), (1, .int x1)]), W p l e { frames := 3, cells := 0, slots := 0, locals := 71 } s m args below meth c H locs 0 0 Q (F0 m 4 ls []) := by
    intro n_4
    induction n_4 with
    | zero => intro x3_1 x2_2 i0_4 i1_4 hm; exact absurd hm (Nat.not_lt_zero _)
    | succ n_4 ih_4 =>
      intro x3_1 x2_2 i0_4 i1_4 hm_4 hF ls H locs hh hl
      rw [F_X1_misfitsAt_4.eq_2] at hF
      refine lv_iload_n hx hb dX1_misfitsAt_4 rfl (lv_at hl 0 rfl) ?_
      refine lv_bipush (v := 8) hx hb dX1_misfitsAt_5 (by decide) ?_
      refine lv_icmp_ge (tgt := 54) hx hb dX1_misfitsAt_7 (by decide) (fun c_7 => ?_) (fun c_7 => ?_)
      · replace hF := hF.trans (if_pos c_7)
        have i_7 : 8 ≤ x3_1.toInt := ti_le.mp c_7
        refine lv_iload_n hx hb dX1_misfitsAt_54 rfl (lv_at hl 1 rfl) ?_
        exact RT _ _ _ _ _ _ hh (rfl) (Or.inl ⟨_, rfl, by rw [hF], dX1_misfitsAt_55, Or.inl rfl⟩)
      · replace hF := hF.trans (if_neg c_7)
        have i_7 : x3_1.toInt < 8 := ti_nle c_7
        refine lv_aload_n hx hb dX1_misfitsAt_10 rfl (lv_at hl 2 rfl) ?_
        refine g_get KX hh in_X1_misfitsAt_X1 0 rfl rfl 1 (by decide) rfl (List.mem_of_getElem? (i := 1) rfl) dX1_misfitsAt_11 ?_
        refine lv_iload_n hx hb dX1_misfitsAt_14 rfl (lv_at hl 0 rfl) ?_
        refine g_aald KX hh 1 2 rfl rfl (vp_in_iff.mpr (by omega)) (v := .ref (h_c x3_1.toNatClampNeg)) rfl dX1_misfitsAt_15 ?_
        refine g_get KX hh in_X1_misfitsAt_X0 (2 + x3_1.toNatClampNeg) (clk_WHo (tn_lt (k := x3_1) (n := 8) (by omega) (by omega))) rfl 5 (by decide) rfl (List.mem_of_getElem? (i := 2) rfl) dX1_misfitsAt_16 ?_
        refine lv_istore (lv' := [(4, .int (h_ck x3_1.toNatClampNeg 5)), (3, .int x3_1), (2, .int x2_2), (0, .ref h_o), (1, .int x1)]) hx hb dX1_misfitsAt_19 hl (Nat.le_of_ble_eq_true rfl) rfl (fun ls hl => ?_)
        refine lv_iload hx hb dX1_misfitsAt_21 (lv_at hl 0 rfl) ?_
        refine lv_iconst (v := (-1)) hx hb dX1_misfitsAt_23 (by decide) ?_
        refine lv_icmp_eq (tgt := 48) hx hb dX1_misfitsAt_24 (by decide) (fun c_24 => ?_) (fun c_24 => ?_)
        · replace hF := hF.trans (if_pos c_24)
          refine lv_iinc (v := x3_1 + 1) (lv' := [(3, .int (x3_1 + 1)), (4, .int (h_ck x3_1.toNatClampNeg 5)), (2, .int x2_2), (0, .ref h_o), (1, .int x1)]) hx hb dX1_misfitsAt_48 hl (k := 1) rfl rfl (Nat.le_of_ble_eq_true rfl) rfl (fun ls hl => ?_)
          refine lv_goto (tgt := 4) hx hb dX1_misfitsAt_51 (by decide) ?_
          have e_inc : (x3_1 + 1).toInt = x3_1.toInt + 1 := ti_inc (by omega)
          exact ih_4 (x3_1 + 1) x2_2 (by first | with_reducible assumption | omega | decide) (by first | with_reducible assumption | omega | decide) (by omega) hF _ _ _ hh (lv_sub hl [0, 2, 3, 4] rfl)
        · replace hF := hF.trans (if_neg c_24)
          refine lv_aload_n hx hb dX1_misfitsAt_27 rfl (lv_at hl 3 rfl) ?_
          refine g_get KX hh in_X1_misfitsAt_X1 0 rfl rfl 1 (by decide) rfl (List.mem_of_getElem? (i := 1) rfl) dX1_misfitsAt_28 ?_
          refine lv_iload_n hx hb dX1_misfitsAt_31 rfl (lv_at hl 1 rfl) ?_
          refine g_aald KX hh 1 2 rfl rfl (vp_in_iff.mpr (by omega)) (v := .ref (h_c x3_1.toNatClampNeg)) rfl dX1_misfitsAt_32 ?_
          refine lv_iload_n hx hb dX1_misfitsAt_33 rfl (lv_at hl 4 rfl) ?_
          refine lv_iload hx hb dX1_misfitsAt_34 (lv_at hl 0 rfl) ?_
          refine g_callV (As := [.int x1, .int (h_ck x3_1.toNatClampNeg 5)]) (rest := []) KX rfl ⟨Nat.le_of_ble_eq_true rfl, Nat.le_of_ble_eq_true rfl⟩ hh hl (c_X0_canShow l D cI cZ cC cH (h_c x3_1.toNatClampNeg) (h_ck x3_1.toNatClampNeg 0) (h_ck x3_1.toNatClampNeg 1) (h_ck x3_1.toNatClampNeg 2) (h_ck x3_1.toNatClampNeg 3) (h_ck x3_1.toNatClampNeg 4) (h_ck x3_1.toNatClampNeg 5) x1 (h_ck x3_1.toNatClampNeg 5) ) (JN.ro [2 + x3_1.toNatClampNeg] (by first | (simp only [List.map_cons, List.map_nil, clk_WHo (tn_lt (k := x3_1) (n := 8) (by omega) (by omega))]; done) | (simp only [List.map_cons, List.map_nil, clk_WHo (tn_lt (k := x3_1) (n := 8) (by omega) (by omega))]; rfl)) rfl) 2 gX1_misfitsAt_X0_canShow rfl (by decide +kernel) ⟨Nat.le_of_ble_eq_true rfl, Nat.le_of_ble_eq_true rfl⟩ (2 + x3_1.toNatClampNeg) 0 rfl rfl (clk_WHo (tn_lt (k := x3_1) (n := 8) (by omega) (by omega))) rfl rfl (Nat.le_of_ble_eq_true rfl) dX1_misfitsAt_36 (fun H locs hh => ?_)
          refine W.eq (g2 := F0 m 39 ls [.int (F_X0_canShow (h_ck x3_1.toNatClampNeg 0) (h_ck x3_1.toNatClampNeg 1) (h_ck x3_1.toNatClampNeg 2) (h_ck x3_1.toNatClampNeg 3) (h_ck x3_1.toNatClampNeg 4) x1 (h_ck x3_1.toNatClampNeg 5))]) rfl ?_
          refine lv_if_ne (tgt := 48) hx hb dX1_misfitsAt_39 (by decide) (fun c_39 => ?_) (fun c_39 => ?_)
          · replace hF := hF.trans (if_neg c_39)
            refine lv_iinc (v := x3_1 + 1) (lv' := [(3, .int (x3_1 + 1)), (4, .int (h_ck x3_1.toNatClampNeg 5)), (2, .int x2_2), (0, .ref h_o), (1, .int x1)]) hx hb dX1_misfitsAt_48 hl (k := 1) rfl rfl (Nat.le_of_ble_eq_true rfl) rfl (fun ls hl => ?_)
            refine lv_goto (tgt := 4) hx hb dX1_misfitsAt_51 (by decide) ?_
            have e_inc : (x3_1 + 1).toInt = x3_1.toInt + 1 := ti_inc (by omega)
            exact ih_4 (x3_1 + 1) x2_2 (by first | with_reducible assumption | omega | decide) (by first | with_reducible assumption | omega | decide) (by omega) hF _ _ _ hh (lv_sub hl [0, 2, 3, 4] rfl)
          · replace hF := hF.trans (if_pos c_39)
            refine lv_iload_n hx hb dX1_misfitsAt_42 rfl (lv_at hl 2 rfl) ?_
            refine lv_iconst (v := 1) hx hb dX1_misfitsAt_43 (by decide) ?_
            refine lv_iload_n hx hb dX1_misfitsAt_44 rfl (lv_at hl 1 rfl) ?_
            refine lv_ishl hx hb dX1_misfitsAt_45 ?_
            refine lv_ior hx hb dX1_misfitsAt_46 ?_
            refine lv_istore_n (lv' := [(2, .int (x2_2 ||| (1 <<< (x3_1 &&& 31)))), (4, .int (h_ck x3_1.toNatClampNeg 5)), (3, .int x3_1), (0, .ref h_o), (1, .int x1)]) hx hb dX1_misfitsAt_47 rfl hl (Nat.le_of_ble_eq_true rfl) rfl (fun ls hl => ?_)
            refine lv_iinc (v := x3_1 + 1) (lv' := [(3, .int (x3_1 + 1)), (2, .int (x2_2 ||| (1 <<< (x3_1 &&& 31)))), (4, .int (h_ck x3_1.toNatClampNeg 5)), (0, .ref h_o), (1, .int x1)]) hx hb dX1_misfitsAt_48 hl (k := 2) rfl rfl (Nat.le_of_ble_eq_true rfl) rfl (fun ls hl => ?_)
            refine lv_goto (tgt := 4) hx hb dX1_misfitsAt_51 (by decide) ?_
            have e_inc : (x3_1 + 1).toInt = x3_1.toInt + 1 := ti_inc (by omega)
            exact ih_4 (x3_1 + 1) (x2_2 ||| (1 <<< (x3_1 &&& 31))) (by first | with_reducible assumption | omega | decide) (by first | with_reducible assumption | omega | decide) (by omega) hF _ _ _ hh (lv_sub hl [0, 1, 3, 4] rfl)
  exact L_4 9 0 0 (by first | with_reducible assumption | omega | decide) (by first | with_reducible assumption | omega | decide) (by first | omega | decide | (simp; done)) hF _ _ _ hh (lv_sub hl [0, 1, 2, 3] rfl)
def F_X1_readNone_2  : Nat → Int32 → (Nat → Nat → Int32) → (Nat → Nat → Int32)
  | 0, _, _ => default
  | n + 1, x1_1, w_h_ck_2 => (if 8 ≤ x1_1 then w_h_ck_2 else ((F_X1_readNone_2 n) (x1_1 + 1) (ckU w_h_ck_2 x1_1.toNatClampNeg (w_h_ck_2 x1_1.toNatClampNeg 0) (w_h_ck_2 x1_1.toNatClampNeg 1) (w_h_ck_2 x1_1.toNatClampNeg 2) (w_h_ck_2 x1_1.toNatClampNeg 3) (w_h_ck_2 x1_1.toNatClampNeg 4) (-1))))
def F_X1_readNone (h_ck : Nat → Nat → Int32) : (Nat → Nat → Int32) := (F_X1_readNone_2 9 0 h_ck)
theorem in_X1_readNone_X1 : ∀ x ∈ u_ws RX1 TX1 3, x ∈ wsX1_readNone := by decide +kernel
theorem in_X1_readNone_X0 : ∀ x ∈ u_ws RX0 TX0 6, x ∈ wsX1_readNone := by decide +kernel
set_option maxHeartbeats 2000000 in
set_option maxRecDepth 100000 in
theorem c_X1_readNone (l : Launch) (D : va_G) (cI cZ cC cH : ClassId) (h_o h_a_clocks h_n_o h_n_a_clocks h_n_a_minutes h_n_a_dials : Nat) (h_c : Nat → Nat) (h_filled : Int32) (h_ck : Nat → Nat → Int32) (h_n_many : Int32) (h_n_clocks : Nat → Int32) (h_n_minutes : Nat → Int32) (h_n_dials : Nat → Int32)   : MC l D (TY cI cZ cC cH) yX1_readNone wsX1_readNone 0 0 [.ref h_o] (WHo cI cZ cC cH h_o h_a_clocks h_n_o h_n_a_clocks h_n_a_minutes h_n_a_dials h_c h_filled h_ck h_n_many h_n_clocks h_n_minutes h_n_dials) (none) (WHo cI cZ cC cH h_o h_a_clocks h_n_o h_n_a_clocks h_n_a_minutes h_n_a_dials h_c h_filled (F_X1_readNone h_ck) h_n_many h_n_clocks h_n_minutes h_n_dials) := by
  obtain ⟨R, hF⟩ : ∃ R, R = F_X1_readNone h_ck := ⟨_, rfl⟩
  rw [← hF]
  refine MC.of (cc := cX1_readNone) (maxL := 2) (ret := none) RX1 rfl (by decide +kernel) rfl (Nat.le_of_ble_eq_true rfl) ?_
  intro p e s m args below meth c A Q KX RT hh ls hl
  have z0 : (0 : Int32).toInt = 0 := rfl
  have z1 : (1 : Int32).toInt = 1 := rfl
  have zm : (-1 : Int32).toInt = -1 := rfl
  have hx := KX.1
  have hb := KX.2.1
  have hl : lv_has ls 2 [(0, .ref h_o)] := hl
  unfold F_X1_readNone at hF
  refine lv_iconst (v := 0) hx hb dX1_readNone_0 (by decide) ?_
  refine lv_istore_n (lv' := [(1, .int 0), (0, .ref h_o)]) hx hb dX1_readNone_1 rfl hl (Nat.le_of_ble_eq_true rfl) rfl (fun ls hl => ?_)
  have L_2 : ∀ (n_2 : Nat) (x1_1 : Int32) (w_h_ck_2 : Nat → Nat → Int32) (i0_2 : 0 ≤ x1_1.toInt) (i1_2 : x1_1.toInt ≤ 8) (_ : (8 - x1_1.toInt).toNat < n_2) (_ : R = (F_X1_readNone_2) n_2 x1_1 w_h_ck_2) (ls : Array Slot) (H : Heap) (locs : List Loc) (_ : HS D A s.heap (WHo cI cZ cC cH h_o h_a_clocks h_n_o h_n_a_clocks h_n_a_minutes h_n_a_dials h_c h_filled w_h_ck_2 h_n_many h_n_clocks h_n_minutes h_n_dials) H locs) (_ : lv_has ls 2 [(1, .int x1_1), (0, .ref h_o)]), W p l e { frames := 0, cells := 0, slots := 0, locals := 0 } s m args below meth c H locs 0 0 Q (F0 m 2 ls []) := by
    intro n_2
    induction n_2 with
    | zero => intro x1_1 w_h_ck_2 i0_2 i1_2 hm; exact absurd hm (Nat.not_lt_zero _)
    | succ n_2 ih_2 =>
      intro x1_1 w_h_ck_2 i0_2 i1_2 hm_2 hF ls H locs hh hl
      rw [F_X1_readNone_2.eq_2] at hF
      refine lv_iload_n hx hb dX1_readNone_2 rfl (lv_at hl 0 rfl) ?_
      refine lv_bipush (v := 8) hx hb dX1_readNone_3 (by decide) ?_
      refine lv_icmp_ge (tgt := 24) hx hb dX1_readNone_5 (by decide) (fun c_5 => ?_) (fun c_5 => ?_)
      · replace hF := hF.trans (if_pos c_5)
        have i_5 : 8 ≤ x1_1.toInt := ti_le.mp c_5
        exact RT _ _ _ _ _ _ hh (by rw [hF]) (Or.inr (Or.inr (Or.inl ⟨rfl, rfl, dX1_readNone_24, rfl⟩)))
      · replace hF := hF.trans (if_neg c_5)
        have i_5 : x1_1.toInt < 8 := ti_nle c_5
        refine lv_aload_n hx hb dX1_readNone_8 rfl (lv_at hl 1 rfl) ?_
        refine g_get KX hh in_X1_readNone_X1 0 rfl rfl 1 (by decide) rfl (List.mem_of_getElem? (i := 1) rfl) dX1_readNone_9 ?_
        refine lv_iload_n hx hb dX1_readNone_12 rfl (lv_at hl 0 rfl) ?_
        refine g_aald KX hh 1 2 rfl rfl (vp_in_iff.mpr (by omega)) (v := .ref (h_c x1_1.toNatClampNeg)) rfl dX1_readNone_13 ?_
        refine lv_iconst (v := (-1)) hx hb dX1_readNone_14 (by decide) ?_
        refine g_put KX hh in_X1_readNone_X0 tyX0 tyX0_ok nmX0 (2 + x1_1.toNatClampNeg) (clk_WHo (tn_lt (k := x1_1) (n := 8) (by omega) (by omega))) rfl 5 (by decide) rfl rfl rfl (Nat.le_of_ble_eq_true rfl) (List.mem_of_getElem? (i := 2) rfl) (w' := (WHo cI cZ cC cH h_o h_a_clocks h_n_o h_n_a_clocks h_n_a_minutes h_n_a_dials h_c h_filled (ckU w_h_ck_2 x1_1.toNatClampNeg (w_h_ck_2 x1_1.toNatClampNeg 0) (w_h_ck_2 x1_1.toNatClampNeg 1) (w_h_ck_2 x1_1.toNatClampNeg 2) (w_h_ck_2 x1_1.toNatClampNeg 3) (w_h_ck_2 x1_1.toNatClampNeg 4) (-1)) h_n_many h_n_clocks h_n_minutes h_n_dials)) rfl (set_WHo (tn_lt (k := x1_1) (n := 8) (by omega) (by omega))) dX1_readNone_15 (fun H locs hh => ?_)
        refine lv_iinc (v := x1_1 + 1) (lv' := [(1, .int (x1_1 + 1)), (0, .ref h_o)]) hx hb dX1_readNone_18 hl (k := 0) rfl rfl (Nat.le_of_ble_eq_true rfl) rfl (fun ls hl => ?_)
        refine lv_goto (tgt := 2) hx hb dX1_readNone_21 (by decide) ?_
        have e_inc : (x1_1 + 1).toInt = x1_1.toInt + 1 := ti_inc (by omega)
        exact ih_2 (x1_1 + 1) (ckU w_h_ck_2 x1_1.toNatClampNeg (w_h_ck_2 x1_1.toNatClampNeg 0) (w_h_ck_2 x1_1.toNatClampNeg 1) (w_h_ck_2 x1_1.toNatClampNeg 2) (w_h_ck_2 x1_1.toNatClampNeg 3) (w_h_ck_2 x1_1.toNatClampNeg 4) (-1)) (by first | with_reducible assumption | omega | decide) (by first | with_reducible assumption | omega | decide) (by omega) hF _ _ _ hh (lv_sub hl [0, 1] rfl)
  exact L_2 9 0 h_ck (by first | with_reducible assumption | omega | decide) (by first | with_reducible assumption | omega | decide) (by first | omega | decide | (simp; done)) hF _ _ _ hh (lv_sub hl [0, 1] rfl)
