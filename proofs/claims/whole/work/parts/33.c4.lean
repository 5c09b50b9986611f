theorem clk_WHH {cI cZ cC cH : ClassId} {h_o h_a_clocks h_n_o h_n_a_clocks h_n_a_minutes h_n_a_dials g_o g_a_clocks g_n_o g_n_a_clocks g_n_a_minutes g_n_a_dials : Nat} {h_c : Nat → Nat} {g_c : Nat → Nat} {h_filled : Int32} {h_ck : Nat → Nat → Int32} {h_n_many : Int32} {h_n_clocks : Nat → Int32} {h_n_minutes : Nat → Int32} {h_n_dials : Nat → Int32} {g_filled : Int32} {g_ck : Nat → Nat → Int32} {g_n_many : Int32} {g_n_clocks : Nat → Int32} {g_n_minutes : Nat → Int32} {g_n_dials : Nat → Int32} {j : Nat} (h : j < 8) : (WHH cI cZ cC cH h_o h_a_clocks h_n_o h_n_a_clocks h_n_a_minutes h_n_a_dials g_o g_a_clocks g_n_o g_n_a_clocks g_n_a_minutes g_n_a_dials h_c g_c h_filled h_ck h_n_many h_n_clocks h_n_minutes h_n_dials g_filled g_ck g_n_many g_n_clocks g_n_minutes g_n_dials)[2 + j]? = some (h_c j, .inr (0, [.int (h_ck j 0), .int (h_ck j 1), .int (h_ck j 2), .int (h_ck j 3), .int (h_ck j 4), .int (h_ck j 5)])) := by
  match j, h with
  | 0, _ => rfl
  | 1, _ => rfl
  | 2, _ => rfl
  | 3, _ => rfl
  | 4, _ => rfl
  | 5, _ => rfl
  | 6, _ => rfl
  | 7, _ => rfl
theorem clkU_WHH {cI cZ cC cH : ClassId} {h_o h_a_clocks h_n_o h_n_a_clocks h_n_a_minutes h_n_a_dials g_o g_a_clocks g_n_o g_n_a_clocks g_n_a_minutes g_n_a_dials : Nat} {h_c : Nat → Nat} {g_c : Nat → Nat} {h_filled : Int32} {h_ck : Nat → Nat → Int32} {h_n_many : Int32} {h_n_clocks : Nat → Int32} {h_n_minutes : Nat → Int32} {h_n_dials : Nat → Int32} {g_filled : Int32} {g_ck : Nat → Nat → Int32} {g_n_many : Int32} {g_n_clocks : Nat → Int32} {g_n_minutes : Nat → Int32} {g_n_dials : Nat → Int32} {j : Nat} (h : j < 8) {a0 a1 a2 a3 a4 a5 : Int32} : (WHH cI cZ cC cH h_o h_a_clocks h_n_o h_n_a_clocks h_n_a_minutes h_n_a_dials g_o g_a_clocks g_n_o g_n_a_clocks g_n_a_minutes g_n_a_dials h_c g_c h_filled (ckU h_ck j a0 a1 a2 a3 a4 a5) h_n_many h_n_clocks h_n_minutes h_n_dials g_filled g_ck g_n_many g_n_clocks g_n_minutes g_n_dials)[2 + j]? = some (h_c j, .inr (0, [.int (a0), .int (a1), .int (a2), .int (a3), .int (a4), .int (a5)])) := by
  match j, h with
  | 0, _ => rfl
  | 1, _ => rfl
  | 2, _ => rfl
  | 3, _ => rfl
  | 4, _ => rfl
  | 5, _ => rfl
  | 6, _ => rfl
  | 7, _ => rfl
theorem set_WHH {cI cZ cC cH : ClassId} {h_o h_a_clocks h_n_o h_n_a_clocks h_n_a_minutes h_n_a_dials g_o g_a_clocks g_n_o g_n_a_clocks g_n_a_minutes g_n_a_dials : Nat} {h_c : Nat → Nat} {g_c : Nat → Nat} {h_filled : Int32} {h_ck : Nat → Nat → Int32} {h_n_many : Int32} {h_n_clocks : Nat → Int32} {h_n_minutes : Nat → Int32} {h_n_dials : Nat → Int32} {g_filled : Int32} {g_ck : Nat → Nat → Int32} {g_n_many : Int32} {g_n_clocks : Nat → Int32} {g_n_minutes : Nat → Int32} {g_n_dials : Nat → Int32} {j : Nat} (h : j < 8) {a0 a1 a2 a3 a4 a5 : Int32} : (WHH cI cZ cC cH h_o h_a_clocks h_n_o h_n_a_clocks h_n_a_minutes h_n_a_dials g_o g_a_clocks g_n_o g_n_a_clocks g_n_a_minutes g_n_a_dials h_c g_c h_filled h_ck h_n_many h_n_clocks h_n_minutes h_n_dials g_filled g_ck g_n_many g_n_clocks g_n_minutes g_n_dials).set (2 + j) (h_c j, .inr (0, [.int (a0), .int (a1), .int (a2), .int (a3), .int (a4), .int (a5)])) = (WHH cI cZ cC cH h_o h_a_clocks h_n_o h_n_a_clocks h_n_a_minutes h_n_a_dials g_o g_a_clocks g_n_o g_n_a_clocks g_n_a_minutes g_n_a_dials h_c g_c h_filled (ckU h_ck j a0 a1 a2 a3 a4 a5) h_n_many h_n_clocks h_n_minutes h_n_dials g_filled g_ck g_n_many g_n_clocks g_n_minutes g_n_dials) := by
  match j, h with
  | 0, _ => rfl
  | 1, _ => rfl
  | 2, _ => rfl
  | 3, _ => rfl
  | 4, _ => rfl
  | 5, _ => rfl
  | 6, _ => rfl
  | 7, _ => rfl
theorem clk_WHH_g {cI cZ cC cH : ClassId} {h_o h_a_clocks h_n_o h_n_a_clocks h_n_a_minutes h_n_a_dials g_o g_a_clocks g_n_o g_n_a_clocks g_n_a_minutes g_n_a_dials : Nat} {h_c : Nat → Nat} {g_c : Nat → Nat} {h_filled : Int32} {h_ck : Nat → Nat → Int32} {h_n_many : Int32} {h_n_clocks : Nat → Int32} {h_n_minutes : Nat → Int32} {h_n_dials : Nat → Int32} {g_filled : Int32} {g_ck : Nat → Nat → Int32} {g_n_many : Int32} {g_n_clocks : Nat → Int32} {g_n_minutes : Nat → Int32} {g_n_dials : Nat → Int32} {j : Nat} (h : j < 8) : (WHH cI cZ cC cH h_o h_a_clocks h_n_o h_n_a_clocks h_n_a_minutes h_n_a_dials g_o g_a_clocks g_n_o g_n_a_clocks g_n_a_minutes g_n_a_dials h_c g_c h_filled h_ck h_n_many h_n_clocks h_n_minutes h_n_dials g_filled g_ck g_n_many g_n_clocks g_n_minutes g_n_dials)[16 + j]? = some (g_c j, .inr (0, [.int (g_ck j 0), .int (g_ck j 1), .int (g_ck j 2), .int (g_ck j 3), .int (g_ck j 4), .int (g_ck j 5)])) := by
  match j, h with
  | 0, _ => rfl
  | 1, _ => rfl
  | 2, _ => rfl
  | 3, _ => rfl
  | 4, _ => rfl
  | 5, _ => rfl
  | 6, _ => rfl
  | 7, _ => rfl
theorem clkU_WHH_g {cI cZ cC cH : ClassId} {h_o h_a_clocks h_n_o h_n_a_clocks h_n_a_minutes h_n_a_dials g_o g_a_clocks g_n_o g_n_a_clocks g_n_a_minutes g_n_a_dials : Nat} {h_c : Nat → Nat} {g_c : Nat → Nat} {h_filled : Int32} {h_ck : Nat → Nat → Int32} {h_n_many : Int32} {h_n_clocks : Nat → Int32} {h_n_minutes : Nat → Int32} {h_n_dials : Nat → Int32} {g_filled : Int32} {g_ck : Nat → Nat → Int32} {g_n_many : Int32} {g_n_clocks : Nat → Int32} {g_n_minutes : Nat → Int32} {g_n_dials : Nat → Int32} {j : Nat} (h : j < 8) {a0 a1 a2 a3 a4 a5 : Int32} : (WHH cI cZ cC cH h_o h_a_clocks h_n_o h_n_a_clocks h_n_a_minutes h_n_a_dials g_o g_a_clocks g_n_o g_n_a_clocks g_n_a_minutes g_n_a_dials h_c g_c h_filled h_ck h_n_many h_n_clocks h_n_minutes h_n_dials g_filled (ckU g_ck j a0 a1 a2 a3 a4 a5) g_n_many g_n_clocks g_n_minutes g_n_dials)[16 + j]? = some (g_c j, .inr (0, [.int (a0), .int (a1), .int (a2), .int (a3), .int (a4), .int (a5)])) := by
  match j, h with
  | 0, _ => rfl
  | 1, _ => rfl
  | 2, _ => rfl
  | 3, _ => rfl
  | 4, _ => rfl
  | 5, _ => rfl
  | 6, _ => rfl
  | 7, _ => rfl
theorem set_WHH_g {cI cZ cC cH : ClassId} {h_o h_a_clocks h_n_o h_n_a_clocks h_n_a_minutes h_n_a_dials g_o g_a_clocks g_n_o g_n_a_clocks g_n_a_minutes g_n_a_dials : Nat} {h_c : Nat → Nat} {g_c : Nat → Nat} {h_filled : Int32} {h_ck : Nat → Nat → Int32} {h_n_many : Int32} {h_n_clocks : Nat → Int32} {h_n_minutes : Nat → Int32} {h_n_dials : Nat → Int32} {g_filled : Int32} {g_ck : Nat → Nat → Int32} {g_n_many : Int32} {g_n_clocks : Nat → Int32} {g_n_minutes : Nat → Int32} {g_n_dials : Nat → Int32} {j : Nat} (h : j < 8) {a0 a1 a2 a3 a4 a5 : Int32} : (WHH cI cZ cC cH h_o h_a_clocks h_n_o h_n_a_clocks h_n_a_minutes h_n_a_dials g_o g_a_clocks g_n_o g_n_a_clocks g_n_a_minutes g_n_a_dials h_c g_c h_filled h_ck h_n_many h_n_clocks h_n_minutes h_n_dials g_filled g_ck g_n_many g_n_clocks g_n_minutes g_n_dials).set (16 + j) (g_c j, .inr (0, [.int (a0), .int (a1), .int (a2), .int (a3), .int (a4), .int (a5)])) = (WHH cI cZ cC cH h_o h_a_clocks h_n_o h_n_a_clocks h_n_a_minutes h_n_a_dials g_o g_a_clocks g_n_o g_n_a_clocks g_n_a_minutes g_n_a_dials h_c g_c h_filled h_ck h_n_many h_n_clocks h_n_minutes h_n_dials g_filled (ckU g_ck j a0 a1 a2 a3 a4 a5) g_n_many g_n_clocks g_n_minutes g_n_dials) := by
  match j, h with
  | 0, _ => rfl
  | 1, _ => rfl
  | 2, _ => rfl
  | 3, _ => rfl
  | 4, _ => rfl
  | 5, _ => rfl
  | 6, _ => rfl
  | 7, _ => rfl
theorem clk_WHT {cI cZ cC cH : ClassId} {h_o h_a_clocks h_n_o h_n_a_clocks h_n_a_minutes h_n_a_dials t_o t_a_bytes t_a_rows : Nat} {h_c : Nat → Nat} {h_filled : Int32} {h_ck : Nat → Nat → Int32} {h_n_many : Int32} {h_n_clocks : Nat → Int32} {h_n_minutes : Nat → Int32} {h_n_dials : Nat → Int32} {t_length : Int32} {t_lineCount : Int32} {t_start : Int32} {t_end : Int32} {t_bytes : Nat → Int32} {t_rows : Nat → Int32} {j : Nat} (h : j < 8) : (WHT cI cZ cC cH h_o h_a_clocks h_n_o h_n_a_clocks h_n_a_minutes h_n_a_dials t_o t_a_bytes t_a_rows h_c h_filled h_ck h_n_many h_n_clocks h_n_minutes h_n_dials t_length t_lineCount t_start t_end t_bytes t_rows)[2 + j]? = some (h_c j, .inr (0, [.int (h_ck j 0), .int (h_ck j 1), .int (h_ck j 2), .int (h_ck j 3), .int (h_ck j 4), .int (h_ck j 5)])) := by
  match j, h with
  | 0, _ => rfl
  | 1, _ => rfl
  | 2, _ => rfl
  | 3, _ => rfl
  | 4, _ => rfl
  | 5, _ => rfl
  | 6, _ => rfl
  | 7, _ => rfl
theorem clkU_WHT {cI cZ cC cH : ClassId} {h_o h_a_clocks h_n_o h_n_a_clocks h_n_a_minutes h_n_a_dials t_o t_a_bytes t_a_rows : Nat} {h_c : Nat → Nat} {h_filled : Int32} {h_ck : Nat → Nat → Int32} {h_n_many : Int32} {h_n_clocks : Nat → Int32} {h_n_minutes : Nat → Int32} {h_n_dials : Nat → Int32} {t_length : Int32} {t_lineCount : Int32} {t_start : Int32} {t_end : Int32} {t_bytes : Nat → Int32} {t_rows : Nat → Int32} {j : Nat} (h : j < 8) {a0 a1 a2 a3 a4 a5 : Int32} : (WHT cI cZ cC cH h_o h_a_clocks h_n_o h_n_a_clocks h_n_a_minutes h_n_a_dials t_o t_a_bytes t_a_rows h_c h_filled (ckU h_ck j a0 a1 a2 a3 a4 a5) h_n_many h_n_clocks h_n_minutes h_n_dials t_length t_lineCount t_start t_end t_bytes t_rows)[2 + j]? = some (h_c j, .inr (0, [.int (a0), .int (a1), .int (a2), .int (a3), .int (a4), .int (a5)])) := by
  match j, h with
  | 0, _ => rfl
  | 1, _ => rfl
  | 2, _ => rfl
  | 3, _ => rfl
  | 4, _ => rfl
  | 5, _ => rfl
  | 6, _ => rfl
  | 7, _ => rfl
theorem set_WHT {cI cZ cC cH : ClassId} {h_o h_a_clocks h_n_o h_n_a_clocks h_n_a_minutes h_n_a_dials t_o t_a_bytes t_a_rows : Nat} {h_c : Nat → Nat} {h_filled : Int32} {h_ck : Nat → Nat → Int32} {h_n_many : Int32} {h_n_clocks : Nat → Int32} {h_n_minutes : Nat → Int32} {h_n_dials : Nat → Int32} {t_length : Int32} {t_lineCount : Int32} {t_start : Int32} {t_end : Int32} {t_bytes : Nat → Int32} {t_rows : Nat → Int32} {j : Nat} (h : j < 8) {a0 a1 a2 a3 a4 a5 : Int32} : (WHT cI cZ cC cH h_o h_a_clocks h_n_o h_n_a_clocks h_n_a_minutes h_n_a_dials t_o t_a_bytes t_a_rows h_c h_filled h_ck h_n_many h_n_clocks h_n_minutes h_n_dials t_length t_lineCount t_start t_end t_bytes t_rows).set (2 + j) (h_c j, .inr (0, [.int (a0), .int (a1), .int (a2), .int (a3), .int (a4), .int (a5)])) = (WHT cI cZ cC cH h_o h_a_clocks h_n_o h_n_a_clocks h_n_a_minutes h_n_a_dials t_o t_a_bytes t_a_rows h_c h_filled (ckU h_ck j a0 a1 a2 a3 a4 a5) h_n_many h_n_clocks h_n_minutes h_n_dials t_length t_lineCount t_start t_end t_bytes t_rows) := by
  match j, h with
  | 0, _ => rfl
  | 1, _ => rfl
  | 2, _ => rfl
  | 3, _ => rfl
  | 4, _ => rfl
  | 5, _ => rfl
  | 6, _ => rfl
  | 7, _ => rfl
def F_X1_copy_c37 (w_h_ck_2 : Nat → Nat → Int32) (r37_3 : Int32 × (Nat → Int32) × (Nat → Int32) × (Nat → Int32)) : (Nat → Nat → Int32) × Int32 × (Nat → Int32) × (Nat → Int32) × (Nat → Int32) := (w_h_ck_2, r37_3.1, r37_3.2.1, r37_3.2.2.1, r37_3.2.2.2)
def F_X1_copy_c20 (x2_1 : Int32) (w_h_ck_2 : Nat → Nat → Int32) (k_2 : Int32 → (Nat → Nat → Int32) → (Nat → Nat → Int32) × Int32 × (Nat → Int32) × (Nat → Int32) × (Nat → Int32)) (r20_4 : Int32 × Int32 × Int32 × Int32 × Int32 × Int32) : (Nat → Nat → Int32) × Int32 × (Nat → Int32) × (Nat → Int32) × (Nat → Int32) := (k_2 (x2_1 + 1) (ckU w_h_ck_2 x2_1.toNatClampNeg r20_4.1 r20_4.2.1 r20_4.2.2.1 r20_4.2.2.2.1 r20_4.2.2.2.2.1 r20_4.2.2.2.2.2))
def F_X1_copy_2 (h_n_clocks : Nat → Int32) (h_n_minutes : Nat → Int32) (h_n_dials : Nat → Int32) (g_ck : Nat → Nat → Int32) (g_n_many : Int32) (g_n_clocks : Nat → Int32) (g_n_minutes : Nat → Int32) (g_n_dials : Nat → Int32) : Nat → Int32 → (Nat → Nat → Int32) → (Nat → Nat → Int32) × Int32 × (Nat → Int32) × (Nat → Int32) × (Nat → Int32)
  | 0, _, _ => default
  | n + 1, x2_1, w_h_ck_2 => (if 8 ≤ x2_1 then (F_X1_copy_c37 w_h_ck_2 (F_X2_copy h_n_clocks h_n_minutes h_n_dials g_n_many g_n_clocks g_n_minutes g_n_dials)) else (F_X1_copy_c20 x2_1 w_h_ck_2 (F_X1_copy_2 h_n_clocks h_n_minutes h_n_dials g_ck g_n_many g_n_clocks g_n_minutes g_n_dials n) (F_X0_copy (g_ck x2_1.toNatClampNeg 0) (g_ck x2_1.toNatClampNeg 1) (g_ck x2_1.toNatClampNeg 2) (g_ck x2_1.toNatClampNeg 3) (g_ck x2_1.toNatClampNeg 4) (g_ck x2_1.toNatClampNeg 5))))
def F_X1_copy (h_ck : Nat → Nat → Int32) (h_n_clocks : Nat → Int32) (h_n_minutes : Nat → Int32) (h_n_dials : Nat → Int32) (g_ck : Nat → Nat → Int32) (g_n_many : Int32) (g_n_clocks : Nat → Int32) (g_n_minutes : Nat → Int32) (g_n_dials : Nat → Int32) : (Nat → Nat → Int32) × Int32 × (Nat → Int32) × (Nat → Int32) × (Nat → Int32) := (F_X1_copy_2 h_n_clocks h_n_minutes h_n_dials g_ck g_n_many g_n_clocks g_n_minutes g_n_dials 9 0 h_ck)
theorem in_X1_copy_X1 : ∀ x ∈ u_ws RX1 TX1 3, x ∈ wsX1_copy := by decide +kernel
set_option maxHeartbeats 2000000 in
set_option maxRecDepth 100000 in
theorem c_X1_copy (l : Launch) (D : va_G) (cI cZ cC cH : ClassId) (h_o h_a_clocks h_n_o h_n_a_clocks h_n_a_minutes h_n_a_dials g_o g_a_clocks g_n_o g_n_a_clocks g_n_a_minutes g_n_a_dials : Nat) (h_c : Nat → Nat) (g_c : Nat → Nat) (h_filled : Int32) (h_ck : Nat → Nat → Int32) (h_n_many : Int32) (h_n_clocks : Nat → Int32) (h_n_minutes : Nat → Int32) (h_n_dials : Nat → Int32) (g_filled : Int32) (g_ck : Nat → Nat → Int32) (g_n_many : Int32) (g_n_clocks : Nat → Int32) (g_n_minutes : Nat → Int32) (g_n_dials : Nat → Int32)   : MC l D (TY cI cZ cC cH) yX1_copy wsX1_copy 2 46 [.ref h_o, .ref g_o] (WHH cI cZ cC cH h_o h_a_clocks h_n_o h_n_a_clocks h_n_a_minutes h_n_a_dials g_o g_a_clocks g_n_o g_n_a_clocks g_n_a_minutes g_n_a_dials h_c g_c h_filled h_ck h_n_many h_n_clocks h_n_minutes h_n_dials g_filled g_ck g_n_many g_n_clocks g_n_minutes g_n_dials) (none) (WHH cI cZ cC cH h_o h_a_clocks h_n_o h_n_a_clocks h_n_a_minutes h_n_a_dials g_o g_a_clocks g_n_o g_n_a_clocks g_n_a_minutes g_n_a_dials h_c g_c h_filled (F_X1_copy h_ck h_n_clocks h_n_minutes h_n_dials g_ck g_n_many g_n_clocks g_n_minutes g_n_dials).1 (F_X1_copy h_ck h_n_clocks h_n_minutes h_n_dials g_ck g_n_many g_n_clocks g_n_minutes g_n_dials).2.1 (F_X1_copy h_ck h_n_clocks h_n_minutes h_n_dials g_ck g_n_many g_n_clocks g_n_minutes g_n_dials).2.2.1 (F_X1_copy h_ck h_n_clocks h_n_minutes h_n_dials g_ck g_n_many g_n_clocks g_n_minutes g_n_dials).2.2.2.1 (F_X1_copy h_ck h_n_clocks h_n_minutes h_n_dials g_ck g_n_many g_n_clocks g_n_minutes g_n_dials).2.2.2.2 g_filled g_ck g_n_many g_n_clocks g_n_minutes g_n_dials) := by
  obtain ⟨R, hF⟩ : ∃ R, R = F_X1_copy h_ck h_n_clocks h_n_minutes h_n_dials g_ck g_n_many g_n_clocks g_n_minutes g_n_dials := ⟨_, rfl⟩
  rw [← hF]
  refine MC.of (cc := cX1_copy) (maxL := 3) (ret := none) RX1 rfl (by decide +kernel) rfl (Nat.le_of_ble_eq_true rfl) ?_
  intro p e s m args below meth c A Q KX RT hh ls hl
  have z0 : (0 : Int32).toInt = 0 := rfl
  have z1 : (1 : Int32).toInt = 1 := rfl
  have zm : (-1 : Int32).toInt = -1 := rfl
  have hx := KX.1
  have hb := KX.2.1
  have hl : lv_has ls 3 [(0, .ref h_o), (1, .ref g_o)] := hl
  unfold F_X1_copy at hF
  refine lv_iconst (v := 0) hx hb dX1_copy_0 (by decide) ?_
  refine lv_istore_n (lv' := [(2, .int 0), (0, .ref h_o), (1, .ref g_o)]) hx hb dX1_copy_1 rfl hl (Nat.le_of_ble_eq_true rfl) rfl (fun ls hl => ?_)
  have L_2 : ∀ (n_2 : Nat) (x2_1 : Int32) (w_h_ck_2 : Nat → Nat → Int32) (i0_2 : 0 ≤ x2_1.toInt) (i1_2 : x2_1.toInt ≤ 8) (_ : (8 - x2_1.toInt).toNat < n_2) (_ : R = (F_X1_copy_2 h_n_clocks h_n_minutes h_n_dials g_ck g_n_many g_n_clocks g_n_minutes g_n_dials) n_2 x2_1 w_h_ck_2) (ls : Array Slot) (H : Heap) (locs : List Loc) (_ : HS D A s.heap (WHH cI cZ cC cH h_o h_a_clocks h_n_o h_n_a_clocks h_n_a_minutes h_n_a_dials g_o g_a_clocks g_n_o g_n_a_clocks g_n_a_minutes g_n_a_dials h_c g_c h_filled w_h_ck_2 h_n_many h_n_clocks h_n_minutes h_n_dials g_filled g_ck g_n_many g_n_clocks g_n_minutes g_n_dials) H locs) (_ : lv_has ls 3 [(2, .int x2_1), (0, .ref h_o), (1, .ref g_o)]), W p l e { frames := 2, cells := 0, slots := 0, locals := 46 } s m args below meth c H locs 0 0 Q (F0 m 2 ls []) := by
    intro n_2
    induction n_2 with
    | zero => intro x2_1 w_h_ck_2 i0_2 i1_2 hm; exact absurd hm (Nat.not_lt_zero _)
    | succ n_2 ih_2 =>
      intro x2_1 w_h_ck_2 i0_2 i1_2 hm_2 hF ls H locs hh hl
      rw [F_X1_copy_2.eq_2] at hF
      refine lv_iload_n hx hb dX1_copy_2 rfl (lv_at hl 0 rfl) ?_
      refine lv_bipush (v := 8) hx hb dX1_copy_3 (by decide) ?_
      refine lv_icmp_ge (tgt := 29) hx hb dX1_copy_5 (by decide) (fun c_5 => ?_) (fun c_5 => ?_)
      · replace hF := hF.trans (if_pos c_5)
        have i_5 : 8 ≤ x2_1.toInt := ti_le.mp c_5
        refine lv_aload_n hx hb dX1_copy_29 rfl (lv_at hl 1 rfl) ?_
        refine g_get KX hh in_X1_copy_X1 0 rfl rfl 2 (by decide) rfl (List.mem_of_getElem? (i := 2) rfl) dX1_copy_30 ?_
        refine lv_aload_n hx hb dX1_copy_33 rfl (lv_at hl 2 rfl) ?_
        refine g_get KX hh in_X1_copy_X1 14 rfl rfl 2 (by decide) rfl (List.mem_of_getElem? (i := 2) rfl) dX1_copy_34 ?_
        refine g_callV (As := [.ref g_n_o]) (rest := []) KX rfl ⟨Nat.le_of_ble_eq_true rfl, Nat.le_of_ble_eq_true rfl⟩ hh hl (c_X2_copy l D cI cZ cC cH h_n_o h_n_a_clocks h_n_a_minutes h_n_a_dials g_n_o g_n_a_clocks g_n_a_minutes g_n_a_dials h_n_many h_n_clocks h_n_minutes h_n_dials g_n_many g_n_clocks g_n_minutes g_n_dials  ) (JN.up (ws1 := (WHH cI cZ cC cH h_o h_a_clocks h_n_o h_n_a_clocks h_n_a_minutes h_n_a_dials g_o g_a_clocks g_n_o g_n_a_clocks g_n_a_minutes g_n_a_dials h_c g_c h_filled w_h_ck_2 ((F_X2_copy h_n_clocks h_n_minutes h_n_dials g_n_many g_n_clocks g_n_minutes g_n_dials).1) ((F_X2_copy h_n_clocks h_n_minutes h_n_dials g_n_many g_n_clocks g_n_minutes g_n_dials).2.1) ((F_X2_copy h_n_clocks h_n_minutes h_n_dials g_n_many g_n_clocks g_n_minutes g_n_dials).2.2.1) ((F_X2_copy h_n_clocks h_n_minutes h_n_dials g_n_many g_n_clocks g_n_minutes g_n_dials).2.2.2) g_filled g_ck g_n_many g_n_clocks g_n_minutes g_n_dials)) [10, 11, 12, 13, 24, 25, 26, 27] rfl (by decide +kernel) rfl rfl rfl) 1 gX1_copy_X2_copy rfl (by decide +kernel) ⟨Nat.le_of_ble_eq_true rfl, Nat.le_of_ble_eq_true rfl⟩ 10 2 rfl rfl rfl rfl rfl (Nat.le_of_ble_eq_true rfl) dX1_copy_37 (fun H locs hh => ?_)
        refine W.eq (g2 := F0 m 40 ls []) rfl ?_
        generalize q_37 : F_X2_copy h_n_clocks h_n_minutes h_n_dials g_n_many g_n_clocks g_n_minutes g_n_dials = r37_3 at hh hF ⊢
        unfold F_X1_copy_c37 at hF
        exact RT _ _ _ _ _ _ hh (by rw [hF]) (Or.inr (Or.inr (Or.inl ⟨rfl, rfl, dX1_copy_40, rfl⟩)))
      · replace hF := hF.trans (if_neg c_5)
        have i_5 : x2_1.toInt < 8 := ti_nle c_5
        refine lv_aload_n hx hb dX1_copy_8 rfl (lv_at hl 1 rfl) ?_
        refine g_get KX hh in_X1_copy_X1 0 rfl rfl 1 (by decide) rfl (List.mem_of_getElem? (i := 1) rfl) dX1_copy_9 ?_
        refine lv_iload_n hx hb dX1_copy_12 rfl (lv_at hl 0 rfl) ?_
        refine g_aald KX hh 1 2 rfl rfl (vp_in_iff.mpr (by omega)) (v := .ref (h_c x2_1.toNatClampNeg)) rfl dX1_copy_13 ?_
        refine lv_aload_n hx hb dX1_copy_14 rfl (lv_at hl 2 rfl) ?_
        refine g_get KX hh in_X1_copy_X1 14 rfl rfl 1 (by decide) rfl (List.mem_of_getElem? (i := 1) rfl) dX1_copy_15 ?_
        refine lv_iload_n hx hb dX1_copy_18 rfl (lv_at hl 0 rfl) ?_
        refine g_aald KX hh 15 2 rfl rfl (vp_in_iff.mpr (by omega)) (v := .ref (g_c x2_1.toNatClampNeg)) rfl dX1_copy_19 ?_
        refine g_callV (As := [.ref (g_c x2_1.toNatClampNeg)]) (rest := []) KX rfl ⟨Nat.le_of_ble_eq_true rfl, Nat.le_of_ble_eq_true rfl⟩ hh hl (c_X0_copy l D cI cZ cC cH (h_c x2_1.toNatClampNeg) (g_c x2_1.toNatClampNeg) (w_h_ck_2 x2_1.toNatClampNeg 0) (w_h_ck_2 x2_1.toNatClampNeg 1) (w_h_ck_2 x2_1.toNatClampNeg 2) (w_h_ck_2 x2_1.toNatClampNeg 3) (w_h_ck_2 x2_1.toNatClampNeg 4) (w_h_ck_2 x2_1.toNatClampNeg 5) (g_ck x2_1.toNatClampNeg 0) (g_ck x2_1.toNatClampNeg 1) (g_ck x2_1.toNatClampNeg 2) (g_ck x2_1.toNatClampNeg 3) (g_ck x2_1.toNatClampNeg 4) (g_ck x2_1.toNatClampNeg 5)  ) (JN.upf (ws1 := (WHH cI cZ cC cH h_o h_a_clocks h_n_o h_n_a_clocks h_n_a_minutes h_n_a_dials g_o g_a_clocks g_n_o g_n_a_clocks g_n_a_minutes g_n_a_dials h_c g_c h_filled (ckU w_h_ck_2 x2_1.toNatClampNeg ((F_X0_copy (g_ck x2_1.toNatClampNeg 0) (g_ck x2_1.toNatClampNeg 1) (g_ck x2_1.toNatClampNeg 2) (g_ck x2_1.toNatClampNeg 3) (g_ck x2_1.toNatClampNeg 4) (g_ck x2_1.toNatClampNeg 5)).1) ((F_X0_copy (g_ck x2_1.toNatClampNeg 0) (g_ck x2_1.toNatClampNeg 1) (g_ck x2_1.toNatClampNeg 2) (g_ck x2_1.toNatClampNeg 3) (g_ck x2_1.toNatClampNeg 4) (g_ck x2_1.toNatClampNeg 5)).2.1) ((F_X0_copy (g_ck x2_1.toNatClampNeg 0) (g_ck x2_1.toNatClampNeg 1) (g_ck x2_1.toNatClampNeg 2) (g_ck x2_1.toNatClampNeg 3) (g_ck x2_1.toNatClampNeg 4) (g_ck x2_1.toNatClampNeg 5)).2.2.1) ((F_X0_copy (g_ck x2_1.toNatClampNeg 0) (g_ck x2_1.toNatClampNeg 1) (g_ck x2_1.toNatClampNeg 2) (g_ck x2_1.toNatClampNeg 3) (g_ck x2_1.toNatClampNeg 4) (g_ck x2_1.toNatClampNeg 5)).2.2.2.1) ((F_X0_copy (g_ck x2_1.toNatClampNeg 0) (g_ck x2_1.toNatClampNeg 1) (g_ck x2_1.toNatClampNeg 2) (g_ck x2_1.toNatClampNeg 3) (g_ck x2_1.toNatClampNeg 4) (g_ck x2_1.toNatClampNeg 5)).2.2.2.2.1) ((F_X0_copy (g_ck x2_1.toNatClampNeg 0) (g_ck x2_1.toNatClampNeg 1) (g_ck x2_1.toNatClampNeg 2) (g_ck x2_1.toNatClampNeg 3) (g_ck x2_1.toNatClampNeg 4) (g_ck x2_1.toNatClampNeg 5)).2.2.2.2.2)) h_n_many h_n_clocks h_n_minutes h_n_dials g_filled g_ck g_n_many g_n_clocks g_n_minutes g_n_dials)) [2 + x2_1.toNatClampNeg, 16 + x2_1.toNatClampNeg] (by first | (simp only [List.map_cons, List.map_nil, clk_WHH (tn_lt (k := x2_1) (n := 8) (by omega) (by omega)), clk_WHH_g (tn_lt (k := x2_1) (n := 8) (by omega) (by omega))]; done) | (simp only [List.map_cons, List.map_nil, clk_WHH (tn_lt (k := x2_1) (n := 8) (by omega) (by omega)), clk_WHH_g (tn_lt (k := x2_1) (n := 8) (by omega) (by omega))]; rfl)) (by simp [va_nd]) rfl (by first | (simp only [List.map_cons, List.map_nil, clkU_WHH (tn_lt (k := x2_1) (n := 8) (by omega) (by omega)), clk_WHH_g (tn_lt (k := x2_1) (n := 8) (by omega) (by omega))]; done) | (simp only [List.map_cons, List.map_nil, clkU_WHH (tn_lt (k := x2_1) (n := 8) (by omega) (by omega)), clk_WHH_g (tn_lt (k := x2_1) (n := 8) (by omega) (by omega))]; rfl)) (set_WHH (tn_lt (k := x2_1) (n := 8) (by omega) (by omega))) (by simp)) 1 gX1_copy_X0_copy rfl (by decide +kernel) ⟨Nat.le_of_ble_eq_true rfl, Nat.le_of_ble_eq_true rfl⟩ (2 + x2_1.toNatClampNeg) 0 rfl rfl (clk_WHH (tn_lt (k := x2_1) (n := 8) (by omega) (by omega))) rfl rfl (Nat.le_of_ble_eq_true rfl) dX1_copy_20 (fun H locs hh => ?_)
        refine W.eq (g2 := F0 m 23 ls []) rfl ?_
        generalize q_20 : F_X0_copy (g_ck x2_1.toNatClampNeg 0) (g_ck x2_1.toNatClampNeg 1) (g_ck x2_1.toNatClampNeg 2) (g_ck x2_1.toNatClampNeg 3) (g_ck x2_1.toNatClampNeg 4) (g_ck x2_1.toNatClampNeg 5) = r20_4 at hh hF ⊢
        unfold F_X1_copy_c20 at hF
        refine lv_iinc (v := x2_1 + 1) (lv' := [(2, .int (x2_1 + 1)), (0, .ref h_o), (1, .ref g_o)]) hx hb dX1_copy_23 hl (k := 0) rfl rfl (Nat.le_of_ble_eq_true rfl) rfl (fun ls hl => ?_)
        refine lv_goto (tgt := 2) hx hb dX1_copy_26 (by decide) ?_
        have e_inc : (x2_1 + 1).toInt = x2_1.toInt + 1 := ti_inc (by omega)
        exact ih_2 (x2_1 + 1) (ckU w_h_ck_2 x2_1.toNatClampNeg r20_4.1 r20_4.2.1 r20_4.2.2.1 r20_4.2.2.2.1 r20_4.2.2.2.2.1 r20_4.2.2.2.2.2) (by first | with_reducible assumption | omega | decide) (by first | with_reducible assumption | omega | decide) (by omega) hF _ _ _ hh (lv_sub hl [0, 1, 2] rfl)
  exact L_2 9 0 h_ck (by first | with_reducible assumption | omega | decide) (by first | with_reducible assumption | omega | decide) (by first | omega | decide | (simp; done)) hF _ _ _ hh (lv_sub hl [0, 1, 2] rfl)
def F_X1_heed_c146 (h_ck : Nat → Nat → Int32) (x4_2 : Int32) (r146_3 : Int32 × Int32 × Int32 × Int32 × Int32 × Int32) : (Nat → Nat → Int32) := ckU h_ck x4_2.toNatClampNeg r146_3.1 r146_3.2.1 r146_3.2.2.1 r146_3.2.2.2.1 r146_3.2.2.2.2.1 r146_3.2.2.2.2.2
def F_X1_heed_c99 (h_ck : Nat → Nat → Int32) (x4_2 : Int32) (r99_4 : Int32 × Int32 × Int32 × Int32 × Int32 × Int32) : (Nat → Nat → Int32) := ckU h_ck x4_2.toNatClampNeg r99_4.1 r99_4.2.1 r99_4.2.2.1 r99_4.2.2.2.1 r99_4.2.2.2.2.1 r99_4.2.2.2.2.2
def F_X1_heed_c76 (h_ck : Nat → Nat → Int32) (x4_2 : Int32) (r76_5 : Int32 × Int32 × Int32 × Int32 × Int32 × Int32) : (Nat → Nat → Int32) := ckU h_ck x4_2.toNatClampNeg r76_5.1 r76_5.2.1 r76_5.2.2.1 r76_5.2.2.2.1 r76_5.2.2.2.2.1 r76_5.2.2.2.2.2
def F_X1_heed_25 (h_ck : Nat → Nat → Int32) (t_rows : Nat → Int32) (x2 : Int32) (x3_1 : Int32) (x4_2 : Int32) : (Nat → Nat → Int32) := (if (F_X6_isBelow x4_2 8) = 0 then h_ck else (if x3_1 = 4 then ckU h_ck x4_2.toNatClampNeg (h_ck x4_2.toNatClampNeg 0) (h_ck x4_2.toNatClampNeg 1) (h_ck x4_2.toNatClampNeg 2) (h_ck x4_2.toNatClampNeg 3) (h_ck x4_2.toNatClampNeg 4) (F_X5_number t_rows x2 2) else (if x3_1 = 3 then (F_X1_heed_c76 h_ck x4_2 (F_X0_tell (-1) 0 0 0 0)) else (if x3_1 = 2 then (F_X1_heed_c99 h_ck x4_2 (F_X0_tell 2 0 (F_X5_number t_rows x2 2) 0 0)) else (F_X1_heed_c146 h_ck x4_2 (F_X0_tell x3_1 (F_X5_number t_rows x2 2) (F_X5_number t_rows x2 3) ((F_X5_number t_rows x2 4) - 120) ((F_X5_number t_rows x2 5) - 120)))))))
def F_X1_heed_c13  (r13_6 : (Nat → Nat → Int32)) : (Nat → Nat → Int32) := r13_6
def F_X1_heed_7 (h_ck : Nat → Nat → Int32) (t_rows : Nat → Int32) (x2 : Int32) (x3_1 : Int32) : (Nat → Nat → Int32) := (if x3_1 = 5 then (F_X1_heed_c13 (F_X1_readNone h_ck)) else (F_X1_heed_25 h_ck t_rows x2 x3_1 (F_X5_number t_rows x2 1)))
def F_X1_heed (h_ck : Nat → Nat → Int32) (t_rows : Nat → Int32) (x2 : Int32) : (Nat → Nat → Int32) := (F_X1_heed_7 h_ck t_rows x2 (F_X5_number t_rows x2 0))
theorem in_X1_heed_X1 : ∀ x ∈ u_ws RX1 TX1 3, x ∈ wsX1_heed := by decide +kernel
theorem in_X1_heed_X0 : ∀ x ∈ u_ws RX0 TX0 6, x ∈ wsX1_heed := by decide +kernel
set_option maxHeartbeats 2000000 in
set_option maxRecDepth 100000 in
theorem c_X1_heed (l : Launch) (D : va_G) (cI cZ cC cH : ClassId) (h_o h_a_clocks h_n_o h_n_a_clocks h_n_a_minutes h_n_a_dials t_o t_a_bytes t_a_rows : Nat) (h_c : Nat → Nat) (h_filled : Int32) (h_ck : Nat → Nat → Int32) (h_n_many : Int32) (h_n_clocks : Nat → Int32) (h_n_minutes : Nat → Int32) (h_n_dials : Nat → Int32) (t_length : Int32) (t_lineCount : Int32) (t_start : Int32) (t_end : Int32) (t_bytes : Nat → Int32) (t_rows : Nat → Int32) (x2 : Int32)  : MC l D (TY cI cZ cC cH) yX1_heed wsX1_heed 2 43 [.ref h_o, .ref t_o, .int x2] (WHT cI cZ cC cH h_o h_a_clocks h_n_o h_n_a_clocks h_n_a_minutes h_n_a_dials t_o t_a_bytes t_a_rows h_c h_filled h_ck h_n_many h_n_clocks h_n_minutes h_n_dials t_length t_lineCount t_start t_end t_bytes t_rows) (none) (WHT cI cZ cC cH h_o h_a_clocks h_n_o h_n_a_clocks h_n_a_minutes h_n_a_dials t_o t_a_bytes t_a_rows h_c h_filled (F_X1_heed h_ck t_rows x2) h_n_many h_n_clocks h_n_minutes h_n_dials t_length t_lineCount t_start t_end t_bytes t_rows) := by
  obtain ⟨R, hF⟩ : ∃ R, R = F_X1_heed h_ck t_rows x2 := ⟨_, rfl⟩
  rw [← hF]
  refine MC.of (cc := cX1_heed) (maxL := 8) (ret := none) RX1 rfl (by decide +kernel) rfl (Nat.le_of_ble_eq_true rfl) ?_
  intro p e s m args below meth c A Q KX RT hh ls hl
  have z0 : (0 : Int32).toInt = 0 := rfl
  have z1 : (1 : Int32).toInt = 1 := rfl
  have zm : (-1 : Int32).toInt = -1 := rfl
  have hx := KX.1
  have hb := KX.2.1
  have hl : lv_has ls 8 [(0, .ref h_o), (1, .ref t_o), (2, .int x2)] := hl
  unfold F_X1_heed at hF
  refine lv_aload_n hx hb dX1_heed_0 rfl (lv_at hl 1 rfl) ?_
  refine lv_iload_n hx hb dX1_heed_1 rfl (lv_at hl 2 rfl) ?_
  refine lv_iconst (v := 0) hx hb dX1_heed_2 (by decide) ?_
  refine g_callV (As := [.int x2, .int 0]) (rest := []) KX rfl ⟨Nat.le_of_ble_eq_true rfl, Nat.le_of_ble_eq_true rfl⟩ hh hl (c_X5_number l D cI cZ cC cH t_o t_a_bytes t_a_rows t_length t_lineCount t_start t_end t_bytes t_rows x2 0 ) (JN.ro [14, 15, 16] rfl rfl) 2 gX1_heed_X5_number rfl (by decide +kernel) ⟨Nat.le_of_ble_eq_true rfl, Nat.le_of_ble_eq_true rfl⟩ 14 5 rfl rfl rfl rfl rfl (Nat.le_of_ble_eq_true rfl) dX1_heed_3 (fun H locs hh => ?_)
  refine W.eq (g2 := F0 m 6 ls [.int (F_X5_number t_rows x2 0)]) rfl ?_
  refine lv_istore_n (lv' := [(3, .int (F_X5_number t_rows x2 0)), (0, .ref h_o), (1, .ref t_o), (2, .int x2)]) hx hb dX1_heed_6 rfl hl (Nat.le_of_ble_eq_true rfl) rfl (fun ls hl => ?_)
  have K_7 : ∀ (x3_1 : Int32) (_ : R = (F_X1_heed_7 h_ck t_rows x2) x3_1) (ls : Array Slot) (H : Heap) (locs : List Loc) (_ : HS D A s.heap (WHT cI cZ cC cH h_o h_a_clocks h_n_o h_n_a_clocks h_n_a_minutes h_n_a_dials t_o t_a_bytes t_a_rows h_c h_filled h_ck h_n_many h_n_clocks h_n_minutes h_n_dials t_length t_lineCount t_start t_end t_bytes t_rows) H locs) (_ : lv_has ls 8 [(3, .int x3_1), (0, .ref h_o), (1, .ref t_o), (2, .int x2)]), W p l e { frames := 2, cells := 0, slots := 0, locals := 43 } s m args below meth c H locs 0 0 Q (F0 m 7 ls []) := by
    intro x3_1 hF ls H locs hh hl
    unfold F_X1_heed_7 at hF
    refine lv_iload_n hx hb dX1_heed_7 rfl (lv_at hl 0 rfl) ?_
    refine lv_iconst (v := 5) hx hb dX1_heed_8 (by decide) ?_
    refine lv_icmp_ne (tgt := 17) hx hb dX1_heed_9 (by decide) (fun c_9 => ?_) (fun c_9 => ?_)
    · replace hF := hF.trans (if_neg c_9)
      have i_9 : ¬ x3_1.toInt = 5 := ti_ne c_9
      refine lv_aload_n hx hb dX1_heed_17 rfl (lv_at hl 2 rfl) ?_
      refine lv_iload_n hx hb dX1_heed_18 rfl (lv_at hl 3 rfl) ?_
      refine lv_iconst (v := 1) hx hb dX1_heed_19 (by decide) ?_
      refine g_callV (As := [.int x2, .int 1]) (rest := []) KX rfl ⟨Nat.le_of_ble_eq_true rfl, Nat.le_of_ble_eq_true rfl⟩ hh hl (c_X5_number l D cI cZ cC cH t_o t_a_bytes t_a_rows t_length t_lineCount t_start t_end t_bytes t_rows x2 1 ) (JN.ro [14, 15, 16] rfl rfl) 2 gX1_heed_X5_number rfl (by decide +kernel) ⟨Nat.le_of_ble_eq_true rfl, Nat.le_of_ble_eq_true rfl⟩ 14 5 rfl rfl rfl rfl rfl (Nat.le_of_ble_eq_true rfl) dX1_heed_20 (fun H locs hh => ?_)
      refine W.eq (g2 := F0 m 23 ls [.int (F_X5_number t_rows x2 1)]) rfl ?_
      refine lv_istore (lv' := [(4, .int (F_X5_number t_rows x2 1)), (3, .int x3_1), (0, .ref h_o), (1, .ref t_o), (2, .int x2)]) hx hb dX1_heed_23 hl (Nat.le_of_ble_eq_true rfl) rfl (fun ls hl => ?_)
      have K_25 : ∀ (x4_2 : Int32) (_ : R = (F_X1_heed_25 h_ck t_rows x2 x3_1) x4_2) (ls : Array Slot) (H : Heap) (locs : List Loc) (_ : HS D A s.heap (WHT cI cZ cC cH h_o h_a_clocks h_n_o h_n_a_clocks h_n_a_minutes h_n_a_dials t_o t_a_bytes t_a_rows h_c h_filled h_ck h_n_many h_n_clocks h_n_minutes h_n_dials t_length t_lineCount t_start t_end t_bytes t_rows) H locs) (_ : lv_has ls 8 [(4, .int x4_2), (3, .int x3_1), (0, .ref h_o), (1, .ref t_o), (2, .int x2)]), W p l e { frames := 2, cells := 0, slots := 0, locals := 43 } s m args below meth c H locs 0 0 Q (F0 m 25 ls []) := by
        intro x4_2 hF ls H locs hh hl
        unfold F_X1_heed_25 at hF
        refine lv_iload hx hb dX1_heed_25 (lv_at hl 0 rfl) ?_
        refine lv_bipush (v := 8) hx hb dX1_heed_27 (by decide) ?_
        refine g_callN (host := "WrongClocks") (As := [.int x4_2, .int 8]) (rest := []) KX rfl ⟨Nat.le_of_ble_eq_true rfl, Nat.le_of_ble_eq_true rfl⟩ hh hl (c_X6_isBelow l D cI cZ cC cH  x4_2 8 ) JN.no 2 gX1_heed_X6_isBelow_n36 rfl (by decide +kernel) (List.mem_of_getElem? (i := 10) rfl) (List.mem_of_getElem? (i := 9) rfl) (by decide +kernel) ⟨Nat.le_of_ble_eq_true rfl, Nat.le_of_ble_eq_true rfl⟩ rfl rfl (Nat.le_of_ble_eq_true rfl) dX1_heed_29 (fun H locs hh => ?_)
        refine W.eq (g2 := F0 m 32 ls [.int (F_X6_isBelow x4_2 8)]) rfl ?_
        refine lv_if_ne (tgt := 36) hx hb dX1_heed_32 (by decide) (fun c_32 => ?_) (fun c_32 => ?_)
        · replace hF := hF.trans (if_neg c_32)
          obtain ⟨k0_32, k1_32⟩ : (0 : Int) ≤ x4_2.toInt ∧ x4_2.toInt < 8 := X6_isBelow_in c_32
          refine lv_aload_n hx hb dX1_heed_36 rfl (lv_at hl 2 rfl) ?_
          refine g_get KX hh in_X1_heed_X1 0 rfl rfl 1 (by decide) rfl (List.mem_of_getElem? (i := 1) rfl) dX1_heed_37 ?_
          refine lv_iload hx hb dX1_heed_40 (lv_at hl 0 rfl) ?_
          refine g_aald KX hh 1 2 rfl rfl (vp_in_iff.mpr (by omega)) (v := .ref (h_c x4_2.toNatClampNeg)) rfl dX1_heed_42 ?_
          refine lv_astore (lv' := [(5, .ref (h_c x4_2.toNatClampNeg)), (4, .int x4_2), (3, .int x3_1), (0, .ref h_o), (1, .ref t_o), (2, .int x2)]) hx hb dX1_heed_43 hl (Nat.le_of_ble_eq_true rfl) rfl (fun ls hl => ?_)
          refine lv_iload_n hx hb dX1_heed_45 rfl (lv_at hl 2 rfl) ?_
          refine lv_iconst (v := 4) hx hb dX1_heed_46 (by decide) ?_
          refine lv_icmp_ne (tgt := 64) hx hb dX1_heed_47 (by decide) (fun c_47 => ?_) (fun c_47 => ?_)
          · replace hF := hF.trans (if_neg c_47)
            have i_47 : ¬ x3_1.toInt = 4 := ti_ne c_47
            refine lv_iload_n hx hb dX1_heed_64 rfl (lv_at hl 2 rfl) ?_
            refine lv_iconst (v := 3) hx hb dX1_heed_65 (by decide) ?_
            refine lv_icmp_ne (tgt := 82) hx hb dX1_heed_66 (by decide) (fun c_66 => ?_) (fun c_66 => ?_)
            · replace hF := hF.trans (if_neg c_66)
              have i_66 : ¬ x3_1.toInt = 3 := ti_ne c_66
              refine lv_iload_n hx hb dX1_heed_82 rfl (lv_at hl 2 rfl) ?_
              refine lv_iconst (v := 2) hx hb dX1_heed_83 (by decide) ?_
              refine lv_icmp_ne (tgt := 105) hx hb dX1_heed_84 (by decide) (fun c_84 => ?_) (fun c_84 => ?_)
              · replace hF := hF.trans (if_neg c_84)
                have i_84 : ¬ x3_1.toInt = 2 := ti_ne c_84
                refine lv_aload_n hx hb dX1_heed_105 rfl (lv_at hl 4 rfl) ?_
                refine lv_iload_n hx hb dX1_heed_106 rfl (lv_at hl 5 rfl) ?_
                refine lv_iconst (v := 4) hx hb dX1_heed_107 (by decide) ?_
                refine g_callV (As := [.int x2, .int 4]) (rest := []) KX rfl ⟨Nat.le_of_ble_eq_true rfl, Nat.le_of_ble_eq_true rfl⟩ hh hl (c_X5_number l D cI cZ cC cH t_o t_a_bytes t_a_rows t_length t_lineCount t_start t_end t_bytes t_rows x2 4 ) (JN.ro [14, 15, 16] rfl rfl) 2 gX1_heed_X5_number rfl (by decide +kernel) ⟨Nat.le_of_ble_eq_true rfl, Nat.le_of_ble_eq_true rfl⟩ 14 5 rfl rfl rfl rfl rfl (Nat.le_of_ble_eq_true rfl) dX1_heed_108 (fun H locs hh => ?_)
                refine W.eq (g2 := F0 m 111 ls [.int (F_X5_number t_rows x2 4)]) rfl ?_
                refine lv_bipush (v := 120) hx hb dX1_heed_111 (by decide) ?_
                refine lv_isub hx hb dX1_heed_113 ?_
                refine lv_istore (lv' := [(6, .int ((F_X5_number t_rows x2 4) - 120)), (5, .ref (h_c x4_2.toNatClampNeg)), (4, .int x4_2), (3, .int x3_1), (0, .ref h_o), (1, .ref t_o), (2, .int x2)]) hx hb dX1_heed_114 hl (Nat.le_of_ble_eq_true rfl) rfl (fun ls hl => ?_)
                refine lv_aload_n hx hb dX1_heed_116 rfl (lv_at hl 5 rfl) ?_
                refine lv_iload_n hx hb dX1_heed_117 rfl (lv_at hl 6 rfl) ?_
                refine lv_iconst (v := 5) hx hb dX1_heed_118 (by decide) ?_
                refine g_callV (As := [.int x2, .int 5]) (rest := []) KX rfl ⟨Nat.le_of_ble_eq_true rfl, Nat.le_of_ble_eq_true rfl⟩ hh hl (c_X5_number l D cI cZ cC cH t_o t_a_bytes t_a_rows t_length t_lineCount t_start t_end t_bytes t_rows x2 5 ) (JN.ro [14, 15, 16] rfl rfl) 2 gX1_heed_X5_number rfl (by decide +kernel) ⟨Nat.le_of_ble_eq_true rfl, Nat.le_of_ble_eq_true rfl⟩ 14 5 rfl rfl rfl rfl rfl (Nat.le_of_ble_eq_true rfl) dX1_heed_119 (fun H locs hh => ?_)
                refine W.eq (g2 := F0 m 122 ls [.int (F_X5_number t_rows x2 5)]) rfl ?_
                refine lv_bipush (v := 120) hx hb dX1_heed_122 (by decide) ?_
                refine lv_isub hx hb dX1_heed_124 ?_
                refine lv_istore (lv' := [(7, .int ((F_X5_number t_rows x2 5) - 120)), (6, .int ((F_X5_number t_rows x2 4) - 120)), (5, .ref (h_c x4_2.toNatClampNeg)), (4, .int x4_2), (3, .int x3_1), (0, .ref h_o), (1, .ref t_o), (2, .int x2)]) hx hb dX1_heed_125 hl (Nat.le_of_ble_eq_true rfl) rfl (fun ls hl => ?_)
                refine lv_aload hx hb dX1_heed_127 (lv_at hl 2 rfl) ?_
                refine lv_iload_n hx hb dX1_heed_129 rfl (lv_at hl 4 rfl) ?_
                refine lv_aload_n hx hb dX1_heed_130 rfl (lv_at hl 6 rfl) ?_
                refine lv_iload_n hx hb dX1_heed_131 rfl (lv_at hl 7 rfl) ?_
                refine lv_iconst (v := 2) hx hb dX1_heed_132 (by decide) ?_
                refine g_callV (As := [.int x2, .int 2]) (rest := [.int x3_1, .ref (h_c x4_2.toNatClampNeg)]) KX rfl ⟨Nat.le_of_ble_eq_true rfl, Nat.le_of_ble_eq_true rfl⟩ hh hl (c_X5_number l D cI cZ cC cH t_o t_a_bytes t_a_rows t_length t_lineCount t_start t_end t_bytes t_rows x2 2 ) (JN.ro [14, 15, 16] rfl rfl) 2 gX1_heed_X5_number rfl (by decide +kernel) ⟨Nat.le_of_ble_eq_true rfl, Nat.le_of_ble_eq_true rfl⟩ 14 5 rfl rfl rfl rfl rfl (Nat.le_of_ble_eq_true rfl) dX1_heed_133 (fun H locs hh => ?_)
                refine W.eq (g2 := F0 m 136 ls [.int (F_X5_number t_rows x2 2), .int x3_1, .ref (h_c x4_2.toNatClampNeg)]) rfl ?_
                refine lv_aload_n hx hb dX1_heed_136 rfl (lv_at hl 6 rfl) ?_
                refine lv_iload_n hx hb dX1_heed_137 rfl (lv_at hl 7 rfl) ?_
                refine lv_iconst (v := 3) hx hb dX1_heed_138 (by decide) ?_
                refine g_callV (As := [.int x2, .int 3]) (rest := [.int (F_X5_number t_rows x2 2), .int x3_1, .ref (h_c x4_2.toNatClampNeg)]) KX rfl ⟨Nat.le_of_ble_eq_true rfl, Nat.le_of_ble_eq_true rfl⟩ hh hl (c_X5_number l D cI cZ cC cH t_o t_a_bytes t_a_rows t_length t_lineCount t_start t_end t_bytes t_rows x2 3 ) (JN.ro [14, 15, 16] rfl rfl) 2 gX1_heed_X5_number rfl (by decide +kernel) ⟨Nat.le_of_ble_eq_true rfl, Nat.le_of_ble_eq_true rfl⟩ 14 5 rfl rfl rfl rfl rfl (Nat.le_of_ble_eq_true rfl) dX1_heed_139 (fun H locs hh => ?_)
                refine W.eq (g2 := F0 m 142 ls [.int (F_X5_number t_rows x2 3), .int (F_X5_number t_rows x2 2), .int x3_1, .ref (h_c x4_2.toNatClampNeg)]) rfl ?_
                refine lv_iload hx hb dX1_heed_142 (lv_at hl 1 rfl) ?_
                refine lv_iload hx hb dX1_heed_144 (lv_at hl 0 rfl) ?_
                refine g_callV (As := [.int x3_1, .int (F_X5_number t_rows x2 2), .int (F_X5_number t_rows x2 3), .int ((F_X5_number t_rows x2 4) - 120), .int ((F_X5_number t_rows x2 5) - 120)]) (rest := []) KX rfl ⟨Nat.le_of_ble_eq_true rfl, Nat.le_of_ble_eq_true rfl⟩ hh hl (c_X0_tell l D cI cZ cC cH (h_c x4_2.toNatClampNeg) (h_ck x4_2.toNatClampNeg 0) (h_ck x4_2.toNatClampNeg 1) (h_ck x4_2.toNatClampNeg 2) (h_ck x4_2.toNatClampNeg 3) (h_ck x4_2.toNatClampNeg 4) (h_ck x4_2.toNatClampNeg 5) x3_1 (F_X5_number t_rows x2 2) (F_X5_number t_rows x2 3) ((F_X5_number t_rows x2 4) - 120) ((F_X5_number t_rows x2 5) - 120) ) (JN.upf (ws1 := (WHT cI cZ cC cH h_o h_a_clocks h_n_o h_n_a_clocks h_n_a_minutes h_n_a_dials t_o t_a_bytes t_a_rows h_c h_filled (ckU h_ck x4_2.toNatClampNeg ((F_X0_tell x3_1 (F_X5_number t_rows x2 2) (F_X5_number t_rows x2 3) ((F_X5_number t_rows x2 4) - 120) ((F_X5_number t_rows x2 5) - 120)).1) ((F_X0_tell x3_1 (F_X5_number t_rows x2 2) (F_X5_number t_rows x2 3) ((F_X5_number t_rows x2 4) - 120) ((F_X5_number t_rows x2 5) - 120)).2.1) ((F_X0_tell x3_1 (F_X5_number t_rows x2 2) (F_X5_number t_rows x2 3) ((F_X5_number t_rows x2 4) - 120) ((F_X5_number t_rows x2 5) - 120)).2.2.1) ((F_X0_tell x3_1 (F_X5_number t_rows x2 2) (F_X5_number t_rows x2 3) ((F_X5_number t_rows x2 4) - 120) ((F_X5_number t_rows x2 5) - 120)).2.2.2.1) ((F_X0_tell x3_1 (F_X5_number t_rows x2 2) (F_X5_number t_rows x2 3) ((F_X5_number t_rows x2 4) - 120) ((F_X5_number t_rows x2 5) - 120)).2.2.2.2.1) ((F_X0_tell x3_1 (F_X5_number t_rows x2 2) (F_X5_number t_rows x2 3) ((F_X5_number t_rows x2 4) - 120) ((F_X5_number t_rows x2 5) - 120)).2.2.2.2.2)) h_n_many h_n_clocks h_n_minutes h_n_dials t_length t_lineCount t_start t_end t_bytes t_rows)) [2 + x4_2.toNatClampNeg] (by first | (simp only [List.map_cons, List.map_nil, clk_WHT (tn_lt (k := x4_2) (n := 8) (by omega) (by omega))]; done) | (simp only [List.map_cons, List.map_nil, clk_WHT (tn_lt (k := x4_2) (n := 8) (by omega) (by omega))]; rfl)) rfl rfl (by first | (simp only [List.map_cons, List.map_nil, clkU_WHT (tn_lt (k := x4_2) (n := 8) (by omega) (by omega))]; done) | (simp only [List.map_cons, List.map_nil, clkU_WHT (tn_lt (k := x4_2) (n := 8) (by omega) (by omega))]; rfl)) (set_WHT (tn_lt (k := x4_2) (n := 8) (by omega) (by omega))) (by simp)) 5 gX1_heed_X0_tell rfl (by decide +kernel) ⟨Nat.le_of_ble_eq_true rfl, Nat.le_of_ble_eq_true rfl⟩ (2 + x4_2.toNatClampNeg) 0 rfl rfl (clk_WHT (tn_lt (k := x4_2) (n := 8) (by omega) (by omega))) rfl rfl (Nat.le_of_ble_eq_true rfl) dX1_heed_146 (fun H locs hh => ?_)
                refine W.eq (g2 := F0 m 149 ls []) rfl ?_
                generalize q_146 : F_X0_tell x3_1 (F_X5_number t_rows x2 2) (F_X5_number t_rows x2 3) ((F_X5_number t_rows x2 4) - 120) ((F_X5_number t_rows x2 5) - 120) = r146_3 at hh hF ⊢
                unfold F_X1_heed_c146 at hF
                exact RT _ _ _ _ _ _ hh (by rw [hF]) (Or.inr (Or.inr (Or.inl ⟨rfl, rfl, dX1_heed_149, rfl⟩)))
              · replace hF := hF.trans (if_pos c_84)
                have i_84 : x3_1.toInt = 2 := congrArg Int32.toInt c_84
                refine lv_aload hx hb dX1_heed_87 (lv_at hl 0 rfl) ?_
                refine lv_iconst (v := 2) hx hb dX1_heed_89 (by decide) ?_
                refine lv_iconst (v := 0) hx hb dX1_heed_90 (by decide) ?_
                refine lv_aload_n hx hb dX1_heed_91 rfl (lv_at hl 4 rfl) ?_
                refine lv_iload_n hx hb dX1_heed_92 rfl (lv_at hl 5 rfl) ?_
                refine lv_iconst (v := 2) hx hb dX1_heed_93 (by decide) ?_
                refine g_callV (As := [.int x2, .int 2]) (rest := [.int 0, .int 2, .ref (h_c x4_2.toNatClampNeg)]) KX rfl ⟨Nat.le_of_ble_eq_true rfl, Nat.le_of_ble_eq_true rfl⟩ hh hl (c_X5_number l D cI cZ cC cH t_o t_a_bytes t_a_rows t_length t_lineCount t_start t_end t_bytes t_rows x2 2 ) (JN.ro [14, 15, 16] rfl rfl) 2 gX1_heed_X5_number rfl (by decide +kernel) ⟨Nat.le_of_ble_eq_true rfl, Nat.le_of_ble_eq_true rfl⟩ 14 5 rfl rfl rfl rfl rfl (Nat.le_of_ble_eq_true rfl) dX1_heed_94 (fun H locs hh => ?_)
                refine W.eq (g2 := F0 m 97 ls [.int (F_X5_number t_rows x2 2), .int 0, .int 2, .ref (h_c x4_2.toNatClampNeg)]) rfl ?_
                refine lv_iconst (v := 0) hx hb dX1_heed_97 (by decide) ?_
                refine lv_iconst (v := 0) hx hb dX1_heed_98 (by decide) ?_
                refine g_callV (As := [.int 2, .int 0, .int (F_X5_number t_rows x2 2), .int 0, .int 0]) (rest := []) KX rfl ⟨Nat.le_of_ble_eq_true rfl, Nat.le_of_ble_eq_true rfl⟩ hh hl (c_X0_tell l D cI cZ cC cH (h_c x4_2.toNatClampNeg) (h_ck x4_2.toNatClampNeg 0) (h_ck x4_2.toNatClampNeg 1) (h_ck x4_2.toNatClampNeg 2) (h_ck x4_2.toNatClampNeg 3) (h_ck x4_2.toNatClampNeg 4) (h_ck x4_2.toNatClampNeg 5) 2 0 (F_X5_number t_rows x2 2) 0 0 ) (JN.upf (ws1 := (WHT cI cZ cC cH h_o h_a_clocks h_n_o h_n_a_clocks h_n_a_minutes h_n_a_dials t_o t_a_bytes t_a_rows h_c h_filled (ckU h_ck x4_2.toNatClampNeg ((F_X0_tell 2 0 (F_X5_number t_rows x2 2) 0 0).1) ((F_X0_tell 2 0 (F_X5_number t_rows x2 2) 0 0).2.1) ((F_X0_tell 2 0 (F_X5_number t_rows x2 2) 0 0).2.2.1) ((F_X0_tell 2 0 (F_X5_number t_rows x2 2) 0 0).2.2.2.1) ((F_X0_tell 2 0 (F_X5_number t_rows x2 2) 0 0).2.2.2.2.1) ((F_X0_tell 2 0 (F_X5_number t_rows x2 2) 0 0).2.2.2.2.2)) h_n_many h_n_clocks h_n_minutes h_n_dials t_length t_lineCount t_start t_end t_bytes t_rows)) [2 + x4_2.toNatClampNeg] (by first | (simp only [List.map_cons, List.map_nil, clk_WHT (tn_lt (k := x4_2) (n := 8) (by omega) (by omega))]; done) | (simp only [List.map_cons, List.map_nil, clk_WHT (tn_lt (k := x4_2) (n := 8) (by omega) (by omega))]; rfl)) rfl rfl (by first | (simp only [List.map_cons, List.map_nil, clkU_WHT (tn_lt (k := x4_2) (n := 8) (by omega) (by omega))]; done) | (simp only [List.map_cons, List.map_nil, clkU_WHT (tn_lt (k := x4_2) (n := 8) (by omega) (by omega))]; rfl)) (set_WHT (tn_lt (k := x4_2) (n := 8) (by omega) (by omega))) (by simp)) 5 gX1_heed_X0_tell rfl (by decide +kernel) ⟨Nat.le_of_ble_eq_true rfl, Nat.le_of_ble_eq_true rfl⟩ (2 + x4_2.toNatClampNeg) 0 rfl rfl (clk_WHT (tn_lt (k := x4_2) (n := 8) (by omega) (by omega))) rfl rfl (Nat.le_of_ble_eq_true rfl) dX1_heed_99 (fun H locs hh => ?_)
                refine W.eq (g2 := F0 m 102 ls []) rfl ?_
                generalize q_99 : F_X0_tell 2 0 (F_X5_number t_rows x2 2) 0 0 = r99_4 at hh hF ⊢
                unfold F_X1_heed_c99 at hF
                refine lv_goto (tgt := 149) hx hb dX1_heed_102 (by decide) ?_
                exact RT _ _ _ _ _ _ hh (by rw [hF]) (Or.inr (Or.inr (Or.inl ⟨rfl, rfl, dX1_heed_149, rfl⟩)))
            · replace hF := hF.trans (if_pos c_66)
              have i_66 : x3_1.toInt = 3 := congrArg Int32.toInt c_66
              refine lv_aload hx hb dX1_heed_69 (lv_at hl 0 rfl) ?_
              refine lv_iconst (v := (-1)) hx hb dX1_heed_71 (by decide) ?_
              refine lv_iconst (v := 0) hx hb dX1_heed_72 (by decide) ?_
              refine lv_iconst (v := 0) hx hb dX1_heed_73 (by decide) ?_
              refine lv_iconst (v := 0) hx hb dX1_heed_74 (by decide) ?_
              refine lv_iconst (v := 0) hx hb dX1_heed_75 (by decide) ?_
              refine g_callV (As := [.int (-1), .int 0, .int 0, .int 0, .int 0]) (rest := []) KX rfl ⟨Nat.le_of_ble_eq_true rfl, Nat.le_of_ble_eq_true rfl⟩ hh hl (c_X0_tell l D cI cZ cC cH (h_c x4_2.toNatClampNeg) (h_ck x4_2.toNatClampNeg 0) (h_ck x4_2.toNatClampNeg 1) (h_ck x4_2.toNatClampNeg 2) (h_ck x4_2.toNatClampNeg 3) (h_ck x4_2.toNatClampNeg 4) (h_ck x4_2.toNatClampNeg 5) (-1) 0 0 0 0 ) (JN.upf (ws1 := (WHT cI cZ cC cH h_o h_a_clocks h_n_o h_n_a_clocks h_n_a_minutes h_n_a_dials t_o t_a_bytes t_a_rows h_c h_filled (ckU h_ck x4_2.toNatClampNeg ((F_X0_tell (-1) 0 0 0 0).1) ((F_X0_tell (-1) 0 0 0 0).2.1) ((F_X0_tell (-1) 0 0 0 0).2.2.1) ((F_X0_tell (-1) 0 0 0 0).2.2.2.1) ((F_X0_tell (-1) 0 0 0 0).2.2.2.2.1) ((F_X0_tell (-1) 0 0 0 0).2.2.2.2.2)) h_n_many h_n_clocks h_n_minutes h_n_dials t_length t_lineCount t_start t_end t_bytes t_rows)) [2 + x4_2.toNatClampNeg] (by first | (simp only [List.map_cons, List.map_nil, clk_WHT (tn_lt (k := x4_2) (n := 8) (by omega) (by omega))]; done) | (simp only [List.map_cons, List.map_nil, clk_WHT (tn_lt (k := x4_2) (n := 8) (by omega) (by omega))]; rfl)) rfl rfl (by first | (simp only [List.map_cons, List.map_nil, clkU_WHT (tn_lt (k := x4_2) (n := 8) (by omega) (by omega))]; done) | (simp only [List.map_cons, List.map_nil, clkU_WHT (tn_lt (k := x4_2) (n := 8) (by omega) (by omega))]; rfl)) (set_WHT (tn_lt (k := x4_2) (n := 8) (by omega) (by omega))) (by simp)) 5 gX1_heed_X0_tell rfl (by decide +kernel) ⟨Nat.le_of_ble_eq_true rfl, Nat.le_of_ble_eq_true rfl⟩ (2 + x4_2.toNatClampNeg) 0 rfl rfl (clk_WHT (tn_lt (k := x4_2) (n := 8) (by omega) (by omega))) rfl rfl (Nat.le_of_ble_eq_true rfl) dX1_heed_76 (fun H locs hh => ?_)
              refine W.eq (g2 := F0 m 79 ls []) rfl ?_
              generalize q_76 : F_X0_tell (-1) 0 0 0 0 = r76_5 at hh hF ⊢
              unfold F_X1_heed_c76 at hF
              refine lv_goto (tgt := 149) hx hb dX1_heed_79 (by decide) ?_
              exact RT _ _ _ _ _ _ hh (by rw [hF]) (Or.inr (Or.inr (Or.inl ⟨rfl, rfl, dX1_heed_149, rfl⟩)))
          · replace hF := hF.trans (if_pos c_47)
            have i_47 : x3_1.toInt = 4 := congrArg Int32.toInt c_47
            refine lv_aload hx hb dX1_heed_50 (lv_at hl 0 rfl) ?_
            refine lv_aload_n hx hb dX1_heed_52 rfl (lv_at hl 4 rfl) ?_
            refine lv_iload_n hx hb dX1_heed_53 rfl (lv_at hl 5 rfl) ?_
            refine lv_iconst (v := 2) hx hb dX1_heed_54 (by decide) ?_
            refine g_callV (As := [.int x2, .int 2]) (rest := [.ref (h_c x4_2.toNatClampNeg)]) KX rfl ⟨Nat.le_of_ble_eq_true rfl, Nat.le_of_ble_eq_true rfl⟩ hh hl (c_X5_number l D cI cZ cC cH t_o t_a_bytes t_a_rows t_length t_lineCount t_start t_end t_bytes t_rows x2 2 ) (JN.ro [14, 15, 16] rfl rfl) 2 gX1_heed_X5_number rfl (by decide +kernel) ⟨Nat.le_of_ble_eq_true rfl, Nat.le_of_ble_eq_true rfl⟩ 14 5 rfl rfl rfl rfl rfl (Nat.le_of_ble_eq_true rfl) dX1_heed_55 (fun H locs hh => ?_)
            refine W.eq (g2 := F0 m 58 ls [.int (F_X5_number t_rows x2 2), .ref (h_c x4_2.toNatClampNeg)]) rfl ?_
            refine g_put KX hh in_X1_heed_X0 tyX0 tyX0_ok nmX0 (2 + x4_2.toNatClampNeg) (clk_WHT (tn_lt (k := x4_2) (n := 8) (by omega) (by omega))) rfl 5 (by decide) rfl rfl rfl (Nat.le_of_ble_eq_true rfl) (List.mem_of_getElem? (i := 2) rfl) (w' := (WHT cI cZ cC cH h_o h_a_clocks h_n_o h_n_a_clocks h_n_a_minutes h_n_a_dials t_o t_a_bytes t_a_rows h_c h_filled (ckU h_ck x4_2.toNatClampNeg (h_ck x4_2.toNatClampNeg 0) (h_ck x4_2.toNatClampNeg 1) (h_ck x4_2.toNatClampNeg 2) (h_ck x4_2.toNatClampNeg 3) (h_ck x4_2.toNatClampNeg 4) (F_X5_number t_rows x2 2)) h_n_many h_n_clocks h_n_minutes h_n_dials t_length t_lineCount t_start t_end t_bytes t_rows)) rfl (set_WHT (tn_lt (k := x4_2) (n := 8) (by omega) (by omega))) dX1_heed_58 (fun H locs hh => ?_)
            refine lv_goto (tgt := 149) hx hb dX1_heed_61 (by decide) ?_
            exact RT _ _ _ _ _ _ hh (by rw [hF]) (Or.inr (Or.inr (Or.inl ⟨rfl, rfl, dX1_heed_149, rfl⟩)))
        · replace hF := hF.trans (if_pos c_32)
          exact RT _ _ _ _ _ _ hh (by rw [hF]) (Or.inr (Or.inr (Or.inl ⟨rfl, rfl, dX1_heed_35, rfl⟩)))
      exact K_25 (F_X5_number t_rows x2 1)  hF _ _ _ hh (lv_sub hl [0, 1, 2, 3, 4] rfl)
    · replace hF := hF.trans (if_pos c_9)
      have i_9 : x3_1.toInt = 5 := congrArg Int32.toInt c_9
      refine lv_aload_n hx hb dX1_heed_12 rfl (lv_at hl 1 rfl) ?_
      refine g_callV (As := []) (rest := []) KX rfl ⟨Nat.le_of_ble_eq_true rfl, Nat.le_of_ble_eq_true rfl⟩ hh hl (c_X1_readNone l D cI cZ cC cH h_o h_a_clocks h_n_o h_n_a_clocks h_n_a_minutes h_n_a_dials h_c h_filled h_ck h_n_many h_n_clocks h_n_minutes h_n_dials  ) (JN.up (ws1 := (WHT cI cZ cC cH h_o h_a_clocks h_n_o h_n_a_clocks h_n_a_minutes h_n_a_dials t_o t_a_bytes t_a_rows h_c h_filled (F_X1_readNone h_ck) h_n_many h_n_clocks h_n_minutes h_n_dials t_length t_lineCount t_start t_end t_bytes t_rows)) [0, 1, 2, 3, 4, 5, 6, 7, 8, 9, 10, 11, 12, 13] rfl (by decide +kernel) rfl rfl rfl) 0 gX1_heed_X1_readNone rfl (by decide +kernel) ⟨Nat.le_of_ble_eq_true rfl, Nat.le_of_ble_eq_true rfl⟩ 0 1 rfl rfl rfl rfl rfl (Nat.le_of_ble_eq_true rfl) dX1_heed_13 (fun H locs hh => ?_)
      refine W.eq (g2 := F0 m 16 ls []) rfl ?_
      generalize q_13 : F_X1_readNone h_ck = r13_6 at hh hF ⊢
      unfold F_X1_heed_c13 at hF
      exact RT _ _ _ _ _ _ hh (by rw [hF]) (Or.inr (Or.inr (Or.inl ⟨rfl, rfl, dX1_heed_16, rfl⟩)))
  exact K_7 (F_X5_number t_rows x2 0)  hF _ _ _ hh (lv_sub hl [0, 1, 2, 3] rfl)
