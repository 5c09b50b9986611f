/-! the law: what the class and the reference hold together, question by question -/
def RP (t_length : Int32) (t_bytes : Nat → Int32) (p_ck : Nat → Nat → Int32) (p_n_many : Int32) (p_n_clocks : Nat → Int32) (p_n_minutes : Nat → Int32) (p_n_dials : Nat → Int32) (a_filled : Int32) (a_ck : Nat → Nat → Int32) (a_n_many : Int32) (a_n_clocks : Nat → Int32) (a_n_minutes : Nat → Int32) (a_n_dials : Nat → Int32) (b_filled : Int32) (b_ck : Nat → Nat → Int32) (b_n_many : Int32) (b_n_clocks : Nat → Int32) (b_n_minutes : Nat → Int32) (b_n_dials : Nat → Int32) (sifted : Int32) (misfits : Nat → Int32) (m_told : Int32) (m_isRead1 : Int32) (m_clock : Nat → Int32) (m_note : Nat → Int32) (m_noted : Int32) (m_bytes : Int32) (m_text : Nat → Int32) (m_read : Nat → Int32) (m_image : Nat → Int32) (m_isKept : Nat → Int32) (m_row : Nat → Int32) : Prop := TX t_length t_bytes m_bytes m_text ∧ HR p_ck p_n_many p_n_clocks p_n_minutes p_n_dials m_told m_isRead1 m_clock m_noted m_note ∧ KR a_filled a_ck a_n_many a_n_clocks a_n_minutes a_n_dials m_isKept m_image 0 ∧ KR b_filled b_ck b_n_many b_n_clocks b_n_minutes b_n_dials m_isKept m_image 1 ∧ SF sifted misfits p_ck ∧ RdR m_read ∧ RowOk m_row
def RelW (cI cZ cC cH : ClassId) (o o7 : Nat) (w w7 : va_W) : Prop := ∃ (a a7 : Nat → Nat) (p_c a_c b_c : Nat → Nat) (i j : Nat → Int32) (f g : Nat → Nat → Int32) (k : Nat → Nat → Nat → Int32) (tk : Int64), w = W6 cI cZ cC cH o (a 0) (a 1) (a 2) (a 3) (a 4) (a 5) (a 6) (a 7) (a 8) (a 9) (a 10) (a 11) (a 12) (a 13) (a 14) (a 15) (a 16) (a 17) (a 18) (a 19) (a 20) (a 21) (a 22) (a 23) (a 24) (a 25) (a 26) (a 27) (a 28) (a 29) p_c a_c b_c (i 0) (i 1) (i 2) (i 3) (i 4) (f 0) (f 1) (i 5) (k 0) (i 6) (f 2) (f 3) (f 4) (i 7) (k 1) (i 8) (f 5) (f 6) (f 7) (i 9) (k 2) (i 10) (f 8) (f 9) (f 10) (i 11) (i 12) (i 13) (i 14) (i 15) (i 16) (i 17) (i 18) (i 19) (i 20) (i 21) (f 11) (f 12) (f 13) (f 14) (f 15) ∧ w7 = WM cI cZ cC cH o7 (a7 0) (a7 1) (a7 2) (a7 3) (a7 4) (a7 5) (a7 6) (a7 7) (a7 8) (a7 9) (j 0) (j 1) (g 0) (g 1) (j 2) (j 3) (g 2) (j 4) (j 5) tk (j 6) (j 7) (j 8) (j 9) (j 10) (g 3) (g 4) (g 5) (g 6) (g 7) (g 8) (g 9) (j 11) (j 12) (j 13) (j 14) ∧ RP (i 1) (f 0) (k 0) (i 6) (f 2) (f 3) (f 4) (i 7) (k 1) (i 8) (f 5) (f 6) (f 7) (i 9) (k 2) (i 10) (f 8) (f 9) (f 10) (i 0) (f 14) (j 0) (j 1) (g 0) (g 1) (j 2) (j 3) (g 2) (g 3) (g 6) (g 7) (g 8)
theorem RelW.head {cI cZ cC cH : ClassId} {o o7 : Nat} {w w7 : va_W} (h : RelW cI cZ cC cH o o7 w w7) : (∃ vs, w[0]? = some (o, .inr (6, vs))) ∧ (∃ vs, w7[0]? = some (o7, .inr (7, vs))) ∧ w.length = 55 := by
  obtain ⟨a, a7, p_c, a_c, b_c, i, j, f, g, k, tk, rfl, rfl, -⟩ := h
  exact ⟨⟨_, rfl⟩, ⟨_, rfl⟩, rfl⟩
theorem P_write {l : Launch} {D : va_G} {cI cZ cC cH : ClassId} {o o7 : Nat} {w w7 : va_W} (h : RelW cI cZ cC cH o o7 w w7) (x1 : Int64) (x3 : Int32) : ∃ (r : Int32) (w1 w17 : va_W), MC l D (TY cI cZ cC cH) yX6_write wsX6_write 1 21 [.ref o, .long x1, .int x3] w (some (.int r)) w1 ∧ MC l D (TY cI cZ cC cH) yX7_write wsX7_write 1 22 [.ref o7, .long x1, .int x3] w7 (some (.int r)) w17 ∧ RelW cI cZ cC cH o o7 w1 w17 ∧ w1.map Prod.fst = w.map Prod.fst ∧ w17.map Prod.fst = w7.map Prod.fst := by
  obtain ⟨a, a7, p_c, a_c, b_c, i, j, f, g, k, tk, rfl, rfl, hR⟩ := h
  obtain ⟨hT, hH, ka, kb, hS, hQ, hW⟩ := hR
  have hN := hH.2.2.2.2
  have E := q_write x1 x3 hT 
  have M1 := c_X6_write l D cI cZ cC cH o (a 0) (a 1) (a 2) (a 3) (a 4) (a 5) (a 6) (a 7) (a 8) (a 9) (a 10) (a 11) (a 12) (a 13) (a 14) (a 15) (a 16) (a 17) (a 18) (a 19) (a 20) (a 21) (a 22) (a 23) (a 24) (a 25) (a 26) (a 27) (a 28) (a 29) p_c a_c b_c (i 0) (i 1) (i 2) (i 3) (i 4) (f 0) (f 1) (i 5) (k 0) (i 6) (f 2) (f 3) (f 4) (i 7) (k 1) (i 8) (f 5) (f 6) (f 7) (i 9) (k 2) (i 10) (f 8) (f 9) (f 10) (i 11) (i 12) (i 13) (i 14) (i 15) (i 16) (i 17) (i 18) (i 19) (i 20) (i 21) (f 11) (f 12) (f 13) (f 14) (f 15) x1 x3 (by rw [hT.1]; exact hT.2.1) (by rw [hT.1]; exact hT.2.2.1)
  have M2 := c_X7_write l D cI cZ cC cH o7 (a7 0) (a7 1) (a7 2) (a7 3) (a7 4) (a7 5) (a7 6) (a7 7) (a7 8) (a7 9) (j 0) (j 1) (g 0) (g 1) (j 2) (j 3) (g 2) (j 4) (j 5) tk (j 6) (j 7) (j 8) (j 9) (j 10) (g 3) (g 4) (g 5) (g 6) (g 7) (g 8) (g 9) (j 11) (j 12) (j 13) (j 14) x1 x3 hT.2.1 hT.2.2.1
  generalize F_X6_write (i 1) (f 0) x1 x3 = R6 at M1 E
  generalize F_X7_write (j 3) (g 2) x1 x3 = R7 at M2 E
  rw [← E.1] at M2
  exact ⟨_, _, _, M1, M2, ⟨a, a7, p_c, a_c, b_c, (fun n => ([(i 0), R6.2.1, (i 2), (i 3), (i 4), (i 5), (i 6), (i 7), (i 8), (i 9), (i 10), (i 11), (i 12), (i 13), (i 14), (i 15), (i 16), (i 17), (i 18), (i 19), (i 20), (i 21)] : List (Int32)).getD n 0), (fun n => ([(j 0), (j 1), (j 2), R7.2.1, (j 4), (j 5), (j 6), (j 7), (j 8), (j 9), (j 10), (j 11), (j 12), (j 13), (j 14)] : List (Int32)).getD n 0), (fun n => ([R6.2.2, (f 1), (f 2), (f 3), (f 4), (f 5), (f 6), (f 7), (f 8), (f 9), (f 10), (f 11), (f 12), (f 13), (f 14), (f 15)] : List (Nat → Int32)).getD n (fun _ => 0)), (fun n => ([(g 0), (g 1), R7.2.2, (g 3), (g 4), (g 5), (g 6), (g 7), (g 8), (g 9)] : List (Nat → Int32)).getD n (fun _ => 0)), k, tk, rfl, rfl, ⟨E.2, hH, ka, kb, hS, hQ, hW⟩⟩, rfl, rfl⟩
theorem P_erase {l : Launch} {D : va_G} {cI cZ cC cH : ClassId} {o o7 : Nat} {w w7 : va_W} (h : RelW cI cZ cC cH o o7 w w7)  : ∃ (r : Int32) (w1 w17 : va_W), MC l D (TY cI cZ cC cH) yX6_erase wsX6_erase 0 0 [.ref o] w (some (.int r)) w1 ∧ MC l D (TY cI cZ cC cH) yX7_erase wsX7_erase 0 0 [.ref o7] w7 (some (.int r)) w17 ∧ RelW cI cZ cC cH o o7 w1 w17 ∧ w1.map Prod.fst = w.map Prod.fst ∧ w17.map Prod.fst = w7.map Prod.fst := by
  obtain ⟨a, a7, p_c, a_c, b_c, i, j, f, g, k, tk, rfl, rfl, hR⟩ := h
  obtain ⟨hT, hH, ka, kb, hS, hQ, hW⟩ := hR
  have hN := hH.2.2.2.2
  have E := q_erase hT 
  have M1 := c_X6_erase l D cI cZ cC cH o (a 0) (a 1) (a 2) (a 3) (a 4) (a 5) (a 6) (a 7) (a 8) (a 9) (a 10) (a 11) (a 12) (a 13) (a 14) (a 15) (a 16) (a 17) (a 18) (a 19) (a 20) (a 21) (a 22) (a 23) (a 24) (a 25) (a 26) (a 27) (a 28) (a 29) p_c a_c b_c (i 0) (i 1) (i 2) (i 3) (i 4) (f 0) (f 1) (i 5) (k 0) (i 6) (f 2) (f 3) (f 4) (i 7) (k 1) (i 8) (f 5) (f 6) (f 7) (i 9) (k 2) (i 10) (f 8) (f 9) (f 10) (i 11) (i 12) (i 13) (i 14) (i 15) (i 16) (i 17) (i 18) (i 19) (i 20) (i 21) (f 11) (f 12) (f 13) (f 14) (f 15)  
  have M2 := c_X7_erase l D cI cZ cC cH o7 (a7 0) (a7 1) (a7 2) (a7 3) (a7 4) (a7 5) (a7 6) (a7 7) (a7 8) (a7 9) (j 0) (j 1) (g 0) (g 1) (j 2) (j 3) (g 2) (j 4) (j 5) tk (j 6) (j 7) (j 8) (j 9) (j 10) (g 3) (g 4) (g 5) (g 6) (g 7) (g 8) (g 9) (j 11) (j 12) (j 13) (j 14)  
  generalize F_X6_erase (i 1) = R6 at M1 E
  generalize F_X7_erase (j 3) = R7 at M2 E
  rw [← E.1] at M2
  exact ⟨_, _, _, M1, M2, ⟨a, a7, p_c, a_c, b_c, (fun n => ([(i 0), R6.2, (i 2), (i 3), (i 4), (i 5), (i 6), (i 7), (i 8), (i 9), (i 10), (i 11), (i 12), (i 13), (i 14), (i 15), (i 16), (i 17), (i 18), (i 19), (i 20), (i 21)] : List (Int32)).getD n 0), (fun n => ([(j 0), (j 1), (j 2), R7.2, (j 4), (j 5), (j 6), (j 7), (j 8), (j 9), (j 10), (j 11), (j 12), (j 13), (j 14)] : List (Int32)).getD n 0), f, g, k, tk, rfl, rfl, ⟨E.2, hH, ka, kb, hS, hQ, hW⟩⟩, rfl, rfl⟩
theorem P_fault {l : Launch} {D : va_G} {cI cZ cC cH : ClassId} {o o7 : Nat} {w w7 : va_W} (h : RelW cI cZ cC cH o o7 w w7)  : ∃ (r : Int32) (w1 w17 : va_W), MC l D (TY cI cZ cC cH) yX6_fault wsX6_fault 8 180 [.ref o] w (some (.int r)) w1 ∧ MC l D (TY cI cZ cC cH) yX7_fault wsX7_fault 6 129 [.ref o7] w7 (some (.int r)) w17 ∧ RelW cI cZ cC cH o o7 w1 w17 ∧ w1.map Prod.fst = w.map Prod.fst ∧ w17.map Prod.fst = w7.map Prod.fst := by
  obtain ⟨a, a7, p_c, a_c, b_c, i, j, f, g, k, tk, rfl, rfl, hR⟩ := h
  obtain ⟨hT, hH, ka, kb, hS, hQ, hW⟩ := hR
  have hN := hH.2.2.2.2
  have E := q_fault hH hT hQ (i 3) (f 1) (j 5) tk (j 6) (j 7) (j 8) 
  have M1 := c_X6_fault l D cI cZ cC cH o (a 0) (a 1) (a 2) (a 3) (a 4) (a 5) (a 6) (a 7) (a 8) (a 9) (a 10) (a 11) (a 12) (a 13) (a 14) (a 15) (a 16) (a 17) (a 18) (a 19) (a 20) (a 21) (a 22) (a 23) (a 24) (a 25) (a 26) (a 27) (a 28) (a 29) p_c a_c b_c (i 0) (i 1) (i 2) (i 3) (i 4) (f 0) (f 1) (i 5) (k 0) (i 6) (f 2) (f 3) (f 4) (i 7) (k 1) (i 8) (f 5) (f 6) (f 7) (i 9) (k 2) (i 10) (f 8) (f 9) (f 10) (i 11) (i 12) (i 13) (i 14) (i 15) (i 16) (i 17) (i 18) (i 19) (i 20) (i 21) (f 11) (f 12) (f 13) (f 14) (f 15)  (by rw [hT.1]; exact hT.2.2.1)
  have M2 := c_X7_fault l D cI cZ cC cH o7 (a7 0) (a7 1) (a7 2) (a7 3) (a7 4) (a7 5) (a7 6) (a7 7) (a7 8) (a7 9) (j 0) (j 1) (g 0) (g 1) (j 2) (j 3) (g 2) (j 4) (j 5) tk (j 6) (j 7) (j 8) (j 9) (j 10) (g 3) (g 4) (g 5) (g 6) (g 7) (g 8) (g 9) (j 11) (j 12) (j 13) (j 14)  hT.2.1 hT.2.2.1
  generalize F_X6_fault (i 1) (i 3) (f 0) (f 1) (k 0) = R6 at M1 E
  generalize F_X7_fault (j 0) (j 3) (g 2) (j 5) tk (j 6) (j 7) (j 8) (g 3) = R7 at M2 E
  rw [← E.1] at M2
  exact ⟨_, _, _, M1, M2, ⟨a, a7, p_c, a_c, b_c, (fun n => ([(i 0), (i 1), R6.2.1, R6.2.2.1, R6.2.2.2.1, (i 5), (i 6), (i 7), (i 8), (i 9), (i 10), (i 11), (i 12), (i 13), (i 14), (i 15), (i 16), (i 17), (i 18), (i 19), (i 20), (i 21)] : List (Int32)).getD n 0), (fun n => ([(j 0), (j 1), (j 2), (j 3), R7.2.1, R7.2.2.1, R7.2.2.2.2.1, R7.2.2.2.2.2.1, R7.2.2.2.2.2.2.1, R7.2.2.2.2.2.2.2.1, R7.2.2.2.2.2.2.2.2.1, (j 11), (j 12), (j 13), (j 14)] : List (Int32)).getD n 0), (fun n => ([(f 0), R6.2.2.2.2, (f 2), (f 3), (f 4), (f 5), (f 6), (f 7), (f 8), (f 9), (f 10), (f 11), (f 12), (f 13), (f 14), (f 15)] : List (Nat → Int32)).getD n (fun _ => 0)), (fun n => ([(g 0), (g 1), (g 2), R7.2.2.2.2.2.2.2.2.2, (g 4), (g 5), (g 6), (g 7), (g 8), (g 9)] : List (Nat → Int32)).getD n (fun _ => 0)), k, R7.2.2.2.1, rfl, rfl, ⟨hT, hH, ka, kb, hS, E.2, hW⟩⟩, rfl, rfl⟩
theorem P_house {l : Launch} {D : va_G} {cI cZ cC cH : ClassId} {o o7 : Nat} {w w7 : va_W} (h : RelW cI cZ cC cH o o7 w w7)  : ∃ (r : Int32) (w1 w17 : va_W), MC l D (TY cI cZ cC cH) yX6_house wsX6_house 8 180 [.ref o] w (some (.int r)) w1 ∧ MC l D (TY cI cZ cC cH) yX7_house wsX7_house 6 129 [.ref o7] w7 (some (.int r)) w17 ∧ RelW cI cZ cC cH o o7 w1 w17 ∧ w1.map Prod.fst = w.map Prod.fst ∧ w17.map Prod.fst = w7.map Prod.fst := by
  obtain ⟨a, a7, p_c, a_c, b_c, i, j, f, g, k, tk, rfl, rfl, hR⟩ := h
  obtain ⟨hT, hH, ka, kb, hS, hQ, hW⟩ := hR
  have hN := hH.2.2.2.2
  have E := q_house hH hT hQ hS (i 3) (f 1) (j 5) tk (j 6) (j 7) (j 8) 
  have M1 := c_X6_house l D cI cZ cC cH o (a 0) (a 1) (a 2) (a 3) (a 4) (a 5) (a 6) (a 7) (a 8) (a 9) (a 10) (a 11) (a 12) (a 13) (a 14) (a 15) (a 16) (a 17) (a 18) (a 19) (a 20) (a 21) (a 22) (a 23) (a 24) (a 25) (a 26) (a 27) (a 28) (a 29) p_c a_c b_c (i 0) (i 1) (i 2) (i 3) (i 4) (f 0) (f 1) (i 5) (k 0) (i 6) (f 2) (f 3) (f 4) (i 7) (k 1) (i 8) (f 5) (f 6) (f 7) (i 9) (k 2) (i 10) (f 8) (f 9) (f 10) (i 11) (i 12) (i 13) (i 14) (i 15) (i 16) (i 17) (i 18) (i 19) (i 20) (i 21) (f 11) (f 12) (f 13) (f 14) (f 15)  (by rw [hT.1]; exact hT.2.2.1)
  have M2 := c_X7_house l D cI cZ cC cH o7 (a7 0) (a7 1) (a7 2) (a7 3) (a7 4) (a7 5) (a7 6) (a7 7) (a7 8) (a7 9) (j 0) (j 1) (g 0) (g 1) (j 2) (j 3) (g 2) (j 4) (j 5) tk (j 6) (j 7) (j 8) (j 9) (j 10) (g 3) (g 4) (g 5) (g 6) (g 7) (g 8) (g 9) (j 11) (j 12) (j 13) (j 14)  hT.2.1 hT.2.2.1 (text_ff hT hH.1.1 hH.1.2 hQ (i 3) (f 1) (j 5) tk (j 6) (j 7) (j 8)).ok
  generalize F_X6_house (i 0) (i 1) (i 3) (f 0) (f 1) (k 0) = R6 at M1 E
  generalize F_X7_house (j 0) (j 1) (g 0) (j 3) (g 2) (j 5) tk (j 6) (j 7) (j 8) (g 3) = R7 at M2 E
  rw [← E.1] at M2
  exact ⟨_, _, _, M1, M2, ⟨a, a7, p_c, a_c, b_c, (fun n => ([R6.2.1, R6.2.2.1, R6.2.2.2.1, R6.2.2.2.2.1, R6.2.2.2.2.2.1, (i 5), (i 6), (i 7), (i 8), (i 9), (i 10), (i 11), (i 12), (i 13), (i 14), (i 15), (i 16), (i 17), (i 18), (i 19), (i 20), (i 21)] : List (Int32)).getD n 0), (fun n => ([R7.2.1, R7.2.2.1, (j 2), R7.2.2.2.2.1, R7.2.2.2.2.2.1, R7.2.2.2.2.2.2.1, R7.2.2.2.2.2.2.2.2.1, R7.2.2.2.2.2.2.2.2.2.1, R7.2.2.2.2.2.2.2.2.2.2.1, R7.2.2.2.2.2.2.2.2.2.2.2.1, R7.2.2.2.2.2.2.2.2.2.2.2.2.1, (j 11), (j 12), (j 13), (j 14)] : List (Int32)).getD n 0), (fun n => ([(f 0), R6.2.2.2.2.2.2.1, (f 2), (f 3), (f 4), (f 5), (f 6), (f 7), (f 8), (f 9), (f 10), (f 11), (f 12), (f 13), (f 14), (f 15)] : List (Nat → Int32)).getD n (fun _ => 0)), (fun n => ([R7.2.2.2.1, (g 1), (g 2), R7.2.2.2.2.2.2.2.2.2.2.2.2.2, (g 4), (g 5), (g 6), (g 7), (g 8), (g 9)] : List (Nat → Int32)).getD n (fun _ => 0)), (fun n => ([R6.2.2.2.2.2.2.2, (k 1), (k 2)] : List (Nat → Nat → Int32)).getD n (fun _ _ => 0)), R7.2.2.2.2.2.2.2.1, rfl, rfl, ⟨E.2.2.1, E.2.1, ka, kb, E.2.2.2.1, E.2.2.2.2, hW⟩⟩, rfl, rfl⟩
theorem P_clock {l : Launch} {D : va_G} {cI cZ cC cH : ClassId} {o o7 : Nat} {w w7 : va_W} (h : RelW cI cZ cC cH o o7 w w7) (x1 : Int32) (x2 : Int32) : ∃ (r : Int32) (w1 w17 : va_W), MC l D (TY cI cZ cC cH) yX6_clock wsX6_clock 2 42 [.ref o, .int x1, .int x2] w (some (.int r)) w1 ∧ MC l D (TY cI cZ cC cH) yX7_clock wsX7_clock 2 43 [.ref o7, .int x1, .int x2] w7 (some (.int r)) w17 ∧ RelW cI cZ cC cH o o7 w1 w17 ∧ w1.map Prod.fst = w.map Prod.fst ∧ w17.map Prod.fst = w7.map Prod.fst := by
  obtain ⟨a, a7, p_c, a_c, b_c, i, j, f, g, k, tk, rfl, rfl, hR⟩ := h
  obtain ⟨hT, hH, ka, kb, hS, hQ, hW⟩ := hR
  have hN := hH.2.2.2.2
  have E := q_clock hH x1 x2 
  have M1 := c_X6_clock l D cI cZ cC cH o (a 0) (a 1) (a 2) (a 3) (a 4) (a 5) (a 6) (a 7) (a 8) (a 9) (a 10) (a 11) (a 12) (a 13) (a 14) (a 15) (a 16) (a 17) (a 18) (a 19) (a 20) (a 21) (a 22) (a 23) (a 24) (a 25) (a 26) (a 27) (a 28) (a 29) p_c a_c b_c (i 0) (i 1) (i 2) (i 3) (i 4) (f 0) (f 1) (i 5) (k 0) (i 6) (f 2) (f 3) (f 4) (i 7) (k 1) (i 8) (f 5) (f 6) (f 7) (i 9) (k 2) (i 10) (f 8) (f 9) (f 10) (i 11) (i 12) (i 13) (i 14) (i 15) (i 16) (i 17) (i 18) (i 19) (i 20) (i 21) (f 11) (f 12) (f 13) (f 14) (f 15) x1 x2 
  have M2 := c_X7_clock l D cI cZ cC cH o7 (a7 0) (a7 1) (a7 2) (a7 3) (a7 4) (a7 5) (a7 6) (a7 7) (a7 8) (a7 9) (j 0) (j 1) (g 0) (g 1) (j 2) (j 3) (g 2) (j 4) (j 5) tk (j 6) (j 7) (j 8) (j 9) (j 10) (g 3) (g 4) (g 5) (g 6) (g 7) (g 8) (g 9) (j 11) (j 12) (j 13) (j 14) x1 x2 
  rw [← E] at M2
  exact ⟨_, _, _, M1, M2, ⟨a, a7, p_c, a_c, b_c, i, j, f, g, k, tk, rfl, rfl, ⟨hT, hH, ka, kb, hS, hQ, hW⟩⟩, rfl, rfl⟩
theorem P_shows {l : Launch} {D : va_G} {cI cZ cC cH : ClassId} {o o7 : Nat} {w w7 : va_W} (h : RelW cI cZ cC cH o o7 w w7) (x1 : Int32) (x2 : Int32) (x3 : Int32) : ∃ (r : Int32) (w1 w17 : va_W), MC l D (TY cI cZ cC cH) yX6_shows wsX6_shows 3 67 [.ref o, .int x1, .int x2, .int x3] w (some (.int r)) w1 ∧ MC l D (TY cI cZ cC cH) yX7_shows wsX7_shows 2 43 [.ref o7, .int x1, .int x2, .int x3] w7 (some (.int r)) w17 ∧ RelW cI cZ cC cH o o7 w1 w17 ∧ w1.map Prod.fst = w.map Prod.fst ∧ w17.map Prod.fst = w7.map Prod.fst := by
  obtain ⟨a, a7, p_c, a_c, b_c, i, j, f, g, k, tk, rfl, rfl, hR⟩ := h
  obtain ⟨hT, hH, ka, kb, hS, hQ, hW⟩ := hR
  have hN := hH.2.2.2.2
  have E := q_shows hH x1 x2 x3 
  have M1 := c_X6_shows l D cI cZ cC cH o (a 0) (a 1) (a 2) (a 3) (a 4) (a 5) (a 6) (a 7) (a 8) (a 9) (a 10) (a 11) (a 12) (a 13) (a 14) (a 15) (a 16) (a 17) (a 18) (a 19) (a 20) (a 21) (a 22) (a 23) (a 24) (a 25) (a 26) (a 27) (a 28) (a 29) p_c a_c b_c (i 0) (i 1) (i 2) (i 3) (i 4) (f 0) (f 1) (i 5) (k 0) (i 6) (f 2) (f 3) (f 4) (i 7) (k 1) (i 8) (f 5) (f 6) (f 7) (i 9) (k 2) (i 10) (f 8) (f 9) (f 10) (i 11) (i 12) (i 13) (i 14) (i 15) (i 16) (i 17) (i 18) (i 19) (i 20) (i 21) (f 11) (f 12) (f 13) (f 14) (f 15) x1 x2 x3 
  have M2 := c_X7_shows l D cI cZ cC cH o7 (a7 0) (a7 1) (a7 2) (a7 3) (a7 4) (a7 5) (a7 6) (a7 7) (a7 8) (a7 9) (j 0) (j 1) (g 0) (g 1) (j 2) (j 3) (g 2) (j 4) (j 5) tk (j 6) (j 7) (j 8) (j 9) (j 10) (g 3) (g 4) (g 5) (g 6) (g 7) (g 8) (g 9) (j 11) (j 12) (j 13) (j 14) x1 x2 x3 
  rw [← E] at M2
  exact ⟨_, _, _, M1, M2, ⟨a, a7, p_c, a_c, b_c, i, j, f, g, k, tk, rfl, rfl, ⟨hT, hH, ka, kb, hS, hQ, hW⟩⟩, rfl, rfl⟩
theorem P_can {l : Launch} {D : va_G} {cI cZ cC cH : ClassId} {o o7 : Nat} {w w7 : va_W} (h : RelW cI cZ cC cH o o7 w w7) (x1 : Int32) (x2 : Int32) (x3 : Int32) : ∃ (r : Int32) (w1 w17 : va_W), MC l D (TY cI cZ cC cH) yX6_can wsX6_can 3 71 [.ref o, .int x1, .int x2, .int x3] w (some (.int r)) w1 ∧ MC l D (TY cI cZ cC cH) yX7_can wsX7_can 4 90 [.ref o7, .int x1, .int x2, .int x3] w7 (some (.int r)) w17 ∧ RelW cI cZ cC cH o o7 w1 w17 ∧ w1.map Prod.fst = w.map Prod.fst ∧ w17.map Prod.fst = w7.map Prod.fst := by
  obtain ⟨a, a7, p_c, a_c, b_c, i, j, f, g, k, tk, rfl, rfl, hR⟩ := h
  obtain ⟨hT, hH, ka, kb, hS, hQ, hW⟩ := hR
  have hN := hH.2.2.2.2
  have E := q_can hH x1 x2 x3 
  have M1 := c_X6_can l D cI cZ cC cH o (a 0) (a 1) (a 2) (a 3) (a 4) (a 5) (a 6) (a 7) (a 8) (a 9) (a 10) (a 11) (a 12) (a 13) (a 14) (a 15) (a 16) (a 17) (a 18) (a 19) (a 20) (a 21) (a 22) (a 23) (a 24) (a 25) (a 26) (a 27) (a 28) (a 29) p_c a_c b_c (i 0) (i 1) (i 2) (i 3) (i 4) (f 0) (f 1) (i 5) (k 0) (i 6) (f 2) (f 3) (f 4) (i 7) (k 1) (i 8) (f 5) (f 6) (f 7) (i 9) (k 2) (i 10) (f 8) (f 9) (f 10) (i 11) (i 12) (i 13) (i 14) (i 15) (i 16) (i 17) (i 18) (i 19) (i 20) (i 21) (f 11) (f 12) (f 13) (f 14) (f 15) x1 x2 x3 
  have M2 := c_X7_can l D cI cZ cC cH o7 (a7 0) (a7 1) (a7 2) (a7 3) (a7 4) (a7 5) (a7 6) (a7 7) (a7 8) (a7 9) (j 0) (j 1) (g 0) (g 1) (j 2) (j 3) (g 2) (j 4) (j 5) tk (j 6) (j 7) (j 8) (j 9) (j 10) (g 3) (g 4) (g 5) (g 6) (g 7) (g 8) (g 9) (j 11) (j 12) (j 13) (j 14) x1 x2 x3 
  rw [← E] at M2
  exact ⟨_, _, _, M1, M2, ⟨a, a7, p_c, a_c, b_c, i, j, f, g, k, tk, rfl, rfl, ⟨hT, hH, ka, kb, hS, hQ, hW⟩⟩, rfl, rfl⟩
theorem P_fits {l : Launch} {D : va_G} {cI cZ cC cH : ClassId} {o o7 : Nat} {w w7 : va_W} (h : RelW cI cZ cC cH o o7 w w7) (x1 : Int32) : ∃ (r : Int32) (w1 w17 : va_W), MC l D (TY cI cZ cC cH) yX6_fits wsX6_fits 4 95 [.ref o, .int x1] w (some (.int r)) w1 ∧ MC l D (TY cI cZ cC cH) yX7_fits wsX7_fits 5 113 [.ref o7, .int x1] w7 (some (.int r)) w17 ∧ RelW cI cZ cC cH o o7 w1 w17 ∧ w1.map Prod.fst = w.map Prod.fst ∧ w17.map Prod.fst = w7.map Prod.fst := by
  obtain ⟨a, a7, p_c, a_c, b_c, i, j, f, g, k, tk, rfl, rfl, hR⟩ := h
  obtain ⟨hT, hH, ka, kb, hS, hQ, hW⟩ := hR
  have hN := hH.2.2.2.2
  have E := q_fits hH x1 
  have M1 := c_X6_fits l D cI cZ cC cH o (a 0) (a 1) (a 2) (a 3) (a 4) (a 5) (a 6) (a 7) (a 8) (a 9) (a 10) (a 11) (a 12) (a 13) (a 14) (a 15) (a 16) (a 17) (a 18) (a 19) (a 20) (a 21) (a 22) (a 23) (a 24) (a 25) (a 26) (a 27) (a 28) (a 29) p_c a_c b_c (i 0) (i 1) (i 2) (i 3) (i 4) (f 0) (f 1) (i 5) (k 0) (i 6) (f 2) (f 3) (f 4) (i 7) (k 1) (i 8) (f 5) (f 6) (f 7) (i 9) (k 2) (i 10) (f 8) (f 9) (f 10) (i 11) (i 12) (i 13) (i 14) (i 15) (i 16) (i 17) (i 18) (i 19) (i 20) (i 21) (f 11) (f 12) (f 13) (f 14) (f 15) x1 
  have M2 := c_X7_fits l D cI cZ cC cH o7 (a7 0) (a7 1) (a7 2) (a7 3) (a7 4) (a7 5) (a7 6) (a7 7) (a7 8) (a7 9) (j 0) (j 1) (g 0) (g 1) (j 2) (j 3) (g 2) (j 4) (j 5) tk (j 6) (j 7) (j 8) (j 9) (j 10) (g 3) (g 4) (g 5) (g 6) (g 7) (g 8) (g 9) (j 11) (j 12) (j 13) (j 14) x1 
  rw [← E] at M2
  exact ⟨_, _, _, M1, M2, ⟨a, a7, p_c, a_c, b_c, i, j, f, g, k, tk, rfl, rfl, ⟨hT, hH, ka, kb, hS, hQ, hW⟩⟩, rfl, rfl⟩
theorem P_times {l : Launch} {D : va_G} {cI cZ cC cH : ClassId} {o o7 : Nat} {w w7 : va_W} (h : RelW cI cZ cC cH o o7 w w7) (x1 : Int32) : ∃ (r : Int32) (w1 w17 : va_W), MC l D (TY cI cZ cC cH) yX6_times wsX6_times 5 116 [.ref o, .int x1] w (some (.int r)) w1 ∧ MC l D (TY cI cZ cC cH) yX7_times wsX7_times 6 134 [.ref o7, .int x1] w7 (some (.int r)) w17 ∧ RelW cI cZ cC cH o o7 w1 w17 ∧ w1.map Prod.fst = w.map Prod.fst ∧ w17.map Prod.fst = w7.map Prod.fst := by
  obtain ⟨a, a7, p_c, a_c, b_c, i, j, f, g, k, tk, rfl, rfl, hR⟩ := h
  obtain ⟨hT, hH, ka, kb, hS, hQ, hW⟩ := hR
  have hN := hH.2.2.2.2
  have E := q_times hH hS (g 4) (i 11) (i 12) (i 13) (i 14) x1 
  have M1 := c_X6_times l D cI cZ cC cH o (a 0) (a 1) (a 2) (a 3) (a 4) (a 5) (a 6) (a 7) (a 8) (a 9) (a 10) (a 11) (a 12) (a 13) (a 14) (a 15) (a 16) (a 17) (a 18) (a 19) (a 20) (a 21) (a 22) (a 23) (a 24) (a 25) (a 26) (a 27) (a 28) (a 29) p_c a_c b_c (i 0) (i 1) (i 2) (i 3) (i 4) (f 0) (f 1) (i 5) (k 0) (i 6) (f 2) (f 3) (f 4) (i 7) (k 1) (i 8) (f 5) (f 6) (f 7) (i 9) (k 2) (i 10) (f 8) (f 9) (f 10) (i 11) (i 12) (i 13) (i 14) (i 15) (i 16) (i 17) (i 18) (i 19) (i 20) (i 21) (f 11) (f 12) (f 13) (f 14) (f 15) x1 
  have M2 := c_X7_times l D cI cZ cC cH o7 (a7 0) (a7 1) (a7 2) (a7 3) (a7 4) (a7 5) (a7 6) (a7 7) (a7 8) (a7 9) (j 0) (j 1) (g 0) (g 1) (j 2) (j 3) (g 2) (j 4) (j 5) tk (j 6) (j 7) (j 8) (j 9) (j 10) (g 3) (g 4) (g 5) (g 6) (g 7) (g 8) (g 9) (j 11) (j 12) (j 13) (j 14) x1 
  generalize F_X6_times (i 0) (k 0) (i 11) (i 12) (i 13) (i 14) (f 14) x1 = R6 at M1 E
  generalize F_X7_times (j 1) (g 0) (g 4) x1 = R7 at M2 E
  rw [← E.1] at M2
  exact ⟨_, _, _, M1, M2, ⟨a, a7, p_c, a_c, b_c, (fun n => ([R6.2.1, (i 1), (i 2), (i 3), (i 4), (i 5), (i 6), (i 7), (i 8), (i 9), (i 10), R6.2.2.1, R6.2.2.2.1, R6.2.2.2.2.1, R6.2.2.2.2.2.1, (i 15), (i 16), (i 17), (i 18), (i 19), (i 20), (i 21)] : List (Int32)).getD n 0), j, (fun n => ([(f 0), (f 1), (f 2), (f 3), (f 4), (f 5), (f 6), (f 7), (f 8), (f 9), (f 10), (f 11), (f 12), (f 13), R6.2.2.2.2.2.2, (f 15)] : List (Nat → Int32)).getD n (fun _ => 0)), (fun n => ([(g 0), (g 1), (g 2), (g 3), R7.2, (g 5), (g 6), (g 7), (g 8), (g 9)] : List (Nat → Int32)).getD n (fun _ => 0)), k, tk, rfl, rfl, ⟨hT, hH, ka, kb, E.2, hQ, hW⟩⟩, rfl, rfl⟩
theorem P_liars {l : Launch} {D : va_G} {cI cZ cC cH : ClassId} {o o7 : Nat} {w w7 : va_W} (h : RelW cI cZ cC cH o o7 w w7) (x1 : Int32) : ∃ (r : Int32) (w1 w17 : va_W), MC l D (TY cI cZ cC cH) yX6_liars wsX6_liars 5 116 [.ref o, .int x1] w (some (.int r)) w1 ∧ MC l D (TY cI cZ cC cH) yX7_liars wsX7_liars 6 134 [.ref o7, .int x1] w7 (some (.int r)) w17 ∧ RelW cI cZ cC cH o o7 w1 w17 ∧ w1.map Prod.fst = w.map Prod.fst ∧ w17.map Prod.fst = w7.map Prod.fst := by
  obtain ⟨a, a7, p_c, a_c, b_c, i, j, f, g, k, tk, rfl, rfl, hR⟩ := h
  obtain ⟨hT, hH, ka, kb, hS, hQ, hW⟩ := hR
  have hN := hH.2.2.2.2
  have E := q_liars hH hS (g 4) x1 
  have M1 := c_X6_liars l D cI cZ cC cH o (a 0) (a 1) (a 2) (a 3) (a 4) (a 5) (a 6) (a 7) (a 8) (a 9) (a 10) (a 11) (a 12) (a 13) (a 14) (a 15) (a 16) (a 17) (a 18) (a 19) (a 20) (a 21) (a 22) (a 23) (a 24) (a 25) (a 26) (a 27) (a 28) (a 29) p_c a_c b_c (i 0) (i 1) (i 2) (i 3) (i 4) (f 0) (f 1) (i 5) (k 0) (i 6) (f 2) (f 3) (f 4) (i 7) (k 1) (i 8) (f 5) (f 6) (f 7) (i 9) (k 2) (i 10) (f 8) (f 9) (f 10) (i 11) (i 12) (i 13) (i 14) (i 15) (i 16) (i 17) (i 18) (i 19) (i 20) (i 21) (f 11) (f 12) (f 13) (f 14) (f 15) x1 
  have M2 := c_X7_liars l D cI cZ cC cH o7 (a7 0) (a7 1) (a7 2) (a7 3) (a7 4) (a7 5) (a7 6) (a7 7) (a7 8) (a7 9) (j 0) (j 1) (g 0) (g 1) (j 2) (j 3) (g 2) (j 4) (j 5) tk (j 6) (j 7) (j 8) (j 9) (j 10) (g 3) (g 4) (g 5) (g 6) (g 7) (g 8) (g 9) (j 11) (j 12) (j 13) (j 14) x1 
  generalize F_X6_liars (i 0) (k 0) (f 14) x1 = R6 at M1 E
  generalize F_X7_liars (j 1) (g 0) (g 4) x1 = R7 at M2 E
  rw [← E.1] at M2
  exact ⟨_, _, _, M1, M2, ⟨a, a7, p_c, a_c, b_c, (fun n => ([R6.2.1, (i 1), (i 2), (i 3), (i 4), (i 5), (i 6), (i 7), (i 8), (i 9), (i 10), (i 11), (i 12), (i 13), (i 14), (i 15), (i 16), (i 17), (i 18), (i 19), (i 20), (i 21)] : List (Int32)).getD n 0), j, (fun n => ([(f 0), (f 1), (f 2), (f 3), (f 4), (f 5), (f 6), (f 7), (f 8), (f 9), (f 10), (f 11), (f 12), (f 13), R6.2.2, (f 15)] : List (Nat → Int32)).getD n (fun _ => 0)), (fun n => ([(g 0), (g 1), (g 2), (g 3), R7.2, (g 5), (g 6), (g 7), (g 8), (g 9)] : List (Nat → Int32)).getD n (fun _ => 0)), k, tk, rfl, rfl, ⟨hT, hH, ka, kb, E.2, hQ, hW⟩⟩, rfl, rfl⟩
theorem P_next {l : Launch} {D : va_G} {cI cZ cC cH : ClassId} {o o7 : Nat} {w w7 : va_W} (h : RelW cI cZ cC cH o o7 w w7) (x1 : Int32) : ∃ (r : Int32) (w1 w17 : va_W), MC l D (TY cI cZ cC cH) yX6_next wsX6_next 5 116 [.ref o, .int x1] w (some (.int r)) w1 ∧ MC l D (TY cI cZ cC cH) yX7_next wsX7_next 6 134 [.ref o7, .int x1] w7 (some (.int r)) w17 ∧ RelW cI cZ cC cH o o7 w1 w17 ∧ w1.map Prod.fst = w.map Prod.fst ∧ w17.map Prod.fst = w7.map Prod.fst := by
  obtain ⟨a, a7, p_c, a_c, b_c, i, j, f, g, k, tk, rfl, rfl, hR⟩ := h
  obtain ⟨hT, hH, ka, kb, hS, hQ, hW⟩ := hR
  have hN := hH.2.2.2.2
  have E := q_next hH hS (g 4) (f 15) (g 5) x1 
  have M1 := c_X6_next l D cI cZ cC cH o (a 0) (a 1) (a 2) (a 3) (a 4) (a 5) (a 6) (a 7) (a 8) (a 9) (a 10) (a 11) (a 12) (a 13) (a 14) (a 15) (a 16) (a 17) (a 18) (a 19) (a 20) (a 21) (a 22) (a 23) (a 24) (a 25) (a 26) (a 27) (a 28) (a 29) p_c a_c b_c (i 0) (i 1) (i 2) (i 3) (i 4) (f 0) (f 1) (i 5) (k 0) (i 6) (f 2) (f 3) (f 4) (i 7) (k 1) (i 8) (f 5) (f 6) (f 7) (i 9) (k 2) (i 10) (f 8) (f 9) (f 10) (i 11) (i 12) (i 13) (i 14) (i 15) (i 16) (i 17) (i 18) (i 19) (i 20) (i 21) (f 11) (f 12) (f 13) (f 14) (f 15) x1 
  have M2 := c_X7_next l D cI cZ cC cH o7 (a7 0) (a7 1) (a7 2) (a7 3) (a7 4) (a7 5) (a7 6) (a7 7) (a7 8) (a7 9) (j 0) (j 1) (g 0) (g 1) (j 2) (j 3) (g 2) (j 4) (j 5) tk (j 6) (j 7) (j 8) (j 9) (j 10) (g 3) (g 4) (g 5) (g 6) (g 7) (g 8) (g 9) (j 11) (j 12) (j 13) (j 14) x1 
  generalize F_X6_next (i 0) (k 0) (f 14) (f 15) x1 = R6 at M1 E
  generalize F_X7_next (j 0) (j 1) (g 0) (g 4) (g 5) x1 = R7 at M2 E
  rw [← E.1] at M2
  exact ⟨_, _, _, M1, M2, ⟨a, a7, p_c, a_c, b_c, (fun n => ([R6.2.1, (i 1), (i 2), (i 3), (i 4), (i 5), (i 6), (i 7), (i 8), (i 9), (i 10), (i 11), (i 12), (i 13), (i 14), (i 15), (i 16), (i 17), (i 18), (i 19), (i 20), (i 21)] : List (Int32)).getD n 0), j, (fun n => ([(f 0), (f 1), (f 2), (f 3), (f 4), (f 5), (f 6), (f 7), (f 8), (f 9), (f 10), (f 11), (f 12), (f 13), R6.2.2.1, R6.2.2.2] : List (Nat → Int32)).getD n (fun _ => 0)), (fun n => ([(g 0), (g 1), (g 2), (g 3), R7.2.1, R7.2.2, (g 6), (g 7), (g 8), (g 9)] : List (Nat → Int32)).getD n (fun _ => 0)), k, tk, rfl, rfl, ⟨hT, hH, ka, kb, E.2, hQ, hW⟩⟩, rfl, rfl⟩
theorem P_note {l : Launch} {D : va_G} {cI cZ cC cH : ClassId} {o o7 : Nat} {w w7 : va_W} (h : RelW cI cZ cC cH o o7 w w7) (x1 : Int32) (x2 : Int32) (x3 : Int32) : ∃ (r : Int32) (w1 w17 : va_W), MC l D (TY cI cZ cC cH) yX6_note wsX6_note 2 42 [.ref o, .int x1, .int x2, .int x3] w (some (.int r)) w1 ∧ MC l D (TY cI cZ cC cH) yX7_note wsX7_note 2 43 [.ref o7, .int x1, .int x2, .int x3] w7 (some (.int r)) w17 ∧ RelW cI cZ cC cH o o7 w1 w17 ∧ w1.map Prod.fst = w.map Prod.fst ∧ w17.map Prod.fst = w7.map Prod.fst := by
  obtain ⟨a, a7, p_c, a_c, b_c, i, j, f, g, k, tk, rfl, rfl, hR⟩ := h
  obtain ⟨hT, hH, ka, kb, hS, hQ, hW⟩ := hR
  have hN := hH.2.2.2.2
  have E := q_note hH x1 x2 x3 
  have M1 := c_X6_note l D cI cZ cC cH o (a 0) (a 1) (a 2) (a 3) (a 4) (a 5) (a 6) (a 7) (a 8) (a 9) (a 10) (a 11) (a 12) (a 13) (a 14) (a 15) (a 16) (a 17) (a 18) (a 19) (a 20) (a 21) (a 22) (a 23) (a 24) (a 25) (a 26) (a 27) (a 28) (a 29) p_c a_c b_c (i 0) (i 1) (i 2) (i 3) (i 4) (f 0) (f 1) (i 5) (k 0) (i 6) (f 2) (f 3) (f 4) (i 7) (k 1) (i 8) (f 5) (f 6) (f 7) (i 9) (k 2) (i 10) (f 8) (f 9) (f 10) (i 11) (i 12) (i 13) (i 14) (i 15) (i 16) (i 17) (i 18) (i 19) (i 20) (i 21) (f 11) (f 12) (f 13) (f 14) (f 15) x1 x2 x3 (by rw [hN.1]; exact hN.2.1)
  have M2 := c_X7_note l D cI cZ cC cH o7 (a7 0) (a7 1) (a7 2) (a7 3) (a7 4) (a7 5) (a7 6) (a7 7) (a7 8) (a7 9) (j 0) (j 1) (g 0) (g 1) (j 2) (j 3) (g 2) (j 4) (j 5) tk (j 6) (j 7) (j 8) (j 9) (j 10) (g 3) (g 4) (g 5) (g 6) (g 7) (g 8) (g 9) (j 11) (j 12) (j 13) (j 14) x1 x2 x3 hN.2.1 hN.2.2.1
  generalize F_X6_note (k 0) (i 6) (f 2) (f 3) (f 4) x1 x2 x3 = R6 at M1 E
  generalize F_X7_note (j 0) (g 1) (j 2) x1 x2 x3 = R7 at M2 E
  rw [← E.1] at M2
  exact ⟨_, _, _, M1, M2, ⟨a, a7, p_c, a_c, b_c, (fun n => ([(i 0), (i 1), (i 2), (i 3), (i 4), (i 5), R6.2.1, (i 7), (i 8), (i 9), (i 10), (i 11), (i 12), (i 13), (i 14), (i 15), (i 16), (i 17), (i 18), (i 19), (i 20), (i 21)] : List (Int32)).getD n 0), (fun n => ([(j 0), (j 1), R7.2.2, (j 3), (j 4), (j 5), (j 6), (j 7), (j 8), (j 9), (j 10), (j 11), (j 12), (j 13), (j 14)] : List (Int32)).getD n 0), (fun n => ([(f 0), (f 1), R6.2.2.1, R6.2.2.2.1, R6.2.2.2.2, (f 5), (f 6), (f 7), (f 8), (f 9), (f 10), (f 11), (f 12), (f 13), (f 14), (f 15)] : List (Nat → Int32)).getD n (fun _ => 0)), (fun n => ([(g 0), R7.2.1, (g 2), (g 3), (g 4), (g 5), (g 6), (g 7), (g 8), (g 9)] : List (Nat → Int32)).getD n (fun _ => 0)), k, tk, rfl, rfl, ⟨hT, E.2, ka, kb, hS, hQ, hW⟩⟩, rfl, rfl⟩
theorem P_burn {l : Launch} {D : va_G} {cI cZ cC cH : ClassId} {o o7 : Nat} {w w7 : va_W} (h : RelW cI cZ cC cH o o7 w w7)  : ∃ (r : Int32) (w1 w17 : va_W), MC l D (TY cI cZ cC cH) yX6_burn wsX6_burn 0 0 [.ref o] w (some (.int r)) w1 ∧ MC l D (TY cI cZ cC cH) yX7_burn wsX7_burn 0 0 [.ref o7] w7 (some (.int r)) w17 ∧ RelW cI cZ cC cH o o7 w1 w17 ∧ w1.map Prod.fst = w.map Prod.fst ∧ w17.map Prod.fst = w7.map Prod.fst := by
  obtain ⟨a, a7, p_c, a_c, b_c, i, j, f, g, k, tk, rfl, rfl, hR⟩ := h
  obtain ⟨hT, hH, ka, kb, hS, hQ, hW⟩ := hR
  have hN := hH.2.2.2.2
  have E := q_burn hH 
  have M1 := c_X6_burn l D cI cZ cC cH o (a 0) (a 1) (a 2) (a 3) (a 4) (a 5) (a 6) (a 7) (a 8) (a 9) (a 10) (a 11) (a 12) (a 13) (a 14) (a 15) (a 16) (a 17) (a 18) (a 19) (a 20) (a 21) (a 22) (a 23) (a 24) (a 25) (a 26) (a 27) (a 28) (a 29) p_c a_c b_c (i 0) (i 1) (i 2) (i 3) (i 4) (f 0) (f 1) (i 5) (k 0) (i 6) (f 2) (f 3) (f 4) (i 7) (k 1) (i 8) (f 5) (f 6) (f 7) (i 9) (k 2) (i 10) (f 8) (f 9) (f 10) (i 11) (i 12) (i 13) (i 14) (i 15) (i 16) (i 17) (i 18) (i 19) (i 20) (i 21) (f 11) (f 12) (f 13) (f 14) (f 15)  
  have M2 := c_X7_burn l D cI cZ cC cH o7 (a7 0) (a7 1) (a7 2) (a7 3) (a7 4) (a7 5) (a7 6) (a7 7) (a7 8) (a7 9) (j 0) (j 1) (g 0) (g 1) (j 2) (j 3) (g 2) (j 4) (j 5) tk (j 6) (j 7) (j 8) (j 9) (j 10) (g 3) (g 4) (g 5) (g 6) (g 7) (g 8) (g 9) (j 11) (j 12) (j 13) (j 14)  
  generalize F_X6_burn (i 6) = R6 at M1 E
  generalize F_X7_burn (j 2) = R7 at M2 E
  rw [← E.1] at M2
  exact ⟨_, _, _, M1, M2, ⟨a, a7, p_c, a_c, b_c, (fun n => ([(i 0), (i 1), (i 2), (i 3), (i 4), (i 5), R6.2, (i 7), (i 8), (i 9), (i 10), (i 11), (i 12), (i 13), (i 14), (i 15), (i 16), (i 17), (i 18), (i 19), (i 20), (i 21)] : List (Int32)).getD n 0), (fun n => ([(j 0), (j 1), R7.2, (j 3), (j 4), (j 5), (j 6), (j 7), (j 8), (j 9), (j 10), (j 11), (j 12), (j 13), (j 14)] : List (Int32)).getD n 0), f, g, k, tk, rfl, rfl, ⟨hT, E.2, ka, kb, hS, hQ, hW⟩⟩, rfl, rfl⟩
theorem P_rates {l : Launch} {D : va_G} {cI cZ cC cH : ClassId} {o o7 : Nat} {w w7 : va_W} (h : RelW cI cZ cC cH o o7 w w7) (x1 : Int32) (x2 : Int32) : ∃ (r : Int32) (w1 w17 : va_W), MC l D (TY cI cZ cC cH) yX6_rates wsX6_rates 2 53 [.ref o, .int x1, .int x2] w (some (.int r)) w1 ∧ MC l D (TY cI cZ cC cH) yX7_rates wsX7_rates 2 51 [.ref o7, .int x1, .int x2] w7 (some (.int r)) w17 ∧ RelW cI cZ cC cH o o7 w1 w17 ∧ w1.map Prod.fst = w.map Prod.fst ∧ w17.map Prod.fst = w7.map Prod.fst := by
  obtain ⟨a, a7, p_c, a_c, b_c, i, j, f, g, k, tk, rfl, rfl, hR⟩ := h
  obtain ⟨hT, hH, ka, kb, hS, hQ, hW⟩ := hR
  have hN := hH.2.2.2.2
  have E := q_rates hH (i 11) (i 12) (i 13) (i 14) x1 x2 
  have M1 := c_X6_rates l D cI cZ cC cH o (a 0) (a 1) (a 2) (a 3) (a 4) (a 5) (a 6) (a 7) (a 8) (a 9) (a 10) (a 11) (a 12) (a 13) (a 14) (a 15) (a 16) (a 17) (a 18) (a 19) (a 20) (a 21) (a 22) (a 23) (a 24) (a 25) (a 26) (a 27) (a 28) (a 29) p_c a_c b_c (i 0) (i 1) (i 2) (i 3) (i 4) (f 0) (f 1) (i 5) (k 0) (i 6) (f 2) (f 3) (f 4) (i 7) (k 1) (i 8) (f 5) (f 6) (f 7) (i 9) (k 2) (i 10) (f 8) (f 9) (f 10) (i 11) (i 12) (i 13) (i 14) (i 15) (i 16) (i 17) (i 18) (i 19) (i 20) (i 21) (f 11) (f 12) (f 13) (f 14) (f 15) x1 x2 
  have M2 := c_X7_rates l D cI cZ cC cH o7 (a7 0) (a7 1) (a7 2) (a7 3) (a7 4) (a7 5) (a7 6) (a7 7) (a7 8) (a7 9) (j 0) (j 1) (g 0) (g 1) (j 2) (j 3) (g 2) (j 4) (j 5) tk (j 6) (j 7) (j 8) (j 9) (j 10) (g 3) (g 4) (g 5) (g 6) (g 7) (g 8) (g 9) (j 11) (j 12) (j 13) (j 14) x1 x2 hN.2.1 hN.2.2.1
  generalize F_X6_rates (k 0) (i 6) (f 2) (f 3) (f 4) (i 11) (i 12) (i 13) (i 14) x1 x2 = R6 at M1 E
  rw [← E] at M2
  exact ⟨_, _, _, M1, M2, ⟨a, a7, p_c, a_c, b_c, (fun n => ([(i 0), (i 1), (i 2), (i 3), (i 4), (i 5), (i 6), (i 7), (i 8), (i 9), (i 10), R6.2.1, R6.2.2.1, R6.2.2.2.1, R6.2.2.2.2, (i 15), (i 16), (i 17), (i 18), (i 19), (i 20), (i 21)] : List (Int32)).getD n 0), j, f, g, k, tk, rfl, rfl, ⟨hT, hH, ka, kb, hS, hQ, hW⟩⟩, rfl, rfl⟩
theorem P_again {l : Launch} {D : va_G} {cI cZ cC cH : ClassId} {o o7 : Nat} {w w7 : va_W} (h : RelW cI cZ cC cH o o7 w w7) (x1 : Int32) (x2 : Int32) : ∃ (r : Int32) (w1 w17 : va_W), MC l D (TY cI cZ cC cH) yX6_again wsX6_again 3 94 [.ref o, .int x1, .int x2] w (some (.int r)) w1 ∧ MC l D (TY cI cZ cC cH) yX7_again wsX7_again 3 64 [.ref o7, .int x1, .int x2] w7 (some (.int r)) w17 ∧ RelW cI cZ cC cH o o7 w1 w17 ∧ w1.map Prod.fst = w.map Prod.fst ∧ w17.map Prod.fst = w7.map Prod.fst := by
  obtain ⟨a, a7, p_c, a_c, b_c, i, j, f, g, k, tk, rfl, rfl, hR⟩ := h
  obtain ⟨hT, hH, ka, kb, hS, hQ, hW⟩ := hR
  have hN := hH.2.2.2.2
  have E := q_again hH x1 x2 (j 11) (j 12) 
  have M1 := c_X6_again l D cI cZ cC cH o (a 0) (a 1) (a 2) (a 3) (a 4) (a 5) (a 6) (a 7) (a 8) (a 9) (a 10) (a 11) (a 12) (a 13) (a 14) (a 15) (a 16) (a 17) (a 18) (a 19) (a 20) (a 21) (a 22) (a 23) (a 24) (a 25) (a 26) (a 27) (a 28) (a 29) p_c a_c b_c (i 0) (i 1) (i 2) (i 3) (i 4) (f 0) (f 1) (i 5) (k 0) (i 6) (f 2) (f 3) (f 4) (i 7) (k 1) (i 8) (f 5) (f 6) (f 7) (i 9) (k 2) (i 10) (f 8) (f 9) (f 10) (i 11) (i 12) (i 13) (i 14) (i 15) (i 16) (i 17) (i 18) (i 19) (i 20) (i 21) (f 11) (f 12) (f 13) (f 14) (f 15) x1 x2 
  have M2 := c_X7_again l D cI cZ cC cH o7 (a7 0) (a7 1) (a7 2) (a7 3) (a7 4) (a7 5) (a7 6) (a7 7) (a7 8) (a7 9) (j 0) (j 1) (g 0) (g 1) (j 2) (j 3) (g 2) (j 4) (j 5) tk (j 6) (j 7) (j 8) (j 9) (j 10) (g 3) (g 4) (g 5) (g 6) (g 7) (g 8) (g 9) (j 11) (j 12) (j 13) (j 14) x1 x2 hH.2.2.1
  generalize F_X7_again (j 0) (g 0) (j 11) (j 12) x1 x2 = R7 at M2 E
  rw [← E] at M2
  exact ⟨_, _, _, M1, M2, ⟨a, a7, p_c, a_c, b_c, i, (fun n => ([(j 0), (j 1), (j 2), (j 3), (j 4), (j 5), (j 6), (j 7), (j 8), (j 9), (j 10), R7.2.1, R7.2.2, (j 13), (j 14)] : List (Int32)).getD n 0), f, g, k, tk, rfl, rfl, ⟨hT, hH, ka, kb, hS, hQ, hW⟩⟩, rfl, rfl⟩
theorem P_stopped {l : Launch} {D : va_G} {cI cZ cC cH : ClassId} {o o7 : Nat} {w w7 : va_W} (h : RelW cI cZ cC cH o o7 w w7) (x1 : Int32) (x2 : Int32) (x3 : Int32) : ∃ (r : Int32) (w1 w17 : va_W), MC l D (TY cI cZ cC cH) yX6_stopped wsX6_stopped 3 71 [.ref o, .int x1, .int x2, .int x3] w (some (.int r)) w1 ∧ MC l D (TY cI cZ cC cH) yX7_stopped wsX7_stopped 4 90 [.ref o7, .int x1, .int x2, .int x3] w7 (some (.int r)) w17 ∧ RelW cI cZ cC cH o o7 w1 w17 ∧ w1.map Prod.fst = w.map Prod.fst ∧ w17.map Prod.fst = w7.map Prod.fst := by
  obtain ⟨a, a7, p_c, a_c, b_c, i, j, f, g, k, tk, rfl, rfl, hR⟩ := h
  obtain ⟨hT, hH, ka, kb, hS, hQ, hW⟩ := hR
  have hN := hH.2.2.2.2
  have E := q_stopped hH (i 11) (i 12) (i 13) (i 14) x1 x2 x3 
  have M1 := c_X6_stopped l D cI cZ cC cH o (a 0) (a 1) (a 2) (a 3) (a 4) (a 5) (a 6) (a 7) (a 8) (a 9) (a 10) (a 11) (a 12) (a 13) (a 14) (a 15) (a 16) (a 17) (a 18) (a 19) (a 20) (a 21) (a 22) (a 23) (a 24) (a 25) (a 26) (a 27) (a 28) (a 29) p_c a_c b_c (i 0) (i 1) (i 2) (i 3) (i 4) (f 0) (f 1) (i 5) (k 0) (i 6) (f 2) (f 3) (f 4) (i 7) (k 1) (i 8) (f 5) (f 6) (f 7) (i 9) (k 2) (i 10) (f 8) (f 9) (f 10) (i 11) (i 12) (i 13) (i 14) (i 15) (i 16) (i 17) (i 18) (i 19) (i 20) (i 21) (f 11) (f 12) (f 13) (f 14) (f 15) x1 x2 x3 
  have M2 := c_X7_stopped l D cI cZ cC cH o7 (a7 0) (a7 1) (a7 2) (a7 3) (a7 4) (a7 5) (a7 6) (a7 7) (a7 8) (a7 9) (j 0) (j 1) (g 0) (g 1) (j 2) (j 3) (g 2) (j 4) (j 5) tk (j 6) (j 7) (j 8) (j 9) (j 10) (g 3) (g 4) (g 5) (g 6) (g 7) (g 8) (g 9) (j 11) (j 12) (j 13) (j 14) x1 x2 x3 
  generalize F_X6_stopped (k 0) (i 11) (i 12) (i 13) (i 14) x1 x2 x3 = R6 at M1 E
  rw [← E] at M2
  exact ⟨_, _, _, M1, M2, ⟨a, a7, p_c, a_c, b_c, (fun n => ([(i 0), (i 1), (i 2), (i 3), (i 4), (i 5), (i 6), (i 7), (i 8), (i 9), (i 10), R6.2.1, R6.2.2.1, R6.2.2.2.1, R6.2.2.2.2, (i 15), (i 16), (i 17), (i 18), (i 19), (i 20), (i 21)] : List (Int32)).getD n 0), j, f, g, k, tk, rfl, rfl, ⟨hT, hH, ka, kb, hS, hQ, hW⟩⟩, rfl, rfl⟩
theorem P_setBy {l : Launch} {D : va_G} {cI cZ cC cH : ClassId} {o o7 : Nat} {w w7 : va_W} (h : RelW cI cZ cC cH o o7 w w7) (x1 : Int32) (x2 : Int32) (x3 : Int32) (x4 : Int32) : ∃ (r : Int32) (w1 w17 : va_W), MC l D (TY cI cZ cC cH) yX6_setBy wsX6_setBy 3 71 [.ref o, .int x1, .int x2, .int x3, .int x4] w (some (.int r)) w1 ∧ MC l D (TY cI cZ cC cH) yX7_setBy wsX7_setBy 3 67 [.ref o7, .int x1, .int x2, .int x3, .int x4] w7 (some (.int r)) w17 ∧ RelW cI cZ cC cH o o7 w1 w17 ∧ w1.map Prod.fst = w.map Prod.fst ∧ w17.map Prod.fst = w7.map Prod.fst := by
  obtain ⟨a, a7, p_c, a_c, b_c, i, j, f, g, k, tk, rfl, rfl, hR⟩ := h
  obtain ⟨hT, hH, ka, kb, hS, hQ, hW⟩ := hR
  have hN := hH.2.2.2.2
  have E := q_setBy hH (i 11) (i 12) (i 13) (i 14) (i 15) (i 16) (i 17) (i 18) (i 19) (i 20) x1 x2 x3 x4 
  have M1 := c_X6_setBy l D cI cZ cC cH o (a 0) (a 1) (a 2) (a 3) (a 4) (a 5) (a 6) (a 7) (a 8) (a 9) (a 10) (a 11) (a 12) (a 13) (a 14) (a 15) (a 16) (a 17) (a 18) (a 19) (a 20) (a 21) (a 22) (a 23) (a 24) (a 25) (a 26) (a 27) (a 28) (a 29) p_c a_c b_c (i 0) (i 1) (i 2) (i 3) (i 4) (f 0) (f 1) (i 5) (k 0) (i 6) (f 2) (f 3) (f 4) (i 7) (k 1) (i 8) (f 5) (f 6) (f 7) (i 9) (k 2) (i 10) (f 8) (f 9) (f 10) (i 11) (i 12) (i 13) (i 14) (i 15) (i 16) (i 17) (i 18) (i 19) (i 20) (i 21) (f 11) (f 12) (f 13) (f 14) (f 15) x1 x2 x3 x4 
  have M2 := c_X7_setBy l D cI cZ cC cH o7 (a7 0) (a7 1) (a7 2) (a7 3) (a7 4) (a7 5) (a7 6) (a7 7) (a7 8) (a7 9) (j 0) (j 1) (g 0) (g 1) (j 2) (j 3) (g 2) (j 4) (j 5) tk (j 6) (j 7) (j 8) (j 9) (j 10) (g 3) (g 4) (g 5) (g 6) (g 7) (g 8) (g 9) (j 11) (j 12) (j 13) (j 14) x1 x2 x3 x4 
  generalize F_X6_setBy (k 0) (i 11) (i 12) (i 13) (i 14) (i 15) (i 16) (i 17) (i 18) (i 19) (i 20) x1 x2 x3 x4 = R6 at M1 E
  rw [← E] at M2
  exact ⟨_, _, _, M1, M2, ⟨a, a7, p_c, a_c, b_c, (fun n => ([(i 0), (i 1), (i 2), (i 3), (i 4), (i 5), (i 6), (i 7), (i 8), (i 9), (i 10), R6.2.1, R6.2.2.1, R6.2.2.2.1, R6.2.2.2.2.1, R6.2.2.2.2.2.1, R6.2.2.2.2.2.2.1, R6.2.2.2.2.2.2.2.1, R6.2.2.2.2.2.2.2.2.1, R6.2.2.2.2.2.2.2.2.2.1, R6.2.2.2.2.2.2.2.2.2.2, (i 21)] : List (Int32)).getD n 0), j, f, g, k, tk, rfl, rfl, ⟨hT, hH, ka, kb, hS, hQ, hW⟩⟩, rfl, rfl⟩
theorem P_egg {l : Launch} {D : va_G} {cI cZ cC cH : ClassId} {o o7 : Nat} {w w7 : va_W} (h : RelW cI cZ cC cH o o7 w w7) (x1 : Int32) (x2 : Int32) (x3 : Int32) (x4 : Int32) (x5 : Int32) : ∃ (r : Int64) (w1 w17 : va_W), MC l D (TY cI cZ cC cH) yX6_egg wsX6_egg 3 86 [.ref o, .int x1, .int x2, .int x3, .int x4, .int x5] w (some (.long r)) w1 ∧ MC l D (TY cI cZ cC cH) yX7_egg wsX7_egg 3 64 [.ref o7, .int x1, .int x2, .int x3, .int x4, .int x5] w7 (some (.long r)) w17 ∧ RelW cI cZ cC cH o o7 w1 w17 ∧ w1.map Prod.fst = w.map Prod.fst ∧ w17.map Prod.fst = w7.map Prod.fst := by
  obtain ⟨a, a7, p_c, a_c, b_c, i, j, f, g, k, tk, rfl, rfl, hR⟩ := h
  obtain ⟨hT, hH, ka, kb, hS, hQ, hW⟩ := hR
  have hN := hH.2.2.2.2
  have E := q_egg hH x1 x2 x3 x4 x5 
  have M1 := c_X6_egg l D cI cZ cC cH o (a 0) (a 1) (a 2) (a 3) (a 4) (a 5) (a 6) (a 7) (a 8) (a 9) (a 10) (a 11) (a 12) (a 13) (a 14) (a 15) (a 16) (a 17) (a 18) (a 19) (a 20) (a 21) (a 22) (a 23) (a 24) (a 25) (a 26) (a 27) (a 28) (a 29) p_c a_c b_c (i 0) (i 1) (i 2) (i 3) (i 4) (f 0) (f 1) (i 5) (k 0) (i 6) (f 2) (f 3) (f 4) (i 7) (k 1) (i 8) (f 5) (f 6) (f 7) (i 9) (k 2) (i 10) (f 8) (f 9) (f 10) (i 11) (i 12) (i 13) (i 14) (i 15) (i 16) (i 17) (i 18) (i 19) (i 20) (i 21) (f 11) (f 12) (f 13) (f 14) (f 15) x1 x2 x3 x4 x5 
  have M2 := c_X7_egg l D cI cZ cC cH o7 (a7 0) (a7 1) (a7 2) (a7 3) (a7 4) (a7 5) (a7 6) (a7 7) (a7 8) (a7 9) (j 0) (j 1) (g 0) (g 1) (j 2) (j 3) (g 2) (j 4) (j 5) tk (j 6) (j 7) (j 8) (j 9) (j 10) (g 3) (g 4) (g 5) (g 6) (g 7) (g 8) (g 9) (j 11) (j 12) (j 13) (j 14) x1 x2 x3 x4 x5 hH.2.2.1
  rw [← E] at M2
  exact ⟨_, _, _, M1, M2, ⟨a, a7, p_c, a_c, b_c, i, j, f, g, k, tk, rfl, rfl, ⟨hT, hH, ka, kb, hS, hQ, hW⟩⟩, rfl, rfl⟩
theorem P_order {l : Launch} {D : va_G} {cI cZ cC cH : ClassId} {o o7 : Nat} {w w7 : va_W} (h : RelW cI cZ cC cH o o7 w w7) (x1 : Int32) : ∃ (r : Int32) (w1 w17 : va_W), MC l D (TY cI cZ cC cH) yX6_order wsX6_order 4 88 [.ref o, .int x1] w (some (.int r)) w1 ∧ MC l D (TY cI cZ cC cH) yX7_order wsX7_order 3 64 [.ref o7, .int x1] w7 (some (.int r)) w17 ∧ RelW cI cZ cC cH o o7 w1 w17 ∧ w1.map Prod.fst = w.map Prod.fst ∧ w17.map Prod.fst = w7.map Prod.fst := by
  obtain ⟨a, a7, p_c, a_c, b_c, i, j, f, g, k, tk, rfl, rfl, hR⟩ := h
  obtain ⟨hT, hH, ka, kb, hS, hQ, hW⟩ := hR
  have hN := hH.2.2.2.2
  have E := q_order hH (i 21) (f 11) (f 12) (f 13) (g 8) (g 9) (j 13) (j 14) x1 hW 
  have M1 := c_X6_order l D cI cZ cC cH o (a 0) (a 1) (a 2) (a 3) (a 4) (a 5) (a 6) (a 7) (a 8) (a 9) (a 10) (a 11) (a 12) (a 13) (a 14) (a 15) (a 16) (a 17) (a 18) (a 19) (a 20) (a 21) (a 22) (a 23) (a 24) (a 25) (a 26) (a 27) (a 28) (a 29) p_c a_c b_c (i 0) (i 1) (i 2) (i 3) (i 4) (f 0) (f 1) (i 5) (k 0) (i 6) (f 2) (f 3) (f 4) (i 7) (k 1) (i 8) (f 5) (f 6) (f 7) (i 9) (k 2) (i 10) (f 8) (f 9) (f 10) (i 11) (i 12) (i 13) (i 14) (i 15) (i 16) (i 17) (i 18) (i 19) (i 20) (i 21) (f 11) (f 12) (f 13) (f 14) (f 15) x1 
  have M2 := c_X7_order l D cI cZ cC cH o7 (a7 0) (a7 1) (a7 2) (a7 3) (a7 4) (a7 5) (a7 6) (a7 7) (a7 8) (a7 9) (j 0) (j 1) (g 0) (g 1) (j 2) (j 3) (g 2) (j 4) (j 5) tk (j 6) (j 7) (j 8) (j 9) (j 10) (g 3) (g 4) (g 5) (g 6) (g 7) (g 8) (g 9) (j 11) (j 12) (j 13) (j 14) x1 hW
  generalize F_X6_order (k 0) (i 21) (f 11) (f 12) (f 13) x1 = R6 at M1 E
  generalize F_X7_order (j 0) (g 0) (g 8) (g 9) (j 13) (j 14) x1 = R7 at M2 E
  rw [← E.1] at M2
  exact ⟨_, _, _, M1, M2, ⟨a, a7, p_c, a_c, b_c, (fun n => ([(i 0), (i 1), (i 2), (i 3), (i 4), (i 5), (i 6), (i 7), (i 8), (i 9), (i 10), (i 11), (i 12), (i 13), (i 14), (i 15), (i 16), (i 17), (i 18), (i 19), (i 20), R6.2.1] : List (Int32)).getD n 0), (fun n => ([(j 0), (j 1), (j 2), (j 3), (j 4), (j 5), (j 6), (j 7), (j 8), (j 9), (j 10), (j 11), (j 12), R7.2.2.2.1, R7.2.2.2.2] : List (Int32)).getD n 0), (fun n => ([(f 0), (f 1), (f 2), (f 3), (f 4), (f 5), (f 6), (f 7), (f 8), (f 9), (f 10), R6.2.2.1, R6.2.2.2.1, R6.2.2.2.2, (f 14), (f 15)] : List (Nat → Int32)).getD n (fun _ => 0)), (fun n => ([(g 0), (g 1), (g 2), (g 3), (g 4), (g 5), (g 6), (g 7), R7.2.1, R7.2.2.1] : List (Nat → Int32)).getD n (fun _ => 0)), k, tk, rfl, rfl, ⟨hT, hH, ka, kb, hS, hQ, E.2⟩⟩, rfl, rfl⟩
theorem P_keep {l : Launch} {D : va_G} {cI cZ cC cH : ClassId} {o o7 : Nat} {w w7 : va_W} (h : RelW cI cZ cC cH o o7 w w7) (x1 : Int32) : ∃ (r : Int32) (w1 w17 : va_W), MC l D (TY cI cZ cC cH) yX6_keep wsX6_keep 3 68 [.ref o, .int x1] w (some (.int r)) w1 ∧ MC l D (TY cI cZ cC cH) yX7_keep wsX7_keep 1 22 [.ref o7, .int x1] w7 (some (.int r)) w17 ∧ RelW cI cZ cC cH o o7 w1 w17 ∧ w1.map Prod.fst = w.map Prod.fst ∧ w17.map Prod.fst = w7.map Prod.fst := by
  obtain ⟨a, a7, p_c, a_c, b_c, i, j, f, g, k, tk, rfl, rfl, hR⟩ := h
  obtain ⟨hT, hH, ka, kb, hS, hQ, hW⟩ := hR
  have hN := hH.2.2.2.2
  have E := q_keep hH ka kb x1 
  have M1 := c_X6_keep l D cI cZ cC cH o (a 0) (a 1) (a 2) (a 3) (a 4) (a 5) (a 6) (a 7) (a 8) (a 9) (a 10) (a 11) (a 12) (a 13) (a 14) (a 15) (a 16) (a 17) (a 18) (a 19) (a 20) (a 21) (a 22) (a 23) (a 24) (a 25) (a 26) (a 27) (a 28) (a 29) p_c a_c b_c (i 0) (i 1) (i 2) (i 3) (i 4) (f 0) (f 1) (i 5) (k 0) (i 6) (f 2) (f 3) (f 4) (i 7) (k 1) (i 8) (f 5) (f 6) (f 7) (i 9) (k 2) (i 10) (f 8) (f 9) (f 10) (i 11) (i 12) (i 13) (i 14) (i 15) (i 16) (i 17) (i 18) (i 19) (i 20) (i 21) (f 11) (f 12) (f 13) (f 14) (f 15) x1 
  have M2 := c_X7_keep l D cI cZ cC cH o7 (a7 0) (a7 1) (a7 2) (a7 3) (a7 4) (a7 5) (a7 6) (a7 7) (a7 8) (a7 9) (j 0) (j 1) (g 0) (g 1) (j 2) (j 3) (g 2) (j 4) (j 5) tk (j 6) (j 7) (j 8) (j 9) (j 10) (g 3) (g 4) (g 5) (g 6) (g 7) (g 8) (g 9) (j 11) (j 12) (j 13) (j 14) x1 
  generalize F_X6_keep (k 0) (i 6) (f 2) (f 3) (f 4) (i 7) (k 1) (i 8) (f 5) (f 6) (f 7) (i 9) (k 2) (i 10) (f 8) (f 9) (f 10) x1 = R6 at M1 E
  generalize F_X7_keep (j 0) (j 1) (g 0) (g 1) (j 2) (g 6) (g 7) x1 = R7 at M2 E
  rw [← E.1] at M2
  exact ⟨_, _, _, M1, M2, ⟨a, a7, p_c, a_c, b_c, (fun n => ([(i 0), (i 1), (i 2), (i 3), (i 4), (i 5), (i 6), R6.2.1, R6.2.2.2.1, R6.2.2.2.2.2.2.2.1, R6.2.2.2.2.2.2.2.2.2.1, (i 11), (i 12), (i 13), (i 14), (i 15), (i 16), (i 17), (i 18), (i 19), (i 20), (i 21)] : List (Int32)).getD n 0), j, (fun n => ([(f 0), (f 1), (f 2), (f 3), (f 4), R6.2.2.2.2.1, R6.2.2.2.2.2.1, R6.2.2.2.2.2.2.1, R6.2.2.2.2.2.2.2.2.2.2.1, R6.2.2.2.2.2.2.2.2.2.2.2.1, R6.2.2.2.2.2.2.2.2.2.2.2.2, (f 11), (f 12), (f 13), (f 14), (f 15)] : List (Nat → Int32)).getD n (fun _ => 0)), (fun n => ([(g 0), (g 1), (g 2), (g 3), (g 4), (g 5), R7.2.1, R7.2.2, (g 8), (g 9)] : List (Nat → Int32)).getD n (fun _ => 0)), (fun n => ([(k 0), R6.2.2.1, R6.2.2.2.2.2.2.2.2.1] : List (Nat → Nat → Int32)).getD n (fun _ _ => 0)), tk, rfl, rfl, ⟨hT, hH, E.2.1, E.2.2, hS, hQ, hW⟩⟩, rfl, rfl⟩
theorem P_back {l : Launch} {D : va_G} {cI cZ cC cH : ClassId} {o o7 : Nat} {w w7 : va_W} (h : RelW cI cZ cC cH o o7 w w7) (x1 : Int32) : ∃ (r : Int32) (w1 w17 : va_W), MC l D (TY cI cZ cC cH) yX6_back wsX6_back 3 68 [.ref o, .int x1] w (some (.int r)) w1 ∧ MC l D (TY cI cZ cC cH) yX7_back wsX7_back 1 22 [.ref o7, .int x1] w7 (some (.int r)) w17 ∧ RelW cI cZ cC cH o o7 w1 w17 ∧ w1.map Prod.fst = w.map Prod.fst ∧ w17.map Prod.fst = w7.map Prod.fst := by
  obtain ⟨a, a7, p_c, a_c, b_c, i, j, f, g, k, tk, rfl, rfl, hR⟩ := h
  obtain ⟨hT, hH, ka, kb, hS, hQ, hW⟩ := hR
  have hN := hH.2.2.2.2
  have E := q_back hH ka kb (i 0) x1 
  have M1 := c_X6_back l D cI cZ cC cH o (a 0) (a 1) (a 2) (a 3) (a 4) (a 5) (a 6) (a 7) (a 8) (a 9) (a 10) (a 11) (a 12) (a 13) (a 14) (a 15) (a 16) (a 17) (a 18) (a 19) (a 20) (a 21) (a 22) (a 23) (a 24) (a 25) (a 26) (a 27) (a 28) (a 29) p_c a_c b_c (i 0) (i 1) (i 2) (i 3) (i 4) (f 0) (f 1) (i 5) (k 0) (i 6) (f 2) (f 3) (f 4) (i 7) (k 1) (i 8) (f 5) (f 6) (f 7) (i 9) (k 2) (i 10) (f 8) (f 9) (f 10) (i 11) (i 12) (i 13) (i 14) (i 15) (i 16) (i 17) (i 18) (i 19) (i 20) (i 21) (f 11) (f 12) (f 13) (f 14) (f 15) x1 
  have M2 := c_X7_back l D cI cZ cC cH o7 (a7 0) (a7 1) (a7 2) (a7 3) (a7 4) (a7 5) (a7 6) (a7 7) (a7 8) (a7 9) (j 0) (j 1) (g 0) (g 1) (j 2) (j 3) (g 2) (j 4) (j 5) tk (j 6) (j 7) (j 8) (j 9) (j 10) (g 3) (g 4) (g 5) (g 6) (g 7) (g 8) (g 9) (j 11) (j 12) (j 13) (j 14) x1 
  generalize F_X6_back (i 0) (k 0) (i 6) (f 2) (f 3) (f 4) (i 7) (k 1) (i 8) (f 5) (f 6) (f 7) (i 9) (k 2) (i 10) (f 8) (f 9) (f 10) x1 = R6 at M1 E
  generalize F_X7_back (j 0) (j 1) (g 0) (g 1) (j 2) (g 6) (g 7) x1 = R7 at M2 E
  rw [← E.1] at M2
  have hS2 : SF R6.2.1 (f 14) R6.2.2.1 := by
    rcases E.2.2 with hz | ⟨hz1, hz2⟩
    · exact fun hq => absurd hz hq
    · rw [hz1, hz2]; exact hS
  exact ⟨_, _, _, M1, M2, ⟨a, a7, p_c, a_c, b_c, (fun n => ([R6.2.1, (i 1), (i 2), (i 3), (i 4), (i 5), R6.2.2.2.1, (i 7), (i 8), (i 9), (i 10), (i 11), (i 12), (i 13), (i 14), (i 15), (i 16), (i 17), (i 18), (i 19), (i 20), (i 21)] : List (Int32)).getD n 0), (fun n => ([R7.2.1, R7.2.2.1, R7.2.2.2.2.2, (j 3), (j 4), (j 5), (j 6), (j 7), (j 8), (j 9), (j 10), (j 11), (j 12), (j 13), (j 14)] : List (Int32)).getD n 0), (fun n => ([(f 0), (f 1), R6.2.2.2.2.1, R6.2.2.2.2.2.1, R6.2.2.2.2.2.2, (f 5), (f 6), (f 7), (f 8), (f 9), (f 10), (f 11), (f 12), (f 13), (f 14), (f 15)] : List (Nat → Int32)).getD n (fun _ => 0)), (fun n => ([R7.2.2.2.1, R7.2.2.2.2.1, (g 2), (g 3), (g 4), (g 5), (g 6), (g 7), (g 8), (g 9)] : List (Nat → Int32)).getD n (fun _ => 0)), (fun n => ([R6.2.2.1, (k 1), (k 2)] : List (Nat → Nat → Int32)).getD n (fun _ _ => 0)), tk, rfl, rfl, ⟨hT, E.2.1, ka, kb, hS2, hQ, hW⟩⟩, rfl, rfl⟩
theorem P_count {l : Launch} {D : va_G} {cI cZ cC cH : ClassId} {o o7 : Nat} {w w7 : va_W} (h : RelW cI cZ cC cH o o7 w w7) (x1 : Int32) : ∃ (r : Int32) (w1 w17 : va_W), MC l D (TY cI cZ cC cH) yX6_count wsX6_count 1 22 [.ref o, .int x1] w (some (.int r)) w1 ∧ MC l D (TY cI cZ cC cH) yX7_count wsX7_count 0 0 [.ref o7, .int x1] w7 (some (.int r)) w17 ∧ RelW cI cZ cC cH o o7 w1 w17 ∧ w1.map Prod.fst = w.map Prod.fst ∧ w17.map Prod.fst = w7.map Prod.fst := by
  obtain ⟨a, a7, p_c, a_c, b_c, i, j, f, g, k, tk, rfl, rfl, hR⟩ := h
  obtain ⟨hT, hH, ka, kb, hS, hQ, hW⟩ := hR
  have hN := hH.2.2.2.2
  have E := q_count hH hT.1 x1 
  have M1 := c_X6_count l D cI cZ cC cH o (a 0) (a 1) (a 2) (a 3) (a 4) (a 5) (a 6) (a 7) (a 8) (a 9) (a 10) (a 11) (a 12) (a 13) (a 14) (a 15) (a 16) (a 17) (a 18) (a 19) (a 20) (a 21) (a 22) (a 23) (a 24) (a 25) (a 26) (a 27) (a 28) (a 29) p_c a_c b_c (i 0) (i 1) (i 2) (i 3) (i 4) (f 0) (f 1) (i 5) (k 0) (i 6) (f 2) (f 3) (f 4) (i 7) (k 1) (i 8) (f 5) (f 6) (f 7) (i 9) (k 2) (i 10) (f 8) (f 9) (f 10) (i 11) (i 12) (i 13) (i 14) (i 15) (i 16) (i 17) (i 18) (i 19) (i 20) (i 21) (f 11) (f 12) (f 13) (f 14) (f 15) x1 
  have M2 := c_X7_count l D cI cZ cC cH o7 (a7 0) (a7 1) (a7 2) (a7 3) (a7 4) (a7 5) (a7 6) (a7 7) (a7 8) (a7 9) (j 0) (j 1) (g 0) (g 1) (j 2) (j 3) (g 2) (j 4) (j 5) tk (j 6) (j 7) (j 8) (j 9) (j 10) (g 3) (g 4) (g 5) (g 6) (g 7) (g 8) (g 9) (j 11) (j 12) (j 13) (j 14) x1 
  rw [← E] at M2
  exact ⟨_, _, _, M1, M2, ⟨a, a7, p_c, a_c, b_c, i, j, f, g, k, tk, rfl, rfl, ⟨hT, hH, ka, kb, hS, hQ, hW⟩⟩, rfl, rfl⟩
/-- a callee's cells are a stretch of the caller's -/
theorem JN.gen {ws wc w1 ws1 : va_W} (off : Nat) (ha : w1.map Prod.fst = wc.map Prod.fst) (hin : ∀ (k : Nat) (q : Nat × va_E), wc[k]? = some q → ws[off + k]? = some q) (hout : ∀ (k : Nat) (q : Nat × va_E), ws1[k]? = some q → (∃ j, k = off + j ∧ w1[j]? = some q) ∨ (ws[k]? = some q ∧ ∀ (j : Nat) (q2 : Nat × va_E), k = off + j → ¬ wc[j]? = some q2)) : JN ws wc w1 ws1 := by
  have adr : ∀ (j : Nat) (q : Nat × va_E), w1[j]? = some q → ∃ q2 : Nat × va_E, wc[j]? = some q2 ∧ q2.1 = q.1 := fun j q hj => by
    have h1 : (w1.map Prod.fst)[j]? = some q.1 := by rw [List.getElem?_map, hj]; rfl
    rw [ha, List.getElem?_map] at h1
    cases h2 : wc[j]? with
    | none => rw [h2] at h1; cases h1
    | some q2 => rw [h2] at h1; exact ⟨q2, rfl, Option.some.inj h1⟩
  have adr2 : ∀ (k : Nat) (q : Nat × va_E), ws1[k]? = some q → ∃ q2 : Nat × va_E, ws[k]? = some q2 ∧ q2.1 = q.1 := fun k q hk => by
    rcases hout k q hk with ⟨j, rfl, hj⟩ | ⟨h1, -⟩
    · obtain ⟨q2, h2, h3⟩ := adr j q hj
      exact ⟨q2, hin j q2 h2, h3⟩
    · exact ⟨q, h1, rfl⟩
  refine ⟨fun D H hP k q hq => hP _ q (hin k q hq), fun A hD => ⟨fun i j p q hi hj e => by have := hD.1 _ _ p q (hin i p hi) (hin j q hj) e; omega, fun k q hq => hD.2 _ q (hin k q hq)⟩, fun D A H H1 hP hD hk _ hP1 _ => ⟨fun k q hq => ?_, fun i j p q hi hj e => ?_, fun k q hq => ?_⟩⟩
  · rcases hout k q hq with ⟨j, rfl, hj⟩ | ⟨h1, h2⟩
    · exact hP1 j q hj
    · have hlt := (hP k q h1).lt
      refine (hP k q h1).kept (hk q.1 hlt (fun hA => ?_))
      rcases hA with ⟨j, e, hj⟩ | hA
      · have := hD.1 _ _ q (q.1, e) h1 (hin j _ hj) rfl
        exact h2 j _ this hj
      · omega
  · obtain ⟨p2, h1, h2⟩ := adr2 i p hi
    obtain ⟨q2, h3, h4⟩ := adr2 j q hj
    exact hD.1 i j p2 q2 h1 h3 (by rw [h2, h4]; exact e)
  · obtain ⟨q2, h1, h2⟩ := adr2 k q hq
    rw [← h2]; exact hD.2 k q2 h1
theorem JN.left {A A1 B : va_W} (ha : A1.map Prod.fst = A.map Prod.fst) : JN (A ++ B) A A1 (A1 ++ B) := by
  have hl : A1.length = A.length := by have := congrArg List.length ha; rwa [List.length_map, List.length_map] at this
  refine JN.gen 0 ha (fun k q hq => ?_) (fun k q hq => ?_)
  · rw [Nat.zero_add, List.getElem?_append_left (List.getElem?_eq_some_iff.mp hq).1]; exact hq
  · by_cases c : k < A1.length
    · rw [List.getElem?_append_left c] at hq
      exact Or.inl ⟨k, (Nat.zero_add k).symm, hq⟩
    · rw [List.getElem?_append_right (by omega)] at hq
      refine Or.inr ⟨by rw [List.getElem?_append_right (by omega), ← hl]; exact hq, fun j q2 hj h2 => ?_⟩
      have := (List.getElem?_eq_some_iff.mp h2).1
      omega
theorem JN.right {A A1 B : va_W} (ha : A1.map Prod.fst = A.map Prod.fst) : JN (B ++ A) A A1 (B ++ A1) := by
  have hl : A1.length = A.length := by have := congrArg List.length ha; rwa [List.length_map, List.length_map] at this
  refine JN.gen B.length ha (fun k q hq => ?_) (fun k q hq => ?_)
  · rw [List.getElem?_append_right (by omega), Nat.add_sub_cancel_left]; exact hq
  · by_cases c : k < B.length
    · rw [List.getElem?_append_left c] at hq
      exact Or.inr ⟨by rw [List.getElem?_append_left c]; exact hq, fun j q2 hj => by omega⟩
    · rw [List.getElem?_append_right (by omega)] at hq
      exact Or.inl ⟨k - B.length, by omega, hq⟩
