abbrev W6 (cI cZ cC cH : ClassId) (o t_o t_a_bytes t_a_rows p_o p_a_clocks p_n_o p_n_a_clocks p_n_a_minutes p_n_a_dials a_kept a_o a_a_clocks a_n_o a_n_a_clocks a_n_a_minutes a_n_a_dials b_o b_a_clocks b_n_o b_n_a_clocks b_n_a_minutes b_n_a_dials y_o r_o q_o q_a_clocks q_a_rates q_a_least a_misfits a_shown : Nat) (p_c : Nat → Nat) (a_c : Nat → Nat) (b_c : Nat → Nat) (sifted : Int32) (t_length : Int32) (t_lineCount : Int32) (t_start : Int32) (t_end : Int32) (t_bytes : Nat → Int32) (t_rows : Nat → Int32) (p_filled : Int32) (p_ck : Nat → Nat → Int32) (p_n_many : Int32) (p_n_clocks : Nat → Int32) (p_n_minutes : Nat → Int32) (p_n_dials : Nat → Int32) (a_filled : Int32) (a_ck : Nat → Nat → Int32) (a_n_many : Int32) (a_n_clocks : Nat → Int32) (a_n_minutes : Nat → Int32) (a_n_dials : Nat → Int32) (b_filled : Int32) (b_ck : Nat → Nat → Int32) (b_n_many : Int32) (b_n_clocks : Nat → Int32) (b_n_minutes : Nat → Int32) (b_n_dials : Nat → Int32) (y_many : Int32) (y_first : Int32) (y_last : Int32) (y_runs : Int32) (r_kind : Int32) (r_set : Int32) (r_dial : Int32) (r_low : Int32) (r_high : Int32) (r_read : Int32) (q_many : Int32) (q_clocks : Nat → Int32) (q_rates : Nat → Int32) (q_least : Nat → Int32) (misfits : Nat → Int32) (shown : Nat → Int32) : va_W := [(o, .inr (6, [.ref t_o, .ref p_o, .ref a_kept, .ref y_o, .ref r_o, .ref q_o, .ref a_misfits, .int sifted, .ref a_shown])), (t_o, .inr (5, [.ref t_a_bytes, .int t_length, .ref t_a_rows, .int t_lineCount, .int t_start, .int t_end])), (t_a_bytes, .inl (cI, 200, .inl t_bytes)), (t_a_rows, .inl (cI, 48, .inl t_rows)), (p_o, .inr (1, [.int p_filled, .ref p_a_clocks, .ref p_n_o])), (p_a_clocks, .inl (cC, 8, .inr (.inr (.inr (.inr (fun i => some (p_c i))))))), (p_c 0, .inr (0, [.int (p_ck 0 0), .int (p_ck 0 1), .int (p_ck 0 2), .int (p_ck 0 3), .int (p_ck 0 4), .int (p_ck 0 5)])), (p_c 1, .inr (0, [.int (p_ck 1 0), .int (p_ck 1 1), .int (p_ck 1 2), .int (p_ck 1 3), .int (p_ck 1 4), .int (p_ck 1 5)])), (p_c 2, .inr (0, [.int (p_ck 2 0), .int (p_ck 2 1), .int (p_ck 2 2), .int (p_ck 2 3), .int (p_ck 2 4), .int (p_ck 2 5)])), (p_c 3, .inr (0, [.int (p_ck 3 0), .int (p_ck 3 1), .int (p_ck 3 2), .int (p_ck 3 3), .int (p_ck 3 4), .int (p_ck 3 5)])), (p_c 4, .inr (0, [.int (p_ck 4 0), .int (p_ck 4 1), .int (p_ck 4 2), .int (p_ck 4 3), .int (p_ck 4 4), .int (p_ck 4 5)])), (p_c 5, .inr (0, [.int (p_ck 5 0), .int (p_ck 5 1), .int (p_ck 5 2), .int (p_ck 5 3), .int (p_ck 5 4), .int (p_ck 5 5)])), (p_c 6, .inr (0, [.int (p_ck 6 0), .int (p_ck 6 1), .int (p_ck 6 2), .int (p_ck 6 3), .int (p_ck 6 4), .int (p_ck 6 5)])), (p_c 7, .inr (0, [.int (p_ck 7 0), .int (p_ck 7 1), .int (p_ck 7 2), .int (p_ck 7 3), .int (p_ck 7 4), .int (p_ck 7 5)])), (p_n_o, .inr (2, [.int p_n_many, .ref p_n_a_clocks, .ref p_n_a_minutes, .ref p_n_a_dials])), (p_n_a_clocks, .inl (cI, 12, .inl p_n_clocks)), (p_n_a_minutes, .inl (cI, 12, .inl p_n_minutes)), (p_n_a_dials, .inl (cI, 12, .inl p_n_dials)), (a_kept, .inl (cH, 2, .inr (.inr (.inr (.inr (fun i => some (if i = 0 then a_o else b_o))))))), (a_o, .inr (1, [.int a_filled, .ref a_a_clocks, .ref a_n_o])), (a_a_clocks, .inl (cC, 8, .inr (.inr (.inr (.inr (fun i => some (a_c i))))))), (a_c 0, .inr (0, [.int (a_ck 0 0), .int (a_ck 0 1), .int (a_ck 0 2), .int (a_ck 0 3), .int (a_ck 0 4), .int (a_ck 0 5)])), (a_c 1, .inr (0, [.int (a_ck 1 0), .int (a_ck 1 1), .int (a_ck 1 2), .int (a_ck 1 3), .int (a_ck 1 4), .int (a_ck 1 5)])), (a_c 2, .inr (0, [.int (a_ck 2 0), .int (a_ck 2 1), .int (a_ck 2 2), .int (a_ck 2 3), .int (a_ck 2 4), .int (a_ck 2 5)])), (a_c 3, .inr (0, [.int (a_ck 3 0), .int (a_ck 3 1), .int (a_ck 3 2), .int (a_ck 3 3), .int (a_ck 3 4), .int (a_ck 3 5)])), (a_c 4, .inr (0, [.int (a_ck 4 0), .int (a_ck 4 1), .int (a_ck 4 2), .int (a_ck 4 3), .int (a_ck 4 4), .int (a_ck 4 5)])), (a_c 5, .inr (0, [.int (a_ck 5 0), .int (a_ck 5 1), .int (a_ck 5 2), .int (a_ck 5 3), .int (a_ck 5 4), .int (a_ck 5 5)])), (a_c 6, .inr (0, [.int (a_ck 6 0), .int (a_ck 6 1), .int (a_ck 6 2), .int (a_ck 6 3), .int (a_ck 6 4), .int (a_ck 6 5)])), (a_c 7, .inr (0, [.int (a_ck 7 0), .int (a_ck 7 1), .int (a_ck 7 2), .int (a_ck 7 3), .int (a_ck 7 4), .int (a_ck 7 5)])), (a_n_o, .inr (2, [.int a_n_many, .ref a_n_a_clocks, .ref a_n_a_minutes, .ref a_n_a_dials])), (a_n_a_clocks, .inl (cI, 12, .inl a_n_clocks)), (a_n_a_minutes, .inl (cI, 12, .inl a_n_minutes)), (a_n_a_dials, .inl (cI, 12, .inl a_n_dials)), (b_o, .inr (1, [.int b_filled, .ref b_a_clocks, .ref b_n_o])), (b_a_clocks, .inl (cC, 8, .inr (.inr (.inr (.inr (fun i => some (b_c i))))))), (b_c 0, .inr (0, [.int (b_ck 0 0), .int (b_ck 0 1), .int (b_ck 0 2), .int (b_ck 0 3), .int (b_ck 0 4), .int (b_ck 0 5)])), (b_c 1, .inr (0, [.int (b_ck 1 0), .int (b_ck 1 1), .int (b_ck 1 2), .int (b_ck 1 3), .int (b_ck 1 4), .int (b_ck 1 5)])), (b_c 2, .inr (0, [.int (b_ck 2 0), .int (b_ck 2 1), .int (b_ck 2 2), .int (b_ck 2 3), .int (b_ck 2 4), .int (b_ck 2 5)])), (b_c 3, .inr (0, [.int (b_ck 3 0), .int (b_ck 3 1), .int (b_ck 3 2), .int (b_ck 3 3), .int (b_ck 3 4), .int (b_ck 3 5)])), (b_c 4, .inr (0, [.int (b_ck 4 0), .int (b_ck 4 1), .int (b_ck 4 2), .int (b_ck 4 3), .int (b_ck 4 4), .int (b_ck 4 5)])), (b_c 5, .inr (0, [.int (b_ck 5 0), .int (b_ck 5 1), .int (b_ck 5 2), .int (b_ck 5 3), .int (b_ck 5 4), .int (b_ck 5 5)])), (b_c 6, .inr (0, [.int (b_ck 6 0), .int (b_ck 6 1), .int (b_ck 6 2), .int (b_ck 6 3), .int (b_ck 6 4), .int (b_ck 6 5)])), (b_c 7, .inr (0, [.int (b_ck 7 0), .int (b_ck 7 1), .int (b_ck 7 2), .int (b_ck 7 3), .int (b_ck 7 4), .int (b_ck 7 5)])), (b_n_o, .inr (2, [.int b_n_many, .ref b_n_a_clocks, .ref b_n_a_minutes, .ref b_n_a_dials])), (b_n_a_clocks, .inl (cI, 12, .inl b_n_clocks)), (b_n_a_minutes, .inl (cI, 12, .inl b_n_minutes)), (b_n_a_dials, .inl (cI, 12, .inl b_n_dials)), (y_o, .inr (4, [.int y_many, .int y_first, .int y_last, .int y_runs])), (r_o, .inr (0, [.int r_kind, .int r_set, .int r_dial, .int r_low, .int r_high, .int r_read])), (q_o, .inr (3, [.int q_many, .ref q_a_clocks, .ref q_a_rates, .ref q_a_least])), (q_a_clocks, .inl (cI, 8, .inl q_clocks)), (q_a_rates, .inl (cI, 8, .inl q_rates)), (q_a_least, .inl (cI, 64, .inl q_least)), (a_misfits, .inl (cI, 4320, .inl misfits)), (a_shown, .inl (cI, 720, .inl shown))]
theorem clk_W6_p {cI cZ cC cH : ClassId} {o t_o t_a_bytes t_a_rows p_o p_a_clocks p_n_o p_n_a_clocks p_n_a_minutes p_n_a_dials a_kept a_o a_a_clocks a_n_o a_n_a_clocks a_n_a_minutes a_n_a_dials b_o b_a_clocks b_n_o b_n_a_clocks b_n_a_minutes b_n_a_dials y_o r_o q_o q_a_clocks q_a_rates q_a_least a_misfits a_shown : Nat} {p_c : Nat → Nat} {a_c : Nat → Nat} {b_c : Nat → Nat} {sifted : Int32} {t_length : Int32} {t_lineCount : Int32} {t_start : Int32} {t_end : Int32} {t_bytes : Nat → Int32} {t_rows : Nat → Int32} {p_filled : Int32} {p_ck : Nat → Nat → Int32} {p_n_many : Int32} {p_n_clocks : Nat → Int32} {p_n_minutes : Nat → Int32} {p_n_dials : Nat → Int32} {a_filled : Int32} {a_ck : Nat → Nat → Int32} {a_n_many : Int32} {a_n_clocks : Nat → Int32} {a_n_minutes : Nat → Int32} {a_n_dials : Nat → Int32} {b_filled : Int32} {b_ck : Nat → Nat → Int32} {b_n_many : Int32} {b_n_clocks : Nat → Int32} {b_n_minutes : Nat → Int32} {b_n_dials : Nat → Int32} {y_many : Int32} {y_first : Int32} {y_last : Int32} {y_runs : Int32} {r_kind : Int32} {r_set : Int32} {r_dial : Int32} {r_low : Int32} {r_high : Int32} {r_read : Int32} {q_many : Int32} {q_clocks : Nat → Int32} {q_rates : Nat → Int32} {q_least : Nat → Int32} {misfits : Nat → Int32} {shown : Nat → Int32} {j : Nat} (h : j < 8) : (W6 cI cZ cC cH o t_o t_a_bytes t_a_rows p_o p_a_clocks p_n_o p_n_a_clocks p_n_a_minutes p_n_a_dials a_kept a_o a_a_clocks a_n_o a_n_a_clocks a_n_a_minutes a_n_a_dials b_o b_a_clocks b_n_o b_n_a_clocks b_n_a_minutes b_n_a_dials y_o r_o q_o q_a_clocks q_a_rates q_a_least a_misfits a_shown p_c a_c b_c sifted t_length t_lineCount t_start t_end t_bytes t_rows p_filled p_ck p_n_many p_n_clocks p_n_minutes p_n_dials a_filled a_ck a_n_many a_n_clocks a_n_minutes a_n_dials b_filled b_ck b_n_many b_n_clocks b_n_minutes b_n_dials y_many y_first y_last y_runs r_kind r_set r_dial r_low r_high r_read q_many q_clocks q_rates q_least misfits shown)[6 + j]? = some (p_c j, .inr (0, [.int (p_ck j 0), .int (p_ck j 1), .int (p_ck j 2), .int (p_ck j 3), .int (p_ck j 4), .int (p_ck j 5)])) := by
  match j, h with
  | 0, _ => rfl
  | 1, _ => rfl
  | 2, _ => rfl
  | 3, _ => rfl
  | 4, _ => rfl
  | 5, _ => rfl
  | 6, _ => rfl
  | 7, _ => rfl
theorem clkU_W6_p {cI cZ cC cH : ClassId} {o t_o t_a_bytes t_a_rows p_o p_a_clocks p_n_o p_n_a_clocks p_n_a_minutes p_n_a_dials a_kept a_o a_a_clocks a_n_o a_n_a_clocks a_n_a_minutes a_n_a_dials b_o b_a_clocks b_n_o b_n_a_clocks b_n_a_minutes b_n_a_dials y_o r_o q_o q_a_clocks q_a_rates q_a_least a_misfits a_shown : Nat} {p_c : Nat → Nat} {a_c : Nat → Nat} {b_c : Nat → Nat} {sifted : Int32} {t_length : Int32} {t_lineCount : Int32} {t_start : Int32} {t_end : Int32} {t_bytes : Nat → Int32} {t_rows : Nat → Int32} {p_filled : Int32} {p_ck : Nat → Nat → Int32} {p_n_many : Int32} {p_n_clocks : Nat → Int32} {p_n_minutes : Nat → Int32} {p_n_dials : Nat → Int32} {a_filled : Int32} {a_ck : Nat → Nat → Int32} {a_n_many : Int32} {a_n_clocks : Nat → Int32} {a_n_minutes : Nat → Int32} {a_n_dials : Nat → Int32} {b_filled : Int32} {b_ck : Nat → Nat → Int32} {b_n_many : Int32} {b_n_clocks : Nat → Int32} {b_n_minutes : Nat → Int32} {b_n_dials : Nat → Int32} {y_many : Int32} {y_first : Int32} {y_last : Int32} {y_runs : Int32} {r_kind : Int32} {r_set : Int32} {r_dial : Int32} {r_low : Int32} {r_high : Int32} {r_read : Int32} {q_many : Int32} {q_clocks : Nat → Int32} {q_rates : Nat → Int32} {q_least : Nat → Int32} {misfits : Nat → Int32} {shown : Nat → Int32} {j : Nat} (h : j < 8) {a0 a1 a2 a3 a4 a5 : Int32} : (W6 cI cZ cC cH o t_o t_a_bytes t_a_rows p_o p_a_clocks p_n_o p_n_a_clocks p_n_a_minutes p_n_a_dials a_kept a_o a_a_clocks a_n_o a_n_a_clocks a_n_a_minutes a_n_a_dials b_o b_a_clocks b_n_o b_n_a_clocks b_n_a_minutes b_n_a_dials y_o r_o q_o q_a_clocks q_a_rates q_a_least a_misfits a_shown p_c a_c b_c sifted t_length t_lineCount t_start t_end t_bytes t_rows p_filled (ckU p_ck j a0 a1 a2 a3 a4 a5) p_n_many p_n_clocks p_n_minutes p_n_dials a_filled a_ck a_n_many a_n_clocks a_n_minutes a_n_dials b_filled b_ck b_n_many b_n_clocks b_n_minutes b_n_dials y_many y_first y_last y_runs r_kind r_set r_dial r_low r_high r_read q_many q_clocks q_rates q_least misfits shown)[6 + j]? = some (p_c j, .inr (0, [.int (a0), .int (a1), .int (a2), .int (a3), .int (a4), .int (a5)])) := by
  match j, h with
  | 0, _ => rfl
  | 1, _ => rfl
  | 2, _ => rfl
  | 3, _ => rfl
  | 4, _ => rfl
  | 5, _ => rfl
  | 6, _ => rfl
  | 7, _ => rfl
theorem set_W6_p {cI cZ cC cH : ClassId} {o t_o t_a_bytes t_a_rows p_o p_a_clocks p_n_o p_n_a_clocks p_n_a_minutes p_n_a_dials a_kept a_o a_a_clocks a_n_o a_n_a_clocks a_n_a_minutes a_n_a_dials b_o b_a_clocks b_n_o b_n_a_clocks b_n_a_minutes b_n_a_dials y_o r_o q_o q_a_clocks q_a_rates q_a_least a_misfits a_shown : Nat} {p_c : Nat → Nat} {a_c : Nat → Nat} {b_c : Nat → Nat} {sifted : Int32} {t_length : Int32} {t_lineCount : Int32} {t_start : Int32} {t_end : Int32} {t_bytes : Nat → Int32} {t_rows : Nat → Int32} {p_filled : Int32} {p_ck : Nat → Nat → Int32} {p_n_many : Int32} {p_n_clocks : Nat → Int32} {p_n_minutes : Nat → Int32} {p_n_dials : Nat → Int32} {a_filled : Int32} {a_ck : Nat → Nat → Int32} {a_n_many : Int32} {a_n_clocks : Nat → Int32} {a_n_minutes : Nat → Int32} {a_n_dials : Nat → Int32} {b_filled : Int32} {b_ck : Nat → Nat → Int32} {b_n_many : Int32} {b_n_clocks : Nat → Int32} {b_n_minutes : Nat → Int32} {b_n_dials : Nat → Int32} {y_many : Int32} {y_first : Int32} {y_last : Int32} {y_runs : Int32} {r_kind : Int32} {r_set : Int32} {r_dial : Int32} {r_low : Int32} {r_high : Int32} {r_read : Int32} {q_many : Int32} {q_clocks : Nat → Int32} {q_rates : Nat → Int32} {q_least : Nat → Int32} {misfits : Nat → Int32} {shown : Nat → Int32} {j : Nat} (h : j < 8) {a0 a1 a2 a3 a4 a5 : Int32} : (W6 cI cZ cC cH o t_o t_a_bytes t_a_rows p_o p_a_clocks p_n_o p_n_a_clocks p_n_a_minutes p_n_a_dials a_kept a_o a_a_clocks a_n_o a_n_a_clocks a_n_a_minutes a_n_a_dials b_o b_a_clocks b_n_o b_n_a_clocks b_n_a_minutes b_n_a_dials y_o r_o q_o q_a_clocks q_a_rates q_a_least a_misfits a_shown p_c a_c b_c sifted t_length t_lineCount t_start t_end t_bytes t_rows p_filled p_ck p_n_many p_n_clocks p_n_minutes p_n_dials a_filled a_ck a_n_many a_n_clocks a_n_minutes a_n_dials b_filled b_ck b_n_many b_n_clocks b_n_minutes b_n_dials y_many y_first y_last y_runs r_kind r_set r_dial r_low r_high r_read q_many q_clocks q_rates q_least misfits shown).set (6 + j) (p_c j, .inr (0, [.int (a0), .int (a1), .int (a2), .int (a3), .int (a4), .int (a5)])) = (W6 cI cZ cC cH o t_o t_a_bytes t_a_rows p_o p_a_clocks p_n_o p_n_a_clocks p_n_a_minutes p_n_a_dials a_kept a_o a_a_clocks a_n_o a_n_a_clocks a_n_a_minutes a_n_a_dials b_o b_a_clocks b_n_o b_n_a_clocks b_n_a_minutes b_n_a_dials y_o r_o q_o q_a_clocks q_a_rates q_a_least a_misfits a_shown p_c a_c b_c sifted t_length t_lineCount t_start t_end t_bytes t_rows p_filled (ckU p_ck j a0 a1 a2 a3 a4 a5) p_n_many p_n_clocks p_n_minutes p_n_dials a_filled a_ck a_n_many a_n_clocks a_n_minutes a_n_dials b_filled b_ck b_n_many b_n_clocks b_n_minutes b_n_dials y_many y_first y_last y_runs r_kind r_set r_dial r_low r_high r_read q_many q_clocks q_rates q_least misfits shown) := by
  match j, h with
  | 0, _ => rfl
  | 1, _ => rfl
  | 2, _ => rfl
  | 3, _ => rfl
  | 4, _ => rfl
  | 5, _ => rfl
  | 6, _ => rfl
  | 7, _ => rfl
def tld (ck : Nat → Nat → Int32) (x : Int32) : Int32 := if F_X6_isBelow x 8 = 0 then 0 else if ck x.toNatClampNeg 0 = (-1) then 0 else 1
theorem told_cases (ck : Nat → Nat → Int32) (hc : Nat → Nat) (x : Int32) : (tld ck x = 0 ∧ F_X1_toldClock hc ck x = none) ∨ (¬ tld ck x = 0 ∧ F_X1_toldClock hc ck x = some (hc x.toNatClampNeg)) := by
  unfold tld F_X1_toldClock
  by_cases h1 : F_X6_isBelow x 8 = 0
  · left; simp [h1]
  · by_cases h2 : ck x.toNatClampNeg 0 = (-1)
    · left; simp [h1, h2]
    · right; simp [h1, h2]
theorem tld_in {ck : Nat → Nat → Int32} {x : Int32} (h : ¬ tld ck x = 0) : 0 ≤ x.toInt ∧ x.toInt < 8 := by
  unfold tld at h
  by_cases h1 : F_X6_isBelow x 8 = 0
  · simp [h1] at h
  · exact X6_isBelow_in h1
theorem ix_one {x : Int32} (h0 : 0 ≤ x.toInt) (h1 : x.toInt < 2) (h : ¬ x = 0) : x = 1 := Int32.toInt_inj.mp (by
  have e : (1 : Int32).toInt = 1 := rfl
  have : ¬ x.toInt = 0 := fun e => h (Int32.toInt_inj.mp (e.trans rfl))
  rw [e]; omega)
abbrev WAr (cI cZ cC cH : ClassId) (z_a : Nat) (z_row : Nat → Int32) : va_W := [(z_a, .inl (cI, 720, .inl z_row))]
def F_J7_fill_53178_5 (x1 : Int32) : Nat → Int32 → (Nat → Int32) → (Nat → Int32)
  | 0, _, _ => default
  | n + 1, x2_1, w_z_row_2 => (if 720 ≤ x2_1 then w_z_row_2 else ((F_J7_fill_53178_5 x1 n) (x2_1 + 1) (upd w_z_row_2 x2_1.toNatClampNeg x1)))
def F_J7_fill_53178 (z_row : Nat → Int32) (x1 : Int32) : (Nat → Int32) := (F_J7_fill_53178_5 x1 721 0 z_row)
set_option maxHeartbeats 2000000 in
set_option maxRecDepth 100000 in
theorem c_J7_fill_53178 (l : Launch) (D : va_G) (cI cZ cC cH : ClassId) (z_a : Nat) (z_row : Nat → Int32) (x1 : Int32)  : MC l D (TY cI cZ cC cH) yJ7_fill_53178 wsJ7_fill_53178 0 0 [.ref z_a, .int x1] (WAr cI cZ cC cH z_a z_row) (none) (WAr cI cZ cC cH z_a (F_J7_fill_53178 z_row x1)) := by
  obtain ⟨R, hF⟩ : ∃ R, R = F_J7_fill_53178 z_row x1 := ⟨_, rfl⟩
  rw [← hF]
  refine MC.ofF (cc := cJ7_fill_53178) (maxL := 4) (ret := none) RJ7 rfl (by decide +kernel) rfl (Nat.le_of_ble_eq_true rfl) ?_
  intro p e s m args below meth c A Q KX RT hh ls hl
  have z0 : (0 : Int32).toInt = 0 := rfl
  have z1 : (1 : Int32).toInt = 1 := rfl
  have zm : (-1 : Int32).toInt = -1 := rfl
  have hx := KX.1
  have hb := KX.2.1
  have hl : lv_has ls 4 [(0, .ref z_a), (1, .int x1)] := hl
  unfold F_J7_fill_53178 at hF
  refine lv_iconst (v := 0) hx hb dJ7_fill_53178_0 (by decide) ?_
  refine lv_istore_n (lv' := [(2, .int 0), (0, .ref z_a), (1, .int x1)]) hx hb dJ7_fill_53178_1 rfl hl (Nat.le_of_ble_eq_true rfl) rfl (fun ls hl => ?_)
  refine lv_aload_n hx hb dJ7_fill_53178_2 rfl (lv_at hl 1 rfl) ?_
  refine g_alen KX hh 0 0 rfl rfl (v := 720) rfl dJ7_fill_53178_3 ?_
  refine lv_istore_n (lv' := [(3, .int 720), (2, .int 0), (0, .ref z_a), (1, .int x1)]) hx hb dJ7_fill_53178_4 rfl hl (Nat.le_of_ble_eq_true rfl) rfl (fun ls hl => ?_)
  have L_5 : ∀ (n_5 : Nat) (x2_1 : Int32) (w_z_row_2 : Nat → Int32) (i0_5 : 0 ≤ x2_1.toInt) (i1_5 : x2_1.toInt ≤ 720) (_ : (720 - x2_1.toInt).toNat < n_5) (_ : R = (F_J7_fill_53178_5 x1) n_5 x2_1 w_z_row_2) (ls : Array Slot) (H : Heap) (locs : List Loc) (_ : HS D A s.heap (WAr cI cZ cC cH z_a w_z_row_2) H locs) (_ : lv_has ls 4 [(3, .int 720), (2, .int x2_1), (0, .ref z_a), (1, .int x1)]), W p l e { frames := 0, cells := 0, slots := 0, locals := 0 } s m args below meth c H locs 0 0 Q (F0 m 5 ls []) := by
    intro n_5
    induction n_5 with
    | zero => intro x2_1 w_z_row_2 i0_5 i1_5 hm; exact absurd hm (Nat.not_lt_zero _)
    | succ n_5 ih_5 =>
      intro x2_1 w_z_row_2 i0_5 i1_5 hm_5 hF ls H locs hh hl
      rw [F_J7_fill_53178_5.eq_2] at hF
      refine lv_iload_n hx hb dJ7_fill_53178_5 rfl (lv_at hl 1 rfl) ?_
      refine lv_iload_n hx hb dJ7_fill_53178_6 rfl (lv_at hl 0 rfl) ?_
      refine lv_icmp_ge (tgt := 20) hx hb dJ7_fill_53178_7 (by decide) (fun c_7 => ?_) (fun c_7 => ?_)
      · replace hF := hF.trans (if_pos c_7)
        have i_7 : 720 ≤ x2_1.toInt := ti_le.mp c_7
        exact RT _ _ _ _ _ _ hh (by rw [hF]) (Or.inr (Or.inr (Or.inl ⟨rfl, rfl, dJ7_fill_53178_20, rfl⟩)))
      · replace hF := hF.trans (if_neg c_7)
        have i_7 : x2_1.toInt < 720 := ti_nle c_7
        refine lv_aload_n hx hb dJ7_fill_53178_10 rfl (lv_at hl 2 rfl) ?_
        refine lv_iload_n hx hb dJ7_fill_53178_11 rfl (lv_at hl 1 rfl) ?_
        refine lv_iload_n hx hb dJ7_fill_53178_12 rfl (lv_at hl 3 rfl) ?_
        refine g_iast KX hh 0 0 rfl rfl (vp_in_iff.mpr (by omega)) (w' := (WAr cI cZ cC cH z_a (upd w_z_row_2 x2_1.toNatClampNeg x1))) rfl dJ7_fill_53178_13 (fun H locs hh => ?_)
        refine lv_iinc (v := x2_1 + 1) (lv' := [(2, .int (x2_1 + 1)), (3, .int 720), (0, .ref z_a), (1, .int x1)]) hx hb dJ7_fill_53178_14 hl (k := 1) rfl rfl (Nat.le_of_ble_eq_true rfl) rfl (fun ls hl => ?_)
        refine lv_goto (tgt := 5) hx hb dJ7_fill_53178_17 (by decide) ?_
        have e_inc : (x2_1 + 1).toInt = x2_1.toInt + 1 := ti_inc (by omega)
        exact ih_5 (x2_1 + 1) (upd w_z_row_2 x2_1.toNatClampNeg x1) (by first | with_reducible assumption | omega | decide) (by first | with_reducible assumption | omega | decide) (by omega) hF _ _ _ hh (lv_sub hl [1, 0, 2, 3] rfl)
  exact L_5 721 0 z_row (by first | with_reducible assumption | omega | decide) (by first | with_reducible assumption | omega | decide) (by first | omega | decide | (simp; done)) hF _ _ _ hh (lv_sub hl [0, 1, 2, 3] rfl)
theorem max1_ne {x : Int64} : ¬ F_J9_max_f86c9 1 x = 0 := fun h => by
  unfold F_J9_max_f86c9 at h
  split at h
  · rename_i h1
    subst h
    exact absurd h1 (by decide)
  · exact absurd h (by decide)
theorem nm_of_toInt {a : Int32} (h : ¬ a.toInt = 0) : ¬ a = 0 := fun e => h (by rw [e]; rfl)
theorem bits32 (a b : Int32) : 0 ≤ (a ^^^ b).toInt ↔ (0 ≤ a.toInt ↔ 0 ≤ b.toInt) := by
  have h : ∀ x : Int32, 0 ≤ x.toInt ↔ x.toBitVec.msb = false := fun x => by
    show 0 ≤ x.toBitVec.toInt ↔ _
    rw [BitVec.msb_eq_toInt]
    simp
  rw [h, h, h]
  show (a.toBitVec ^^^ b.toBitVec).msb = false ↔ _
  rw [BitVec.msb_xor]
  cases a.toBitVec.msb <;> cases b.toBitVec.msb <;> simp
theorem floorMod_toInt {a b : Int32} (hb : 0 < b.toInt) : (F_J9_floorMod_7cf53 a b).toInt = a.toInt % b.toInt := by
  have hne : ¬ b = 0 := ne_of_pos hb
  have h2 := Int32.toInt_lt b
  have er := q_rem (a := a) hne
  have hl := Int.tmod_lt_of_pos a.toInt hb
  have hg : -b.toInt < a.toInt.tmod b.toInt := by
    have := Int.natAbs_tmod a.toInt b.toInt
    have h3 : (a.toInt.tmod b.toInt).natAbs < b.toInt.natAbs := by rw [this]; exact Nat.mod_lt _ (by omega)
    omega
  have em : a.toInt % b.toInt = if a.toInt.tmod b.toInt < 0 then a.toInt.tmod b.toInt + b.toInt else a.toInt.tmod b.toInt := by
    have h5 : (a.toInt.tmod b.toInt) % b.toInt = a.toInt % b.toInt := by rw [Int.tmod_def, Int.sub_mul_emod_self_left]
    split
    · rw [← h5]; rw [← Int.add_emod_right, Int.emod_eq_of_lt (by omega) (by omega)]
    · rw [← h5, Int.emod_eq_of_lt (by omega) (by omega)]
  have hs : 0 ≤ a.toInt → 0 ≤ a.toInt.tmod b.toInt := fun h => Int.tmod_nonneg _ h
  have hs2 : ¬ 0 ≤ a.toInt → a.toInt.tmod b.toInt ≤ 0 := fun h => by
    have h := Int.tmod_nonneg b.toInt (show 0 ≤ -a.toInt by omega)
    rw [Int.neg_tmod] at h
    omega
  have e0 : (0 : Int32).toInt = 0 := rfl
  unfold F_J9_floorMod_7cf53
  split
  · rename_i h
    have h := (bits32 a b).mp (by have := ti_le.mp h; rw [e0] at this; exact this)
    have ha := h.mpr (Int.le_of_lt hb)
    rw [er, em, if_neg (by have := hs ha; omega)]
  · rename_i h
    have h : ¬ 0 ≤ a.toInt := fun ha => h (ti_le.mpr (by rw [e0]; exact (bits32 a b).mpr ⟨fun _ => Int.le_of_lt hb, fun _ => ha⟩))
    split
    · rename_i hz
      have hz : a.toInt.tmod b.toInt = 0 := by rw [← er, hz]; rfl
      rw [er, em, if_neg (by omega)]
    · rename_i hz
      have hz : ¬ a.toInt.tmod b.toInt = 0 := by rw [← er]; exact ti_ne hz
      have := hs2 h
      rw [ti_add (by rw [er]; omega) (by rw [er]; omega), er, em, if_pos (by omega)]
theorem floorMod_in {v b : Int32} {n : Nat} (hb : b.toInt = n) (h0 : 0 < n) : vp_in (F_J9_floorMod_7cf53 v b) n := by
  refine vp_in_iff.mpr ?_
  rw [floorMod_toInt (by omega), hb]
  exact ⟨Int.emod_nonneg _ (by omega), Int.emod_lt_of_pos _ (by omega)⟩
theorem dial_in {k s d m r : Int32} : vp_in (F_X0_dialAt k s d m r) 720 := floorMod_in rfl (by decide)
