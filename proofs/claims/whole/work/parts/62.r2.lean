/-- the text in both -/
def TX (tl : Int32) (tb : Nat → Int32) (mb : Int32) (mt : Nat → Int32) : Prop := tl = mb ∧ 0 ≤ mb.toInt ∧ mb.toInt ≤ 200 ∧ ∀ i : Nat, (i : Int) < mb.toInt → tb i = mt i
theorem q_erase {tl mb : Int32} {tb mt : Nat → Int32} (h : TX tl tb mb mt) : (F_X6_erase tl).1 = (F_X7_erase mb).1 ∧ TX (F_X6_erase tl).2 tb (F_X7_erase mb).2 mt := by
  refine ⟨h.1, rfl, ?_, ?_, fun i hi => ?_⟩
  · show 0 ≤ (0 : Int32).toInt; decide
  · show (0 : Int32).toInt ≤ 200; decide
  · have : (0 : Int32).toInt = 0 := rfl
    have hi : (i : Int) < (0 : Int32).toInt := hi
    omega
theorem upd_at {f : Nat → Int32} {k : Nat} {v : Int32} : upd f k v k = v := by unfold upd; rw [if_pos rfl]
theorem upd_ne {f : Nat → Int32} {k j : Nat} {v : Int32} (h : ¬ j = k) : upd f k v j = f j := by unfold upd; rw [if_neg h]
theorem wr_loop {x1 : Int64} {x3 mb : Int32} (hm0 : 0 ≤ mb.toInt) (hx0 : 0 ≤ x3.toInt) (hx8 : x3.toInt ≤ 8) (hs : mb.toInt + x3.toInt ≤ 200) : ∀ (n : Nat) (k tl : Int32) (tb mt : Nat → Int32), 0 ≤ k.toInt → k.toInt ≤ x3.toInt → (x3.toInt - k.toInt).toNat < n → tl.toInt = mb.toInt + k.toInt → (∀ i : Nat, (i : Int) < tl.toInt → tb i = mt i) →
    (F_X6_write_35 x1 x3 n k tl tb).1 = (F_X7_write_31 mb x1 x3 n k mt).1 ∧ TX (F_X6_write_35 x1 x3 n k tl tb).2.1 (F_X6_write_35 x1 x3 n k tl tb).2.2 (F_X7_write_31 mb x1 x3 n k mt).2.1 (F_X7_write_31 mb x1 x3 n k mt).2.2 := by
  intro n
  induction n with
  | zero => intro k tl tb mt _ _ h _ _; exact absurd h (Nat.not_lt_zero _)
  | succ n ih =>
    intro k tl tb mt k0 k1 hm hl ht
    rw [F_X6_write_35.eq_2, F_X7_write_31.eq_2]
    by_cases hc : x3 ≤ k
    · rw [if_pos hc, if_pos hc]
      have hc := ti_le.mp hc
      have e : tl = mb + x3 := Int32.toInt_inj.mp (by rw [ti_add (by omega) (by omega)]; omega)
      rw [← e]
      exact ⟨rfl, rfl, (show 0 ≤ tl.toInt by omega), (show tl.toInt ≤ 200 by omega), ht⟩
    · rw [if_neg hc, if_neg hc]
      have hc := ti_nle hc
      have e1 := ti_inc (a := k) (by omega)
      have e2 := ti_inc (a := tl) (by omega)
      have e3 := ti_add (a := mb) (b := k) (by omega) (by omega)
      have hput : ∀ v, F_X5_put tl tb v = (tl + 1, upd tb tl.toNatClampNeg v) := fun v => by
        unfold F_X5_put
        rw [if_neg]
        intro h
        have := ti_le.mp h
        have e200 : (200 : Int32).toInt = 200 := rfl
        omega
      unfold F_X6_write_c57
      rw [hput]
      have et : tl = mb + k := Int32.toInt_inj.mp (by omega)
      refine ih (k + 1) (tl + 1) _ _ (by omega) (by omega) (by omega) (by omega) (fun i hi => ?_)
      show upd tb tl.toNatClampNeg _ i = upd mt (mb + k).toNatClampNeg _ i
      rw [← et]
      have ei := tn_of (x := tl) (by omega)
      by_cases h : i = tl.toNatClampNeg
      · rw [h, upd_at, upd_at]
      · rw [upd_ne h, upd_ne h]
        exact ht i (by omega)
theorem q_write {tl mb : Int32} {tb mt : Nat → Int32} (x1 : Int64) (x3 : Int32) (h : TX tl tb mb mt) : (F_X6_write tl tb x1 x3).1 = (F_X7_write mb mt x1 x3).1 ∧ TX (F_X6_write tl tb x1 x3).2.1 (F_X6_write tl tb x1 x3).2.2 (F_X7_write mb mt x1 x3).2.1 (F_X7_write mb mt x1 x3).2.2 := by
  obtain ⟨rfl, h0, h1, h2⟩ := id h
  have e1 : (1 : Int32).toInt = 1 := rfl
  have e8 : (8 : Int32).toInt = 8 := rfl
  have e200 : (200 : Int32).toInt = 200 := rfl
  unfold F_X6_write F_X7_write
  rw [in_spec, e1, e8]
  by_cases c1 : x3 < 1
  · have g1 := ti_lt.mp c1
    rw [if_pos c1, if_neg (show ¬ (1 ≤ x3.toInt ∧ x3.toInt ≤ 8) by omega), if_pos rfl]
    exact ⟨rfl, h⟩
  · have g1 := ti_nlt c1
    rw [if_neg c1]
    by_cases c2 : x3 ≤ 8
    · have g2 := ti_le.mp c2
      rw [if_pos c2, if_pos (show 1 ≤ x3.toInt ∧ x3.toInt ≤ 8 by omega), if_neg (show ¬ (1 : Int32) = 0 by decide)]
      by_cases c3 : tl + x3 ≤ 200
      · have g3 := ti_le.mp c3
        rw [ti_add (by omega) (by omega)] at g3
        rw [if_pos c3, if_pos c3]
        exact wr_loop h0 (by omega) (by omega) (by omega) 9 0 tl tb mt (by decide) (by have e0 : (0 : Int32).toInt = 0 := rfl; omega) (by have e0 : (0 : Int32).toInt = 0 := rfl; omega) (by have e0 : (0 : Int32).toInt = 0 := rfl; omega) h2
      · rw [if_neg c3, if_neg c3]
        exact ⟨rfl, h⟩
    · have g2 := ti_nle c2
      rw [if_neg c2, if_neg (show ¬ (1 ≤ x3.toInt ∧ x3.toInt ≤ 8) by omega), if_pos rfl]
      exact ⟨rfl, h⟩
section HRs
variable {ck : Nat → Nat → Int32} {nm : Int32} {nc nt nd : Nat → Int32} {told rd : Int32} {c : Nat → Int32} {noted : Int32} {note : Nat → Int32}
theorem q_count (h : HR ck nm nc nt nd told rd c noted note) {tl mb : Int32} (ht : tl = mb) (x : Int32) : F_X6_count tl ck nm x = F_X7_count told rd noted mb x := by
  unfold F_X6_count F_X7_count
  rw [h.tob, h.rdb, h.2.2.2.2.1, ht]
theorem q_clock (h : HR ck nm nc nt nd told rd c noted note) (x1 x2 : Int32) : F_X6_clock ck x1 x2 = F_X7_clock told rd c x1 x2 := by
  unfold F_X6_clock F_X7_clock
  rw [h.tl]
  by_cases hi : F_X7_isClock told x1 = 0
  · rw [if_pos hi, if_pos hi]
  · rw [if_neg hi, if_neg hi]
    obtain ⟨k, hk, rfl, hn⟩ := h.at hi
    obtain ⟨a1, a2, a3, a4⟩ := h.2.2.2.1 k hk
    obtain ⟨b0, b2, bs, bn⟩ := a4 hn
    rw [nI_tn (by omega), ixk0 hk, b0]
    have r5 : (if F_X7_has rd (nI k) = 0 then (-1) else c (6 * nI k + 5).toNatClampNeg) = ck k 5 := by
      rw [ixk5 hk]
      by_cases h5 : ck k 5 = -1
      · rw [if_pos (a2.mpr h5), h5]
      · rw [if_neg (fun e => h5 (a2.mp e)), (a3 h5).2.1]
    unfold F_X6_clock_29 F_X7_clock_29
    rw [r5, nI_tn (by omega), b0, b2, ixk1 hk]
    by_cases h2 : c (6 * k) = 2
    · rw [if_pos h2, if_pos h2]
      by_cases c0 : x2 = 0
      · subst c0; rw [if_pos rfl, if_pos rfl, Int32.add_zero, ixk0 hk]
      · rw [if_neg c0, if_neg c0]
        by_cases c1 : x2 = 1
        · rw [if_pos c1, if_pos c1, if_neg (by decide), if_neg (by decide)]
        · rw [if_neg c1, if_neg c1]
          by_cases c2 : x2 = 2
          · subst c2; rw [if_pos rfl, if_pos rfl, ixk2 hk]
          · rw [if_neg c2, if_neg c2]
            by_cases c3 : x2 = 3
            · rw [if_pos c3, if_pos c3, if_neg (by decide), if_neg (by decide)]
            · rw [if_neg c3, if_neg c3]
              by_cases c4 : x2 = 4
              · rw [if_pos c4, if_pos c4, if_neg (by decide), if_neg (by decide)]
              · rw [if_neg c4, if_neg c4]
    · rw [if_neg h2, if_neg h2]
      obtain ⟨b1, b3, b4⟩ := bn h2
      rw [b1, b3, b4]
      by_cases c0 : x2 = 0
      · subst c0; rw [if_pos rfl, if_pos rfl, Int32.add_zero, ixk0 hk]
      · rw [if_neg c0, if_neg c0]
        by_cases c1 : x2 = 1
        · rw [if_pos c1, if_pos c1]
        · rw [if_neg c1, if_neg c1]
          by_cases c2 : x2 = 2
          · subst c2; rw [if_pos rfl, if_pos rfl, ixk2 hk]
          · rw [if_neg c2, if_neg c2]
            by_cases c3 : x2 = 3
            · subst c3; rw [if_pos rfl, if_pos rfl, if_pos rfl, if_pos rfl, ixk3 hk]
            · rw [if_neg c3, if_neg c3]
              by_cases c4 : x2 = 4
              · subst c4; rw [if_pos rfl, if_pos rfl, if_pos rfl, if_pos rfl, ixk4 hk]
              · rw [if_neg c4, if_neg c4]
theorem q_shows (h : HR ck nm nc nt nd told rd c noted note) (x1 x2 x3 : Int32) : F_X6_shows ck x1 x2 x3 = F_X7_shows told c x1 x2 x3 := by
  unfold F_X6_shows F_X7_shows
  rw [h.tl, bel4320, bel2]
  by_cases hi : F_X7_isClock told x1 = 0
  · rw [if_pos hi, if_pos hi]
  · rw [if_neg hi, if_neg hi]
    obtain ⟨k, hk, rfl, hn⟩ := h.at hi
    by_cases c1 : F_X7_isMinute x2 = 0
    · rw [if_pos c1, if_pos c1]
    · rw [if_neg c1, if_neg c1]
      obtain ⟨t0, t1⟩ := X7_isMinute_in c1
      by_cases c2 : F_X7_in x3 0 1 = 0
      · rw [if_pos c2, if_pos c2]
      · rw [if_neg c2, if_neg c2]
        obtain ⟨s0, s1⟩ : (0 : Int) ≤ x3.toInt ∧ x3.toInt ≤ 1 := X7_in_in c2
        obtain ⟨d3, d4⟩ := h.dial hk hn (t := x2) t0 (by omega)
        unfold F_X6_shows_59
        rw [nI_tn (by omega), d3, d4]
        by_cases c3 : x3 = 0
        · subst c3; rw [if_pos rfl, Int32.add_zero, ixk3 hk]
        · have e : x3 = 1 := Int32.toInt_inj.mp (by have := ti_ne c3; have e0 : (0 : Int32).toInt = 0 := rfl; have e1 : (1 : Int32).toInt = 1 := rfl; omega)
          subst e
          have e4 : (6 * nI k + 3 + 1 : Int32) = 6 * nI k + 4 := by rw [Int32.add_assoc]; rfl
          rw [if_neg c3, e4, ixk4 hk]
theorem q_can (h : HR ck nm nc nt nd told rd c noted note) (x1 x2 x3 : Int32) : F_X6_can ck x1 x2 x3 = F_X7_can told c x1 x2 x3 := by
  unfold F_X6_can F_X7_can
  rw [h.tl, bel4320, bel720]
  by_cases hi : F_X7_isClock told x1 = 0
  · rw [if_pos hi, if_pos hi]
  · rw [if_neg hi, if_neg hi]
    obtain ⟨k, hk, rfl, hn⟩ := h.at hi
    by_cases c1 : F_X7_isMinute x2 = 0
    · rw [if_pos c1, if_pos c1]
    · rw [if_neg c1, if_neg c1]
      obtain ⟨t0, t1⟩ := X7_isMinute_in c1
      rw [nI_tn (by omega), h.csh hk hn x3 t0 (by omega)]
/-- misfits and fits at a minute, against what is read -/
theorem HR.fit3 (h : HR ck nm nc nt nd told rd c noted note) {t : Int32} (t0 : 0 ≤ t.toInt) (t1 : t.toInt ≤ 4320) : F_X1_misfitsAt ck t = (rd &&& (F_X7_fitAt rd c t ^^^ (-1))) ∧ F_X7_fitAt rd c t = (rd &&& (F_X1_misfitsAt ck t ^^^ (-1))) ∧ (F_X1_misfitsAt ck t = 0 ↔ F_X7_fitAt rd c t = rd) ∧ 0 ≤ (F_X1_misfitsAt ck t).toInt ∧ (F_X1_misfitsAt ck t).toInt ≤ 255 := by
  have key := tri_of (fun k => if ck k 5 = (-1) then 0 else if cSh ck t k (ck k 5) = 0 then 1 else 2)
  have e1 : F_X1_misfitsAt ck t = orf (fun k => o3 1 (if ck k 5 = (-1) then 0 else if cSh ck t k (ck k 5) = 0 then 1 else 2) k) := by
    rw [misfits_orf]
    refine orf_congr (fun k hk => ?_)
    by_cases c5 : ck k 5 = -1
    · rw [if_pos c5, if_pos c5]; rfl
    · rw [if_neg c5, if_neg c5]
      by_cases cs : cSh ck t k (ck k 5) = 0
      · rw [if_pos cs, if_pos cs]; rfl
      · rw [if_neg cs, if_neg cs]; rfl
  have e2 : F_X7_fitAt rd c t = orf (fun k => o3 2 (if ck k 5 = (-1) then 0 else if cSh ck t k (ck k 5) = 0 then 1 else 2) k) := by
    rw [fitAt_orf]
    refine orf_congr (fun k hk => ?_)
    obtain ⟨a1, a2, a3, a4⟩ := h.2.2.2.1 k hk
    by_cases c5 : ck k 5 = -1
    · rw [if_pos (a2.mpr c5), if_pos c5]; rfl
    · obtain ⟨b1, b2, b3, b4⟩ := a3 c5
      have es : F_X7_canShow c (nI k) t (c (6 * k + 5)) = cSh ck t k (ck k 5) := by
        rw [b2]; exact (h.csh hk b1 (ck k 5) t0 t1).symm
      rw [if_neg (fun e => c5 (a2.mp e)), if_neg c5, es]
      by_cases cs : cSh ck t k (ck k 5) = 0
      · rw [if_pos cs, if_pos cs]; rfl
      · rw [if_neg cs, if_neg cs]; rfl
  have e3 : rd = orf (fun k => o3 1 (if ck k 5 = (-1) then 0 else if cSh ck t k (ck k 5) = 0 then 1 else 2) k ||| o3 2 (if ck k 5 = (-1) then 0 else if cSh ck t k (ck k 5) = 0 then 1 else 2) k) := by
    rw [← h.rdb, readBits_orf]
    refine orf_congr (fun k hk => ?_)
    by_cases c5 : ck k 5 = -1
    · rw [if_pos c5, if_pos c5]; show (0 : Int32) = 0 ||| 0; rw [Int32.or_zero]
    · rw [if_neg c5, if_neg c5]
      by_cases cs : cSh ck t k (ck k 5) = 0
      · rw [if_pos cs]; show bk k = bk k ||| 0; rw [Int32.or_zero]
      · rw [if_neg cs]; show bk k = 0 ||| bk k; rw [Int32.zero_or]
  rw [← e1, ← e2, ← e3] at key
  exact key
theorem q_fits (h : HR ck nm nc nt nd told rd c noted note) (x : Int32) : F_X6_fits ck x = F_X7_fits rd c x := by
  unfold F_X6_fits F_X7_fits
  rw [bel4320]
  by_cases c1 : F_X7_isMinute x = 0
  · rw [if_pos c1, if_pos c1]
  · rw [if_neg c1, if_neg c1]
    obtain ⟨t0, t1⟩ := X7_isMinute_in c1
    rw [h.rdb]
    exact (h.fit3 t0 (by omega)).2.1.symm
end HRs
