theorem add_spec (ym yf yl yr t : Int32) : ∃ yr', F_X4_add ym yf yl yr t = (ym + 1, (if ym = 0 then t else yf), t, yr') := by
  unfold F_X4_add
  by_cases cm : ym = 0
  · rw [if_pos cm, if_pos cm]
    unfold F_X4_add_12
    rw [if_pos cm]
    exact ⟨_, rfl⟩
  · rw [if_neg cm, if_neg cm]
    unfold F_X4_add_12
    rw [if_neg cm]
    by_cases cl : yl = t - 1
    · rw [if_pos cl]; exact ⟨_, rfl⟩
    · rw [if_neg cl]; exact ⟨_, rfl⟩
section HRs
variable {ck : Nat → Nat → Int32} {nm : Int32} {nc nt nd : Nat → Int32} {told rd : Int32} {c : Nat → Int32} {noted : Int32} {note : Nat → Int32} {si : Int32} {mis fit : Nat → Int32}
theorem stopped_loop (h : HR ck nm nc nt nd told rd c noted note) {i j : Nat} (hi : i < 8) (hj : j < 8) (hni : ¬ ck i 0 = -1) (hnj : ¬ ck j 0 = -1) {x3 : Int32} (s0 : 0 ≤ x3.toInt) (s1 : x3.toInt ≤ 2) : ∀ (n t : Nat) (ym yf yl yr : Int32), t ≤ 4320 → 4320 - t < n →
    (F_X6_stopped_75 ck (nI i) (nI j) x3 n (nI t) ym yf yl yr).1 = F_X7_stopped_72 c (nI i) (nI j) x3 n (nI t) yl yf ym := by
  have e2 : ck i 2 = c (6 * i + 2) := ((h.2.2.2.1 i hi).2.2.2 hni).2.1
  intro n
  induction n with
  | zero => intro t ym yf yl yr _ h; exact absurd h (Nat.not_lt_zero _)
  | succ n ih =>
    intro t ym yf yl yr ht hm
    rw [F_X6_stopped_75.eq_2, F_X7_stopped_72.eq_2]
    by_cases hc : t < 4320
    · rw [if_neg (le4320 hc), if_neg (le4320 hc), nI_tn (n := i) (by omega), nI_tn (n := j) (by omega), ixk2 hi, ← e2, h.csh hj hnj (ck i 2) (t := nI t) (by rw [nI_toInt (by omega)]; omega) (by rw [nI_toInt (by omega)]; omega)]
      by_cases c1 : F_X7_canShow c (nI j) (nI t) (ck i 2) = 0
      · rw [if_pos c1, if_pos c1, nI_suc (by omega)]
        exact ih (t + 1) _ _ _ _ (by omega) (by omega)
      · rw [if_neg c1, if_neg c1]
        obtain ⟨yr', ea⟩ := add_spec ym yf yl yr (nI t)
        unfold F_X6_stopped_c104
        rw [ea, nI_suc (by omega)]
        by_cases cm : ym = 0
        · rw [if_pos cm, if_pos cm]
          exact ih (t + 1) _ _ _ _ (by omega) (by omega)
        · rw [if_neg cm, if_neg cm]
          exact ih (t + 1) _ _ _ _ (by omega) (by omega)
    · have e : t = 4320 := by omega
      subst e
      rw [if_pos (show (4320 : Int32) ≤ nI 4320 by decide), if_pos (show (4320 : Int32) ≤ nI 4320 by decide)]
      show F_X4_tell ym yf yl yr x3 = _
      unfold F_X4_tell
      by_cases c0 : x3 = 0
      · rw [if_pos c0, if_pos c0]
      · rw [if_neg c0, if_neg c0]
        by_cases c1 : x3 = 1
        · rw [if_pos c1, if_pos c1]
        · rw [if_neg c1, if_neg c1, if_pos]
          have g0 := ti_ne c0
          have g1 := ti_ne c1
          have z0 : (0 : Int32).toInt = 0 := rfl
          have z1 : (1 : Int32).toInt = 1 := rfl
          have z2 : (2 : Int32).toInt = 2 := rfl
          exact Int32.toInt_inj.mp (by omega)
theorem q_stopped (h : HR ck nm nc nt nd told rd c noted note) (y1 y2 y3 y4 x1 x2 x3 : Int32) : (F_X6_stopped ck y1 y2 y3 y4 x1 x2 x3).1 = F_X7_stopped told c x1 x2 x3 := by
  unfold F_X6_stopped F_X7_stopped
  rw [h.tl, h.tl, bel3]
  by_cases c1 : F_X7_isClock told x1 = 0
  · rw [if_pos c1, if_pos c1]
    split <;> rfl
  · rw [if_neg c1, if_neg c1]
    by_cases c2 : F_X7_isClock told x2 = 0
    · rw [if_pos c2, if_pos c2]
    · rw [if_neg c2, if_neg c2]
      by_cases c3 : F_X7_in x3 0 2 = 0
      · rw [if_pos c3, if_pos c3]
      · rw [if_neg c3, if_neg c3]
        obtain ⟨s0, s1⟩ : (0 : Int) ≤ x3.toInt ∧ x3.toInt ≤ 2 := X7_in_in c3
        obtain ⟨i, hi, rfl, hni⟩ := h.at c1
        obtain ⟨j, hj, rfl, hnj⟩ := h.at c2
        rw [nI_tn (n := i) (by omega), nI_tn (n := j) (by omega), ixk0 hi, ixk0 hj, (h.2.2.2.1 i hi).kind hni, (h.2.2.2.1 j hj).kind hnj]
        by_cases c4 : c (6 * i) = 2
        · rw [if_pos c4, if_pos c4]
          by_cases c5 : c (6 * j) = 2
          · rw [if_pos c5, if_pos c5]
          · rw [if_neg c5, if_neg c5]
            unfold F_X6_stopped_c69 F_X4_clear
            have g := stopped_loop h hi hj hni hnj s0 s1 4321 0 0 (-1) (-1) 0 (by decide) (by decide)
            rw [iz] at g
            exact g
        · rw [if_neg c4, if_neg c4]
theorem setBy_loop (h : HR ck nm nc nt nd told rd c noted note) {i j : Nat} (hi : i < 8) (hj : j < 8) (hni : ¬ ck i 0 = -1) (hnj : ¬ ck j 0 = -1) (hk0 : c (6 * i) = 0) (hr : ¬ ck i 5 = -1) {x3 x4 : Int32} (m0 : 0 ≤ x3.toInt) (m1 : x3.toInt < 4320) (s0 : 0 ≤ x4.toInt) (s1 : x4.toInt ≤ 1) {R : Int32 × Int32 × Int32 × Int32 × Int32 × Int32} (hR1 : R.1 = ck i 0) (hR4 : R.2.2.2.1 = ck i 3) (hR5 : R.2.2.2.2.1 = ck i 4) : ∀ (n t : Nat) (ym yf yl yr rs rdl : Int32), (t : Int) ≤ x3.toInt + 1 → (x3.toInt + 1 - t).toNat < n →
    (F_X6_setBy_107 ck (nI i) (nI j) x3 x4 R n (nI t) ym yf yl yr rs rdl).1 = F_X7_setBy_100 c (nI i) (nI j) x3 x4 n (nI t) yf ym := by
  obtain ⟨ai0, ai2, -, ain⟩ := (h.2.2.2.1 i hi).2.2.2 hni
  have hk2 : ¬ c (6 * i) = 2 := by rw [hk0]; decide
  obtain ⟨ai1, ai3, ai4⟩ := ain hk2
  have ai5 := ((h.2.2.2.1 i hi).2.2.1 hr).2.1
  obtain ⟨-, -, -, ⟨l0, l1⟩, ⟨g0, g1⟩, lg⟩ := h.2.2.1 i hi
  obtain ⟨l0', g0'⟩ := lg hk2
  have z0 : (0 : Int32).toInt = 0 := rfl
  have z1 : (1 : Int32).toInt = 1 := rfl
  have eR : (1036800 : Int32).toInt = 1036800 := rfl
  have e86 : (86400 : Int32).toInt = 86400 := rfl
  have e14 : (1440 : Int32).toInt = 1440 := rfl
  intro n
  induction n with
  | zero => intro t ym yf yl yr rs rdl _ h; exact absurd h (Nat.not_lt_zero _)
  | succ n ih =>
    intro t ym yf yl yr rs rdl ht hm
    have et := nI_toInt (n := t) (by omega)
    rw [F_X6_setBy_107.eq_2, F_X7_setBy_100.eq_2]
    by_cases hc : x3 < nI t
    · rw [if_pos hc, if_pos hc]
      show F_X4_tell ym yf yl yr x4 = _
      unfold F_X4_tell
      by_cases c0 : x4 = 0
      · rw [if_pos c0, if_pos c0]
      · rw [if_neg c0, if_neg c0, if_pos]
        have q0 := ti_ne c0
        exact Int32.toInt_inj.mp (by omega)
    · have hc' := ti_nlt hc
      rw [if_neg hc, if_neg hc, nI_tn (n := i) (by omega), nI_tn (n := j) (by omega), ixk3 hi, ixk4 hi, ixk5 hi, ixk3 hj, (h.2.2.2.1 j hj).hand3 hj hnj, fmround, nI_suc (by omega), hR1, hR4, hR5, ai5]
      have hrest := rest_toInt (v := F_X7_hand c (nI j) (nI t) (c (6 * j + 3))) (b := 1036800) (by decide)
      generalize F_X7_rest (F_X7_hand c (nI j) (nI t) (c (6 * j + 3))) 1036800 = q at hrest ⊢
      rw [eR] at hrest
      have hq0 : 0 ≤ q.toInt := by omega
      have hq1 : q.toInt < 1036800 := by omega
      by_cases c1 : q - q / 86400 * 86400 = 0
      · rw [if_pos c1, if_pos c1]
        have hmod : q.toInt % 86400 = 0 := by
          have h1 := q_rem (a := q) (b := 86400) (by decide)
          rw [c1, z0, e86, Int.tmod_eq_emod_of_nonneg hq0] at h1
          omega
        have ediv : (q / 1440).toInt = q.toInt / 1440 := by rw [ti_div hq0 (by decide), e14]
        have em : q / 1440 * 1440 = q := Int32.toInt_inj.mp (by
          rw [ti_mul (by rw [ediv, e14]; omega) (by rw [ediv, e14]; omega), ediv, e14]; omega)
        have hand0 : ∀ r, F_X0_handAt (ck i 0) (nI t) (q / 1440) x3 r = q + (x3 - nI t) * (1440 + r) := fun r => by
          unfold F_X0_handAt F_X0_way
          rw [em, ai0, hk0, if_neg (show ¬ (0 : Int32) = 2 by decide), if_neg (show ¬ (0 : Int32) = 1 by decide)]
        have hrange : ∀ r : Int32, -120 ≤ r.toInt → r.toInt ≤ 120 → -1000000000 ≤ (q + (x3 - nI t) * (1440 + r)).toInt := fun r r0 r1 => by
          obtain ⟨p0, p1⟩ := prod_bd (a := x3.toInt - (t : Int)) (b := 1440 + r.toInt) (A := 4320) (B := 1560) (by omega) (by omega) (by omega) (by omega)
          have e1 := ti_sub (a := x3) (b := nI t) (by omega) (by omega)
          have e2 := ti_cadd 1440 r 1440 rfl (by omega) (by omega)
          have e3 := ti_mul (a := x3 - nI t) (b := 1440 + r) (by rw [e1, e2, et]; omega) (by rw [e1, e2, et]; omega)
          rw [e1, e2, et] at e3
          rw [ti_add (by rw [e3]; omega) (by rw [e3]; omega), e3]
          omega
        rw [canShow_csh, hand0, hand0, ai3, ai4, between_eq (hrange _ l0' l1) (hrange _ g0' g1)]
        by_cases c2 : F_X7_isBetween (q + (x3 - nI t) * (1440 + c (6 * i + 3))) (q + (x3 - nI t) * (1440 + c (6 * i + 4))) (ck i 5) = 0
        · rw [if_pos c2, if_pos c2]
          exact ih (t + 1) _ _ _ _ _ _ (by omega) (by omega)
        · rw [if_neg c2, if_neg c2]
          obtain ⟨yr', ea⟩ := add_spec ym yf yl yr (nI t)
          unfold F_X6_setBy_c187
          rw [ea, nI_suc (by omega)]
          by_cases cm : ym = 0
          · rw [if_pos cm, if_pos cm]
            exact ih (t + 1) _ _ _ _ _ _ (by omega) (by omega)
          · rw [if_neg cm, if_neg cm]
            exact ih (t + 1) _ _ _ _ _ _ (by omega) (by omega)
      · rw [if_neg c1, if_neg c1]
        exact ih (t + 1) _ _ _ _ _ _ (by omega) (by omega)
theorem q_setBy (h : HR ck nm nc nt nd told rd c noted note) (y1 y2 y3 y4 r1 r2 r3 r4 r5 r6 x1 x2 x3 x4 : Int32) : (F_X6_setBy ck y1 y2 y3 y4 r1 r2 r3 r4 r5 r6 x1 x2 x3 x4).1 = F_X7_setBy told rd c x1 x2 x3 x4 := by
  unfold F_X6_setBy F_X7_setBy
  rw [h.tl, h.tl, bel4320, bel2]
  by_cases c1 : F_X7_isClock told x1 = 0
  · rw [if_pos c1, if_pos c1]
    split <;> rfl
  · rw [if_neg c1, if_neg c1]
    by_cases c2 : F_X7_isClock told x2 = 0
    · rw [if_pos c2, if_pos c2]
    · rw [if_neg c2, if_neg c2]
      by_cases c3 : x1 = x2
      · rw [if_pos c3, if_pos c3]
      · rw [if_neg c3, if_neg c3]
        by_cases c4 : F_X7_isMinute x3 = 0
        · rw [if_pos c4, if_pos c4]
        · rw [if_neg c4, if_neg c4]
          obtain ⟨t0, t1⟩ := X7_isMinute_in c4
          by_cases c5 : F_X7_in x4 0 1 = 0
          · rw [if_pos c5, if_pos c5]
          · rw [if_neg c5, if_neg c5]
            obtain ⟨s0, s1⟩ : (0 : Int) ≤ x4.toInt ∧ x4.toInt ≤ 1 := X7_in_in c5
            obtain ⟨i, hi, rfl, hni⟩ := h.at c1
            obtain ⟨j, hj, rfl, hnj⟩ := h.at c2
            have hi2 := (h.2.2.2.1 i hi)
            have hj2 := (h.2.2.2.1 j hj)
            unfold F_X7_isExact F_X0_runsByOneRate
            rw [nI_tn (n := i) (by omega), nI_tn (n := j) (by omega), ixk0 hi, ixk0 hj, ixk3 hj, ixk4 hj, hi2.kind hni, hj2.kind hnj, if_neg c2]
            by_cases c6 : c (6 * i) = 0
            · rw [if_pos c6, if_pos c6]
              by_cases c7 : ck i 5 = -1
              · rw [if_pos c7, if_pos (hi2.2.1.mpr c7)]
              · rw [if_neg c7, if_neg (fun e => c7 (hi2.2.1.mp e))]
                by_cases c8 : c (6 * j) = 2
                · rw [if_pos c8, if_pos c8, if_pos rfl]
                · obtain ⟨b1, b3, b4⟩ := (hj2.2.2.2 hnj).2.2.2 c8
                  rw [if_neg c8, if_neg c8, b3, b4]
                  by_cases c9 : c (6 * j + 3) = c (6 * j + 4)
                  · rw [if_pos c9, if_neg (show ¬ (1 : Int32) = 0 by decide), if_neg (show ¬ (1 : Int32) = 0 by decide)]
                    unfold F_X6_setBy_c94 F_X6_setBy_c101 F_X4_clear
                    have z0 : (0 : Int32).toInt = 0 := rfl
                    have g := setBy_loop h hi hj hni hnj c6 c7 t0 t1 s0 s1 (R := F_X0_copy (c (6 * i)) (ck i 1) (ck i 2) (ck i 3) (ck i 4) (ck i 5)) (hi2.kind hni).symm rfl rfl 4321 0 0 (-1) (-1) 0 (F_X0_copy (c (6 * i)) (ck i 1) (ck i 2) (ck i 3) (ck i 4) (ck i 5)).2.1 (F_X0_copy (c (6 * i)) (ck i 1) (ck i 2) (ck i 3) (ck i 4) (ck i 5)).2.2.1 (by omega) (by omega)
                    rw [iz] at g
                    exact g
                  · rw [if_neg c9, if_pos rfl, if_pos rfl]
            · rw [if_neg c6, if_neg c6]
end HRs
