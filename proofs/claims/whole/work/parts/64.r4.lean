/-- what is sifted is right -/
def SF (si : Int32) (mis : Nat → Int32) (ck : Nat → Nat → Int32) : Prop := ¬ si = 0 → ∀ t : Nat, t < 4320 → mis t = F_X1_misfitsAt ck (nI t)
theorem iz : nI 0 = (0 : Int32) := rfl
theorem le4320 {k : Nat} (h : k < 4320) : ¬ (4320 : Int32) ≤ nI k := fun hc => by
  have := (iN_le (a := 4320) (b := k) (by decide) (by omega)).mp hc
  omega
theorem sift_loop {ck : Nat → Nat → Int32} : ∀ (n k : Nat) (w : Nat → Int32), k ≤ 4320 → 4320 - k < n → (∀ i, i < k → w i = F_X1_misfitsAt ck (nI i)) → (F_X6_sift_10 ck n (nI k) w).1 = 1 ∧ ∀ i, i < 4320 → (F_X6_sift_10 ck n (nI k) w).2 i = F_X1_misfitsAt ck (nI i) := by
  intro n
  induction n with
  | zero => intro k w _ h _; exact absurd h (Nat.not_lt_zero _)
  | succ n ih =>
    intro k w hk hm hi
    rw [F_X6_sift_10.eq_2]
    by_cases h : k < 4320
    · rw [if_neg (le4320 h), nI_tn (by omega), nI_suc (by omega)]
      refine ih (k + 1) _ (by omega) (by omega) (fun i hik => ?_)
      by_cases h2 : i = k
      · rw [h2, upd_at]
      · rw [upd_ne h2]; exact hi i (by omega)
    · have e : k = 4320 := by omega
      subst e
      rw [if_pos (show (4320 : Int32) ≤ nI 4320 by decide)]
      exact ⟨rfl, hi⟩
theorem sift_ok {si : Int32} {mis : Nat → Int32} {ck : Nat → Nat → Int32} (h : SF si mis ck) : (∀ i, i < 4320 → (F_X6_sift si ck mis).2 i = F_X1_misfitsAt ck (nI i)) ∧ SF (F_X6_sift si ck mis).1 (F_X6_sift si ck mis).2 ck := by
  unfold F_X6_sift
  by_cases hs : si = 0
  · rw [if_pos hs]
    have := sift_loop (ck := ck) 4321 0 mis (by decide) (by decide) (fun i h => absurd h (Nat.not_lt_zero _))
    rw [iz] at this
    exact ⟨this.2, fun _ => this.2⟩
  · rw [if_neg hs]
    exact ⟨h hs, h⟩
theorem lay_loop {rd : Int32} {c : Nat → Int32} : ∀ (n k : Nat) (w : Nat → Int32), k ≤ 4320 → 4320 - k < n → (∀ i, i < k → w i = F_X7_fitAt rd c (nI i)) → ∀ i, i < 4320 → (F_X7_layFits_2 rd c n (nI k) w) i = F_X7_fitAt rd c (nI i) := by
  intro n
  induction n with
  | zero => intro k w _ h _; exact absurd h (Nat.not_lt_zero _)
  | succ n ih =>
    intro k w hk hm hi
    rw [F_X7_layFits_2.eq_2]
    by_cases h : k < 4320
    · rw [if_neg (le4320 h), nI_tn (by omega), nI_suc (by omega)]
      refine ih (k + 1) _ (by omega) (by omega) (fun i hik => ?_)
      by_cases h2 : i = k
      · rw [h2, upd_at]
      · rw [upd_ne h2]; exact hi i (by omega)
    · have e : k = 4320 := by omega
      subst e
      rw [if_pos (show (4320 : Int32) ≤ nI 4320 by decide)]
      exact hi
theorem lay_ok {rd : Int32} {c fit : Nat → Int32} : ∀ i, i < 4320 → (F_X7_layFits rd c fit) i = F_X7_fitAt rd c (nI i) := by
  have := lay_loop (rd := rd) (c := c) 4321 0 fit (by decide) (by decide) (fun i h => absurd h (Nat.not_lt_zero _))
  rw [iz] at this
  exact this
theorem times_loop {x1 rd : Int32} {S : Int32 × (Nat → Int32)} {L : Nat → Int32} (hS : ∀ i, i < 4320 → (S.2 i = 0 ↔ L i = rd)) : ∀ (n k : Nat) (ym yf yl yr : Int32), k ≤ 4320 → 4320 - k < n → 0 ≤ ym.toInt → ym.toInt ≤ k →
    (F_X6_times_24 x1 S n (nI k) ym yf yl yr).1 = (F_X7_times_29 rd x1 L n (nI k) yr yl yf ym).1 ∧ (F_X6_times_24 x1 S n (nI k) ym yf yl yr).2.1 = S.1 ∧ (F_X6_times_24 x1 S n (nI k) ym yf yl yr).2.2.2.2.2.2 = S.2 := by
  intro n
  induction n with
  | zero => intro k ym yf yl yr _ h _ _; exact absurd h (Nat.not_lt_zero _)
  | succ n ih =>
    intro k ym yf yl yr hk hm y0 y1
    rw [F_X6_times_24.eq_2, F_X7_times_29.eq_2]
    by_cases h : k < 4320
    · rw [if_neg (le4320 h), if_neg (le4320 h), nI_tn (by omega)]
      have hc := hS k h
      by_cases c1 : S.2 k = 0
      · rw [if_pos c1, if_pos (hc.mp c1)]
        have e1 := ti_inc (a := ym) (by omega)
        unfold F_X6_times_c45 F_X4_add
        by_cases cm : ym = 0
        · have em := congrArg Int32.toInt cm
          have z0 : (0 : Int32).toInt = 0 := rfl
          have ea : F_X4_add_12 ym yl yr (nI k) (nI k) = (ym + 1, nI k, nI k, yr + 1) := by unfold F_X4_add_12; rw [if_pos cm]; rfl
          have eb : (if yl = nI k - 1 then if ym ≤ 0 then F_X7_times_70 (nI k) yr yf ym (F_X7_times_29 rd x1 L n) else F_X7_times_71 (nI k) yr yf ym (F_X7_times_29 rd x1 L n) 0 else F_X7_times_70 (nI k) yr yf ym (F_X7_times_29 rd x1 L n)) = F_X7_times_29 rd x1 L n (nI k + 1) (yr + 1) (nI k) (nI k) (ym + 1) := by
            have e7 : F_X7_times_70 (nI k) yr yf ym (F_X7_times_29 rd x1 L n) = F_X7_times_29 rd x1 L n (nI k + 1) (yr + 1) (nI k) (nI k) (ym + 1) := by unfold F_X7_times_70 F_X7_times_71; rw [if_pos cm]
            rw [if_pos (show ym ≤ 0 from ti_le.mpr (by omega)), e7]
            split <;> rfl
          rw [if_pos cm, ea, eb, nI_suc (by omega)]
          dsimp only
          exact ih (k + 1) _ _ _ _ (by omega) (by omega) (by omega) (by omega)
        · have em := ti_ne cm
          have z0 : (0 : Int32).toInt = 0 := rfl
          rw [if_neg cm]
          have e7 : F_X7_times_70 (nI k) yr yf ym (F_X7_times_29 rd x1 L n) = F_X7_times_29 rd x1 L n (nI k + 1) (yr + 1) (nI k) yf (ym + 1) := by unfold F_X7_times_70 F_X7_times_71; rw [if_neg cm]
          by_cases cl : yl = nI k - 1
          · have ea : F_X4_add_12 ym yl yr (nI k) yf = (ym + 1, yf, nI k, yr) := by unfold F_X4_add_12; rw [if_neg cm, if_pos cl]; rfl
            have e8 : F_X7_times_71 (nI k) yr yf ym (F_X7_times_29 rd x1 L n) 0 = F_X7_times_29 rd x1 L n (nI k + 1) yr (nI k) yf (ym + 1) := by unfold F_X7_times_71; rw [if_neg cm, Int32.add_zero]
            rw [ea, if_pos cl, if_neg (show ¬ ym ≤ 0 from fun hq => by have := ti_le.mp hq; omega), e8, nI_suc (by omega)]
            dsimp only
            exact ih (k + 1) _ _ _ _ (by omega) (by omega) (by omega) (by omega)
          · have ea : F_X4_add_12 ym yl yr (nI k) yf = (ym + 1, yf, nI k, yr + 1) := by unfold F_X4_add_12; rw [if_neg cm, if_neg cl]; rfl
            rw [ea, if_neg cl, e7, nI_suc (by omega)]
            dsimp only
            exact ih (k + 1) _ _ _ _ (by omega) (by omega) (by omega) (by omega)
      · rw [if_neg c1, if_neg (fun e => c1 (hc.mpr e)), nI_suc (by omega)]
        exact ih (k + 1) _ _ _ _ (by omega) (by omega) y0 (by omega)
    · have e : k = 4320 := by omega
      subst e
      rw [if_pos (show (4320 : Int32) ≤ nI 4320 by decide), if_pos (show (4320 : Int32) ≤ nI 4320 by decide)]
      refine ⟨?_, rfl, rfl⟩
      unfold F_X4_tell
      by_cases c0 : x1 = 0
      · rw [if_pos c0, if_pos c0]
      · rw [if_neg c0, if_neg c0]
        by_cases c1 : x1 = 1
        · rw [if_pos c1, if_pos c1]
        · rw [if_neg c1, if_neg c1]
          by_cases c2 : x1 = 2
          · rw [if_pos c2, if_pos c2]
          · rw [if_neg c2, if_neg c2]
theorem bits_rng : ∀ n : Fin 256, 0 ≤ (F_X7_bits (nI n.val)).toInt ∧ (F_X7_bits (nI n.val)).toInt ≤ 8 := by decide +kernel
theorem bits_in {s : Int32} (h0 : 0 ≤ s.toInt) (h1 : s.toInt ≤ 255) : 0 ≤ (F_X7_bits s).toInt ∧ (F_X7_bits s).toInt ≤ 8 := by
  have e := iN_of h0
  have := bits_rng ⟨s.toInt.toNat, by omega⟩
  simp only [e] at this
  exact this
theorem isLess_spec {x y : Int32} (x0 : 0 ≤ x.toInt) (x1 : x.toInt ≤ 255) (y0 : 0 ≤ y.toInt) (y1 : y.toInt ≤ 255) : F_X6_isLess x y = if F_X7_bits x < F_X7_bits y then 1 else if F_X7_bits x = F_X7_bits y then (if y ≤ x then 0 else 1) else 0 := by
  obtain ⟨a0, a1⟩ := bits_in x0 x1
  obtain ⟨b0, b1⟩ := bits_in y0 y1
  have z0 : (0 : Int32).toInt = 0 := rfl
  unfold F_X6_isLess
  rw [bits_of x0 x1, bits_of y0 y1]
  have es := ti_sub (a := F_X7_bits x) (b := F_X7_bits y) (by omega) (by omega)
  by_cases c1 : F_X7_bits x < F_X7_bits y
  · have g := ti_lt.mp c1
    rw [if_pos c1, if_pos (ti_lt.mpr (by omega))]
  · have g := ti_nlt c1
    rw [if_neg c1, if_neg (fun hq => by have := ti_lt.mp hq; omega)]
    by_cases c2 : F_X7_bits x = F_X7_bits y
    · rw [if_pos c2, if_pos (by rw [c2, Int32.sub_self])]
    · have g2 := ti_ne c2
      rw [if_neg c2, if_neg (fun hq => by have := congrArg Int32.toInt hq; omega)]
theorem liars_loop {x1 rd : Int32} {S : Int32 × (Nat → Int32)} {L : Nat → Int32} (hS : ∀ i, i < 4320 → S.2 i = (rd &&& (L i ^^^ (-1))) ∧ 0 ≤ (S.2 i).toInt ∧ (S.2 i).toInt ≤ 255) : ∀ (n k f : Nat), k ≤ 4320 → 4320 - k < n → f < 4320 →
    (F_X6_liars_19 x1 S n (nI k) (nI f)).1 = (F_X7_liars_35 rd x1 L n (nI k) (nI f) (S.2 f)).1 ∧ (F_X6_liars_19 x1 S n (nI k) (nI f)).2 = S := by
  intro n
  induction n with
  | zero => intro k f _ h _; exact absurd h (Nat.not_lt_zero _)
  | succ n ih =>
    intro k f hk hm hf
    obtain ⟨f1, f2, f3⟩ := hS f hf
    rw [F_X6_liars_19.eq_2, F_X7_liars_35.eq_2]
    by_cases h : k < 4320
    · obtain ⟨g1, g2, g3⟩ := hS k h
      rw [if_neg (le4320 h), if_neg (le4320 h), nI_tn (by omega), nI_tn (by omega), ← g1, isLess_spec g2 g3 f2 f3, nI_suc (by omega)]
      by_cases c1 : F_X7_bits (S.2 k) < F_X7_bits (S.2 f)
      · rw [if_pos c1, if_pos c1, if_neg (by decide)]
        exact ih (k + 1) k (by omega) (by omega) h
      · rw [if_neg c1, if_neg c1]
        by_cases c2 : F_X7_bits (S.2 k) = F_X7_bits (S.2 f)
        · rw [if_pos c2, if_pos c2]
          by_cases c3 : S.2 f ≤ S.2 k
          · rw [if_pos c3, if_pos c3, if_pos rfl]
            exact ih (k + 1) f (by omega) (by omega) hf
          · rw [if_neg c3, if_neg c3, if_neg (by decide)]
            exact ih (k + 1) k (by omega) (by omega) h
        · rw [if_neg c2, if_neg c2, if_pos rfl]
          exact ih (k + 1) f (by omega) (by omega) hf
    · have e : k = 4320 := by omega
      subst e
      rw [if_pos (show (4320 : Int32) ≤ nI 4320 by decide), if_pos (show (4320 : Int32) ≤ nI 4320 by decide), nI_tn (n := f) (by omega)]
      by_cases c0 : x1 = 0
      · rw [if_pos c0, if_pos c0]; exact ⟨bits_of f2 f3, rfl⟩
      · rw [if_neg c0, if_neg c0]
        by_cases c1 : x1 = 1
        · rw [if_pos c1, if_pos c1]; exact ⟨rfl, rfl⟩
        · rw [if_neg c1, if_neg c1]; exact ⟨rfl, rfl⟩
section HRs
variable {ck : Nat → Nat → Int32} {nm : Int32} {nc nt nd : Nat → Int32} {told rd : Int32} {c : Nat → Int32} {noted : Int32} {note : Nat → Int32} {si : Int32} {mis fit : Nat → Int32}
theorem fit_all (h : HR ck nm nc nt nd told rd c noted note) (hs : SF si mis ck) (fit : Nat → Int32) : ∀ i, i < 4320 → ((F_X6_sift si ck mis).2 i = 0 ↔ (F_X7_layFits rd c fit) i = rd) ∧ (F_X6_sift si ck mis).2 i = (rd &&& ((F_X7_layFits rd c fit) i ^^^ (-1))) ∧ 0 ≤ ((F_X6_sift si ck mis).2 i).toInt ∧ ((F_X6_sift si ck mis).2 i).toInt ≤ 255 := by
  intro i hi
  rw [(sift_ok hs).1 i hi, lay_ok i hi]
  obtain ⟨a, b, d, e⟩ := h.fit3 (t := nI i) (by rw [nI_toInt (by omega)]; omega) (by rw [nI_toInt (by omega)]; omega)
  exact ⟨d, a, e⟩
theorem q_times (h : HR ck nm nc nt nd told rd c noted note) (hs : SF si mis ck) (fit : Nat → Int32) (y1 y2 y3 y4 x1 : Int32) : (F_X6_times si ck y1 y2 y3 y4 mis x1).1 = (F_X7_times rd c fit x1).1 ∧ SF (F_X6_times si ck y1 y2 y3 y4 mis x1).2.1 (F_X6_times si ck y1 y2 y3 y4 mis x1).2.2.2.2.2.2 ck := by
  unfold F_X6_times F_X7_times
  rw [bel4]
  by_cases ci : F_X7_in x1 0 3 = 0
  · rw [if_pos ci, if_pos ci]; exact ⟨rfl, hs⟩
  · rw [if_neg ci, if_neg ci]
    unfold F_X6_times_c12 F_X6_times_c19 F_X7_times_c13 F_X4_clear
    dsimp only
    have g := times_loop (x1 := x1) (fun i hi => (fit_all h hs fit i hi).1) 4321 0 0 (-1) (-1) 0 (by decide) (by decide) (by decide) (by decide)
    rw [iz] at g
    obtain ⟨g1, g2, g3⟩ := g
    refine ⟨g1, ?_⟩
    rw [g2, g3]
    exact (sift_ok hs).2
theorem q_liars (h : HR ck nm nc nt nd told rd c noted note) (hs : SF si mis ck) (fit : Nat → Int32) (x1 : Int32) : (F_X6_liars si ck mis x1).1 = (F_X7_liars rd c fit x1).1 ∧ SF (F_X6_liars si ck mis x1).2.1 (F_X6_liars si ck mis x1).2.2 ck := by
  unfold F_X6_liars F_X7_liars
  rw [bel3]
  by_cases ci : F_X7_in x1 0 2 = 0
  · rw [if_pos ci, if_pos ci]; exact ⟨rfl, hs⟩
  · rw [if_neg ci, if_neg ci]
    unfold F_X6_liars_c12 F_X7_liars_c13
    have g := liars_loop (x1 := x1) (fun i hi => (fit_all h hs fit i hi).2) 4321 1 0 (by decide) (by decide) (by decide)
    rw [iz, show nI 1 = (1 : Int32) from rfl] at g
    obtain ⟨g1, g2⟩ := g
    have e0 := (fit_all h hs fit 0 (by decide)).2.1
    have ez : (0 : Int32).toNatClampNeg = 0 := rfl
    rw [ez, ← e0]
    refine ⟨g1, ?_⟩
    rw [g2]
    exact (sift_ok hs).2
end HRs
