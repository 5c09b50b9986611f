theorem l_rem {a b : Int64} (ha : 0 ≤ a.toInt) (ha2 : a.toInt ≤ 9000000000000000000) (hb : 0 < b.toInt) : (a - a / b * b).toInt = a.toInt % b.toInt := by
  have hd : (a / b).toInt = a.toInt / b.toInt := by
    rw [Int64.toInt_div, Int.tdiv_eq_ediv_of_nonneg ha]
    have h3 := Int.ediv_nonneg ha (Int.le_of_lt hb)
    have h4 := Int.ediv_le_self b.toInt ha
    exact Int.bmod_eq_of_le (by omega) (by omega)
  have h5 : a.toInt / b.toInt * b.toInt ≤ a.toInt := Int.ediv_mul_le _ (by omega)
  have h6 : 0 ≤ a.toInt / b.toInt * b.toInt := Int.mul_nonneg (Int.ediv_nonneg ha (Int.le_of_lt hb)) (Int.le_of_lt hb)
  have hm : (a / b * b).toInt = a.toInt / b.toInt * b.toInt := by rw [l_mul (by rw [hd]; omega) (by rw [hd]; omega), hd]
  rw [l_sub (by rw [hm]; omega) (by rw [hm]; omega), hm, Int.emod_def, Int.mul_comm]
theorem l_div {a b : Int64} (ha : 0 ≤ a.toInt) (ha2 : a.toInt ≤ 9000000000000000000) (hb : 0 < b.toInt) : (a / b).toInt = a.toInt / b.toInt := by
  rw [Int64.toInt_div, Int.tdiv_eq_ediv_of_nonneg ha]
  have h3 := Int.ediv_nonneg ha (Int.le_of_lt hb)
  have h4 := Int.ediv_le_self b.toInt ha
  exact Int.bmod_eq_of_le (by omega) (by omega)
theorem gcd_step {x y : Int} (hx : 0 ≤ x) (hy : 0 < y) : Nat.gcd y.toNat (x % y).toNat = Nat.gcd x.toNat y.toNat := by
  rw [Int.toNat_emod hx (Int.le_of_lt hy), Nat.gcd_comm y.toNat, ← Nat.gcd_rec, Nat.gcd_comm]
/-- the class's common divisor: 99 steps are enough -/
theorem cd_loop : ∀ (e n k : Nat) (l g : Int64), 0 ≤ l.toInt → l.toInt < 2 ^ e → l.toInt ≤ 9000000000000000000 → 0 ≤ g.toInt → g.toInt ≤ 9000000000000000000 → k + 2 * e + 1 ≤ 99 → 99 - k < n → (F_X6_commonDivisor_9 n (nI k) l g).toInt = (Nat.gcd g.toInt.toNat l.toInt.toNat : Nat) := by
  have z0 : (0 : Int64).toInt = 0 := rfl
  intro e
  induction e with
  | zero =>
    intro n k l g l0 l1 l2 g0 g1 hk hn
    obtain ⟨n', rfl⟩ : ∃ n', n = n' + 1 := ⟨n - 1, by omega⟩
    have hl : l.toInt = 0 := by simp at l1; omega
    rw [F_X6_commonDivisor_9.eq_2, if_neg (show ¬ (99 : Int32) ≤ nI k from fun hq => by have := (iN_le (a := 99) (b := k) (by decide) (by omega)).mp hq; omega), if_pos ((lc_eq _ _).mpr (by rw [hl]; rfl)), hl]
    show g.toInt = (Nat.gcd g.toInt.toNat 0 : Nat)
    rw [Nat.gcd_zero_right]; omega
  | succ e ih =>
    intro n k l g l0 l1 l2 g0 g1 hk hn
    obtain ⟨n', rfl⟩ : ∃ n', n = n' + 1 := ⟨n - 1, by omega⟩
    rw [F_X6_commonDivisor_9.eq_2, if_neg (show ¬ (99 : Int32) ≤ nI k from fun hq => by have := (iN_le (a := 99) (b := k) (by decide) (by omega)).mp hq; omega)]
    by_cases c1 : lg_cmp l 0 = 0
    · have hl := (lc_eq _ _).mp c1
      rw [if_pos c1, hl, z0]
      show g.toInt = (Nat.gcd g.toInt.toNat 0 : Nat)
      rw [Nat.gcd_zero_right]; omega
    · have hl := mt (lc_eq _ _).mpr c1
      rw [if_neg c1, nI_suc (by omega)]
      have hr := l_rem (a := g) (b := l) g0 g1 (by omega)
      have hr0 := Int.emod_nonneg g.toInt (show l.toInt ≠ 0 by omega)
      have hr1 := Int.emod_lt_of_pos g.toInt (show 0 < l.toInt by omega)
      rw [← gcd_step g0 (show 0 < l.toInt by omega), ← hr]
      rw [← hr] at hr0 hr1
      generalize g - g / l * l = r at hr hr0 hr1 ⊢
      obtain ⟨n'', rfl⟩ : ∃ n'', n' = n'' + 1 := ⟨n' - 1, by omega⟩
      rw [F_X6_commonDivisor_9.eq_2, if_neg (show ¬ (99 : Int32) ≤ nI (k + 1) from fun hq => by have := (iN_le (a := 99) (b := k + 1) (by decide) (by omega)).mp hq; omega)]
      by_cases c2 : lg_cmp r 0 = 0
      · have hr2 := (lc_eq _ _).mp c2
        rw [if_pos c2, hr2, z0]
        show l.toInt = (Nat.gcd l.toInt.toNat 0 : Nat)
        rw [Nat.gcd_zero_right]; omega
      · have hr2 := mt (lc_eq _ _).mpr c2
        rw [if_neg c2, nI_suc (by omega)]
        have hs := l_rem (a := l) (b := r) l0 (by omega) (by omega)
        have hs0 := Int.emod_nonneg l.toInt (show r.toInt ≠ 0 by omega)
        have hs1 := Int.emod_lt_of_pos l.toInt (show 0 < r.toInt by omega)
        have hhalf : 2 * (l.toInt % r.toInt) < l.toInt := by
          have h1 : r.toInt * (l.toInt / r.toInt) + l.toInt % r.toInt = l.toInt := Int.mul_ediv_add_emod l.toInt r.toInt
          have h2 : 1 ≤ l.toInt / r.toInt := (Int.le_ediv_iff_mul_le (show 0 < r.toInt by omega)).mpr (by omega)
          have h3 : r.toInt * 1 ≤ r.toInt * (l.toInt / r.toInt) := Int.mul_le_mul_of_nonneg_left h2 (by omega)
          omega
        rw [← gcd_step l0 (show 0 < r.toInt by omega), ← hs]
        rw [← hs] at hs0 hs1 hhalf
        generalize l - l / r * r = t at hs hs0 hs1 hhalf ⊢
        have hp : (2 : Int) ^ (e + 1) = 2 * 2 ^ e := by rw [Int.pow_succ, Int.mul_comm]
        rw [hp] at l1
        generalize (2 : Int) ^ e = z at l1 ih
        exact ih n'' (k + 2) t r hs0 (by omega) (by omega) (by omega) (by omega) (by omega) (by omega)
theorem cd_ok {g l : Int64} (l0 : 0 ≤ l.toInt) (l1 : l.toInt < 2 ^ 48) (g0 : 0 ≤ g.toInt) (g1 : g.toInt ≤ 9000000000000000000) : (F_X6_commonDivisor g l).toInt = (Nat.gcd g.toInt.toNat l.toInt.toNat : Nat) := by
  have e48 : (2 : Int) ^ 48 = 281474976710656 := by decide
  have h := cd_loop 48 100 0 l g l0 l1 (by rw [e48] at l1; omega) g0 g1 (by decide) (by decide)
  rw [iz] at h
  exact h
theorem l_max {a b : Int64} : (F_J9_max_f86c9 a b).toInt = if a.toInt < b.toInt then b.toInt else a.toInt := by
  unfold F_J9_max_f86c9
  by_cases h : lg_cmp a b < 0
  · rw [if_pos h, if_pos ((lc_lt _ _).mp h)]
  · rw [if_neg h, if_neg (mt (lc_lt _ _).mpr h)]
theorem l289 {x5 : Int32} {x8 x6 x10 : Int64} : ∀ (n : Nat) (y x : Int64), 0 ≤ x.toInt → x.toInt ≤ 9000000000000000000 → 0 ≤ y.toInt → y.toInt ≤ 9000000000000000000 → y.toInt.toNat < n → ∃ G : Int64, G.toInt = (Nat.gcd x.toInt.toNat y.toInt.toNat : Nat) ∧ F_X7_egg_289 x5 x8 x6 x10 n y x = if x5 = 0 then x10 / G else (x6 * x8) / G := by
  have z0 : (0 : Int64).toInt = 0 := rfl
  intro n
  induction n with
  | zero => intro y x _ _ _ _ h; exact absurd h (Nat.not_lt_zero _)
  | succ n ih =>
    intro y x x0 x1 y0 y1 hm
    rw [F_X7_egg_289.eq_2]
    by_cases c1 : lg_cmp y 0 = 0
    · have hy := (lc_eq _ _).mp c1
      rw [if_pos c1, hy, z0]
      refine ⟨x, ?_, rfl⟩
      show x.toInt = (Nat.gcd x.toInt.toNat 0 : Nat)
      rw [Nat.gcd_zero_right]; omega
    · have hy := mt (lc_eq _ _).mpr c1
      rw [if_neg c1]
      have hr := l_rem (a := x) (b := y) x0 x1 (by omega)
      have hr0 := Int.emod_nonneg x.toInt (show y.toInt ≠ 0 by omega)
      have hr1 := Int.emod_lt_of_pos x.toInt (show 0 < y.toInt by omega)
      obtain ⟨G, g1, g2⟩ := ih (x - x / y * y) y y0 y1 (by omega) (by omega) (by omega)
      refine ⟨G, ?_, g2⟩
      rw [g1, hr, gcd_step x0 (show 0 < y.toInt by omega)]
section EGG
variable {c : Nat → Int32} {x1 x2 x3 x4 x5 : Int32} {x8 x6 : Int64} {e b : Nat → Int} {w : Int}
/-- the model's numbers as whole numbers -/
def EM (c : Nat → Int32) (x1 x2 x3 x4 : Int32) (x8 x6 : Int64) (e b : Nat → Int) (w : Int) : Prop := (x4.toInt64 * x6 * x8).toInt = w ∧ (0 ≤ w ∧ w ≤ 10000000000) ∧ (∀ j, j < 240 → (((F_X7_toWhole c x2 x3).toInt64 + 1440 * (nI j).toInt64) * x6).toInt = e j ∧ 0 ≤ e j ∧ e j ≤ 10000000000) ∧ ∀ i, i < 60 → (((F_X7_toWhole c x1 x3).toInt64 + 1440 * (nI i).toInt64) * x8).toInt = b i ∧ 0 ≤ b i ∧ b i ≤ 10000000000
theorem l172 (h : EM c x1 x2 x3 x4 x8 x6 e b w) {i : Nat} (hi : i < 60) {K : Int32 → Int64 → Int64} : ∀ (n j : Nat) (l : Int64), j ≤ 240 → 240 - j < n → ML (fun i j => e j - b i) w (fun i' j' => (i' < i ∧ j' < 240) ∨ (i' = i ∧ j' < j)) l.toInt →
    ∃ l', F_X7_egg_172 c x1 x2 x3 x4 x8 x6 (nI i) K n (nI j) l = K (nI i + 1) l' ∧ ML (fun i j => e j - b i) w (fun i' j' => i' < i + 1 ∧ j' < 240) l'.toInt := by
  obtain ⟨hw, ⟨w0, w1⟩, hE, hB⟩ := h
  have z0 : (0 : Int64).toInt = 0 := rfl
  intro n
  induction n with
  | zero => intro j l _ h _; exact absurd h (Nat.not_lt_zero _)
  | succ n ih =>
    intro j l hj hm hL
    rw [F_X7_egg_172.eq_2]
    by_cases c1 : j < 240
    · rw [if_neg (show ¬ (240 : Int32) ≤ nI j from fun hq => by have := (iN_le (a := 240) (b := j) (by decide) (by omega)).mp hq; omega)]
      obtain ⟨e1, e2, e3⟩ := hE j c1
      obtain ⟨b1, b2, b3⟩ := hB i hi
      have hset : ∀ i' j', (((i' < i ∧ j' < 240) ∨ (i' = i ∧ j' < j)) ∨ (i' = i ∧ j' = j)) ↔ ((i' < i ∧ j' < 240) ∨ (i' = i ∧ j' < j + 1)) := fun i' j' => by omega
      have key : ∀ y : Int64, y.toInt = ((e j - b i - w).natAbs : Int) → ∃ l', F_X7_egg_232 c x1 x2 x3 x8 x6 (nI i) (nI j) l (F_X7_egg_172 c x1 x2 x3 x4 x8 x6 (nI i) K n) y = K (nI i + 1) l' ∧ ML (fun i j => e j - b i) w (fun i' j' => i' < i + 1 ∧ j' < 240) l'.toInt := fun y hy => by
        unfold F_X7_egg_232
        rw [nI_suc (n := j) (by omega)]
        by_cases c2 : lg_cmp (((F_X7_toWhole c x2 x3).toInt64 + 1440 * (nI j).toInt64) * x6) (((F_X7_toWhole c x1 x3).toInt64 + 1440 * (nI i).toInt64) * x8) ≤ 0
        · rw [if_pos c2]
          have := (lc_le _ _).mp c2
          rw [e1, b1] at this
          exact ih (j + 1) l (by omega) (by omega) ((hL.skip (a := i) (b := j) (by show e j - b i ≤ 0; omega)).congr hset)
        · rw [if_neg c2]
          have c2' := mt (lc_le _ _).mpr c2
          rw [e1, b1] at c2'
          by_cases c3 : lg_cmp l 0 < 0
          · rw [if_pos c3]
            have c3' := (lc_lt _ _).mp c3
            have hl : l.toInt = -1 := by rcases hL.nn with hh | hh <;> omega
            refine ih (j + 1) y (by omega) (by omega) ?_
            rw [hl] at hL
            have := (hL.none (a := i) (b := j) (by show 0 < e j - b i; omega)).congr hset
            rw [hy]; exact this
          · rw [if_neg c3]
            have c3' := mt (lc_lt _ _).mpr c3
            have hl0 : 0 ≤ l.toInt := by omega
            by_cases c4 : 0 ≤ lg_cmp y l
            · rw [if_pos c4]
              have := (lc_ge _ _).mp c4
              exact ih (j + 1) l (by omega) (by omega) ((hL.keep (a := i) (b := j) hl0 (by show l.toInt ≤ ((e j - b i - w).natAbs : Int); omega)).congr hset)
            · rw [if_neg c4]
              have := mt (lc_ge _ _).mpr c4
              refine ih (j + 1) y (by omega) (by omega) ?_
              have := (hL.less (a := i) (b := j) hl0 (by show 0 < e j - b i; omega) (by show ((e j - b i - w).natAbs : Int) ≤ l.toInt; omega)).congr hset
              rw [hy]; exact this
      have ed : ((((F_X7_toWhole c x2 x3).toInt64 + 1440 * (nI j).toInt64) * x6) - (((F_X7_toWhole c x1 x3).toInt64 + 1440 * (nI i).toInt64) * x8)).toInt = e j - b i := by rw [l_sub (by omega) (by omega), e1, b1]
      have eo : ((((F_X7_toWhole c x2 x3).toInt64 + 1440 * (nI j).toInt64) * x6) - (((F_X7_toWhole c x1 x3).toInt64 + 1440 * (nI i).toInt64) * x8) - (x4.toInt64 * x6 * x8)).toInt = e j - b i - w := by rw [l_sub (by omega) (by omega), ed, hw]
      by_cases c5 : 0 ≤ lg_cmp ((((F_X7_toWhole c x2 x3).toInt64 + 1440 * (nI j).toInt64) * x6) - (((F_X7_toWhole c x1 x3).toInt64 + 1440 * (nI i).toInt64) * x8) - (x4.toInt64 * x6 * x8)) 0
      · rw [if_pos c5]
        have c5' := (lc_ge _ _).mp c5
        rw [eo, z0] at c5'
        exact key _ (by rw [eo]; omega)
      · rw [if_neg c5]
        have c5' := mt (lc_ge _ _).mpr c5
        rw [eo, z0] at c5'
        exact key _ (by rw [l_neg (by omega) (by omega), eo]; omega)
    · have e9 : j = 240 := by omega
      subst e9
      rw [if_pos (show (240 : Int32) ≤ nI 240 by decide)]
      exact ⟨l, rfl, hL.congr (fun i' j' => by omega)⟩
theorem l142 (h : EM c x1 x2 x3 x4 x8 x6 e b w) : ∀ (n i : Nat) (l : Int64), i ≤ 60 → 60 - i < n → ML (fun i j => e j - b i) w (fun i' j' => i' < i ∧ j' < 240) l.toInt →
    ∃ l', F_X7_egg_142 c x1 x2 x3 x4 x5 x8 x6 n (nI i) l = F_X7_egg_289 x5 x8 x6 l' ((x6 * x8).toInt.natAbs + 1) (x6 * x8) l' ∧ ML (fun i j => e j - b i) w (fun i' j' => i' < 60 ∧ j' < 240) l'.toInt := by
  intro n
  induction n with
  | zero => intro i l _ h _; exact absurd h (Nat.not_lt_zero _)
  | succ n ih =>
    intro i l hi hm hL
    rw [F_X7_egg_142.eq_2]
    by_cases c1 : i < 60
    · rw [if_neg (show ¬ (60 : Int32) ≤ nI i from fun hq => by have := (iN_le (a := 60) (b := i) (by decide) (by omega)).mp hq; omega)]
      obtain ⟨l', p1, p2⟩ := l172 h c1 (K := F_X7_egg_142 c x1 x2 x3 x4 x5 x8 x6 n) 241 0 l (by decide) (by decide) (hL.congr (fun i' j' => by omega))
      rw [iz] at p1
      rw [p1, nI_suc (by omega)]
      exact ih (i + 1) l' (by omega) (by omega) p2
    · have e9 : i = 60 := by omega
      subst e9
      rw [if_pos (show (60 : Int32) ≤ nI 60 by decide)]
      exact ⟨l, rfl, hL⟩
end EGG
section HRs
variable {ck : Nat → Nat → Int32} {nm : Int32} {nc nt nd : Nat → Int32} {told rd : Int32} {c : Nat → Int32} {noted : Int32} {note : Nat → Int32}
theorem toWhole_eq (h : HR ck nm nc nt nd told rd c noted note) {k : Nat} (hk : k < 8) (hn : ¬ ck k 0 = -1) (h2 : ¬ c (6 * k) = 2) {t : Int32} (t0 : 0 ≤ t.toInt) (t1 : t.toInt < 4320) : F_X0_partsToWholeMinute (ck k 1) (ck k 3) t = F_X7_toWhole c (nI k) t ∧ 0 ≤ (F_X7_toWhole c (nI k) t).toInt ∧ (F_X7_toWhole c (nI k) t).toInt < 1440 := by
  have hc := h.2.2.1
  obtain ⟨-, ⟨s0, s1⟩, -, ⟨a0, a1⟩, -, lg⟩ := hc k hk
  obtain ⟨l0, -⟩ := lg h2
  obtain ⟨-, -, -, bn⟩ := (h.2.2.2.1 k hk).2.2.2 hn
  obtain ⟨b1, b3, -⟩ := bn h2
  obtain ⟨hi, i0, i1⟩ := hand_int hc hk t0 (by omega) a0 a1
  have e14 : (1440 : Int32).toInt = 1440 := rfl
  have rr : ∀ v : Int32, 0 ≤ (F_X7_rest v 1440).toInt ∧ (F_X7_rest v 1440).toInt < 1440 := fun v => by
    rw [rest_toInt (by decide), e14]
    exact ⟨Int.emod_nonneg _ (by decide), Int.emod_lt_of_pos _ (by decide)⟩
  obtain ⟨p0, p1⟩ := prod_bd (a := t.toInt - (c (6 * k + 1)).toInt) (b := 1440 + (c (6 * k + 3)).toInt) (A := 4320) (B := 1560) (by omega) (by omega) (by omega) (by omega)
  have q1 := ti_sub (a := t) (b := c (6 * k + 1)) (by omega) (by omega)
  have q2 := ti_neg (a := t - c (6 * k + 1)) (by omega)
  have q3 := ti_cadd 1440 (c (6 * k + 3)) 1440 rfl (by omega) (by omega)
  have q4 : (-(t.toInt - (c (6 * k + 1)).toInt)) * (1440 + (c (6 * k + 3)).toInt) = -((t.toInt - (c (6 * k + 1)).toInt) * (1440 + (c (6 * k + 3)).toInt)) := Int.neg_mul _ _
  have q5 : ((-(t - c (6 * k + 1))) * (1440 + c (6 * k + 3))).toInt = -((t.toInt - (c (6 * k + 1)).toInt) * (1440 + (c (6 * k + 3)).toInt)) := by
    rw [ti_mul (by rw [q2, q1, q3, q4]; omega) (by rw [q2, q1, q3, q4]; omega), q2, q1, q3, q4]
  have hcl : (F_X0_partsToWholeMinute (ck k 1) (ck k 3) t).toInt = (-((t.toInt - (c (6 * k + 1)).toInt) * (1440 + (c (6 * k + 3)).toInt))) % 1440 := by
    unfold F_X0_partsToWholeMinute
    rw [floorMod_toInt (by decide), e14, b1, b3, q5]
  generalize (t.toInt - (c (6 * k + 1)).toInt) * (1440 + (c (6 * k + 3)).toInt) = z at hi hcl
  unfold F_X7_toWhole F_X7_toWhole_37
  rw [ixk0 hk, ixk3 hk]
  by_cases h1 : c (6 * k) = 1
  · rw [if_pos h1]
    rw [if_pos h1] at hi
    refine ⟨Int32.toInt_inj.mp ?_, rr _⟩
    rw [hcl, rest_toInt (by decide), e14, hi]
    omega
  · rw [if_neg h1]
    rw [if_neg h1] at hi
    refine ⟨Int32.toInt_inj.mp ?_, rr _⟩
    rw [hcl, rest_toInt (by decide), e14, ti_neg (by omega), hi]
    omega
theorem q_egg (h : HR ck nm nc nt nd told rd c noted note) (x1 x2 x3 x4 x5 : Int32) : F_X6_egg ck x1 x2 x3 x4 x5 = F_X7_egg told c x1 x2 x3 x4 x5 := by
  have z1 : (1 : Int32).toInt = 1 := rfl
  have z60 : (60 : Int32).toInt = 60 := rfl
  unfold F_X6_egg F_X7_egg
  rw [h.tl, h.tl, bel4320, bel2]
  by_cases c1 : F_X7_isClock told x1 = 0
  · rw [if_pos c1, if_pos c1]
    split <;> rfl
  · rw [if_neg c1, if_neg c1]
    by_cases c2 : F_X7_isClock told x2 = 0
    · rw [if_pos c2, if_pos c2]
    · rw [if_neg c2, if_neg c2]
      by_cases c3 : F_X7_isMinute x3 = 0
      · rw [if_pos c3, if_pos c3]
      · rw [if_neg c3, if_neg c3]
        obtain ⟨t0, t1⟩ := X7_isMinute_in c3
        by_cases c4 : F_X7_in x4 1 60 = 0
        · rw [if_pos c4]
          rw [in_spec, z1, z60] at c4
          by_cases d1 : x4 < 1
          · rw [if_pos d1]
          · have := ti_nlt d1
            rw [if_neg d1]
            by_cases d2 : 60 < x4
            · rw [if_pos d2]
            · have := ti_nlt d2
              exfalso
              rw [if_pos (by omega)] at c4
              exact absurd c4 (by decide)
        · rw [if_neg c4]
          obtain ⟨n0, n1⟩ : (1 : Int) ≤ x4.toInt ∧ x4.toInt ≤ 60 := X7_in_in c4
          rw [if_neg (show ¬ x4 < 1 from fun hq => by have := ti_lt.mp hq; omega), if_neg (show ¬ 60 < x4 from fun hq => by have := ti_lt.mp hq; omega)]
          by_cases c5 : F_X7_in x5 0 1 = 0
          · rw [if_pos c5, if_pos c5]
          · rw [if_neg c5, if_neg c5]
            obtain ⟨i, hi, rfl, hni⟩ := h.at c1
            obtain ⟨j, hj, rfl, hnj⟩ := h.at c2
            unfold F_X7_isExact F_X0_runsByOneRate
            rw [nI_tn (n := i) (by omega), nI_tn (n := j) (by omega), ixk0 hi, ixk0 hj, ixk3 hj, ixk4 hj, ixk3 hi, ixk4 hi, (h.2.2.2.1 i hi).kind hni, (h.2.2.2.1 j hj).kind hnj, if_neg c2, if_neg c1]
            by_cases c6 : c (6 * i) = 2
            · rw [if_pos c6, if_pos c6, if_pos rfl]
            · rw [if_neg c6, if_neg c6]
              obtain ⟨-, bi3, bi4⟩ := ((h.2.2.2.1 i hi).2.2.2 hni).2.2.2 c6
              rw [bi3, bi4]
              by_cases c7 : c (6 * j) = 2
              · rw [if_pos c7, if_pos c7, if_pos rfl]
                split <;> rfl
              · rw [if_neg c7, if_neg c7]
                obtain ⟨-, bj3, bj4⟩ := ((h.2.2.2.1 j hj).2.2.2 hnj).2.2.2 c7
                rw [bj3, bj4]
                by_cases c8 : c (6 * i + 3) = c (6 * i + 4)
                · rw [if_pos c8, if_neg (show ¬ (1 : Int32) = 0 by decide), if_neg (show ¬ (1 : Int32) = 0 by decide)]
                  by_cases c9 : c (6 * j + 3) = c (6 * j + 4)
                  · rw [if_pos c9, if_neg (show ¬ (1 : Int32) = 0 by decide), if_neg (show ¬ (1 : Int32) = 0 by decide)]
                    -- the numbers
                    obtain ⟨-, -, -, ⟨-, ai1⟩, -, lgi⟩ := h.2.2.1 i hi
                    obtain ⟨-, -, -, ⟨-, aj1⟩, -, lgj⟩ := h.2.2.1 j hj
                    have ai0 := (lgi c6).1
                    have aj0 := (lgj c7).1
                    obtain ⟨ti1, ti2, ti3⟩ := toWhole_eq h hi hni c6 t0 t1
                    obtain ⟨tj1, tj2, tj3⟩ := toWhole_eq h hj hnj c7 t0 t1
                    have eA : ((1440 + c (6 * i + 3)).toInt64).toInt = 1440 + (c (6 * i + 3)).toInt := by rw [Int32.toInt_toInt64]; exact ti_cadd 1440 _ 1440 rfl (by omega) (by omega)
                    have eB : ((1440 + c (6 * j + 3)).toInt64).toInt = 1440 + (c (6 * j + 3)).toInt := by rw [Int32.toInt_toInt64]; exact ti_cadd 1440 _ 1440 rfl (by omega) (by omega)
                    have hL : F_X6_leastOff ck i j x3 (x4.toInt64 * ((1440 + c (6 * i + 3)).toInt64 * (1440 + c (6 * j + 3)).toInt64)) = F_X6_leastOff_49 (x4.toInt64 * ((1440 + c (6 * i + 3)).toInt64 * (1440 + c (6 * j + 3)).toInt64)) ((F_X7_toWhole c (nI j) x3).toInt64 * (1440 + c (6 * i + 3)).toInt64) ((F_X7_toWhole c (nI i) x3).toInt64 * (1440 + c (6 * j + 3)).toInt64) (1440 + c (6 * j + 3)).toInt64 (1440 + c (6 * i + 3)).toInt64 := by
                      unfold F_X6_leastOff
                      rw [ti1, tj1, bi3, bj3]
                    rw [hL]
                    generalize hA : (1440 + c (6 * i + 3)).toInt64 = A at eA ⊢
                    generalize hB : (1440 + c (6 * j + 3)).toInt64 = B at eB ⊢
                    have A0 : 1320 ≤ A.toInt := by omega
                    have A1 : A.toInt ≤ 1560 := by omega
                    have B0 : 1320 ≤ B.toInt := by omega
                    have B1 : B.toInt ≤ 1560 := by omega
                    have eAB : (A * B).toInt = A.toInt * B.toInt ∧ 1 ≤ A.toInt * B.toInt ∧ A.toInt * B.toInt ≤ 2433600 := by
                      obtain ⟨p0, p1⟩ := prod_bd (a := A.toInt) (b := B.toInt) (A := 1560) (B := 1560) (by omega) (by omega) (by omega) (by omega)
                      have p2 : 1 * 1 ≤ A.toInt * B.toInt := Int.mul_le_mul (by omega) (by omega) (by omega) (by omega)
                      exact ⟨l_mul (by omega) (by omega), by omega, by omega⟩
                    have ew : (x4.toInt64 * (A * B)).toInt = x4.toInt * (A.toInt * B.toInt) ∧ 0 ≤ x4.toInt * (A.toInt * B.toInt) ∧ x4.toInt * (A.toInt * B.toInt) ≤ 10000000000 := by
                      obtain ⟨p0, p1⟩ := prod_bd (a := x4.toInt) (b := A.toInt * B.toInt) (A := 60) (B := 2433600) (by omega) (by omega) (by omega) (by omega)
                      have p2 : 0 ≤ x4.toInt * (A.toInt * B.toInt) := Int.mul_nonneg (by omega) (by omega)
                      refine ⟨?_, p2, by omega⟩
                      rw [l_mul (by rw [Int32.toInt_toInt64, eAB.1]; omega) (by rw [Int32.toInt_toInt64, eAB.1]; omega), Int32.toInt_toInt64, eAB.1]
                    -- ends and beginnings
                    have key : ∀ (P : Int32) (V : Int64) (q : Nat), 0 ≤ P.toInt → P.toInt < 1440 → 1320 ≤ V.toInt → V.toInt ≤ 1560 → q < 241 → (P.toInt64 * V + ((nI q * 1440).toInt64 * V)).toInt = (P.toInt + 1440 * (q : Int)) * V.toInt ∧ ((P.toInt64 + 1440 * (nI q).toInt64) * V).toInt = (P.toInt + 1440 * (q : Int)) * V.toInt ∧ 0 ≤ (P.toInt + 1440 * (q : Int)) * V.toInt ∧ (P.toInt + 1440 * (q : Int)) * V.toInt ≤ 10000000000 := fun P V q P0 P1 V0 V1 hq => by
                      have eq := nI_toInt (n := q) (by omega)
                      have e1440 : (1440 : Int32).toInt = 1440 := rfl
                      have f1440 : (1440 : Int64).toInt = 1440 := rfl
                      have m1 : (nI q * 1440).toInt = (q : Int) * 1440 := by rw [ti_mul (by rw [eq, e1440]; omega) (by rw [eq, e1440]; omega), eq, e1440]
                      obtain ⟨p0, p1⟩ := prod_bd (a := P.toInt) (b := V.toInt) (A := 1440) (B := 1560) (by omega) (by omega) (by omega) (by omega)
                      obtain ⟨r0, r1⟩ := prod_bd (a := (q : Int) * 1440) (b := V.toInt) (A := 345600) (B := 1560) (by omega) (by omega) (by omega) (by omega)
                      have es : (P.toInt + 1440 * (q : Int)) * V.toInt = P.toInt * V.toInt + (q : Int) * 1440 * V.toInt := by rw [Int.add_mul, Int.mul_comm 1440 (q : Int)]
                      have nn1 : 0 ≤ P.toInt * V.toInt := Int.mul_nonneg P0 (by omega)
                      have nn2 : 0 ≤ (q : Int) * 1440 * V.toInt := Int.mul_nonneg (by omega) (by omega)
                      have a1 : (P.toInt64 * V).toInt = P.toInt * V.toInt := by rw [l_mul (by rw [Int32.toInt_toInt64]; omega) (by rw [Int32.toInt_toInt64]; omega), Int32.toInt_toInt64]
                      have a2 : ((nI q * 1440).toInt64 * V).toInt = (q : Int) * 1440 * V.toInt := by rw [l_mul (by rw [Int32.toInt_toInt64, m1]; omega) (by rw [Int32.toInt_toInt64, m1]; omega), Int32.toInt_toInt64, m1]
                      have a3 : (1440 * (nI q).toInt64).toInt = 1440 * (q : Int) := by rw [l_mul (by rw [Int32.toInt_toInt64, f1440, eq]; omega) (by rw [Int32.toInt_toInt64, f1440, eq]; omega), Int32.toInt_toInt64, f1440, eq]
                      have a4 : (P.toInt64 + 1440 * (nI q).toInt64).toInt = P.toInt + 1440 * (q : Int) := by rw [l_add (by rw [Int32.toInt_toInt64, a3]; omega) (by rw [Int32.toInt_toInt64, a3]; omega), Int32.toInt_toInt64, a3]
                      refine ⟨?_, ?_, by rw [es]; omega, by rw [es]; omega⟩
                      · rw [l_add (by rw [a1, a2]; omega) (by rw [a1, a2]; omega), a1, a2, es]
                      · rw [l_mul (by rw [a4, es]; omega) (by rw [a4, es]; omega), a4]
                    have hEB : EB (x4.toInt64 * (A * B)) ((F_X7_toWhole c (nI j) x3).toInt64 * A) ((F_X7_toWhole c (nI i) x3).toInt64 * B) B A (fun q => ((F_X7_toWhole c (nI j) x3).toInt + 1440 * (q : Int)) * A.toInt) (fun q => ((F_X7_toWhole c (nI i) x3).toInt + 1440 * (q : Int)) * B.toInt) (x4.toInt * (A.toInt * B.toInt)) := by
                      refine ⟨ew.1, ew.2, fun q hq => ?_, fun q hq => ?_, fun q q' hqq => ?_, fun q q' hqq => ?_⟩
                      · have := key (F_X7_toWhole c (nI j) x3) A q tj2 tj3 A0 A1 hq
                        exact ⟨this.1, this.2.2⟩
                      · have := key (F_X7_toWhole c (nI i) x3) B q ti2 ti3 B0 B1 (by omega)
                        exact ⟨this.1, this.2.2⟩
                      · exact Int.mul_lt_mul_of_pos_right (by omega) (by omega)
                      · exact Int.mul_le_mul_of_nonneg_right (by omega) (by omega)
                    have hEM : EM c (nI i) (nI j) x3 x4 B A (fun q => ((F_X7_toWhole c (nI j) x3).toInt + 1440 * (q : Int)) * A.toInt) (fun q => ((F_X7_toWhole c (nI i) x3).toInt + 1440 * (q : Int)) * B.toInt) (x4.toInt * (A.toInt * B.toInt)) := by
                      refine ⟨by rw [Int64.mul_assoc]; exact ew.1, ew.2, fun q hq => ?_, fun q hq => ?_⟩
                      · have := key (F_X7_toWhole c (nI j) x3) A q tj2 tj3 A0 A1 (by omega)
                        exact ⟨this.2.1, this.2.2⟩
                      · have := key (F_X7_toWhole c (nI i) x3) B q ti2 ti3 B0 B1 (by omega)
                        exact ⟨this.2.1, this.2.2⟩
                    have m1 := least_class hEB
                    obtain ⟨l', g1, m2⟩ := l142 (x5 := x5) hEM 61 0 (-1) (by decide) (by decide) (Or.inl ⟨rfl, fun i j hp => by omega⟩)
                    rw [iz] at g1
                    have hu := Int64.toInt_inj.mp (m1.uniq m2)
                    -- there is a pair
                    have hl0 : 0 ≤ l'.toInt ∧ l'.toInt ≤ 40000000000 := by
                      have hb := m2.bd (B := 40000000000) (by decide) (fun i' j' hp => by
                        have k1 := (key (F_X7_toWhole c (nI j) x3) A j' tj2 tj3 A0 A1 (by omega)).2.2
                        have k2 := (key (F_X7_toWhole c (nI i) x3) B i' ti2 ti3 B0 B1 (by omega)).2.2
                        have k3 := ew.2
                        show ((((F_X7_toWhole c (nI j) x3).toInt + 1440 * (j' : Int)) * A.toInt - ((F_X7_toWhole c (nI i) x3).toInt + 1440 * (i' : Int)) * B.toInt - x4.toInt * (A.toInt * B.toInt)).natAbs : Int) ≤ 40000000000
                        omega)
                      rcases m2 with ⟨h1, h2⟩ | ⟨⟨i', j', _, _, p3⟩, _⟩
                      · exfalso
                        have := h2 0 239 (by omega)
                        have this : ((F_X7_toWhole c (nI j) x3).toInt + 1440 * ((239 : Nat) : Int)) * A.toInt - ((F_X7_toWhole c (nI i) x3).toInt + 1440 * ((0 : Nat) : Int)) * B.toInt ≤ 0 := this
                        have u1 : 344160 * 1320 ≤ ((F_X7_toWhole c (nI j) x3).toInt + 1440 * ((239 : Nat) : Int)) * A.toInt := Int.mul_le_mul (by omega) A0 (by omega) (by omega)
                        have u2 : ((F_X7_toWhole c (nI i) x3).toInt + 1440 * ((0 : Nat) : Int)) * B.toInt ≤ 1440 * 1560 := Int.mul_le_mul (by omega) B1 (by omega) (by omega)
                        omega
                      · omega
                    show F_X6_egg_142 x5 _ _ _ = F_X7_egg_142 c (nI i) (nI j) x3 x4 x5 B A 61 0 (-1)
                    rw [g1, hu]
                    obtain ⟨G, gg1, gg2⟩ := l289 (x5 := x5) (x8 := B) (x6 := A) (x10 := l') ((A * B).toInt.natAbs + 1) (A * B) l' hl0.1 (by omega) (by omega) (by omega) (by omega)
                    rw [gg2]
                    have hcd := cd_ok (g := l') (l := A * B) (by omega) (by omega) hl0.1 (by omega)
                    have hG : F_J9_max_f86c9 1 (F_X6_commonDivisor l' (A * B)) = G := by
                      refine Int64.toInt_inj.mp ?_
                      have z1 : (1 : Int64).toInt = 1 := rfl
                      rw [l_max, hcd, gg1, z1]
                      have := Nat.gcd_pos_of_pos_right l'.toInt.toNat (show 0 < (A * B).toInt.toNat by omega)
                      split <;> omega
                    rw [hG]
                    rfl
                  · rw [if_neg c9, if_pos rfl, if_pos rfl]
                · rw [if_neg c8, if_pos rfl, if_pos rfl]
end HRs
