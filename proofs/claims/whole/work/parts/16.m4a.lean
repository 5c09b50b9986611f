theorem q_natdiv {a b : Int} (ha : 0 ≤ a) (hb : 0 ≤ b) : (a / b).toNat = a.toNat / b.toNat := by
  obtain ⟨m, rfl⟩ := Int.eq_ofNat_of_zero_le ha
  obtain ⟨n, rfl⟩ := Int.eq_ofNat_of_zero_le hb
  rfl
theorem nat_common {a b : Int32} (ha : 0 ≤ a.toInt) (hb : 0 ≤ b.toInt) : (F_X7_common a b).toInt.toNat = Nat.gcd a.toInt.toNat b.toInt.toNat := by
  rw [common_gcd ha hb]; rfl
theorem every_AS {y : Int32} (hy : 0 ≤ y.toInt) : AS (1036800 / F_X7_common 1036800 y) := by
  obtain ⟨p1, p2⟩ := common_pos (a := 1036800) (by decide) hy
  have e : (1036800 : Int32).toInt = 1036800 := rfl
  have e1 := ti_div (a := 1036800) (b := F_X7_common 1036800 y) (by decide) p1
  refine ⟨(div_pos p1 p2).1, ?_⟩
  have e2 := nat_common (a := 1036800) (b := y) (by decide) hy
  have e3 : (1036800 / F_X7_common 1036800 y).toInt.toNat = 1036800 / Nat.gcd 1036800 y.toInt.toNat := by
    rw [e1, e, q_natdiv (by decide) (by omega), e2]; rfl
  rw [e3]
  exact Nat.div_dvd_of_dvd (Nat.gcd_dvd_left _ _)
theorem step_AS {st e : Int32} (hs : AS st) (he : AS e) : AS ((st / F_X7_common st e) * e) := by
  obtain ⟨s1, s2⟩ := hs
  obtain ⟨e1, e2⟩ := he
  obtain ⟨p1, p2⟩ := common_pos s1 (Int.le_of_lt e1)
  have g := nat_common (Int.le_of_lt s1) (Int.le_of_lt e1)
  have d := ti_div (Int.le_of_lt s1) p1
  have hl : Nat.lcm st.toInt.toNat e.toInt.toNat ∣ 1036800 := Nat.lcm_dvd s2 e2
  have hlp : 0 < Nat.lcm st.toInt.toNat e.toInt.toNat := Nat.lcm_pos (by omega) (by omega)
  have hle := Nat.le_of_dvd (by decide) hl
  have hq : (st.toInt / (F_X7_common st e).toInt) * e.toInt = (Nat.lcm st.toInt.toNat e.toInt.toNat : Nat) := by
    have e3 : (st.toInt / (F_X7_common st e).toInt) = ((st.toInt.toNat / Nat.gcd st.toInt.toNat e.toInt.toNat : Nat) : Int) := by
      rw [← g, Int.natCast_ediv]
      congr 1 <;> omega
    have e4 : Nat.lcm st.toInt.toNat e.toInt.toNat = st.toInt.toNat / Nat.gcd st.toInt.toNat e.toInt.toNat * e.toInt.toNat := by
      rw [Nat.lcm, Nat.mul_comm, Nat.mul_div_assoc _ (Nat.gcd_dvd_left _ _), Nat.mul_comm]
    rw [e3, e4, Int.natCast_mul]
    congr 1; omega
  have h : ((st / F_X7_common st e) * e).toInt = (Nat.lcm st.toInt.toNat e.toInt.toNat : Nat) := by
    rw [ti_mul (by rw [d, hq]; omega) (by rw [d, hq]; omega), d, hq]
  exact ⟨by rw [h]; omega, by rw [h]; exact hl⟩
theorem again_103 {st a b e g : Int32} (hs : AS st) (he : AS e) : ∀ (n : Nat) (k at_ : Int32), 0 ≤ k.toInt → (g.toInt - k.toInt).toNat < n → AS (F_X7_isAgain_103 st a b e g n k at_).2.2 := by
  intro n
  induction n with
  | zero => intro k at_ _ h; exact absurd h (Nat.not_lt_zero _)
  | succ n ih =>
    intro k at_ h0 hm
    rw [F_X7_isAgain_103.eq_2]
    split
    · exact hs
    · rename_i hk
      have h1 := ti_nle hk
      have h2 := Int32.toInt_lt g
      have e1 := ti_inc (a := k) (by omega)
      split
      · exact step_AS hs he
      · exact ih (k + 1) (at_ + st) (by omega) (by omega)
theorem isAgain_AS {c : Nat → Int32} {at_ st x1 x2 : Int32} (hs : AS st) (hk0 : 0 ≤ x1.toInt) (hk1 : x1.toInt < 8) (hj0 : 0 ≤ x2.toInt) (hj1 : x2.toInt < 8) (hc : CkR c) : AS (F_X7_isAgain c at_ st x1 x2).2.2 := by
  obtain ⟨r1, r2⟩ := hc.low hj0 hj1
  obtain ⟨r3, r4⟩ := hc.low hk0 hk1
  have eby := ti_sub (a := c (6 * x2 + 3).toNatClampNeg) (b := c (6 * x1 + 3).toNatClampNeg) (by omega) (by omega)
  unfold F_X7_isAgain F_X7_isAgain_66
  have e0 : (0 : Int32).toInt = 0 := rfl
  split
  · rename_i h
    have h := ti_le.mp h
    unfold F_X7_isAgain_80 F_X7_isAgain_86 F_X7_isAgain_100
    exact again_103 hs (every_AS (by omega)) _ _ _ (by decide) (by omega)
  · rename_i h
    have h := ti_nle h
    have en := ti_neg (a := c (6 * x2 + 3).toNatClampNeg - c (6 * x1 + 3).toNatClampNeg) (by omega)
    unfold F_X7_isAgain_80 F_X7_isAgain_86 F_X7_isAgain_100
    exact again_103 hs (every_AS (by omega)) _ _ _ (by decide) (by omega)
theorem first_216 {x3 x6 x8 : Int32} : ∀ (n : Nat) (k : Int32) (p i : Int64), k.toInt.toNat < n → (F_X7_isFirstAgain_216 x3 x6 x8 n k p i).2.2 = 1036800 / x6 := by
  intro n
  induction n with
  | zero => intro k p i h; exact absurd h (Nat.not_lt_zero _)
  | succ n ih =>
    intro k p i hm
    rw [F_X7_isFirstAgain_216.eq_2]
    split
    · split <;> rfl
    · rename_i hk
      have h1 := half_lt (k := k) (ti_nle hk)
      split <;> (unfold F_X7_isFirstAgain_245; exact ih _ _ _ (by omega))
theorem first_164 {x3 x6 y x8 : Int32} : ∀ (n : Nat) (p i : Int32), 2 ≤ p.toInt → (6 - p.toInt).toNat < n → (F_X7_isFirstAgain_164 x3 x6 y x8 n p i).2.2 = 1036800 / x6 := by
  intro n
  induction n with
  | zero => intro p i _ h; exact absurd h (Nat.not_lt_zero _)
  | succ n ih =>
    intro p i h0 hm
    rw [F_X7_isFirstAgain_164.eq_2]
    split
    · exact first_216 _ _ _ _ (Nat.lt_succ_self _)
    · rename_i hp
      have h1 : p.toInt < 6 := ti_nle hp
      have e := ti_inc (a := p) (by omega)
      split
      · exact ih _ _ (by omega) (by omega)
      · split <;> exact ih _ _ (by omega) (by omega)
theorem first_AS {c : Nat → Int32} {at_ x1 x2 x3 : Int32} (hk0 : 0 ≤ x1.toInt) (hk1 : x1.toInt < 8) (hj0 : 0 ≤ x2.toInt) (hj1 : x2.toInt < 8) (hc : CkR c) : AS (F_X7_isFirstAgain c at_ x1 x2 x3).2.2 := by
  obtain ⟨r1, r2⟩ := hc.low hj0 hj1
  obtain ⟨r3, r4⟩ := hc.low hk0 hk1
  have eby := ti_sub (a := c (6 * x2 + 3).toNatClampNeg) (b := c (6 * x1 + 3).toNatClampNeg) (by omega) (by omega)
  have e0 : (0 : Int32).toInt = 0 := rfl
  have key : ∀ (a b y : Int32), 0 ≤ y.toInt → AS (F_X7_isFirstAgain_82 at_ x3 a b y).2.2 := by
    intro a b y hy
    unfold F_X7_isFirstAgain_82 F_X7_isFirstAgain_87
    have e : (F_X7_isFirstAgain_87 at_ x3 a b (F_X7_common 1036800 y)).2.2 = 1036800 / F_X7_common 1036800 y := by
      unfold F_X7_isFirstAgain_87
      split
      · split <;> exact first_164 _ _ _ (by decide) (by decide)
      · rfl
    have h := every_AS hy
    rw [← e] at h
    exact h
  unfold F_X7_isFirstAgain F_X7_isFirstAgain_67
  split
  · rename_i h
    have h := ti_le.mp h
    exact key _ _ _ (by omega)
  · rename_i h
    have h := ti_nle h
    have en := ti_neg (a := c (6 * x2 + 3).toNatClampNeg - c (6 * x1 + 3).toNatClampNeg) (by omega)
    exact key _ _ _ (by omega)

