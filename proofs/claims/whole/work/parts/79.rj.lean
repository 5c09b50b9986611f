/-! meeting again: divisors and inverses -/
theorem bits64 (a b : Int64) : 0 ≤ (a ^^^ b).toInt ↔ (0 ≤ a.toInt ↔ 0 ≤ b.toInt) := by
  have h : ∀ x : Int64, 0 ≤ x.toInt ↔ x.toBitVec.msb = false := fun x => by
    show 0 ≤ x.toBitVec.toInt ↔ _
    rw [BitVec.msb_eq_toInt]
    simp
  rw [h, h, h]
  show (a.toBitVec ^^^ b.toBitVec).msb = false ↔ _
  rw [BitVec.msb_xor]
  cases a.toBitVec.msb <;> cases b.toBitVec.msb <;> simp
theorem l_tdiv {a b : Int64} (h1 : -9000000000000000000 ≤ a.toInt) (h2 : a.toInt ≤ 9000000000000000000) : (a / b).toInt = a.toInt.tdiv b.toInt ∧ -9000000000000000000 ≤ a.toInt.tdiv b.toInt ∧ a.toInt.tdiv b.toInt ≤ 9000000000000000000 := by
  have g : (a.toInt.tdiv b.toInt).natAbs ≤ a.toInt.natAbs := by
    rw [Int.natAbs_tdiv]; exact Nat.div_le_self _ _
  refine ⟨?_, by omega, by omega⟩
  rw [Int64.toInt_div]
  exact Int.bmod_eq_of_le (by omega) (by omega)
theorem l_trem {a b : Int64} (h1 : -9000000000000000000 ≤ a.toInt) (h2 : a.toInt ≤ 9000000000000000000) : (a - a / b * b).toInt = a.toInt.tmod b.toInt := by
  obtain ⟨d1, d2, d3⟩ := l_tdiv (b := b) h1 h2
  have key : a.toInt.tmod b.toInt = a.toInt - a.toInt.tdiv b.toInt * b.toInt := by rw [Int.tmod_def, Int.mul_comm]
  have g : (a.toInt.tmod b.toInt).natAbs ≤ a.toInt.natAbs := by
    rw [Int.natAbs_tmod]; exact Nat.mod_le _ _
  have g2 : (a.toInt.tdiv b.toInt * b.toInt).natAbs ≤ a.toInt.natAbs := by
    rw [Int.natAbs_mul, Int.natAbs_tdiv]; exact Nat.div_mul_le_self _ _
  have m : (a / b * b).toInt = a.toInt.tdiv b.toInt * b.toInt := by rw [l_mul (by rw [d1]; omega) (by rw [d1]; omega), d1]
  rw [l_sub (by rw [m]; omega) (by rw [m]; omega), m, key]
theorem fm64 {a b : Int64} (h1 : -9000000000000000000 ≤ a.toInt) (h2 : a.toInt ≤ 9000000000000000000) (hb : 0 < b.toInt) (hb2 : b.toInt ≤ 9000000000000000000) : (F_J9_floorMod_f86c9 a b).toInt = a.toInt % b.toInt := by
  have er := l_trem (b := b) h1 h2
  have hl := Int.tmod_lt_of_pos a.toInt hb
  have hg : -b.toInt < a.toInt.tmod b.toInt := by
    have := Int.natAbs_tmod a.toInt b.toInt
    have h3 : (a.toInt.tmod b.toInt).natAbs < b.toInt.natAbs := by rw [this]; exact Nat.mod_lt _ (by omega)
    omega
  have em : a.toInt % b.toInt = if a.toInt.tmod b.toInt < 0 then a.toInt.tmod b.toInt + b.toInt else a.toInt.tmod b.toInt := by
    have h5 : (a.toInt.tmod b.toInt) % b.toInt = a.toInt % b.toInt := by rw [Int.tmod_def, Int.sub_mul_emod_self_left]
    split
    · rw [← h5]; rw [← Int.add_emod_right, Int.emod_eq_of_lt (by omega) (by omega)]
    · rw [← h5, Int.emod_eq_of_lt (by omega) (by omega)]
  have hs : 0 ≤ a.toInt → 0 ≤ a.toInt.tmod b.toInt := fun h => Int.tmod_nonneg _ h
  have hs2 : ¬ 0 ≤ a.toInt → a.toInt.tmod b.toInt ≤ 0 := fun h => by
    have h := Int.tmod_nonneg b.toInt (show 0 ≤ -a.toInt by omega)
    rw [Int.neg_tmod] at h
    omega
  have z0 : (0 : Int64).toInt = 0 := rfl
  have hx := bits64 a b
  unfold F_J9_floorMod_f86c9
  by_cases c : 0 ≤ lg_cmp (a ^^^ b) 0
  · have c' := (lc_ge _ _).mp c
    rw [z0] at c'
    have ha := (hx.mp c').mpr (Int.le_of_lt hb)
    rw [if_pos c, er, em, if_neg (by have := hs ha; omega)]
  · have h : ¬ 0 ≤ a.toInt := fun ha => c ((lc_ge _ _).mpr (by rw [z0]; exact hx.mpr ⟨fun _ => Int.le_of_lt hb, fun _ => ha⟩))
    rw [if_neg c]
    by_cases c2 : lg_cmp (a - a / b * b) 0 = 0
    · have hz := (lc_eq _ _).mp c2
      rw [er, z0] at hz
      rw [if_pos c2, er, em, if_neg (by omega)]
    · have hz := mt (lc_eq _ _).mpr c2
      rw [er, z0] at hz
      have := hs2 h
      rw [if_neg c2, l_add (by rw [er]; omega) (by rw [er]; omega), er, em, if_pos (by omega)]
/-- what a product leaves to be divided -/
theorem gdvd {N d t : Int} (hN : 0 < N) : N ∣ d * t ↔ N / (Int.gcd N d : Int) ∣ t := by
  have g1 : ((Int.gcd N d : Nat) : Int) ∣ N := Int.gcd_dvd_left N d
  have g2 : ((Int.gcd N d : Nat) : Int) ∣ d := Int.gcd_dvd_right N d
  have gp : 0 < Int.gcd N d := Int.gcd_pos_of_ne_zero_left d (by omega)
  have hco : (N.natAbs / N.natAbs.gcd d.natAbs).Coprime (d.natAbs / N.natAbs.gcd d.natAbs) := Nat.coprime_div_gcd_div_gcd gp
  obtain ⟨n, hn⟩ := g1
  obtain ⟨e, he⟩ := g2
  have eg : N.natAbs.gcd d.natAbs = Int.gcd N d := rfl
  rw [eg] at hco
  generalize Int.gcd N d = g at *
  have en : N / (g : Int) = n := by rw [hn]; exact Int.mul_ediv_cancel_left _ (by omega)
  have na : N.natAbs / g = n.natAbs := by
    rw [hn, Int.natAbs_mul, Int.natAbs_natCast]; exact Nat.mul_div_cancel_left _ gp
  have da : d.natAbs / g = e.natAbs := by
    rw [he, Int.natAbs_mul, Int.natAbs_natCast]; exact Nat.mul_div_cancel_left _ gp
  rw [na, da] at hco
  rw [en]
  constructor
  · intro h
    rw [hn, he, Int.mul_assoc] at h
    have h2 : n ∣ e * t := Int.dvd_of_mul_dvd_mul_left (by omega) h
    have h3 : n.natAbs ∣ e.natAbs * t.natAbs := by rw [← Int.natAbs_mul]; exact Int.natAbs_dvd_natAbs.mpr h2
    exact Int.natAbs_dvd_natAbs.mp (hco.dvd_of_dvd_mul_left h3)
  · rintro ⟨k, rfl⟩
    rw [hn, he]
    exact ⟨e * k, by rw [Int.mul_assoc, Int.mul_assoc, Int.mul_left_comm e n k]⟩
/-- the class's inverse: what its loop keeps -/
theorem inv_loop {m z : Int} {m64 : Int64} (mb : m ≤ 2000000) : ∀ (e n k : Nat) (x10 x8 x6 x4 : Int64) (A B : Int), 0 ≤ x8.toInt → x8.toInt ≤ x4.toInt → x4.toInt ≤ 2000000 → x4.toInt * x8.toInt < 2 ^ e → k + e + 1 ≤ 99 → 99 - k < n → Nat.gcd x4.toInt.toNat x8.toInt.toNat = 1 → m ∣ x6.toInt * z - x4.toInt → m ∣ x10.toInt * z - x8.toInt → -A ≤ x10.toInt → x10.toInt ≤ A → -B ≤ x6.toInt → x6.toInt ≤ B → 0 ≤ A → 0 ≤ B → A ≤ m → B ≤ m → A * x4.toInt + B * x8.toInt = m →
    ∃ X : Int64, F_X6_inverse_15 m64 n (nI k) x10 x8 x6 x4 = F_X6_inverse_78 m64 X ∧ m ∣ X.toInt * z - 1 ∧ -m ≤ X.toInt ∧ X.toInt ≤ m := by
  have z0 : (0 : Int64).toInt = 0 := rfl
  intro e
  induction e with
  | zero =>
    intro n k x10 x8 x6 x4 A B a0 a1 a2 a3 hk hn hg d1 d2 b1 b2 b3 b4 b5 b6 b7 b8 b9
    obtain ⟨n', rfl⟩ : ∃ n', n = n' + 1 := ⟨n - 1, by omega⟩
    have h8 : x8.toInt = 0 := by
      by_cases c : x8.toInt = 0
      · exact c
      · have : 1 * 1 ≤ x4.toInt * x8.toInt := Int.mul_le_mul (by omega) (by omega) (by omega) (by omega)
        have p : (2 : Int) ^ 0 = 1 := rfl
        omega
    rw [F_X6_inverse_15.eq_2, if_neg (show ¬ (99 : Int32) ≤ nI k from fun hq => by have := (iN_le (a := 99) (b := k) (by decide) (by omega)).mp hq; omega), if_pos ((lc_eq _ _).mpr (by rw [h8]; rfl))]
    refine ⟨x6, rfl, ?_, by omega, by omega⟩
    rw [h8] at hg
    have hg : Nat.gcd x4.toInt.toNat 0 = 1 := hg
    rw [Nat.gcd_zero_right] at hg
    have : x4.toInt = 1 := by omega
    rw [this] at d1
    exact d1
  | succ e ih =>
    intro n k x10 x8 x6 x4 A B a0 a1 a2 a3 hk hn hg d1 d2 b1 b2 b3 b4 b5 b6 b7 b8 b9
    obtain ⟨n', rfl⟩ : ∃ n', n = n' + 1 := ⟨n - 1, by omega⟩
    rw [F_X6_inverse_15.eq_2, if_neg (show ¬ (99 : Int32) ≤ nI k from fun hq => by have := (iN_le (a := 99) (b := k) (by decide) (by omega)).mp hq; omega)]
    by_cases c1 : lg_cmp x8 0 = 0
    · have h8 := (lc_eq _ _).mp c1
      rw [if_pos c1]
      refine ⟨x6, rfl, ?_, by omega, by omega⟩
      rw [h8] at hg
      have hg : Nat.gcd x4.toInt.toNat 0 = 1 := hg
      rw [Nat.gcd_zero_right] at hg
      have : x4.toInt = 1 := by omega
      rw [this] at d1
      exact d1
    · have h8 := mt (lc_eq _ _).mpr c1
      rw [z0] at h8
      rw [if_neg c1, nI_suc (by omega)]
      have q1 := l_div (a := x4) (b := x8) (by omega) (by omega) (by omega)
      have r1 := l_rem (a := x4) (b := x8) (by omega) (by omega) (by omega)
      have hr0 := Int.emod_nonneg x4.toInt (show x8.toInt ≠ 0 by omega)
      have hr1 := Int.emod_lt_of_pos x4.toInt (show 0 < x8.toInt by omega)
      have hqr : x8.toInt * (x4.toInt / x8.toInt) + x4.toInt % x8.toInt = x4.toInt := Int.mul_ediv_add_emod _ _
      have hq1 : 1 ≤ x4.toInt / x8.toInt := (Int.le_ediv_iff_mul_le (show 0 < x8.toInt by omega)).mpr (by omega)
      have hgs := gcd_step (x := x4.toInt) (y := x8.toInt) (by omega) (by omega)
      rw [hg] at hgs
      rw [← r1] at hr0 hr1 hqr hgs
      rw [← q1] at hqr hq1
      generalize x4 - x4 / x8 * x8 = r at r1 hr0 hr1 hqr hgs ⊢
      generalize x4 / x8 = q at q1 hqr hq1 ⊢
      -- the coefficient
      have hqA1 : q.toInt * x10.toInt ≤ q.toInt * A := Int.mul_le_mul_of_nonneg_left b2 (by omega)
      have hqA2 : q.toInt * (-A) ≤ q.toInt * x10.toInt := Int.mul_le_mul_of_nonneg_left b1 (by omega)
      rw [Int.mul_neg] at hqA2
      have hA0 : 0 ≤ q.toInt * A := Int.mul_nonneg (by omega) b5
      have hsum : (B + q.toInt * A) * x8.toInt + A * r.toInt = m := by
        have e1 : A * x4.toInt = A * (x8.toInt * q.toInt) + A * r.toInt := by rw [← Int.mul_add, hqr]
        have e2 : (B + q.toInt * A) * x8.toInt = B * x8.toInt + A * (x8.toInt * q.toInt) := by
          rw [Int.add_mul, Int.mul_comm q.toInt A, Int.mul_assoc, Int.mul_comm q.toInt x8.toInt]
        rw [e2]; omega
      have hAr : 0 ≤ A * r.toInt := Int.mul_nonneg b5 hr0
      have hBm : B + q.toInt * A ≤ m := by
        have h1 : (B + q.toInt * A) * 1 ≤ (B + q.toInt * A) * x8.toInt := Int.mul_le_mul_of_nonneg_left (by omega) (by omega)
        rw [Int.mul_one] at h1
        omega
      have m1 : (q * x10).toInt = q.toInt * x10.toInt := l_mul (by omega) (by omega)
      have m2 : (x6 - q * x10).toInt = x6.toInt - q.toInt * x10.toInt := by rw [l_sub (by rw [m1]; omega) (by rw [m1]; omega), m1]
      have hp : (2 : Int) ^ (e + 1) = 2 * 2 ^ e := by rw [Int.pow_succ, Int.mul_comm]
      have hlt : x8.toInt * r.toInt < 2 ^ e := by
        have h1 : x8.toInt * 1 ≤ x8.toInt * q.toInt := Int.mul_le_mul_of_nonneg_left hq1 (by omega)
        have h2 : 2 * r.toInt ≤ x4.toInt := by omega
        have h3 : x8.toInt * (2 * r.toInt) ≤ x8.toInt * x4.toInt := Int.mul_le_mul_of_nonneg_left h2 (by omega)
        rw [Int.mul_left_comm, Int.mul_comm x8.toInt x4.toInt] at h3
        omega
      refine ih n' (k + 1) (x6 - q * x10) r x10 x8 (B + q.toInt * A) A hr0 (by omega) (by omega) hlt (by omega) (by omega) hgs d2 ?_ (by rw [m2]; omega) (by rw [m2]; omega) b1 b2 (by omega) b5 hBm b7 hsum
      rw [m2]
      have h1 : m ∣ (x6.toInt * z - x4.toInt) - q.toInt * (x10.toInt * z - x8.toInt) := Int.dvd_sub d1 (Int.dvd_mul_of_dvd_right d2)
      have h2 : (x6.toInt - q.toInt * x10.toInt) * z - r.toInt = (x6.toInt * z - x4.toInt) - q.toInt * (x10.toInt * z - x8.toInt) := by
        rw [Int.sub_mul, Int.mul_sub, Int.mul_assoc, Int.mul_comm q.toInt x8.toInt]
        omega
      rw [h2]; exact h1
/-- the class's inverse -/
theorem inv_ok {x m : Int64} (m1 : 1 ≤ m.toInt) (m2 : m.toInt ≤ 2000000) (x0 : 0 ≤ x.toInt) (x1 : x.toInt < m.toInt) (hg : Nat.gcd m.toInt.toNat x.toInt.toNat = 1) : m.toInt ∣ (F_X6_inverse x m).toInt * x.toInt - 1 ∧ 0 ≤ (F_X6_inverse x m).toInt ∧ (F_X6_inverse x m).toInt < m.toInt := by
  have z0 : (0 : Int64).toInt = 0 := rfl
  have z1 : (1 : Int64).toInt = 1 := rfl
  have key : ∃ X : Int64, F_X6_inverse x m = F_X6_inverse_78 m X ∧ m.toInt ∣ X.toInt * x.toInt - 1 ∧ -m.toInt ≤ X.toInt ∧ X.toInt ≤ m.toInt := by
    unfold F_X6_inverse
    rw [F_X6_inverse_15.eq_2, if_neg (show ¬ (99 : Int32) ≤ 0 by decide), if_neg (fun hq => by have := (lc_eq _ _).mp hq; omega)]
    have hq : (x / m).toInt = 0 := by rw [l_div x0 (by omega) (by omega)]; exact Int.ediv_eq_zero_of_lt x0 x1
    have hq0 : x / m = 0 := Int64.toInt_inj.mp hq
    rw [hq0]
    have e1 : (1 : Int64) - 0 * 0 = 1 := by decide
    have e2 : x - 0 * m = x := by rw [Int64.zero_mul, Int64.sub_zero]
    rw [e1, e2]
    have e42 : (2 : Int) ^ 42 = 4398046511104 := by decide
    have hp : m.toInt * x.toInt ≤ 2000000 * 2000000 := Int.mul_le_mul m2 (by omega) x0 (by decide)
    exact inv_loop (m := m.toInt) (z := x.toInt) m2 42 99 1 1 x 0 m 1 0 x0 (by omega) m2 (by rw [e42]; omega) (by decide) (by decide) hg (by rw [z0, Int.zero_mul, Int.zero_sub]; exact Int.dvd_neg.mpr (Int.dvd_refl _)) (by rw [z1, Int.one_mul, Int.sub_self]; exact Int.dvd_zero _) (by decide) (by decide) (by decide) (by decide) (by decide) (by decide) (by omega) (by omega) (by omega)
  obtain ⟨X, hX, hd, b1, b2⟩ := key
  rw [hX]
  unfold F_X6_inverse_78
  rw [if_pos ((lc_ge _ _).mpr (by rw [z1]; exact m1))]
  have f := fm64 (a := X) (b := m) (by omega) (by omega) (by omega) (by omega)
  rw [f]
  refine ⟨?_, Int.emod_nonneg _ (by omega), Int.emod_lt_of_pos _ (by omega)⟩
  obtain ⟨w, hw⟩ := hd
  have e : X.toInt % m.toInt = X.toInt - m.toInt * (X.toInt / m.toInt) := Int.emod_def _ _
  refine ⟨w - X.toInt / m.toInt * x.toInt, ?_⟩
  rw [e, Int.sub_mul, Int.mul_sub, ← hw, Int.mul_assoc]
  omega
