/-! meeting again: the class's step -/
theorem gcd_rest (N x : Int) : Int.gcd N (x % N) = Int.gcd N x := by
  rw [Int.emod_def, Int.mul_comm, Int.gcd_sub_mul_right_right]
theorem gcd_nn {N y : Int} (hN : 0 ≤ N) (hy : 0 ≤ y) : Nat.gcd y.toNat N.toNat = Int.gcd N y := by
  rw [Nat.gcd_comm, show N.toNat = N.natAbs by omega, show y.toNat = y.natAbs by omega]; rfl
theorem cop_gen {N y : Int} (hN : 0 < N) : (N.natAbs / Int.gcd N y).Coprime (y.natAbs / Int.gcd N y) := Nat.coprime_div_gcd_div_gcd (Int.gcd_pos_of_ne_zero_left y (by omega))
theorem tnN : (1036800 : Int).toNat = (1036800 : Int).natAbs := rfl
theorem n64 : (1036800 : Int64).toInt = 1036800 := rfl
theorem share_ok {x : Int64} (h1 : -9000000000000000000 ≤ x.toInt) (h2 : x.toInt ≤ 9000000000000000000) : (F_X6_sharedWithRound x).toInt = (Int.gcd 1036800 x.toInt : Nat) ∧ 1 ≤ Int.gcd 1036800 x.toInt ∧ Int.gcd 1036800 x.toInt ≤ 1036800 := by
  have f := fm64 (b := 1036800) h1 h2 (by decide) (by decide)
  rw [n64] at f
  have f0 := Int.emod_nonneg x.toInt (show (1036800 : Int) ≠ 0 by decide)
  have f1 := Int.emod_lt_of_pos x.toInt (show (0 : Int) < 1036800 by decide)
  have c := cd_ok (g := F_J9_floorMod_f86c9 x 1036800) (l := 1036800) (by decide) (by decide) (by rw [f]; omega) (by rw [f]; omega)
  have e : Nat.gcd (F_J9_floorMod_f86c9 x 1036800).toInt.toNat (1036800 : Int64).toInt.toNat = Int.gcd 1036800 x.toInt := by
    rw [f, n64, gcd_nn (by decide) f0, gcd_rest]
  rw [e] at c
  have g1 : 0 < Int.gcd 1036800 x.toInt := Int.gcd_pos_of_ne_zero_left _ (by decide)
  have g2 : Int.gcd 1036800 x.toInt ≤ 1036800 := by
    have h : ((Int.gcd 1036800 x.toInt : Nat) : Int) ∣ 1036800 := Int.gcd_dvd_left _ _
    have := Int.le_of_dvd (by decide) h
    omega
  refine ⟨?_, g1, g2⟩
  unfold F_X6_sharedWithRound
  have z1 : (1 : Int64).toInt = 1 := rfl
  rw [l_max, c, z1]
  by_cases k : (1 : Int) < (Int.gcd 1036800 x.toInt : Nat)
  · rw [if_pos k]
  · rw [if_neg k]; omega
theorem lf_alg (x0 x2 N g a' b' w M k z q0 q2 f a b : Int) (h1 : x0 = a + N*q0) (h2 : x2 = b + N*q2) (h3 : a = g*a') (h4 : b = g*b') (h5 : N = g*M) (h6 : w*a' - 1 = M*z) (h7 : f = b'*w - M*k) : x0*f - x2 = N*(q0*f - q2 + b'*z - a'*k) := by grind
/-- the least factor, in the class -/
theorem lf_ok {x0 x2 : Int64} (h1 : -1000000000000000 ≤ x0.toInt) (h2 : x0.toInt ≤ 1000000000000000) (h3 : -1000000000000000 ≤ x2.toInt) (h4 : x2.toInt ≤ 1000000000000000) : ((F_X6_leastFactor x0 x2).toInt = -1 ∧ ∀ t : Int, ¬ 1036800 ∣ x0.toInt * t - x2.toInt) ∨ (0 ≤ (F_X6_leastFactor x0 x2).toInt ∧ (F_X6_leastFactor x0 x2).toInt < 1036800 / (Int.gcd 1036800 x0.toInt : Nat) ∧ 1036800 ∣ x0.toInt * (F_X6_leastFactor x0 x2).toInt - x2.toInt) := by
  obtain ⟨s1, s2, s3⟩ := share_ok (x := x0) (by omega) (by omega)
  have fa := fm64 (a := x0) (b := 1036800) (by omega) (by omega) (by decide) (by decide)
  have fb := fm64 (a := x2) (b := 1036800) (by omega) (by omega) (by decide) (by decide)
  rw [n64] at fa fb
  have a0 := Int.emod_nonneg x0.toInt (show (1036800 : Int) ≠ 0 by decide)
  have a1 := Int.emod_lt_of_pos x0.toInt (show (0 : Int) < 1036800 by decide)
  have b0 := Int.emod_nonneg x2.toInt (show (1036800 : Int) ≠ 0 by decide)
  have b1 := Int.emod_lt_of_pos x2.toInt (show (0 : Int) < 1036800 by decide)
  have ea : x0.toInt = x0.toInt % 1036800 + 1036800 * (x0.toInt / 1036800) := (Int.emod_add_mul_ediv _ _).symm
  have eb : x2.toInt = x2.toInt % 1036800 + 1036800 * (x2.toInt / 1036800) := (Int.emod_add_mul_ediv _ _).symm
  have gN : ((Int.gcd 1036800 x0.toInt : Nat) : Int) ∣ 1036800 := Int.gcd_dvd_left _ _
  have gx : ((Int.gcd 1036800 x0.toInt : Nat) : Int) ∣ x0.toInt := Int.gcd_dvd_right _ _
  have ga : ((Int.gcd 1036800 x0.toInt : Nat) : Int) ∣ x0.toInt % 1036800 := by
    rw [← gcd_rest 1036800 x0.toInt]; exact Int.gcd_dvd_right _ _
  have hco := cop_gen (N := 1036800) (y := x0.toInt % 1036800) (by decide)
  rw [gcd_rest] at hco
  unfold F_X6_leastFactor
  generalize F_X6_sharedWithRound x0 = s at s1 ⊢
  generalize F_J9_floorMod_f86c9 x0 1036800 = a at fa ⊢
  generalize F_J9_floorMod_f86c9 x2 1036800 = b at fb ⊢
  rw [← fa] at a0 a1 ea ga hco
  rw [← fb] at b0 b1 eb
  generalize Int.gcd 1036800 x0.toInt = g at s1 s2 s3 gN gx ga hco ⊢
  generalize x0.toInt / 1036800 = q0 at ea
  generalize x2.toInt / 1036800 = q2 at eb
  have hbr := l_rem (a := b) (b := s) b0 (by omega) (by rw [s1]; omega)
  have z0 : (0 : Int64).toInt = 0 := rfl
  have z1 : (1 : Int64).toInt = 1 := rfl
  by_cases c : lg_cmp (b - b / s * s) 0 = 0
  · right
    have c' := (lc_eq _ _).mp c
    rw [hbr, z0, s1] at c'
    have gb : (g : Int) ∣ b.toInt := Int.dvd_of_emod_eq_zero c'
    rw [if_pos c]
    have dN := l_div (a := (1036800 : Int64)) (b := s) (by decide) (by decide) (by rw [s1]; omega)
    have da := l_div (a := a) (b := s) a0 (by omega) (by rw [s1]; omega)
    have db := l_div (a := b) (b := s) b0 (by omega) (by rw [s1]; omega)
    rw [s1] at dN da db
    rw [n64] at dN
    obtain ⟨M, hM⟩ := gN
    obtain ⟨a', ha'⟩ := ga
    obtain ⟨b', hb'⟩ := gb
    have eM : 1036800 / (g : Int) = M := by rw [hM]; exact Int.mul_ediv_cancel_left _ (by omega)
    have ea' : a.toInt / (g : Int) = a' := by rw [ha']; exact Int.mul_ediv_cancel_left _ (by omega)
    have eb' : b.toInt / (g : Int) = b' := by rw [hb']; exact Int.mul_ediv_cancel_left _ (by omega)
    rw [eM] at dN ⊢
    rw [ea'] at da
    rw [eb'] at db
    have M1 : 1 ≤ M := by
      by_cases h : 1 ≤ M
      · exact h
      · have := Int.mul_le_mul_of_nonneg_left (show M ≤ 0 by omega) (show (0 : Int) ≤ g by omega)
        omega
    have M2 : M ≤ 1036800 := by
      have := Int.mul_le_mul_of_nonneg_right (show (1 : Int) ≤ g by omega) (show (0 : Int) ≤ M by omega)
      omega
    have a'0 : 0 ≤ a' := by rw [← ea']; exact Int.ediv_nonneg a0 (by omega)
    have a'1 : a' < M := by
      by_cases h : a' < M
      · exact h
      · have := Int.mul_le_mul_of_nonneg_left (show M ≤ a' by omega) (show (0 : Int) ≤ g by omega)
        omega
    have b'0 : 0 ≤ b' := by rw [← eb']; exact Int.ediv_nonneg b0 (by omega)
    have b'1 : b' < 1036800 := by
      have := Int.ediv_le_self (g : Int) b0
      omega
    have emx : (F_J9_max_f86c9 1 (1036800 / s)).toInt = M := by
      rw [l_max, dN, z1]
      by_cases k : 1 < M
      · rw [if_pos k]
      · rw [if_neg k]; omega
    have hco2 : Nat.gcd (F_J9_max_f86c9 1 (1036800 / s)).toInt.toNat (a / s).toInt.toNat = 1 := by
      have e1 : (F_J9_max_f86c9 1 (1036800 / s)).toInt.toNat = (1036800 : Int).natAbs / g := by
        rw [emx, ← eM, q_natdiv (by decide) (by omega), tnN, Int.toNat_natCast]
      have e2 : (a / s).toInt.toNat = a.toInt.natAbs / g := by
        rw [da, ← ea', q_natdiv a0 (by omega)]
        rw [show a.toInt.toNat = a.toInt.natAbs by omega, Int.toNat_natCast]
      rw [e1, e2]; exact hco
    obtain ⟨i1, i2, i3⟩ := inv_ok (x := a / s) (m := F_J9_max_f86c9 1 (1036800 / s)) (by rw [emx]; exact M1) (by rw [emx]; omega) (by rw [da]; exact a'0) (by rw [da, emx]; exact a'1) hco2
    generalize F_X6_inverse (a / s) (F_J9_max_f86c9 1 (1036800 / s)) = w at i1 i2 i3 ⊢
    generalize F_J9_max_f86c9 1 (1036800 / s) = m64 at emx i1 i3 ⊢
    rw [emx, da] at i1
    rw [emx] at i3
    obtain ⟨z, hz⟩ := i1
    have hpw : b' * w.toInt ≤ 1036800 * 1036800 := Int.mul_le_mul (by omega) (by omega) i2 (by decide)
    have hp0 : 0 ≤ b' * w.toInt := Int.mul_nonneg b'0 i2
    have mm : ((b / s) * w).toInt = b' * w.toInt := by rw [l_mul (by rw [db]; omega) (by rw [db]; omega), db]
    have mr := l_rem (a := (b / s) * w) (b := m64) (by rw [mm]; omega) (by rw [mm]; omega) (by rw [emx]; omega)
    rw [mm, emx] at mr
    have r0 := Int.emod_nonneg (b' * w.toInt) (show M ≠ 0 by omega)
    have r1 := Int.emod_lt_of_pos (b' * w.toInt) (show 0 < M by omega)
    rw [mr]
    refine ⟨r0, r1, ?_⟩
    exact ⟨_, lf_alg x0.toInt x2.toInt 1036800 g a' b' w.toInt M (b' * w.toInt / M) z q0 q2 _ a.toInt b.toInt ea eb ha' hb' hM hz (Int.emod_def _ _)⟩
  · left
    have c' := mt (lc_eq _ _).mpr c
    rw [hbr, z0, s1] at c'
    rw [if_neg c]
    refine ⟨rfl, fun t ht => c' (Int.emod_eq_zero_of_dvd ?_)⟩
    have h1 : (g : Int) ∣ x0.toInt * t - x2.toInt := Int.dvd_trans gN ht
    have h2 : (g : Int) ∣ x0.toInt * t := Int.dvd_mul_of_dvd_left gx
    have h3 : (g : Int) ∣ x2.toInt := by
      have := Int.dvd_sub h2 h1
      rw [show x0.toInt * t - (x0.toInt * t - x2.toInt) = x2.toInt by omega] at this
      exact this
    have h4 : (g : Int) ∣ 1036800 * q2 := Int.dvd_mul_of_dvd_left gN
    have := Int.dvd_sub h3 h4
    rw [show x2.toInt - 1036800 * q2 = b.toInt by omega] at this
    exact this
