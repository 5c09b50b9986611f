/-! meeting again: the model's first two, whole -/
theorem fa_alg (N g M x5 u x8 z1 y0 w z2 d d' z3 : Int) (h1 : N = g * M) (h2 : x5 = g * u) (h3 : x8 = -u - M * z1) (h4 : y0 = x8 * w - M * z2) (h5 : d = g * d') (h6 : d * w - g = N * z3) : x5 + d * y0 = N * (-z1 + x8 * z3 - d' * z2) := by grind
section FIRST
variable {x3 x5 d mAt : Int32}
theorem f293 {g : Int32} {M : Nat} {y0 : Int64} (hM : (1036800 / g).toInt = M) (M1 : 1 ≤ M) (M2 : M ≤ 1036800) (t0 : 0 ≤ x3.toInt) (t1 : x3.toInt ≤ 9999999) (h0 : 0 ≤ y0.toInt) (h1 : y0.toInt ≤ 1036800) : (F_X7_isFirstAgain_293 x3 g y0).1 = 1 ∧ x3.toInt ≤ (F_X7_isFirstAgain_293 x3 g y0).2.1.toInt ∧ (F_X7_isFirstAgain_293 x3 g y0).2.1.toInt < x3.toInt + M ∧ (F_X7_isFirstAgain_293 x3 g y0).2.2.toInt = M ∧ (M : Int) ∣ (F_X7_isFirstAgain_293 x3 g y0).2.1.toInt - y0.toInt := by
  have hne : ¬ (1036800 / g) = 0 := ne_of_pos (by omega)
  have e1 := q_rem (a := x3) hne
  rw [hM, Int.tmod_eq_emod_of_nonneg t0] at e1
  have r0 := Int.emod_nonneg x3.toInt (show (M : Int) ≠ 0 by omega)
  have r1 := Int.emod_lt_of_pos x3.toInt (show (0 : Int) < M by omega)
  have e2 := l32 (x := y0) (by omega) (by omega)
  have e3 : (y0.toInt32 - (x3 - x3 / (1036800 / g) * (1036800 / g))).toInt = y0.toInt - x3.toInt % M := by rw [ti_sub (by rw [e2, e1]; omega) (by rw [e2, e1]; omega), e2, e1]
  have e4 : (F_X7_rest (y0.toInt32 - (x3 - x3 / (1036800 / g) * (1036800 / g))) (1036800 / g)).toInt = (y0.toInt - x3.toInt % M) % M := by rw [rest_toInt (by rw [hM]; omega), e3, hM]
  have q0 := Int.emod_nonneg (y0.toInt - x3.toInt % M) (show (M : Int) ≠ 0 by omega)
  have q1 := Int.emod_lt_of_pos (y0.toInt - x3.toInt % M) (show (0 : Int) < M by omega)
  have d1 := Int.emod_def (y0.toInt - x3.toInt % M) M
  have d2 := Int.emod_def x3.toInt M
  have e5 : (x3 + F_X7_rest (y0.toInt32 - (x3 - x3 / (1036800 / g) * (1036800 / g))) (1036800 / g)).toInt = x3.toInt + (y0.toInt - x3.toInt % M) % M := by rw [ti_add (by rw [e4]; omega) (by rw [e4]; omega), e4]
  unfold F_X7_isFirstAgain_293
  dsimp only
  rw [e5]
  generalize (y0.toInt - x3.toInt % M) / (M : Int) = k1 at d1
  generalize (y0.toInt - x3.toInt % M) % (M : Int) = k2 at d1 q0 q1 ⊢
  generalize x3.toInt / (M : Int) = k3 at d2
  generalize x3.toInt % (M : Int) = k4 at d1 d2 r0 r1
  refine ⟨rfl, by omega, by omega, hM, ⟨k3 - k1, ?_⟩⟩
  rw [Int.mul_sub]
  omega
theorem fa_ok (a0 : 0 ≤ x5.toInt) (a1 : x5.toInt < 1036800) (d0 : -240 ≤ d.toInt) (d1 : d.toInt ≤ 240) (t0 : 0 ≤ x3.toInt) (t1 : x3.toInt ≤ 9999999) :
    ((F_X7_isFirstAgain_67 mAt x3 x5 d).1 = 0 ∧ ∀ t : Int, ¬ 1036800 ∣ x5.toInt + d.toInt * t) ∨ ((F_X7_isFirstAgain_67 mAt x3 x5 d).1 = 1 ∧ x3.toInt ≤ (F_X7_isFirstAgain_67 mAt x3 x5 d).2.1.toInt ∧ (F_X7_isFirstAgain_67 mAt x3 x5 d).2.1.toInt < x3.toInt + (F_X7_isFirstAgain_67 mAt x3 x5 d).2.2.toInt ∧ (F_X7_isFirstAgain_67 mAt x3 x5 d).2.2.toInt = ((1036800 / Int.gcd 1036800 d.toInt : Nat) : Int) ∧ 1036800 ∣ x5.toInt + d.toInt * (F_X7_isFirstAgain_67 mAt x3 x5 d).2.1.toInt) := by
  have z0 : (0 : Int32).toInt = 0 := rfl
  have zN : (1036800 : Int32).toInt = 1036800 := rfl
  have hcm : ∀ y : Int32, 0 ≤ y.toInt → (F_X7_common 1036800 y).toInt = (Int.gcd 1036800 y.toInt : Nat) := fun y hy => by
    rw [common_gcd (by decide) hy, Nat.gcd_comm, zN, gcd_nn (by decide) hy]
  have key : ∃ g32 : Int32, F_X7_isFirstAgain_67 mAt x3 x5 d = F_X7_isFirstAgain_87 mAt x3 x5 d g32 ∧ g32.toInt = (Int.gcd 1036800 d.toInt : Nat) := by
    unfold F_X7_isFirstAgain_67 F_X7_isFirstAgain_82
    by_cases c : 0 ≤ d
    · have := ti_le.mp c
      rw [if_pos c]
      exact ⟨_, rfl, hcm d (by omega)⟩
    · have := ti_nle c
      have en := ti_neg (a := d) (by omega)
      rw [if_neg c]
      exact ⟨_, rfl, by rw [hcm (-d) (by omega), en, Int.gcd_neg]⟩
  obtain ⟨g32, hk, hg⟩ := key
  rw [hk]
  clear hk
  obtain ⟨w1, w2, w3, w4⟩ := wn_ok d0 d1
  have gd := fun t => gdvd (N := 1036800) (d := d.toInt) (t := t) (by decide)
  have g1 : ((Int.gcd 1036800 d.toInt : Nat) : Int) ∣ 1036800 := Int.gcd_dvd_left _ _
  have g2 : ((Int.gcd 1036800 d.toInt : Nat) : Int) ∣ d.toInt := Int.gcd_dvd_right _ _
  have gp : 0 < Int.gcd 1036800 d.toInt := Int.gcd_pos_of_ne_zero_left _ (by decide)
  have gl : Int.gcd 1036800 d.toInt ≤ 1036800 := by
    have := Int.le_of_dvd (by decide) g1
    omega
  have hyn : yn d.toInt = (d.toInt / (Int.gcd 1036800 d.toInt : Nat) % (1036800 / Int.gcd 1036800 d.toInt : Nat)).toNat := rfl
  have hwn : wn d.toInt = pwn (1036800 / Int.gcd 1036800 d.toInt) 20 (phn (1036800 / Int.gcd 1036800 d.toInt) - 1) (yn d.toInt) 1 := rfl
  generalize wn d.toInt = w at w1 w2 hwn
  generalize yn d.toInt = y at hyn hwn
  generalize Int.gcd 1036800 d.toInt = g at *
  obtain ⟨M, hMM⟩ : ∃ M : Nat, M = 1036800 / g := ⟨_, rfl⟩
  have hgM : 1036800 = g * M := by
    have h : (g : Int) ∣ ((1036800 : Nat) : Int) := g1
    have h := Int.natCast_dvd_natCast.mp h
    rw [hMM]; exact (Nat.mul_div_cancel' h).symm
  have hgMi : (1036800 : Int) = (g : Int) * (M : Int) := by
    have : ((1036800 : Nat) : Int) = ((g * M : Nat) : Int) := by rw [← hgM]
    rw [Int.natCast_mul] at this
    exact this
  have eM : (1036800 : Int) / (g : Int) = (M : Int) := by rw [hgMi]; exact Int.mul_ediv_cancel_left _ (by omega)
  rw [← hMM] at w3 w4 hyn hwn
  have M1 : 1 ≤ M := by
    by_cases h : 1 ≤ M
    · exact h
    · have : M = 0 := by omega
      rw [this] at hgM; omega
  have M2 : M ≤ 1036800 := by
    have := Nat.mul_le_mul_right M (show 1 ≤ g by omega)
    omega
  have hM : (1036800 / g32).toInt = (M : Int) := by rw [ti_div (by decide) (by rw [hg]; omega), zN, hg, eM]
  have hx := q_rem (a := x5) (b := g32) (ne_of_pos (by rw [hg]; omega))
  rw [hg, Int.tmod_eq_emod_of_nonneg a0] at hx
  unfold F_X7_isFirstAgain_87
  by_cases c : (x5 - x5 / g32 * g32) = 0
  · right
    rw [c, z0] at hx
    have gx : (g : Int) ∣ x5.toInt := Int.dvd_of_emod_eq_zero hx.symm
    rw [if_pos c]
    obtain ⟨u, hu⟩ := gx
    obtain ⟨d', hd'⟩ := g2
    have hud : (x5 / g32).toInt = u := by
      rw [ti_div a0 (by rw [hg]; omega), hg, hu]; exact Int.mul_ediv_cancel_left _ (by omega)
    have u0 : 0 ≤ u := by rw [← hud, ti_div a0 (by rw [hg]; omega)]; exact Int.ediv_nonneg a0 (by rw [hg]; omega)
    have u1 : u ≤ 1036800 := by
      rw [← hud, ti_div a0 (by rw [hg]; omega)]
      have := Int.ediv_le_self g32.toInt a0
      omega
    have h8 : (F_X7_rest (-(x5 / g32)) (1036800 / g32)).toInt = (-u) % (M : Int) := by
      rw [rest_toInt (by rw [hM]; omega), hM, ti_neg (by omega), hud]
    have y1 : y < M := by
      rw [hyn]
      have := Int.emod_lt_of_pos (d.toInt / (g : Int)) (show (0 : Int) < (M : Int) by omega)
      have := Int.emod_nonneg (d.toInt / (g : Int)) (show (M : Int) ≠ 0 by omega)
      omega
    have key : ∃ yy : Int32, (if d = 0 then F_X7_isFirstAgain_127 x3 x5 g32 0 else F_X7_isFirstAgain_127 x3 x5 g32 (F_X7_rest (d / g32) (1036800 / g32))) = F_X7_isFirstAgain_127 x3 x5 g32 yy ∧ yy.toInt = (y : Nat) := by
      by_cases cd : d = 0
      · rw [if_pos cd]
        refine ⟨0, rfl, ?_⟩
        rw [hyn, cd, z0, Int.zero_ediv, Int.zero_emod]; rfl
      · rw [if_neg cd]
        refine ⟨_, rfl, ?_⟩
        have hdg : (d / g32).toInt = d.toInt / (g : Int) := by
          rw [Int32.toInt_div, hg, Int.tdiv_eq_ediv_of_dvd ⟨d', hd'⟩]
          have e : d.toInt / (g : Int) = d' := by rw [hd']; exact Int.mul_ediv_cancel_left _ (by omega)
          rw [e]
          have b : d'.natAbs ≤ d.toInt.natAbs := by
            rw [hd', Int.natAbs_mul, Int.natAbs_natCast]
            exact Nat.le_mul_of_pos_left _ gp
          exact Int.bmod_eq_of_le (by omega) (by omega)
        have := Int.emod_nonneg (d.toInt / (g : Int)) (show (M : Int) ≠ 0 by omega)
        rw [rest_toInt (by rw [hM]; omega), hM, hdg, hyn]
        omega
    obtain ⟨yy, hk, hyy⟩ := key
    rw [hk]
    clear hk
    unfold F_X7_isFirstAgain_127
    generalize F_X7_rest (-(x5 / g32)) (1036800 / g32) = x8 at h8 ⊢
    have r80 := Int.emod_nonneg (-u) (show (M : Int) ≠ 0 by omega)
    have r81 := Int.emod_lt_of_pos (-u) (show (0 : Int) < (M : Int) by omega)
    have d8 := Int.emod_def (-u) (M : Int)
    obtain ⟨p, hp, hk⟩ := t144 (x3 := x3) (x8 := x8) (y := yy) hM M1 M2
    rw [hk]
    clear hk
    have z1 : (1 : Int32).toInt = 1 := rfl
    have hp1 : (p - 1).toInt = ((phn M - 1 : Nat) : Int) := by rw [ti_sub (by omega) (by omega), hp, z1]; omega
    have e20 : (2 : Int) ^ 20 = 1048576 := by decide
    have y64 : (yy.toInt64).toInt = (y : Nat) := by rw [Int32.toInt_toInt64, hyy]
    have l1 : (1 : Int64).toInt = 1 := rfl
    obtain ⟨W, hW, hk⟩ := f216 (x3 := x3) (x8 := x8) hM M1 M2 20 ((p - 1).toInt.toNat + 1) (p - 1) yy.toInt64 1 (by rw [hp1]; omega) (by rw [hp1, e20]; omega) (Nat.lt_succ_self _) (by rw [y64]; omega) (by rw [y64]; omega) (by decide) (by decide)
    rw [hk]
    clear hk
    rw [hp1, y64, l1, Int.toNat_natCast, Int.toNat_natCast] at hW
    have hW : W.toInt = (w : Nat) := by rw [hW, hwn]; rfl
    by_cases cM : (1036800 / g32) = 1
    · rw [if_pos cM]
      have hM1 : M = 1 := by
        rw [cM] at hM
        have : (1 : Int) = (M : Int) := hM
        omega
      obtain ⟨f1, f2, f3, f4, f5⟩ := f293 (x3 := x3) (y0 := 0) hM M1 M2 t0 t1 (by decide) (by decide)
      refine ⟨f1, f2, by rw [f4]; exact f3, by rw [f4, hMM], ?_⟩
      rw [hM1, Int.natCast_one, Int.mul_one] at hgMi
      have h1 : (1036800 : Int) ∣ x5.toInt := ⟨u, by rw [hu, hgMi]⟩
      have h2 : (1036800 : Int) ∣ d.toInt := ⟨d', by rw [hd', hgMi]⟩
      exact Int.dvd_add h1 (Int.dvd_mul_of_dvd_left h2)
    · rw [if_neg cM]
      have hx64 : x8.toInt64.toInt = (-u) % (M : Int) := by rw [Int32.toInt_toInt64, h8]
      have M64 : ((1036800 / g32).toInt64).toInt = M := by rw [Int32.toInt_toInt64, hM]
      have pr : (-u) % (M : Int) * (w : Int) ≤ 1036800 * 1036800 := Int.mul_le_mul (by omega) (by omega) (by omega) (by decide)
      have pr0 : 0 ≤ (-u) % (M : Int) * (w : Int) := Int.mul_nonneg r80 (by omega)
      have m := l_mul (a := x8.toInt64) (b := W) (by rw [hx64, hW]; omega) (by rw [hx64, hW]; omega)
      rw [hx64, hW] at m
      have rr := l_rem (a := x8.toInt64 * W) (b := (1036800 / g32).toInt64) (by rw [m]; omega) (by rw [m]; omega) (by rw [M64]; omega)
      rw [m, M64] at rr
      have s0 := Int.emod_nonneg ((-u) % (M : Int) * (w : Int)) (show (M : Int) ≠ 0 by omega)
      have s1 := Int.emod_lt_of_pos ((-u) % (M : Int) * (w : Int)) (show (0 : Int) < (M : Int) by omega)
      have dd := Int.emod_def ((-u) % (M : Int) * (w : Int)) (M : Int)
      generalize (x8.toInt64 * W) - (x8.toInt64 * W) / ((1036800 / g32).toInt64) * ((1036800 / g32).toInt64) = y0 at rr ⊢
      obtain ⟨f1, f2, f3, f4, f5⟩ := f293 (x3 := x3) (y0 := y0) hM M1 M2 t0 t1 (by rw [rr]; exact s0) (by rw [rr]; omega)
      refine ⟨f1, f2, by rw [f4]; exact f3, by rw [f4, hMM], ?_⟩
      obtain ⟨z3, hz3⟩ := w1
      have hy : (1036800 : Int) ∣ x5.toInt + d.toInt * y0.toInt := ⟨_, fa_alg 1036800 g M x5.toInt u ((-u) % (M : Int)) ((-u) / (M : Int)) y0.toInt w _ d.toInt d' z3 hgMi hu d8 (by rw [rr]; exact dd) hd' hz3⟩
      have h2 := (gd ((F_X7_isFirstAgain_293 x3 g32 y0).2.1.toInt - y0.toInt)).mpr (by rw [eM]; exact f5)
      have h3 := Int.dvd_add hy h2
      rw [Int.mul_sub, show x5.toInt + d.toInt * y0.toInt + (d.toInt * (F_X7_isFirstAgain_293 x3 g32 y0).2.1.toInt - d.toInt * y0.toInt) = x5.toInt + d.toInt * (F_X7_isFirstAgain_293 x3 g32 y0).2.1.toInt by omega] at h3
      exact h3
  · left
    rw [if_neg c]
    refine ⟨rfl, fun t ht => c (Int32.toInt_inj.mp ?_)⟩
    rw [hx, z0]
    refine Int.emod_eq_zero_of_dvd ?_
    have h1 := Int.dvd_trans g1 ht
    have h2 : (g : Int) ∣ d.toInt * t := Int.dvd_mul_of_dvd_left g2
    have h3 := Int.dvd_sub h1 h2
    rw [show x5.toInt + d.toInt * t - d.toInt * t = x5.toInt by omega] at h3
    exact h3
end FIRST
