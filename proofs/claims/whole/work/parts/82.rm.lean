/-! meeting again: the model's first two -/
def pwn (M : Nat) : Nat → Nat → Nat → Nat → Nat
  | 0, _, _, acc => acc
  | n + 1, e, b, acc => if e = 0 then acc else pwn M n (e / 2) (b * b % M) (if e % 2 = 1 then acc * b % M else acc)
def phn (M : Nat) : Nat :=
  if M % 5 = 0 then (if M % 3 = 0 then (if M % 2 = 0 then M / 2 * 1 else M) / 3 * 2 else (if M % 2 = 0 then M / 2 * 1 else M)) / 5 * 4 else (if M % 3 = 0 then (if M % 2 = 0 then M / 2 * 1 else M) / 3 * 2 else (if M % 2 = 0 then M / 2 * 1 else M))
def yn (d : Int) : Nat := (d / (Int.gcd 1036800 d : Nat) % (1036800 / Int.gcd 1036800 d : Nat)).toNat
def wn (d : Int) : Nat := pwn (1036800 / Int.gcd 1036800 d) 20 (phn (1036800 / Int.gcd 1036800 d) - 1) (yn d) 1
theorem wn_all : ∀ n : Fin 481, (1036800 : Int) ∣ ((n.val : Int) - 240) * (wn ((n.val : Int) - 240) : Nat) - (Int.gcd 1036800 ((n.val : Int) - 240) : Nat) ∧ wn ((n.val : Int) - 240) ≤ 1036800 ∧ 1 ≤ phn (1036800 / Int.gcd 1036800 ((n.val : Int) - 240)) ∧ phn (1036800 / Int.gcd 1036800 ((n.val : Int) - 240)) ≤ 1036800 := by decide +kernel
theorem wn_ok {d : Int} (h0 : -240 ≤ d) (h1 : d ≤ 240) : (1036800 : Int) ∣ d * (wn d : Nat) - (Int.gcd 1036800 d : Nat) ∧ wn d ≤ 1036800 ∧ 1 ≤ phn (1036800 / Int.gcd 1036800 d) ∧ phn (1036800 / Int.gcd 1036800 d) ≤ 1036800 := by
  have h := wn_all ⟨(d + 240).toNat, by omega⟩
  have e : (((d + 240).toNat : Nat) : Int) - 240 = d := by omega
  have h : (1036800 : Int) ∣ ((((d + 240).toNat : Nat) : Int) - 240) * (wn ((((d + 240).toNat : Nat) : Int) - 240) : Nat) - (Int.gcd 1036800 ((((d + 240).toNat : Nat) : Int) - 240) : Nat) ∧ wn ((((d + 240).toNat : Nat) : Int) - 240) ≤ 1036800 ∧ 1 ≤ phn (1036800 / Int.gcd 1036800 ((((d + 240).toNat : Nat) : Int) - 240)) ∧ phn (1036800 / Int.gcd 1036800 ((((d + 240).toNat : Nat) : Int) - 240)) ≤ 1036800 := h
  rw [e] at h
  exact h
theorem pwn_bd {M : Nat} (hM : 0 < M) : ∀ (f e b a : Nat), a ≤ M → pwn M f e b a ≤ M := by
  intro f
  induction f with
  | zero => intro e b a h; exact h
  | succ f ih =>
    intro e b a h
    rw [pwn.eq_2]
    by_cases c : e = 0
    · rw [if_pos c]; exact h
    · rw [if_neg c]
      refine ih _ _ _ ?_
      by_cases c2 : e % 2 = 1
      · rw [if_pos c2]; exact Nat.le_of_lt (Nat.mod_lt _ hM)
      · rw [if_neg c2]; exact h
section FIRST
variable {x3 g x8 : Int32} {M : Nat}
/-- powers, in the model -/
theorem f216 (hM : (1036800 / g).toInt = M) (M1 : 1 ≤ M) (M2 : M ≤ 1036800) : ∀ (f n : Nat) (e : Int32) (b a : Int64), 0 ≤ e.toInt → e.toInt < 2 ^ f → e.toInt.toNat < n → 0 ≤ b.toInt → b.toInt ≤ 1036800 → 0 ≤ a.toInt → a.toInt ≤ 1036800 → ∃ w : Int64, w.toInt = (pwn M f e.toInt.toNat b.toInt.toNat a.toInt.toNat : Nat) ∧ F_X7_isFirstAgain_216 x3 g x8 n e b a = if (1036800 / g) = 1 then F_X7_isFirstAgain_293 x3 g 0 else F_X7_isFirstAgain_293 x3 g ((x8.toInt64 * w) - (x8.toInt64 * w) / ((1036800 / g).toInt64) * ((1036800 / g).toInt64)) := by
  have z0 : (0 : Int32).toInt = 0 := rfl
  have z2 : (2 : Int32).toInt = 2 := rfl
  have z1 : (1 : Int32).toInt = 1 := rfl
  have M64 : ((1036800 / g).toInt64).toInt = M := by rw [Int32.toInt_toInt64, hM]
  intro f
  induction f with
  | zero =>
    intro n e b a e0 e1 en b0 b1 a0 a1
    obtain ⟨n', rfl⟩ : ∃ n', n = n' + 1 := ⟨n - 1, by omega⟩
    have p : (2 : Int) ^ 0 = 1 := rfl
    rw [F_X7_isFirstAgain_216.eq_2, if_pos (ti_le.mpr (by omega))]
    exact ⟨a, by show a.toInt = (a.toInt.toNat : Nat); omega, rfl⟩
  | succ f ih =>
    intro n e b a e0 e1 en b0 b1 a0 a1
    obtain ⟨n', rfl⟩ : ∃ n', n = n' + 1 := ⟨n - 1, by omega⟩
    rw [F_X7_isFirstAgain_216.eq_2, pwn.eq_2]
    by_cases c : e ≤ 0
    · have c' := ti_le.mp c
      rw [if_pos c, if_pos (show e.toInt.toNat = 0 by omega)]
      exact ⟨a, by omega, rfl⟩
    · have c' := ti_nle c
      rw [if_neg c, if_neg (show ¬ e.toInt.toNat = 0 by omega)]
      have hd : (e / 2).toInt = e.toInt / 2 := ti_div (by omega) (by rw [z2]; omega)
      have hr : (e - e / 2 * 2).toInt = e.toInt % 2 := by
        rw [q_rem (a := e) (b := 2) (by decide), z2, Int.tmod_eq_emod_of_nonneg e0]
      have hp : (2 : Int) ^ (f + 1) = 2 * 2 ^ f := by rw [Int.pow_succ, Int.mul_comm]
      have sq : ∀ u v : Int64, 0 ≤ u.toInt → u.toInt ≤ 1036800 → 0 ≤ v.toInt → v.toInt ≤ 1036800 → ((u * v) - (u * v) / ((1036800 / g).toInt64) * ((1036800 / g).toInt64)).toInt = ((u.toInt.toNat * v.toInt.toNat % M : Nat) : Int) := fun u v u0 u1 v0 v1 => by
        have h1 : u.toInt * v.toInt ≤ 1036800 * 1036800 := Int.mul_le_mul u1 v1 v0 (by decide)
        have h0 : 0 ≤ u.toInt * v.toInt := Int.mul_nonneg u0 v0
        have m := l_mul (a := u) (b := v) (by omega) (by omega)
        rw [l_rem (by rw [m]; omega) (by rw [m]; omega) (by rw [M64]; omega), m, M64]
        obtain ⟨u', hu⟩ := Int.eq_ofNat_of_zero_le u0
        obtain ⟨v', hv⟩ := Int.eq_ofNat_of_zero_le v0
        rw [hu, hv, Int.toNat_natCast, Int.toNat_natCast]
        rfl
      have hb := sq b b b0 b1 b0 b1
      have hab := sq a b a0 a1 b0 b1
      have mb : b.toInt.toNat * b.toInt.toNat % M < M := Nat.mod_lt _ M1
      have mab : a.toInt.toNat * b.toInt.toNat % M < M := Nat.mod_lt _ M1
      unfold F_X7_isFirstAgain_245
      have e2 : (e / 2).toInt.toNat = e.toInt.toNat / 2 := by rw [hd]; omega
      generalize (b * b) - (b * b) / ((1036800 / g).toInt64) * ((1036800 / g).toInt64) = bb at hb ⊢
      generalize (a * b) - (a * b) / ((1036800 / g).toInt64) * ((1036800 / g).toInt64) = ab at hab ⊢
      have hbn : bb.toInt.toNat = b.toInt.toNat * b.toInt.toNat % M := by rw [hb, Int.toNat_natCast]
      have habn : ab.toInt.toNat = a.toInt.toNat * b.toInt.toNat % M := by rw [hab, Int.toNat_natCast]
      rw [← e2, ← hbn, ← habn]
      rw [← hbn] at mb
      rw [← habn] at mab
      have hlt : (e / 2).toInt < 2 ^ f := by rw [hd]; omega
      have hn : (e / 2).toInt.toNat < n' := by rw [hd]; omega
      have h0 : 0 ≤ (e / 2).toInt := by rw [hd]; omega
      by_cases c2 : (e - e / 2 * 2) = 1
      · have c3 : e.toInt % 2 = 1 := by rw [← hr, c2]; rfl
        rw [if_pos c2, if_pos (show e.toInt.toNat % 2 = 1 by omega)]
        exact ih n' (e / 2) bb ab h0 hlt hn (by omega) (by omega) (by omega) (by omega)
      · have c3 : ¬ e.toInt % 2 = 1 := fun h => c2 (Int32.toInt_inj.mp (by rw [hr, h]; rfl))
        rw [if_neg c2, if_neg (show ¬ e.toInt.toNat % 2 = 1 by omega)]
        exact ih n' (e / 2) bb a h0 hlt hn (by omega) (by omega) a0 a1
theorem s2 (n : Nat) (y v : Int32) : F_X7_isFirstAgain_164 x3 g y x8 (n + 1) 2 v = if ((1036800 / g) - (1036800 / g) / 2 * 2) = 0 then F_X7_isFirstAgain_164 x3 g y x8 n 3 ((v / 2) * (2 - 1)) else F_X7_isFirstAgain_164 x3 g y x8 n 3 v := by
  rw [F_X7_isFirstAgain_164.eq_2, if_neg (show ¬ (6 : Int32) ≤ 2 by decide), if_neg (show ¬ (2 : Int32) = 4 by decide), show (2 : Int32) + 1 = 3 from rfl]
theorem s3 (n : Nat) (y v : Int32) : F_X7_isFirstAgain_164 x3 g y x8 (n + 1) 3 v = if ((1036800 / g) - (1036800 / g) / 3 * 3) = 0 then F_X7_isFirstAgain_164 x3 g y x8 n 4 ((v / 3) * (3 - 1)) else F_X7_isFirstAgain_164 x3 g y x8 n 4 v := by
  rw [F_X7_isFirstAgain_164.eq_2, if_neg (show ¬ (6 : Int32) ≤ 3 by decide), if_neg (show ¬ (3 : Int32) = 4 by decide), show (3 : Int32) + 1 = 4 from rfl]
theorem s4 (n : Nat) (y v : Int32) : F_X7_isFirstAgain_164 x3 g y x8 (n + 1) 4 v = F_X7_isFirstAgain_164 x3 g y x8 n 5 v := by
  rw [F_X7_isFirstAgain_164.eq_2, if_neg (show ¬ (6 : Int32) ≤ 4 by decide), if_pos (show (4 : Int32) = 4 from rfl), show (4 : Int32) + 1 = 5 from rfl]
theorem s5 (n : Nat) (y v : Int32) : F_X7_isFirstAgain_164 x3 g y x8 (n + 1) 5 v = if ((1036800 / g) - (1036800 / g) / 5 * 5) = 0 then F_X7_isFirstAgain_164 x3 g y x8 n 6 ((v / 5) * (5 - 1)) else F_X7_isFirstAgain_164 x3 g y x8 n 6 v := by
  rw [F_X7_isFirstAgain_164.eq_2, if_neg (show ¬ (6 : Int32) ≤ 5 by decide), if_neg (show ¬ (5 : Int32) = 4 by decide), show (5 : Int32) + 1 = 6 from rfl]
theorem s6 (n : Nat) (y v : Int32) : F_X7_isFirstAgain_164 x3 g y x8 (n + 1) 6 v = F_X7_isFirstAgain_216 x3 g x8 ((v - 1).toInt.toNat + 1) (v - 1) y.toInt64 1 := by
  rw [F_X7_isFirstAgain_164.eq_2, if_pos (show (6 : Int32) ≤ 6 by decide)]
theorem t144 {y : Int32} (hM : (1036800 / g).toInt = M) (M1 : 1 ≤ M) (M2 : M ≤ 1036800) : ∃ p : Int32, p.toInt = (phn M : Nat) ∧ F_X7_isFirstAgain_144 x3 g y x8 = F_X7_isFirstAgain_216 x3 g x8 ((p - 1).toInt.toNat + 1) (p - 1) y.toInt64 1 := by
  have z2 : (2 : Int32).toInt = 2 := rfl
  have z3 : (3 : Int32).toInt = 3 := rfl
  have z5 : (5 : Int32).toInt = 5 := rfl
  have dv : ∀ q : Int32, 0 < q.toInt → (((1036800 / g) - (1036800 / g) / q * q) = 0 ↔ M % q.toInt.toNat = 0) := fun q hq => by
    have h := q_rem (a := 1036800 / g) (b := q) (ne_of_pos hq)
    rw [hM, Int.tmod_eq_emod_of_nonneg (by omega)] at h
    obtain ⟨q', hq'⟩ := Int.eq_ofNat_of_zero_le (Int.le_of_lt hq)
    rw [hq'] at h ⊢
    rw [Int.toNat_natCast]
    constructor
    · intro h2
      rw [h2] at h
      have h : ((0 : Nat) : Int) = ((M % q' : Nat) : Int) := h
      omega
    · intro h2
      refine Int32.toInt_inj.mp ?_
      rw [h]
      show ((M % q' : Nat) : Int) = 0
      omega
  have st : ∀ (v q : Int32) (n m : Nat), v.toInt = (n : Int) → n ≤ 1036800 → q.toInt = (m : Int) → 1 ≤ m → m ≤ 5 → ((v / q) * (q - 1)).toInt = ((n / m * (m - 1) : Nat) : Int) ∧ n / m * (m - 1) ≤ 1036800 := fun v q n m hv hn hq m1 m5 => by
    have z1 : (1 : Int32).toInt = 1 := rfl
    have d := ti_div (a := v) (b := q) (by omega) (by omega)
    have e := ti_sub (a := q) (b := 1) (by omega) (by omega)
    have h1 : n / m * (m - 1) ≤ n / m * m := Nat.mul_le_mul_left _ (by omega)
    have h2 : n / m * m ≤ n := Nat.div_mul_le_self _ _
    have h3 : (v / q).toInt * (q - 1).toInt = ((n / m * (m - 1) : Nat) : Int) := by
      rw [d, e, hv, hq, Int.natCast_mul, Int.natCast_ediv]
      rw [show ((m - 1 : Nat) : Int) = (m : Int) - 1 by omega]; rfl
    exact ⟨by rw [ti_mul (by rw [h3]; omega) (by rw [h3]; omega), h3], by omega⟩
  have d2 := dv 2 (by decide)
  have d3 := dv 3 (by decide)
  have d5 := dv 5 (by decide)
  have d2 : ((1036800 / g) - (1036800 / g) / 2 * 2) = 0 ↔ M % 2 = 0 := d2
  have d3 : ((1036800 / g) - (1036800 / g) / 3 * 3) = 0 ↔ M % 3 = 0 := d3
  have d5 : ((1036800 / g) - (1036800 / g) / 5 * 5) = 0 ↔ M % 5 = 0 := d5
  have i2 : (2 : Int32) + 1 = 3 := rfl
  have i3 : (3 : Int32) + 1 = 4 := rfl
  have i4 : (4 : Int32) + 1 = 5 := rfl
  have i5 : (5 : Int32) + 1 = 6 := rfl
  unfold F_X7_isFirstAgain_144 phn
  -- two
  have key2 : ∃ v : Int32, v.toInt = ((if M % 2 = 0 then M / 2 * 1 else M : Nat) : Int) ∧ (if M % 2 = 0 then M / 2 * 1 else M) ≤ 1036800 ∧ F_X7_isFirstAgain_164 x3 g y x8 5 2 (1036800 / g) = F_X7_isFirstAgain_164 x3 g y x8 4 3 v := by
    rw [s2]
    by_cases c : M % 2 = 0
    · obtain ⟨s1, s2⟩ := st (1036800 / g) 2 M 2 hM M2 z2 (by decide) (by decide)
      rw [if_pos (d2.mpr c), if_pos c]
      exact ⟨_, s1, s2, rfl⟩
    · rw [if_neg (mt d2.mp c), if_neg c]
      exact ⟨_, hM, M2, rfl⟩
  obtain ⟨v, v1, v2, v3⟩ := key2
  rw [v3]
  generalize (if M % 2 = 0 then M / 2 * 1 else M) = m2 at v1 v2 ⊢
  have key3 : ∃ u : Int32, u.toInt = ((if M % 3 = 0 then m2 / 3 * 2 else m2 : Nat) : Int) ∧ (if M % 3 = 0 then m2 / 3 * 2 else m2) ≤ 1036800 ∧ F_X7_isFirstAgain_164 x3 g y x8 4 3 v = F_X7_isFirstAgain_164 x3 g y x8 2 5 u := by
    rw [s3]
    by_cases c : M % 3 = 0
    · obtain ⟨s1, s2⟩ := st v 3 m2 3 v1 v2 z3 (by decide) (by decide)
      rw [if_pos (d3.mpr c), if_pos c]
      refine ⟨_, s1, s2, ?_⟩
      rw [s4]
    · rw [if_neg (mt d3.mp c), if_neg c]
      refine ⟨_, v1, v2, ?_⟩
      rw [s4]
  obtain ⟨u, u1, u2, u3⟩ := key3
  rw [u3]
  generalize (if M % 3 = 0 then m2 / 3 * 2 else m2) = m3 at u1 u2 ⊢
  rw [s5]
  by_cases c : M % 5 = 0
  · obtain ⟨s1, s2⟩ := st u 5 m3 5 u1 u2 z5 (by decide) (by decide)
    rw [if_pos (d5.mpr c), if_pos c]
    refine ⟨_, s1, ?_⟩
    rw [s6]
  · rw [if_neg (mt d5.mp c), if_neg c]
    refine ⟨_, u1, ?_⟩
    rw [s6]
end FIRST
