/-! meeting again: the model's loop, and both -/
/-- a next clock, in whole numbers -/
theorem ia_alg {C : Int → Prop} {x4 d at0 a b n L t0 : Int} {g : Nat} (hg : g = Int.gcd 1036800 d) (hb : b = 1036800 / (g : Int)) (a0 : 0 < a) (n0 : 0 < n) (hL : a * n = L) (hbL : b ∣ L) (hl : ∀ x, a ∣ x → b ∣ x → L ∣ x) (hLN : L ∣ 1036800) (l0 : t0 ≤ at0) (l1 : at0 < t0 + a) (hC : ∀ t, C t ↔ a ∣ t - at0) :
    ((∀ i, 0 ≤ i → i < n → ¬ 1036800 ∣ x4 + d * (at0 + i * a)) → ∀ t, ¬ (C t ∧ 1036800 ∣ x4 + d * t)) ∧ (∀ i, 0 ≤ i → i < n → 1036800 ∣ x4 + d * (at0 + i * a) → 0 < L ∧ L ∣ 1036800 ∧ t0 ≤ at0 + i * a ∧ at0 + i * a < t0 + L ∧ ∀ t, (C t ∧ 1036800 ∣ x4 + d * t) ↔ L ∣ t - (at0 + i * a)) := by
  have gd := fun t => gdvd (N := 1036800) (d := d) (t := t) (by decide)
  rw [← hg, ← hb] at gd
  refine ⟨fun hf t ⟨h1, h2⟩ => ?_, fun i i0 i1 hi => ?_⟩
  · obtain ⟨u, hu⟩ := (hC t).mp h1
    have e := Int.emod_def u n
    have r0 := Int.emod_nonneg u (show n ≠ 0 by omega)
    have r1 := Int.emod_lt_of_pos u n0
    generalize u % n = i at e r0 r1
    generalize u / n = v at e
    refine hf i r0 r1 ?_
    obtain ⟨k, hk⟩ := hbL
    have h3 := (gd (L * v)).mpr ⟨k * v, by rw [hk, Int.mul_assoc]⟩
    have h4 := Int.dvd_sub h2 h3
    rw [show x4 + d * t - d * (L * v) = x4 + d * (at0 + i * a) by
      have e1 : t = at0 + a * u := by omega
      have e2 : u = n * v + i := by omega
      subst e1 e2
      rw [← hL]
      grind] at h4
    exact h4
  · have p0 : 0 ≤ i * a := Int.mul_nonneg i0 (by omega)
    have p1 : (i + 1) * a ≤ n * a := Int.mul_le_mul_of_nonneg_right (by omega) (by omega)
    rw [Int.add_mul, Int.one_mul, Int.mul_comm n a, hL] at p1
    refine ⟨by omega, hLN, by omega, by omega, fun t => ?_⟩
    rw [hC]
    constructor
    · rintro ⟨⟨u, hu⟩, h2⟩
      refine hl _ ⟨u - i, by rw [Int.mul_sub, Int.mul_comm a i]; omega⟩ ?_
      refine (gd _).mp ?_
      have h3 := Int.dvd_sub h2 hi
      rw [show x4 + d * t - (x4 + d * (at0 + i * a)) = d * (t - (at0 + i * a)) by rw [Int.mul_sub]; omega] at h3
      exact h3
    · rintro ⟨v, hv⟩
      refine ⟨⟨n * v + i, by rw [Int.mul_add, ← Int.mul_assoc, hL, Int.mul_comm a i]; omega⟩, ?_⟩
      obtain ⟨k, hk⟩ := hbL
      have h3 := (gd (t - (at0 + i * a))).mpr ⟨k * v, by rw [hv, hk, Int.mul_assoc]⟩
      have h4 := Int.dvd_add hi h3
      rw [show x4 + d * (at0 + i * a) + d * (t - (at0 + i * a)) = x4 + d * t by rw [Int.mul_sub]; omega] at h4
      exact h4
section MODEL
variable {d x4 mSt : Int32}
theorem ia_loop {P n32 : Int32} {n : Nat} {at0 : Int} (hn : n32 = nI n) (n1 : n ≤ 1036800) (s0 : 0 < mSt.toInt) (s1 : (n : Int) * mSt.toInt ≤ 1036800) (a0 : 0 ≤ at0) (a1 : at0 ≤ 12000000) (x0 : 0 ≤ x4.toInt) (x1 : x4.toInt < 1036800) (d0 : -240 ≤ d.toInt) (d1 : d.toInt ≤ 240) : ∀ (f i : Nat) (w : Int32), i ≤ n → n - i < f → w.toInt = at0 + i * mSt.toInt → (∀ i' : Nat, i' < i → ¬ 1036800 ∣ x4.toInt + d.toInt * (at0 + i' * mSt.toInt)) →
    ((F_X7_isAgain_103 mSt x4 d P n32 f (nI i) w).1 = 0 ∧ ∀ i' : Nat, i' < n → ¬ 1036800 ∣ x4.toInt + d.toInt * (at0 + i' * mSt.toInt)) ∨ ((F_X7_isAgain_103 mSt x4 d P n32 f (nI i) w).1 = 1 ∧ (F_X7_isAgain_103 mSt x4 d P n32 f (nI i) w).2.2 = (mSt / (F_X7_common mSt P)) * P ∧ ∃ i' : Nat, i' < n ∧ 1036800 ∣ x4.toInt + d.toInt * (at0 + i' * mSt.toInt) ∧ (F_X7_isAgain_103 mSt x4 d P n32 f (nI i) w).2.1.toInt = at0 + i' * mSt.toInt) := by
  have z0 : (0 : Int64).toInt = 0 := rfl
  intro f
  induction f with
  | zero => intro i w _ h; exact absurd h (Nat.not_lt_zero _)
  | succ f ih =>
    intro i w hi hf hw hno
    rw [F_X7_isAgain_103.eq_2, hn]
    by_cases c : n ≤ i
    · have : i = n := by omega
      subst this
      rw [if_pos (Int32.le_refl _)]
      exact Or.inl ⟨rfl, hno⟩
    · rw [if_neg (fun hq => c ((iN_le (by omega) (by omega)).mp hq)), nI_suc (by omega)]
      have p1 : (i : Int) * mSt.toInt ≤ (n : Int) * mSt.toInt := Int.mul_le_mul_of_nonneg_right (by omega) (by omega)
      have p0 : 0 ≤ (i : Int) * mSt.toInt := Int.mul_nonneg (by omega) (by omega)
      have w64 : w.toInt64.toInt = at0 + i * mSt.toInt := by rw [Int32.toInt_toInt64, hw]
      have d64 : d.toInt64.toInt = d.toInt := Int32.toInt_toInt64 _
      have x64 : x4.toInt64.toInt = x4.toInt := Int32.toInt_toInt64 _
      obtain ⟨b1, b2⟩ := prod_bd (a := d.toInt) (b := at0 + i * mSt.toInt) (A := 240) (B := 20000000) (by omega) (by omega) (by omega) (by omega)
      have m1 := l_mul (a := d.toInt64) (b := w.toInt64) (by rw [d64, w64]; omega) (by rw [d64, w64]; omega)
      rw [d64, w64] at m1
      have m2 : (x4.toInt64 + (d.toInt64 * w.toInt64)).toInt = x4.toInt + d.toInt * (at0 + i * mSt.toInt) := by rw [l_add (by rw [m1, x64]; omega) (by rw [m1, x64]; omega), m1, x64]
      have m3 := l_trem (a := x4.toInt64 + (d.toInt64 * w.toInt64)) (b := 1036800) (by rw [m2]; omega) (by rw [m2]; omega)
      rw [m2, n64] at m3
      generalize (x4.toInt64 + (d.toInt64 * w.toInt64)) - (x4.toInt64 + (d.toInt64 * w.toInt64)) / 1036800 * 1036800 = z at m3 ⊢
      by_cases c2 : lg_cmp z 0 = 0
      · have h := (lc_eq _ _).mp c2
        rw [m3, z0] at h
        rw [if_pos c2]
        exact Or.inr ⟨rfl, rfl, i, by omega, Int.dvd_of_tmod_eq_zero h, hw⟩
      · have h := mt (lc_eq _ _).mpr c2
        rw [m3, z0] at h
        rw [if_neg c2, ← hn]
        have e1 : ((i + 1 : Nat) : Int) * mSt.toInt = i * mSt.toInt + mSt.toInt := by rw [Int.natCast_add, Int.add_mul, Int.natCast_one, Int.one_mul]
        have p2 : ((i + 1 : Nat) : Int) * mSt.toInt ≤ (n : Int) * mSt.toInt := Int.mul_le_mul_of_nonneg_right (by omega) (by omega)
        refine ih (i + 1) (w + mSt) (by omega) (by omega) (by rw [ti_add (by omega) (by omega), hw, e1]; omega) (fun i' hi' => ?_)
        by_cases e : i' = i
        · subst e
          exact fun hq => h (Int.tmod_eq_zero_of_dvd hq)
        · exact hno i' (by omega)
/-- what a step between meetings keeps -/
def MI2 (C : Int → Prop) (t0 a s : Int) : Prop := 0 < s ∧ s ∣ 1036800 ∧ t0 ≤ a ∧ a < t0 + s ∧ ∀ t, C t ↔ s ∣ t - a
theorem ia_ok {C : Int → Prop} {mAt : Int32} {t0 : Int} (x0 : 0 ≤ x4.toInt) (x1 : x4.toInt < 1036800) (d0 : -240 ≤ d.toInt) (d1 : d.toInt ≤ 240) (t00 : 0 ≤ t0) (t01 : t0 ≤ 9999999) (h : MI2 C t0 mAt.toInt mSt.toInt) :
    ((F_X7_isAgain_66 mAt mSt x4 d).1 = 0 ∧ ∀ t : Int, ¬ (C t ∧ 1036800 ∣ x4.toInt + d.toInt * t)) ∨ ((F_X7_isAgain_66 mAt mSt x4 d).1 = 1 ∧ MI2 (fun t => C t ∧ 1036800 ∣ x4.toInt + d.toInt * t) t0 (F_X7_isAgain_66 mAt mSt x4 d).2.1.toInt (F_X7_isAgain_66 mAt mSt x4 d).2.2.toInt) := by
  obtain ⟨s0, s1, l0, l1, hC⟩ := h
  have s2 := Int.le_of_dvd (by decide) s1
  have zN : (1036800 : Int32).toInt = 1036800 := rfl
  have hcm : ∀ y : Int32, 0 ≤ y.toInt → (F_X7_common 1036800 y).toInt = (Int.gcd 1036800 y.toInt : Nat) := fun y hy => by
    rw [common_gcd (by decide) hy, Nat.gcd_comm, zN, gcd_nn (by decide) hy]
  have key : ∃ g32 : Int32, F_X7_isAgain_66 mAt mSt x4 d = F_X7_isAgain_86 mAt mSt x4 d (1036800 / g32) ∧ g32.toInt = (Int.gcd 1036800 d.toInt : Nat) := by
    unfold F_X7_isAgain_66 F_X7_isAgain_80
    by_cases c : 0 ≤ d
    · have := ti_le.mp c
      have z0 : (0 : Int32).toInt = 0 := rfl
      rw [if_pos c]
      exact ⟨_, rfl, hcm d (by omega)⟩
    · have := ti_nle c
      have z0 : (0 : Int32).toInt = 0 := rfl
      have en := ti_neg (a := d) (by omega)
      rw [if_neg c]
      exact ⟨_, rfl, by rw [hcm (-d) (by omega), en, Int.gcd_neg]⟩
  obtain ⟨g32, hk, hg⟩ := key
  rw [hk]
  clear hk
  have g1 : ((Int.gcd 1036800 d.toInt : Nat) : Int) ∣ 1036800 := Int.gcd_dvd_left _ _
  have gp : 0 < Int.gcd 1036800 d.toInt := Int.gcd_pos_of_ne_zero_left _ (by decide)
  obtain ⟨g, hgg⟩ : ∃ g, g = Int.gcd 1036800 d.toInt := ⟨_, rfl⟩
  rw [← hgg] at hg g1 gp
  obtain ⟨b, hbb⟩ : ∃ b : Nat, b = 1036800 / g := ⟨_, rfl⟩
  have hgd : g ∣ 1036800 := by
    have h : (g : Int) ∣ ((1036800 : Nat) : Int) := g1
    exact Int.natCast_dvd_natCast.mp h
  have hgb : g * b = 1036800 := by rw [hbb]; exact Nat.mul_div_cancel' hgd
  have gl := Nat.le_of_dvd (by decide) hgd
  have b1 : 1 ≤ b := by
    by_cases c : 1 ≤ b
    · exact c
    · have : b = 0 := by omega
      rw [this] at hgb; omega
  have b2 : b ∣ 1036800 := ⟨g, by rw [← hgb, Nat.mul_comm]⟩
  have b3 := Nat.le_of_dvd (by decide) b2
  have eb : (1036800 : Int) / (g : Int) = (b : Int) := by
    rw [show (1036800 : Int) = (g : Int) * (b : Int) by rw [← Int.natCast_mul, hgb]; rfl]; exact Int.mul_ediv_cancel_left _ (by omega)
  have hP : (1036800 / g32).toInt = (b : Int) := by rw [ti_div (by decide) (by rw [hg]; omega), zN, hg, eb]
  generalize (1036800 / g32) = P at hP ⊢
  obtain ⟨a, ha⟩ := Int.eq_ofNat_of_zero_le (Int.le_of_lt s0)
  have ha : mSt.toInt = (a : Int) := ha
  have a1 : 1 ≤ a := by omega
  have a2 : a ∣ 1036800 := by
    have h : (a : Int) ∣ ((1036800 : Nat) : Int) := by rw [← ha]; exact s1
    exact Int.natCast_dvd_natCast.mp h
  have he : (F_X7_common mSt P).toInt = (Nat.gcd a b : Nat) := by rw [common_gcd (by omega) (by omega), hP, ha, Int.toNat_natCast, Int.toNat_natCast]
  have e1 : 0 < Nat.gcd a b := Nat.gcd_pos_of_pos_left _ a1
  have e2 := Nat.gcd_dvd_left a b
  have e3 := Nat.gcd_dvd_right a b
  have hlN : Nat.lcm a b ∣ 1036800 := Nat.lcm_dvd a2 b2
  have hlp : 0 < Nat.lcm a b := Nat.lcm_pos a1 b1
  have hl2 := Nat.le_of_dvd (by decide) hlN
  have hgl := Nat.gcd_mul_lcm a b
  have hlb := Nat.dvd_lcm_right a b
  have hld : ∀ x, a ∣ x → b ∣ x → Nat.lcm a b ∣ x := fun x h1 h2 => Nat.lcm_dvd h1 h2
  unfold F_X7_isAgain_86 F_X7_isAgain_100
  have hn : (P / F_X7_common mSt P).toInt = ((b / Nat.gcd a b : Nat) : Int) := by rw [ti_div (by omega) (by rw [he]; omega), hP, he]; rfl
  have hs : (mSt / F_X7_common mSt P).toInt = ((a / Nat.gcd a b : Nat) : Int) := by rw [ti_div (by omega) (by rw [he]; omega), ha, he]; rfl
  have hLs : ∀ z : Int32, z = (mSt / F_X7_common mSt P) * P → z.toInt = (Nat.lcm a b : Nat) := fun z hz => by
    have h1 : (mSt / F_X7_common mSt P).toInt * P.toInt = ((Nat.lcm a b : Nat) : Int) := by
      rw [hs, hP, ← Int.natCast_mul]
      congr 1
      obtain ⟨a', ha'⟩ := e2
      generalize Nat.gcd a b = e at *
      have haq : a / e = a' := by rw [ha', Nat.mul_div_cancel_left _ e1]
      rw [haq]
      refine Nat.eq_of_mul_eq_mul_left e1 ?_
      rw [hgl, ← Nat.mul_assoc, ← ha']
    rw [hz, ti_mul (by rw [h1]; omega) (by rw [h1]; omega), h1]
  obtain ⟨n, hnn⟩ : ∃ n : Nat, n = b / Nat.gcd a b := ⟨_, rfl⟩
  rw [← hnn] at hn
  have hna : a * n = Nat.lcm a b := by
    obtain ⟨b', hb'⟩ := e3
    rw [hnn]
    generalize Nat.gcd a b = e at *
    have hbn : b / e = b' := by rw [hb', Nat.mul_div_cancel_left _ e1]
    rw [hbn]
    refine Nat.eq_of_mul_eq_mul_left e1 ?_
    rw [hgl, hb']
    rw [← Nat.mul_assoc, Nat.mul_comm e a, Nat.mul_assoc]
  have n0 : 0 < n := by
    by_cases c : 0 < n
    · exact c
    · have : n = 0 := by omega
      rw [this] at hna; omega
  have n1 : n ≤ 1036800 := by
    have := Nat.mul_le_mul_right n a1
    omega
  generalize Nat.lcm a b = L at *
  have hnI : P / (F_X7_common mSt P) = nI n := Int32.toInt_inj.mp (by rw [hn, nI_toInt (by omega)])
  have hnaI : (a : Int) * (n : Int) = (L : Int) := by rw [← Int.natCast_mul, hna]
  obtain ⟨A1, A2⟩ := ia_alg (C := C) (x4 := x4.toInt) (d := d.toInt) (at0 := mAt.toInt) (a := a) (b := b) (n := n) (L := L) (t0 := t0) (g := g) hgg (by rw [eb]) (by omega) (by omega) hnaI (Int.natCast_dvd_natCast.mpr hlb) (fun x h1 h2 => Int.ofNat_dvd_left.mpr (hld _ (Int.ofNat_dvd_left.mp h1) (Int.ofNat_dvd_left.mp h2))) (by have := Int.natCast_dvd_natCast.mpr hlN; exact this) l0 (by rw [← ha]; exact l1) (fun t => by rw [hC, ha])
  have e4 : (P / (F_X7_common mSt P)).toInt.toNat = n := by rw [hn, Int.toNat_natCast]
  rw [e4]
  rcases ia_loop (d := d) (x4 := x4) (mSt := mSt) (P := P) (n32 := P / (F_X7_common mSt P)) (n := n) (at0 := mAt.toInt) hnI n1 s0 (by rw [ha, Int.mul_comm, hnaI]; omega) (by omega) (by omega) x0 x1 d0 d1 (n + 1) 0 mAt (Nat.zero_le _) (by omega) (by rw [Int.natCast_zero, Int.zero_mul, Int.add_zero]) (fun i' hi' => absurd hi' (Nat.not_lt_zero _)) with ⟨r1, r2⟩ | ⟨r1, r2, i, r3, r4, r5⟩
  · left
    rw [iz] at r1
    refine ⟨r1, A1 (fun i i0 i1 => ?_)⟩
    have := r2 i.toNat (by omega)
    rw [ha, show ((i.toNat : Nat) : Int) = i by omega] at this
    exact this
  · right
    rw [iz] at r1 r2 r5
    refine ⟨r1, ?_⟩
    have h1 : (F_X7_isAgain_103 mSt x4 d P (P / (F_X7_common mSt P)) (n + 1) 0 mAt).2.2.toInt = (L : Int) := by rw [r2]; exact hLs _ rfl
    unfold MI2
    rw [h1, r5]
    rw [ha] at r4 ⊢
    exact A2 i (by omega) (by omega) r4
end MODEL
