/-! meeting again: the class's loop -/
def Cnd (H r : Nat → Int) (j i : Nat) (t : Int) : Prop := 1036800 ∣ (H i - H j) + (r i - r j) * t
def Meet (H r : Nat → Int) (s : Int32) (j n : Nat) (t : Int) : Prop := ∀ i, i < n → ¬ F_X7_has s (nI i) = 0 → Cnd H r j i t
/-- an answer: the first minute, or none -/
def RS (C : Int → Prop) (t0 : Int) (x : Int32) : Prop := (x = -1 ∧ ∀ t, ¬ C t) ∨ (t0 ≤ x.toInt ∧ C x.toInt ∧ ∀ t, t0 ≤ t → t < x.toInt → ¬ C t)
theorem RS.uniq {C : Int → Prop} {t0 : Int} {x y : Int32} (hx : RS C t0 x) (hy : RS C t0 y) : x = y := by
  rcases hx with ⟨x1, x2⟩ | ⟨x1, x2, x3⟩
  · rcases hy with ⟨y1, y2⟩ | ⟨y1, y2, y3⟩
    · rw [x1, y1]
    · exact absurd y2 (x2 _)
  · rcases hy with ⟨y1, y2⟩ | ⟨y1, y2, y3⟩
    · exact absurd x2 (y2 _)
    · refine Int32.toInt_inj.mp ?_
      by_cases c : x.toInt < y.toInt
      · exact absurd x2 (y3 _ x1 c)
      · by_cases c2 : y.toInt < x.toInt
        · exact absurd y2 (x3 _ y1 c2)
        · omega
theorem Meet.skip {H r : Nat → Int} {s : Int32} {j k : Nat} (h : F_X7_has s (nI k) = 0) (t : Int) : Meet H r s j (k + 1) t ↔ Meet H r s j k t := by
  constructor
  · exact fun hm i hi hh => hm i (by omega) hh
  · intro hm i hi hh
    by_cases e : i = k
    · subst e; exact absurd h hh
    · exact hm i (by omega) hh
theorem Meet.take {H r : Nat → Int} {s : Int32} {j k : Nat} (h : ¬ F_X7_has s (nI k) = 0) (t : Int) : Meet H r s j (k + 1) t ↔ (Meet H r s j k t ∧ Cnd H r j k t) := by
  constructor
  · exact fun hm => ⟨fun i hi hh => hm i (by omega) hh, hm k (by omega) h⟩
  · rintro ⟨hm, hc⟩ i hi hh
    by_cases e : i = k
    · subst e; exact hc
    · exact hm i (by omega) hh
theorem Meet.mono {H r : Nat → Int} {s : Int32} {j k n : Nat} (h : k ≤ n) {t : Int} (hm : Meet H r s j n t) : Meet H r s j k t := fun i hi hh => hm i (by omega) hh
theorem bit_at {s : Int32} (h0 : 0 ≤ s.toInt) (h1 : s.toInt ≤ 255) {k : Nat} (hk : k < 8) : ((s >>> (nI k &&& 31)) &&& 1) = 0 ↔ F_X7_has s (nI k) = 0 := by
  have h := bit_has ⟨s.toInt.toNat, by omega⟩ ⟨k, hk⟩
  have h : ((nI s.toInt.toNat >>> (nI k &&& 31)) &&& 1) = 0 ↔ F_X7_has (nI s.toInt.toNat) (nI k) = 0 := h
  rw [iN_of h0] at h
  exact h
theorem l32 {x : Int64} (h0 : -2147483648 ≤ x.toInt) (h1 : x.toInt < 2147483648) : x.toInt32.toInt = x.toInt := by
  rw [Int64.toInt_toInt32]; exact Int.bmod_eq_of_le (by omega) (by omega)
/-- one more clock, in whole numbers -/
theorem meet_step {H r : Nat → Int} {j k : Nat} {C : Int → Prop} {S A f : Int} (hS : 0 < S) (hN : S ∣ 1036800) (hA0 : 0 ≤ A) (hA1 : A < S) (hC : ∀ t, C t ↔ S ∣ t - A) (f0 : 0 ≤ f) (f1 : f < 1036800 / (Int.gcd 1036800 ((r k - r j) * S) : Nat)) (hf : 1036800 ∣ (r k - r j) * S * f - ((H j - H k) - (r k - r j) * A)) :
    0 < S * (1036800 / (Int.gcd 1036800 ((r k - r j) * S) : Nat)) ∧ S * (1036800 / (Int.gcd 1036800 ((r k - r j) * S) : Nat)) ∣ 1036800 ∧ 0 ≤ A + f * S ∧ A + f * S < S * (1036800 / (Int.gcd 1036800 ((r k - r j) * S) : Nat)) ∧ ∀ t, (C t ∧ Cnd H r j k t) ↔ S * (1036800 / (Int.gcd 1036800 ((r k - r j) * S) : Nat)) ∣ t - (A + f * S) := by
  have gd := fun t => gdvd (N := 1036800) (d := (r k - r j) * S) (t := t) (by decide)
  have g1 : ((Int.gcd 1036800 ((r k - r j) * S) : Nat) : Int) ∣ 1036800 := Int.gcd_dvd_left _ _
  have g2 : S ∣ ((Int.gcd 1036800 ((r k - r j) * S) : Nat) : Int) := Int.dvd_coe_gcd hN ⟨r k - r j, Int.mul_comm _ _⟩
  have gp : 0 < Int.gcd 1036800 ((r k - r j) * S) := Int.gcd_pos_of_ne_zero_left _ (by decide)
  generalize Int.gcd 1036800 ((r k - r j) * S) = g at gd g1 g2 gp f1 ⊢
  obtain ⟨M, hM⟩ := g1
  obtain ⟨e, he⟩ := g2
  have eM : 1036800 / (g : Int) = M := by rw [hM]; exact Int.mul_ediv_cancel_left _ (by omega)
  rw [eM] at f1 ⊢
  have M1 : 0 < M := by omega
  have hfS : 0 ≤ f * S := Int.mul_nonneg f0 (by omega)
  have hlt : (f + 1) * S ≤ M * S := Int.mul_le_mul_of_nonneg_right (by omega) (by omega)
  rw [Int.add_mul, Int.one_mul] at hlt
  refine ⟨Int.mul_pos hS M1, ⟨e, by rw [hM, he]; grind⟩, by omega, by rw [Int.mul_comm S M]; omega, fun t => ?_⟩
  rw [hC]
  unfold Cnd
  constructor
  · rintro ⟨⟨u, hu⟩, h2⟩
    have h3 : 1036800 ∣ (r k - r j) * S * (u - f) := by
      have h4 := Int.dvd_sub h2 hf
      rw [show H k - H j + (r k - r j) * t - ((r k - r j) * S * f - (H j - H k - (r k - r j) * A)) = (r k - r j) * S * (u - f) by
        have : t = A + S * u := by omega
        subst this
        grind] at h4
      exact h4
    have h5 := (gd (u - f)).mp h3
    rw [eM] at h5
    obtain ⟨v, hv⟩ := h5
    exact ⟨v, by grind⟩
  · rintro ⟨v, hv⟩
    refine ⟨⟨f + M * v, by grind⟩, ?_⟩
    have h3 := (gd (M * v)).mpr (by rw [eM]; exact Int.dvd_mul_right _ _)
    have h4 := Int.dvd_add h3 hf
    rw [show (r k - r j) * S * (M * v) + ((r k - r j) * S * f - (H j - H k - (r k - r j) * A)) = H k - H j + (r k - r j) * t by grind] at h4
    exact h4
theorem meet_none {H r : Nat → Int} {j k : Nat} {C : Int → Prop} {S A : Int} (hC : ∀ t, C t ↔ S ∣ t - A) (hf : ∀ f, ¬ 1036800 ∣ (r k - r j) * S * f - ((H j - H k) - (r k - r j) * A)) (t : Int) : ¬ (C t ∧ Cnd H r j k t) := by
  rintro ⟨h1, h2⟩
  obtain ⟨u, hu⟩ := (hC t).mp h1
  refine hf u ?_
  unfold Cnd at h2
  rw [show (r k - r j) * S * u - (H j - H k - (r k - r j) * A) = H k - H j + (r k - r j) * t by
    have : t = A + S * u := by omega
    subst this
    grind]
  exact h2
section AGAIN
variable {ck : Nat → Nat → Int32} {s x2 : Int32} {H r : Nat → Int}
/-- what the class knows of the clocks -/
def CA (ck : Nat → Nat → Int32) (s : Int32) (H r : Nat → Int) : Prop := ∀ i, i < 8 → ¬ F_X7_has s (nI i) = 0 → ¬ tld ck (nI i) = 0 ∧ ((F_X0_handAt (ck i 0) (ck i 1) (ck i 2) 0 (ck i 3)).toInt = H i ∧ -10000000 ≤ H i ∧ H i ≤ 10000000) ∧ ((ck i 3).toInt = r i ∧ -120 ≤ r i ∧ r i ≤ 120)
theorem ca_some (hs0 : 0 ≤ s.toInt) (hs1 : s.toInt ≤ 255) (t0 : 0 ≤ x2.toInt) (t1 : x2.toInt ≤ 9999999) (hA : CA ck s H r) {j : Nat} (hj : j < 8) (hjs : ¬ F_X7_has s (nI j) = 0) : ∀ (n k : Nat) (S A : Int64), k ≤ 8 → 8 - k < n → 0 < S.toInt → S.toInt ∣ 1036800 → 0 ≤ A.toInt → A.toInt < S.toInt → (∀ t, Meet H r s j k t ↔ S.toInt ∣ t - A.toInt) → RS (Meet H r s j 8) x2.toInt (F_X6_again_32 ck s x2 n (nI k) S A (some j)) := by
  have z1 : (1 : Int64).toInt = 1 := rfl
  have zm1 : (-1 : Int64).toInt = -1 := rfl
  intro n
  induction n with
  | zero => intro k S A _ h; exact absurd h (Nat.not_lt_zero _)
  | succ n ih =>
    intro k S A hk hn S0 SN A0 A1 hC
    have SN2 := Int.le_of_dvd (by decide) SN
    rw [F_X6_again_32.eq_3]
    by_cases c8 : k < 8
    · rw [if_neg (nI8 c8), nI_suc (by omega)]
      by_cases ch : F_X7_has s (nI k) = 0
      · have hb := (bit_at hs0 hs1 c8).mpr ch
        have ih' := ih (k + 1) S A (by omega) (by omega) S0 SN A0 A1 (fun t => (Meet.skip ch t).trans (hC t))
        by_cases ct : tld ck (nI k) = 0
        · rw [if_pos ct, if_pos hb]; exact ih'
        · rw [if_neg ct, if_pos hb]; exact ih'
      · obtain ⟨k1, ⟨k2, k3, k4⟩, k5, k6, k7⟩ := hA k c8 ch
        obtain ⟨j1, ⟨j2, j3, j4⟩, j5, j6, j7⟩ := hA j hj hjs
        rw [if_neg k1, if_neg (mt (bit_at hs0 hs1 c8).mp ch), nI_tn (n := k) (by omega)]
        have d1 : (ck k 3 - ck j 3).toInt = r k - r j := by rw [ti_sub (by omega) (by omega), k5, j5]
        have d2 : (ck k 3 - ck j 3).toInt64.toInt = r k - r j := by rw [Int32.toInt_toInt64, d1]
        have h1 : (F_X0_handAt (ck j 0) (ck j 1) (ck j 2) 0 (ck j 3) - F_X0_handAt (ck k 0) (ck k 1) (ck k 2) 0 (ck k 3)).toInt = H j - H k := by rw [ti_sub (by omega) (by omega), j2, k2]
        have h2 : (F_X0_handAt (ck j 0) (ck j 1) (ck j 2) 0 (ck j 3) - F_X0_handAt (ck k 0) (ck k 1) (ck k 2) 0 (ck k 3)).toInt64.toInt = H j - H k := by rw [Int32.toInt_toInt64, h1]
        obtain ⟨p1, p2⟩ := prod_bd (a := r k - r j) (b := S.toInt) (A := 240) (B := 1036800) (by omega) (by omega) (by omega) (by omega)
        obtain ⟨p3, p4⟩ := prod_bd (a := r k - r j) (b := A.toInt) (A := 240) (B := 1036800) (by omega) (by omega) (by omega) (by omega)
        generalize (F_X0_handAt (ck j 0) (ck j 1) (ck j 2) 0 (ck j 3) - F_X0_handAt (ck k 0) (ck k 1) (ck k 2) 0 (ck k 3)).toInt64 = hh at h2 ⊢
        generalize (ck k 3 - ck j 3).toInt64 = dd at d2 ⊢
        have m1 : (dd * S).toInt = (r k - r j) * S.toInt := by rw [l_mul (by rw [d2]; omega) (by rw [d2]; omega), d2]
        have m2 : (dd * A).toInt = (r k - r j) * A.toInt := by rw [l_mul (by rw [d2]; omega) (by rw [d2]; omega), d2]
        have m3 : (hh - dd * A).toInt = (H j - H k) - (r k - r j) * A.toInt := by rw [l_sub (by rw [m2]; omega) (by rw [m2]; omega), m2, h2]
        have L := lf_ok (x0 := dd * S) (x2 := hh - dd * A) (by rw [m1]; omega) (by rw [m1]; omega) (by rw [m3]; omega) (by rw [m3]; omega)
        obtain ⟨s1, s2, s3⟩ := share_ok (x := dd * S) (by rw [m1]; omega) (by rw [m1]; omega)
        rw [m1, m3] at L
        rw [m1] at s1 s2 s3
        generalize F_X6_leastFactor (dd * S) (hh - dd * A) = f at L ⊢
        generalize F_X6_sharedWithRound (dd * S) = sh at s1 ⊢
        rcases L with ⟨l1, l2⟩ | ⟨l1, l2, l3⟩
        · rw [if_pos ((lc_eq _ _).mpr (by rw [l1]; rfl))]
          exact Or.inl ⟨rfl, fun t ht => meet_none hC l2 t ((Meet.take ch t).mp (ht.mono (by omega)))⟩
        · rw [if_neg (fun hq => by have := (lc_eq _ _).mp hq; omega)]
          obtain ⟨w1, w2, w3, w4, w5⟩ := meet_step (H := H) (r := r) (j := j) (k := k) S0 SN A0 A1 hC l1 l2 l3
          have w6 := Int.le_of_dvd (by decide) w2
          have dN := l_div (a := (1036800 : Int64)) (b := sh) (by decide) (by decide) (by rw [s1]; omega)
          rw [s1, n64] at dN
          have eS : (S * (1036800 / sh)).toInt = S.toInt * (1036800 / (Int.gcd 1036800 ((r k - r j) * S.toInt) : Nat)) := by rw [l_mul (by rw [dN]; omega) (by rw [dN]; omega), dN]
          have fS0 : 0 ≤ f.toInt * S.toInt := Int.mul_nonneg l1 (by omega)
          have eF : (f * S).toInt = f.toInt * S.toInt := l_mul (by omega) (by omega)
          have eA : (A + f * S).toInt = A.toInt + f.toInt * S.toInt := by rw [l_add (by rw [eF]; omega) (by rw [eF]; omega), eF]
          refine ih (k + 1) (S * (1036800 / sh)) (A + f * S) (by omega) (by omega) (by rw [eS]; exact w1) (by rw [eS]; exact w2) (by rw [eA]; exact w3) (by rw [eA, eS]; exact w4) (fun t => ?_)
          rw [eS, eA, Meet.take ch]
          exact w5 t
    · have : k = 8 := by omega
      subst this
      rw [if_pos le8]
      have emx : (F_J9_max_f86c9 1 S).toInt = S.toInt := by
        rw [l_max, z1]
        by_cases c : 1 < S.toInt
        · rw [if_pos c]
        · rw [if_neg c]; omega
      have x64 : x2.toInt64.toInt = x2.toInt := Int32.toInt_toInt64 _
      have e1 : (A - x2.toInt64).toInt = A.toInt - x2.toInt := by rw [l_sub (by rw [x64]; omega) (by rw [x64]; omega), x64]
      have e2 := fm64 (a := A - x2.toInt64) (b := F_J9_max_f86c9 1 S) (by rw [e1]; omega) (by rw [e1]; omega) (by rw [emx]; exact S0) (by rw [emx]; omega)
      rw [e1, emx] at e2
      have r0 := Int.emod_nonneg (A.toInt - x2.toInt) (show S.toInt ≠ 0 by omega)
      have r1 := Int.emod_lt_of_pos (A.toInt - x2.toInt) S0
      have ed := Int.emod_def (A.toInt - x2.toInt) S.toInt
      have e3 := l32 (x := F_J9_floorMod_f86c9 (A - x2.toInt64) (F_J9_max_f86c9 1 S)) (by rw [e2]; omega) (by rw [e2]; omega)
      rw [e2] at e3
      have e4 : (x2 + (F_J9_floorMod_f86c9 (A - x2.toInt64) (F_J9_max_f86c9 1 S)).toInt32).toInt = x2.toInt + (A.toInt - x2.toInt) % S.toInt := by rw [ti_add (by rw [e3]; omega) (by rw [e3]; omega), e3]
      right
      rw [e4]
      generalize (A.toInt - x2.toInt) / S.toInt = q at ed
      generalize (A.toInt - x2.toInt) % S.toInt = R at r0 r1 ed ⊢
      refine ⟨by omega, (hC _).mpr ⟨-q, by rw [Int.mul_neg]; omega⟩, fun t h1 h2 hm => ?_⟩
      obtain ⟨u, hu⟩ := (hC t).mp hm
      have hd : S.toInt ∣ (x2.toInt + R) - t := ⟨-q - u, by rw [Int.mul_sub, Int.mul_neg]; omega⟩
      have := Int.le_of_dvd (by omega) hd
      omega
theorem ca_none (hs0 : 0 ≤ s.toInt) (hs1 : s.toInt ≤ 255) (t0 : 0 ≤ x2.toInt) (t1 : x2.toInt ≤ 9999999) (hA : CA ck s H r) {j : Nat} (hj : j < 8) (hjs : ¬ F_X7_has s (nI j) = 0) (hfst : ∀ i, i < j → F_X7_has s (nI i) = 0) : ∀ (n k : Nat), k ≤ j → 8 - k < n → RS (Meet H r s j 8) x2.toInt (F_X6_again_32 ck s x2 n (nI k) 1 0 none) := by
  intro n
  induction n with
  | zero => intro k _ h; exact absurd h (Nat.not_lt_zero _)
  | succ n ih =>
    intro k hk hn
    have c8 : k < 8 := by omega
    rw [F_X6_again_32.eq_2, if_neg (nI8 c8), nI_suc (by omega)]
    by_cases e : k = j
    · subst e
      rw [if_neg (hA k hj hjs).1, if_neg (mt (bit_at hs0 hs1 c8).mp hjs), nI_tn (by omega)]
      refine ca_some hs0 hs1 t0 t1 hA hj hjs n (k + 1) 1 0 (by omega) (by omega) (by decide) (by decide) (by decide) (by decide) (fun t => ⟨fun _ => Int.one_dvd _, fun _ i hi hh => ?_⟩)
      by_cases ei : i = k
      · subst ei
        unfold Cnd
        rw [Int.sub_self, Int.sub_self, Int.zero_mul, Int.add_zero]
        exact Int.dvd_zero _
      · exact absurd (hfst i (by omega)) hh
    · have hb := (bit_at hs0 hs1 c8).mpr (hfst k (by omega))
      have ih' := ih (k + 1) (by omega) (by omega)
      by_cases ct : tld ck (nI k) = 0
      · rw [if_pos ct, if_pos hb]; exact ih'
      · rw [if_neg ct, if_pos hb]; exact ih'
end AGAIN
