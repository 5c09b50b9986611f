/-! meeting again, in both -/
section MODEL
variable {c : Nat → Int32} {s : Int32} {H r : Nat → Int}
/-- what the model knows of the clocks -/
def CM (c : Nat → Int32) (s : Int32) (H r : Nat → Int) : Prop := ∀ i, i < 8 → ¬ F_X7_has s (nI i) = 0 → ((F_X7_hand c (nI i) 0 (c (6 * i + 3))).toInt = H i ∧ -10000000 ≤ H i ∧ H i ≤ 10000000) ∧ ((c (6 * i + 3)).toInt = r i ∧ -120 ≤ r i ∧ r i ≤ 120)
theorem cnd_rest {j k : Nat} {x d : Int} (hx : x = (H k - H j) % 1036800) (hd : d = r k - r j) (t : Int) : 1036800 ∣ x + d * t ↔ Cnd H r j k t := by
  subst hx hd
  unfold Cnd
  have e := Int.emod_def (H k - H j) 1036800
  generalize (H k - H j) / 1036800 = q at e
  generalize (H k - H j) % 1036800 = z at e ⊢
  have e2 : H k - H j = z + 1036800 * q := by omega
  rw [e2]
  constructor
  · intro h
    have := Int.dvd_add h (Int.dvd_mul_right 1036800 q)
    rw [show z + (r k - r j) * t + 1036800 * q = z + 1036800 * q + (r k - r j) * t by omega] at this
    exact this
  · intro h
    have := Int.dvd_sub h (Int.dvd_mul_right 1036800 q)
    rw [show z + 1036800 * q + (r k - r j) * t - 1036800 * q = z + (r k - r j) * t by omega] at this
    exact this
theorem cm_pair (hM : CM c s H r) {j k : Nat} (hj : j < 8) (hk : k < 8) (hjs : ¬ F_X7_has s (nI j) = 0) (hks : ¬ F_X7_has s (nI k) = 0) : ((F_X7_rest ((F_X7_hand c (nI k) 0 (c (6 * k + 3))) - (F_X7_hand c (nI j) 0 (c (6 * j + 3)))) 1036800).toInt = (H k - H j) % 1036800) ∧ (c (6 * k + 3) - c (6 * j + 3)).toInt = r k - r j ∧ -240 ≤ r k - r j ∧ r k - r j ≤ 240 := by
  obtain ⟨⟨a1, a2, a3⟩, a4, a5, a6⟩ := hM j hj hjs
  obtain ⟨⟨b1, b2, b3⟩, b4, b5, b6⟩ := hM k hk hks
  have zN : (1036800 : Int32).toInt = 1036800 := rfl
  refine ⟨?_, by rw [ti_sub (by omega) (by omega), a4, b4], by omega, by omega⟩
  rw [rest_toInt (by decide), zN, ti_sub (by omega) (by omega), a1, b1]
theorem m_loop (hM : CM c s H r) {a : Nat} (ha : a < 8) (has_ : ¬ F_X7_has s (nI a) = 0) {t0 : Int} (t00 : 0 ≤ t0) (t01 : t0 ≤ 9999999) : ∀ (f k : Nat) (w st : Int32), k ≤ 8 → 8 - k < f → MI2 (Meet H r s a k) t0 w.toInt st.toInt → RS (Meet H r s a 8) t0 (F_X7_again_111 c s (nI a) f (nI k) w st).1 := by
  intro f
  induction f with
  | zero => intro k w st _ h; exact absurd h (Nat.not_lt_zero _)
  | succ f ih =>
    intro k w st hk hf hI
    rw [F_X7_again_111.eq_2]
    by_cases c8 : k < 8
    · rw [if_neg (nI8 c8), nI_suc (by omega)]
      by_cases ch : F_X7_has s (nI k) = 0
      · rw [if_pos ch]
        obtain ⟨i1, i2, i3, i4, i5⟩ := hI
        exact ih (k + 1) w st (by omega) (by omega) ⟨i1, i2, i3, i4, fun t => (Meet.skip ch t).trans (i5 t)⟩
      · rw [if_neg ch]
        obtain ⟨p1, p2, p3, p4⟩ := cm_pair hM ha c8 has_ ch
        have r0 := Int.emod_nonneg (H k - H a) (show (1036800 : Int) ≠ 0 by decide)
        have r1 := Int.emod_lt_of_pos (H k - H a) (show (0 : Int) < 1036800 by decide)
        unfold F_X7_isAgain
        rw [ixk3 c8, ixk3 ha]
        generalize F_X7_rest ((F_X7_hand c (nI k) 0 (c (6 * k + 3))) - (F_X7_hand c (nI a) 0 (c (6 * a + 3)))) 1036800 = x4 at p1 ⊢
        generalize c (6 * k + 3) - c (6 * a + 3) = d at p2 ⊢
        have key := ia_ok (x4 := x4) (d := d) (by rw [p1]; exact r0) (by rw [p1]; exact r1) (by rw [p2]; exact p3) (by rw [p2]; exact p4) t00 t01 hI
        generalize F_X7_isAgain_66 w st x4 d = Q at key ⊢
        unfold F_X7_again_c131
        rw [nI_suc (by omega)]
        rcases key with ⟨k1, k2⟩ | ⟨k1, k2⟩
        · rw [if_pos k1]
          refine Or.inl ⟨rfl, fun t ht => ?_⟩
          obtain ⟨h1, h2⟩ := (Meet.take ch t).mp (ht.mono (show k + 1 ≤ 8 by omega))
          exact k2 t ⟨h1, (cnd_rest (j := a) (k := k) p1 p2 t).mpr h2⟩
        · rw [if_neg (by rw [k1]; exact one0)]
          obtain ⟨i1, i2, i3, i4, i5⟩ := k2
          refine ih (k + 1) Q.2.1 Q.2.2 (by omega) (by omega) ⟨i1, i2, i3, i4, fun t => ?_⟩
          rw [Meet.take ch, ← cnd_rest (j := a) (k := k) p1 p2 t]
          exact i5 t
    · have : k = 8 := by omega
      subst this
      rw [if_pos le8]
      obtain ⟨i1, i2, i3, i4, i5⟩ := hI
      refine Or.inr ⟨i3, (i5 _).mpr (by rw [Int.sub_self]; exact Int.dvd_zero _), fun t h1 h2 h3 => ?_⟩
      have h2 : t < w.toInt := h2
      obtain ⟨u, hu⟩ := (i5 t).mp h3
      have hd : st.toInt ∣ w.toInt - t := ⟨-u, by rw [Int.mul_neg]; omega⟩
      have := Int.le_of_dvd (by omega) hd
      omega
theorem m_first (hM : CM c s H r) {a b : Nat} (hab : a < b) (hb : b < 8) (has_ : ¬ F_X7_has s (nI a) = 0) (hbs : ¬ F_X7_has s (nI b) = 0) (hno : ∀ i, i < b → ¬ i = a → F_X7_has s (nI i) = 0) {x2 mAt : Int32} (t00 : 0 ≤ x2.toInt) (t01 : x2.toInt ≤ 9999999) : RS (Meet H r s a 8) x2.toInt (F_X7_again_c97 c s (nI b) (nI a) (F_X7_isFirstAgain c mAt (nI a) (nI b) x2)).1 := by
  obtain ⟨p1, p2, p3, p4⟩ := cm_pair hM (show a < 8 by omega) hb has_ hbs
  have r0 := Int.emod_nonneg (H b - H a) (show (1036800 : Int) ≠ 0 by decide)
  have r1 := Int.emod_lt_of_pos (H b - H a) (show (0 : Int) < 1036800 by decide)
  have hMt : ∀ t, Meet H r s a (b + 1) t ↔ Cnd H r a b t := fun t => by
    rw [Meet.take hbs]
    refine ⟨fun h => h.2, fun h => ⟨fun i hi hh => ?_, h⟩⟩
    by_cases e : i = a
    · subst e
      unfold Cnd
      rw [Int.sub_self, Int.sub_self, Int.zero_mul, Int.add_zero]
      exact Int.dvd_zero _
    · exact absurd (hno i hi e) hh
  unfold F_X7_isFirstAgain
  rw [ixk3 hb, ixk3 (show a < 8 by omega)]
  generalize F_X7_rest ((F_X7_hand c (nI b) 0 (c (6 * b + 3))) - (F_X7_hand c (nI a) 0 (c (6 * a + 3)))) 1036800 = x5 at p1 ⊢
  generalize c (6 * b + 3) - c (6 * a + 3) = d at p2 ⊢
  have key := fa_ok (x5 := x5) (d := d) (x3 := x2) (mAt := mAt) (by rw [p1]; exact r0) (by rw [p1]; exact r1) (by rw [p2]; exact p3) (by rw [p2]; exact p4) t00 t01
  generalize F_X7_isFirstAgain_67 mAt x2 x5 d = Q at key ⊢
  unfold F_X7_again_c97
  rw [nI_suc (by omega)]
  rcases key with ⟨k1, k2⟩ | ⟨k1, k2, k3, k4, k5⟩
  · rw [if_pos k1]
    exact Or.inl ⟨rfl, fun t ht => k2 t ((cnd_rest (j := a) (k := b) p1 p2 t).mpr ((hMt t).mp (ht.mono (show b + 1 ≤ 8 by omega))))⟩
  · rw [if_neg (by rw [k1]; exact one0)]
    have gp : 0 < Int.gcd 1036800 d.toInt := Int.gcd_pos_of_ne_zero_left _ (by decide)
    have gd := fun t => gdvd (N := 1036800) (d := d.toInt) (t := t) (by decide)
    have g1 : ((Int.gcd 1036800 d.toInt : Nat) : Int) ∣ 1036800 := Int.gcd_dvd_left _ _
    generalize Int.gcd 1036800 d.toInt = g at gp gd g1 k4
    have k4' : Q.2.2.toInt = 1036800 / (g : Int) := k4
    have hgd : g ∣ 1036800 := by
      have h : (g : Int) ∣ ((1036800 : Nat) : Int) := g1
      exact Int.natCast_dvd_natCast.mp h
    have gl := Nat.le_of_dvd (by decide) hgd
    have q1 : 0 < 1036800 / g := Nat.div_pos gl gp
    refine m_loop hM (show a < 8 by omega) has_ t00 t01 9 (b + 1) Q.2.1 Q.2.2 (by omega) (by omega) ⟨by rw [k4]; omega, ?_, k2, k3, fun t => ?_⟩
    · rw [k4]
      have h := Int.natCast_dvd_natCast.mpr (Nat.div_dvd_of_dvd hgd)
      exact h
    · rw [hMt, ← cnd_rest (j := a) (k := b) p1 p2 t, k4', ← gd, Int.mul_sub]
      constructor
      · intro h
        have := Int.dvd_sub h k5
        rw [show x5.toInt + d.toInt * t - (x5.toInt + d.toInt * Q.2.1.toInt) = d.toInt * t - d.toInt * Q.2.1.toInt by omega] at this
        exact this
      · intro h
        have := Int.dvd_add k5 h
        rw [show x5.toInt + d.toInt * Q.2.1.toInt + (d.toInt * t - d.toInt * Q.2.1.toInt) = x5.toInt + d.toInt * t by omega] at this
        exact this
end MODEL
theorem two_all : ∀ n : Fin 256, ¬ F_X7_bits (nI n.val) < 2 → ∃ a b : Fin 8, a.val < b.val ∧ ¬ F_X7_has (nI n.val) (nI a.val) = 0 ∧ ¬ F_X7_has (nI n.val) (nI b.val) = 0 ∧ ∀ i : Fin 8, i.val < b.val → ¬ i.val = a.val → F_X7_has (nI n.val) (nI i.val) = 0 := by decide +kernel
theorem two_of {s : Int32} (h0 : 0 ≤ s.toInt) (h1 : s.toInt ≤ 255) (hb : ¬ F_X7_bits s < 2) : ∃ a b : Nat, a < b ∧ b < 8 ∧ ¬ F_X7_has s (nI a) = 0 ∧ ¬ F_X7_has s (nI b) = 0 ∧ ∀ i, i < b → ¬ i = a → F_X7_has s (nI i) = 0 := by
  have h := two_all ⟨s.toInt.toNat, by omega⟩
  have h : ¬ F_X7_bits (nI s.toInt.toNat) < 2 → ∃ a b : Fin 8, a.val < b.val ∧ ¬ F_X7_has (nI s.toInt.toNat) (nI a.val) = 0 ∧ ¬ F_X7_has (nI s.toInt.toNat) (nI b.val) = 0 ∧ ∀ i : Fin 8, i.val < b.val → ¬ i.val = a.val → F_X7_has (nI s.toInt.toNat) (nI i.val) = 0 := h
  rw [iN_of h0] at h
  obtain ⟨a, b, c1, c2, c3, c4⟩ := h hb
  exact ⟨a.val, b.val, c1, b.isLt, c2, c3, fun i hi hn => c4 ⟨i, by have := b.isLt; omega⟩ hi hn⟩
section HRs
variable {ck : Nat → Nat → Int32} {nm : Int32} {nc nt nd : Nat → Int32} {told rd : Int32} {c : Nat → Int32} {noted : Int32} {note : Nat → Int32}
/-- a clock that may meet, in the class and in the model -/
def okC (ck : Nat → Nat → Int32) (s : Int32) (i : Nat) : Prop := ¬ F_X7_has s (nI i) = 0 → ¬ tld ck (nI i) = 0 ∧ ck i 0 = 0 ∧ ck i 3 = ck i 4
def okM (told : Int32) (c : Nat → Int32) (s : Int32) (i : Nat) : Prop := ¬ F_X7_has s (nI i) = 0 → ¬ F_X7_isExact told c (nI i) = 0 ∧ c (6 * i) = 0
theorem exact_iff {i : Nat} (hi : i < 8) : ¬ F_X7_isExact told c (nI i) = 0 ↔ ¬ F_X7_isClock told (nI i) = 0 ∧ c (6 * i + 3) = c (6 * i + 4) := by
  unfold F_X7_isExact
  rw [ixk3 hi, ixk4 hi]
  by_cases h1 : F_X7_isClock told (nI i) = 0
  · rw [if_pos h1]; exact ⟨fun h => absurd rfl h, fun h => absurd h1 h.1⟩
  · rw [if_neg h1]
    by_cases h2 : c (6 * i + 3) = c (6 * i + 4)
    · rw [if_pos h2]; exact ⟨fun _ => ⟨h1, h2⟩, fun _ => one0⟩
    · rw [if_neg h2]; exact ⟨fun h => absurd rfl h, fun h => absurd h.2 h2⟩
theorem tld_told {i : Nat} (hi : i < 8) (h : ¬ tld ck (nI i) = 0) : ¬ ck i 0 = -1 := fun e => by
  unfold tld at h
  rw [nI_tn (by omega), if_pos e] at h
  split at h <;> exact h rfl
theorem ok_iff (h : HR ck nm nc nt nd told rd c noted note) {s : Int32} {i : Nat} (hi : i < 8) : okC ck s i ↔ okM told c s i := by
  unfold okC okM
  refine forall_congr' fun hh => ?_
  rw [exact_iff hi, h.tl]
  by_cases ht : F_X7_isClock told (nI i) = 0
  · exact ⟨fun x => absurd ht x.1, fun x => absurd ht x.1.1⟩
  · have hn := tld_told (ck := ck) hi (by rw [h.tl]; exact ht)
    obtain ⟨e0, e2, eS, eG⟩ := (h.2.2.2.1 i hi).2.2.2 hn
    constructor
    · rintro ⟨-, x2, x3⟩
      have hc : c (6 * i) = 0 := e0.symm.trans x2
      obtain ⟨g1, g3, g4⟩ := eG (by rw [hc]; decide)
      exact ⟨⟨ht, by rw [← g3, ← g4]; exact x3⟩, hc⟩
    · rintro ⟨⟨-, x3⟩, hc⟩
      obtain ⟨g1, g3, g4⟩ := eG (by rw [hc]; decide)
      exact ⟨ht, e0.trans hc, by rw [g3, g4]; exact x3⟩
theorem can22 {s : Int32} (hs0 : 0 ≤ s.toInt) (hs1 : s.toInt ≤ 255) : ∀ (f k : Nat), k ≤ 8 → 8 - k < f → ((∀ i, k ≤ i → i < 8 → okC ck s i) → F_X6_canMeet_22 ck s f (nI k) = 1) ∧ (∀ i, k ≤ i → i < 8 → ¬ okC ck s i → F_X6_canMeet_22 ck s f (nI k) = 0) := by
  intro f
  induction f with
  | zero => intro k _ h; exact absurd h (Nat.not_lt_zero _)
  | succ f ih =>
    intro k hk hf
    rw [F_X6_canMeet_22.eq_2]
    by_cases c8 : k < 8
    · rw [if_neg (nI8 c8), nI_suc (by omega)]
      obtain ⟨i1, i2⟩ := ih (k + 1) (by omega) (by omega)
      have hb := bit_at hs0 hs1 c8
      by_cases ch : F_X7_has s (nI k) = 0
      · rw [if_pos (hb.mpr ch)]
        refine ⟨fun h => i1 (fun i h1 h2 => h i (by omega) h2), fun i h1 h2 h3 => i2 i ?_ h2 h3⟩
        by_cases e : i = k
        · subst e; exact absurd (fun hh => absurd ch hh) h3
        · omega
      · rw [if_neg (mt hb.mp ch), nI_tn (n := k) (by omega)]
        by_cases hok : okC ck s k
        · obtain ⟨o1, o2, o3⟩ := hok ch
          rw [if_neg o1, if_pos o2, if_pos o3]
          refine ⟨fun h => i1 (fun i h1 h2 => h i (by omega) h2), fun i h1 h2 h3 => i2 i ?_ h2 h3⟩
          by_cases e : i = k
          · subst e; exact absurd hok h3
          · omega
        · have e : (if tld ck (nI k) = 0 then (0 : Int32) else if ck k 0 = 0 then if ck k 3 = ck k 4 then F_X6_canMeet_22 ck s f (nI (k + 1)) else 0 else 0) = 0 := by
            by_cases o1 : tld ck (nI k) = 0
            · rw [if_pos o1]
            · rw [if_neg o1]
              by_cases o2 : ck k 0 = 0
              · rw [if_pos o2]
                by_cases o3 : ck k 3 = ck k 4
                · exact absurd (fun _ => ⟨o1, o2, o3⟩) hok
                · rw [if_neg o3]
              · rw [if_neg o2]
          rw [e]
          exact ⟨fun h => absurd (h k (Nat.le_refl _) c8) hok, fun _ _ _ _ => rfl⟩
    · have : k = 8 := by omega
      subst this
      rw [if_pos le8]
      exact ⟨fun _ => rfl, fun i h1 h2 => by omega⟩
theorem m41 {s x2 mAt mSt : Int32} {a b : Nat} (hab : a < b) (hb : b < 8) (has_ : ¬ F_X7_has s (nI a) = 0) (hbs : ¬ F_X7_has s (nI b) = 0) (hno : ∀ i, i < b → ¬ i = a → F_X7_has s (nI i) = 0) : ∀ (f k : Nat) (X x4 x3 : Int32), k ≤ 8 → k < f → X.toInt = (k : Int) - 1 → (k ≤ b → a < k → x3 = nI b) → (k ≤ a → x4 = nI b ∧ x3 = nI a) →
    ((∀ i, i < k → okM told c s i) → F_X7_again_41 told c mAt mSt s x2 f X x4 x3 = F_X7_again_c97 c s (nI b) (nI a) (F_X7_isFirstAgain c mAt (nI a) (nI b) x2)) ∧ (∀ i, i < k → ¬ okM told c s i → (F_X7_again_41 told c mAt mSt s x2 f X x4 x3).1 = -3) := by
  have z0 : (0 : Int32).toInt = 0 := rfl
  intro f
  induction f with
  | zero => intro k X x4 x3 _ h; exact absurd h (Nat.not_lt_zero _)
  | succ f ih =>
    intro k X x4 x3 hk hf hX i1 i2
    rw [F_X7_again_41.eq_2]
    by_cases c0 : k = 0
    · subst c0
      rw [if_pos (ti_lt.mpr (by omega))]
      obtain ⟨j1, j2⟩ := i2 (Nat.zero_le _)
      rw [j1, j2]
      exact ⟨fun _ => rfl, fun i hi => absurd hi (Nat.not_lt_zero _)⟩
    · obtain ⟨m, rfl⟩ : ∃ m, k = m + 1 := ⟨k - 1, by omega⟩
      have hXn : X = nI m := Int32.toInt_inj.mp (by rw [hX, nI_toInt (by omega)]; omega)
      have hm8 : m < 8 := by omega
      have hX' : (X + (-1)).toInt = (m : Int) - 1 := by rw [ti_dec (by omega), hX]; omega
      rw [if_neg (fun hq => by have := ti_lt.mp hq; omega)]
      generalize hY : X + (-1) = Y at hX' ⊢
      rw [hXn, ixk0 hm8]
      by_cases ch : F_X7_has s (nI m) = 0
      · rw [if_pos ch]
        have hma : ¬ m = a := fun e => has_ (by rw [← e]; exact ch)
        have hmb : ¬ m = b := fun e => hbs (by rw [← e]; exact ch)
        obtain ⟨q1, q2⟩ := ih m Y x4 x3 (by omega) (by omega) hX' (fun h1 h2 => i1 (by omega) (by omega)) (fun h1 => i2 (by omega))
        refine ⟨fun h => q1 (fun i hi => h i (by omega)), fun i hi h3 => ?_⟩
        by_cases e : i = m
        · subst e; exact absurd (fun hh => absurd ch hh) h3
        · exact q2 i (by omega) h3
      · rw [if_neg ch]
        by_cases hok : okM told c s m
        · obtain ⟨o1, o2⟩ := hok ch
          rw [if_neg o1, if_pos o2]
          obtain ⟨q1, q2⟩ := ih m Y x3 (nI m) (by omega) (by omega) hX' (fun h1 h2 => by
            by_cases e : m = b
            · rw [e]
            · exact absurd (hno m (by omega) (by omega)) ch) (fun h1 => by
            by_cases e : m = a
            · exact ⟨i1 (by omega) (by omega), by rw [e]⟩
            · exact absurd (hno m (by omega) e) ch)
          refine ⟨fun h => q1 (fun i hi => h i (by omega)), fun i hi h3 => ?_⟩
          by_cases e : i = m
          · subst e; exact absurd hok h3
          · exact q2 i (by omega) h3
        · have key : (if F_X7_isExact told c (nI m) = 0 then ((-3 : Int32), mAt, mSt) else if c (6 * m) = 0 then F_X7_again_41 told c mAt mSt s x2 f Y x3 (nI m) else (-3, mAt, mSt)) = (-3, mAt, mSt) := by
            by_cases o1 : F_X7_isExact told c (nI m) = 0
            · rw [if_pos o1]
            · rw [if_neg o1]
              by_cases o2 : c (6 * m) = 0
              · exact absurd (fun _ => ⟨o1, o2⟩) hok
              · rw [if_neg o2]
          rw [key]
          exact ⟨fun h => absurd (h m (Nat.lt_succ_self _)) hok, fun _ _ _ => rfl⟩
theorem q_again (h : HR ck nm nc nt nd told rd c noted note) (x1 x2 mAt mSt : Int32) : F_X6_again ck x1 x2 = (F_X7_again told c mAt mSt x1 x2).1 := by
  have z0 : (0 : Int32).toInt = 0 := rfl
  have z2 : (2 : Int32).toInt = 2 := rfl
  have z9 : (9999999 : Int32).toInt = 9999999 := rfl
  unfold F_X6_again F_X7_again F_X6_canMeet
  rw [bel256]
  by_cases c1 : F_X7_in x1 0 255 = 0
  · rw [if_pos c1, if_pos rfl, if_pos c1]
  rw [if_neg c1, if_neg c1]
  obtain ⟨s0, s1⟩ := X7_in_in c1
  have s0 : 0 ≤ x1.toInt := s0
  have s1 : x1.toInt ≤ 255 := s1
  rw [bits_of s0 s1]
  by_cases c2 : F_X7_bits x1 < 2
  · rw [if_neg (show ¬ (2 : Int32) ≤ F_X7_bits x1 from fun hq => by have := ti_le.mp hq; have := ti_lt.mp c2; omega), if_pos rfl, if_pos c2]
  have c2' : (2 : Int32) ≤ F_X7_bits x1 := ti_le.mpr (by have := ti_nlt c2; omega)
  rw [if_pos c2', if_neg c2]
  by_cases c3 : F_X7_in x2 0 9999999 = 0
  · rw [if_pos c3]
    rw [in_spec] at c3
    by_cases k1 : x2 < 0
    · rw [if_pos k1]
      by_cases k0 : F_X6_canMeet_22 ck x1 9 0 = 0
      · rw [if_pos k0]
      · rw [if_neg k0]
    · rw [if_neg k1]
      have k1' := ti_nlt k1
      have k2 : ¬ x2 ≤ 9999999 := fun hq => by
        have := ti_le.mp hq
        rw [if_pos (show (0 : Int32).toInt ≤ x2.toInt ∧ x2.toInt ≤ (9999999 : Int32).toInt by omega)] at c3
        exact one0 c3
      rw [if_neg k2]
      by_cases k0 : F_X6_canMeet_22 ck x1 9 0 = 0
      · rw [if_pos k0]
      · rw [if_neg k0]
  rw [if_neg c3]
  obtain ⟨t0, t1⟩ := X7_in_in c3
  have t0 : 0 ≤ x2.toInt := t0
  have t1 : x2.toInt ≤ 9999999 := t1
  rw [if_neg (show ¬ x2 < 0 from fun hq => by have := ti_lt.mp hq; omega), if_pos (show x2 ≤ 9999999 from ti_le.mpr (by omega))]
  obtain ⟨a, b, hab, hb, ha1, hb1, hno⟩ := two_of s0 s1 c2
  obtain ⟨p1, p2⟩ := can22 (ck := ck) s0 s1 9 0 (by decide) (by decide)
  obtain ⟨m1, m2⟩ := m41 (told := told) (c := c) (x2 := x2) (mAt := mAt) (mSt := mSt) hab hb ha1 hb1 hno 9 8 7 (-1) (-1) (by decide) (by decide) (by decide) (fun h1 h2 => by omega) (fun h1 => by omega)
  rw [iz] at p1 p2
  by_cases hall : ∀ i, i < 8 → okM told c x1 i
  · rw [p1 (fun i _ hi => (ok_iff h hi).mpr (hall i hi)), if_neg one0, m1 hall]
    have hck : ∀ i, i < 8 → ¬ F_X7_has x1 (nI i) = 0 → ¬ ck i 0 = -1 ∧ c (6 * i) = 0 := fun i hi hh => by
      have := (ok_iff h hi).mpr (hall i hi) hh
      exact ⟨tld_told hi this.1, (hall i hi hh).2⟩
    have hrt : ∀ i, i < 8 → ¬ F_X7_has x1 (nI i) = 0 → -120 ≤ (c (6 * i + 3)).toInt ∧ (c (6 * i + 3)).toInt ≤ 120 := fun i hi hh => by
      obtain ⟨-, -, -, ⟨-, u1⟩, -, u2⟩ := h.2.2.1 i hi
      exact ⟨(u2 (by rw [(hck i hi hh).2]; decide)).1, u1⟩
    have hM : CM c x1 (fun i => (F_X7_hand c (nI i) 0 (c (6 * i + 3))).toInt) (fun i => (c (6 * i + 3)).toInt) := fun i hi hh => by
      obtain ⟨u1, u2⟩ := hrt i hi hh
      obtain ⟨-, v1, v2⟩ := hand_int h.2.2.1 hi (t := 0) (r := c (6 * i + 3)) (by decide) (by decide) (by omega) (by omega)
      exact ⟨⟨rfl, by show -10000000 ≤ (F_X7_hand c (nI i) 0 (c (6 * i + 3))).toInt; omega, by show (F_X7_hand c (nI i) 0 (c (6 * i + 3))).toInt ≤ 10000000; omega⟩, rfl, u1, u2⟩
    have hC : CA ck x1 (fun i => (F_X7_hand c (nI i) 0 (c (6 * i + 3))).toInt) (fun i => (c (6 * i + 3)).toInt) := fun i hi hh => by
      have hok := (ok_iff h hi).mpr (hall i hi) hh
      have hn := (hck i hi hh).1
      have hcr := h.2.2.2.1 i hi
      obtain ⟨e0, e2, eS, eG⟩ := hcr.2.2.2 hn
      obtain ⟨g1, g3, g4⟩ := eG (by rw [(hck i hi hh).2]; decide)
      obtain ⟨w1, w2⟩ := hM i hi hh
      refine ⟨hok.1, ⟨?_, w1.2⟩, ?_, w2.2⟩
      · rw [hcr.hand3 hi hn]
      · rw [g3]
    have R1 := ca_none s0 s1 t0 t1 hC (show a < 8 by omega) ha1 (fun i hi => hno i (by omega) (by omega)) 9 0 (Nat.zero_le _) (by decide)
    rw [iz] at R1
    exact R1.uniq (m_first hM hab hb ha1 hb1 hno t0 t1)
  · obtain ⟨i, hi⟩ := Classical.not_forall.mp hall
    obtain ⟨hi8, hn⟩ := Classical.not_imp.mp hi
    rw [p2 i (Nat.zero_le _) hi8 (mt (ok_iff h hi8).mp hn), if_pos rfl, m2 i hi8 hn]
end HRs
