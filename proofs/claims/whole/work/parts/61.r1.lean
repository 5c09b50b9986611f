theorem ixk {k j : Nat} (hk : k < 8) (hj : j < 6) : (6 * nI k + nI j).toNatClampNeg = 6 * k + j := by
  have e := ix_c (k := nI k) (c := nI j) j (by rw [nI_toInt (by omega)]; omega) (by rw [nI_toInt (by omega)]; omega) (by rw [nI_toInt (by omega)]) hj
  rw [nI_tn (by omega)] at e
  exact e
theorem ixk0 {k : Nat} (hk : k < 8) : (6 * nI k).toNatClampNeg = 6 * k := by
  have e := ix_0 (k := nI k) (by rw [nI_toInt (by omega)]; omega) (by rw [nI_toInt (by omega)]; omega)
  rw [nI_tn (by omega)] at e
  exact e
theorem ixk1 {k : Nat} (hk : k < 8) : (6 * nI k + 1).toNatClampNeg = 6 * k + 1 := ixk (j := 1) hk (by decide)
theorem ixk2 {k : Nat} (hk : k < 8) : (6 * nI k + 2).toNatClampNeg = 6 * k + 2 := ixk (j := 2) hk (by decide)
theorem ixk3 {k : Nat} (hk : k < 8) : (6 * nI k + 3).toNatClampNeg = 6 * k + 3 := ixk (j := 3) hk (by decide)
theorem ixk4 {k : Nat} (hk : k < 8) : (6 * nI k + 4).toNatClampNeg = 6 * k + 4 := ixk (j := 4) hk (by decide)
theorem ixk5 {k : Nat} (hk : k < 8) : (6 * nI k + 5).toNatClampNeg = 6 * k + 5 := ixk (j := 5) hk (by decide)
/-- one clock in both -/
def CR (ck : Nat → Nat → Int32) (told rd : Int32) (c : Nat → Int32) (k : Nat) : Prop :=
  (F_X7_has told (nI k) = 0 ↔ ck k 0 = -1) ∧ (F_X7_has rd (nI k) = 0 ↔ ck k 5 = -1) ∧
  (¬ ck k 5 = -1 → ¬ ck k 0 = -1 ∧ c (6 * k + 5) = ck k 5 ∧ 0 ≤ (ck k 5).toInt ∧ (ck k 5).toInt < 720) ∧
  (¬ ck k 0 = -1 → ck k 0 = c (6 * k) ∧ ck k 2 = c (6 * k + 2) ∧ (c (6 * k) = 2 → ck k 1 = 0 ∧ ck k 3 = 0 ∧ ck k 4 = 0 ∧ c (6 * k + 3) = -1440 ∧ c (6 * k + 4) = -1440) ∧ (¬ c (6 * k) = 2 → ck k 1 = c (6 * k + 1) ∧ ck k 3 = c (6 * k + 3) ∧ ck k 4 = c (6 * k + 4)))
/-- the notes in both -/
def NR (nm : Int32) (nc nt nd : Nat → Int32) (noted : Int32) (note : Nat → Int32) : Prop :=
  nm = noted ∧ 0 ≤ noted.toInt ∧ noted.toInt ≤ 12 ∧ ∀ i : Nat, (i : Int) < noted.toInt → (nc i = note (3 * i) ∧ nt i = note (3 * i + 1) ∧ nd i = note (3 * i + 2)) ∧ (0 ≤ (note (3 * i)).toInt ∧ (note (3 * i)).toInt < 8) ∧ (0 ≤ (note (3 * i + 1)).toInt ∧ (note (3 * i + 1)).toInt < 4320) ∧ (0 ≤ (note (3 * i + 2)).toInt ∧ (note (3 * i + 2)).toInt < 720)
/-- a house in both -/
def HR (ck : Nat → Nat → Int32) (nm : Int32) (nc nt nd : Nat → Int32) (told rd : Int32) (c : Nat → Int32) (noted : Int32) (note : Nat → Int32) : Prop :=
  (0 ≤ told.toInt ∧ told.toInt ≤ 255) ∧ (0 ≤ rd.toInt ∧ rd.toInt ≤ 255) ∧ CkR c ∧ (∀ k, k < 8 → CR ck told rd c k) ∧ NR nm nc nt nd noted note
theorem ti_cadd (c a : Int32) (n : Int) (hc : c.toInt = n) (h1 : -2147483648 ≤ n + a.toInt) (h2 : n + a.toInt < 2147483648) : (c + a).toInt = n + a.toInt := by
  subst hc; exact ti_add h1 h2
theorem floorDiv_toInt {a b : Int32} (hb : 0 < b.toInt) : (F_J9_floorDiv_7cf53 a b).toInt = a.toInt / b.toInt := by
  have hne : ¬ b = 0 := ne_of_pos hb
  have e0 : (0 : Int32).toInt = 0 := rfl
  have e1 : (1 : Int32).toInt = 1 := rfl
  have h1 := Int32.le_toInt a
  have h2 := Int32.toInt_lt a
  have h3 := Int32.toInt_lt b
  obtain ⟨g1, g2⟩ := tdiv_le a.toInt b.toInt
  have key : a.toInt.tmod b.toInt = a.toInt - a.toInt.tdiv b.toInt * b.toInt := by rw [Int.tmod_def, Int.mul_comm]
  have hl := Int.tmod_lt_of_pos a.toInt hb
  have hg : -b.toInt < a.toInt.tmod b.toInt := by
    have := Int.natAbs_tmod a.toInt b.toInt
    have h3 : (a.toInt.tmod b.toInt).natAbs < b.toInt.natAbs := by rw [this]; exact Nat.mod_lt _ (by omega)
    omega
  have hs : 0 ≤ a.toInt → 0 ≤ a.toInt.tmod b.toInt := fun h => Int.tmod_nonneg _ h
  have hs2 : ¬ 0 ≤ a.toInt → a.toInt.tmod b.toInt ≤ 0 := fun h => by
    have h := Int.tmod_nonneg b.toInt (show 0 ≤ -a.toInt by omega)
    rw [Int.neg_tmod] at h
    omega
  have hq : (a / b).toInt = a.toInt.tdiv b.toInt := by
    rw [Int32.toInt_div]
    refine Int.bmod_eq_of_le (by omega) ?_
    by_cases h0 : 0 ≤ a.toInt
    · omega
    · have h4 : a.toInt.tdiv b.toInt ≤ 0 := by
        rw [Int.tdiv_eq_ediv]
        have h5 : a.toInt / b.toInt < 0 := Int.ediv_neg_of_neg_of_pos (by omega) hb
        have h6 : b.toInt.sign = 1 := Int.sign_eq_one_of_pos hb
        split <;> omega
      omega
  have hp : ((a / b) * b).toInt = a.toInt.tdiv b.toInt * b.toInt := by
    rw [ti_mul (by rw [hq]; by_cases h0 : 0 ≤ a.toInt
                   · have := hs h0; omega
                   · have := hs2 h0; omega) (by rw [hq]; by_cases h0 : 0 ≤ a.toInt
                                                · have := hs h0; omega
                                                · have := hs2 h0; omega), hq]
  unfold F_J9_floorDiv_7cf53
  split
  · rename_i h
    have h := (bits32 a b).mp (by have := ti_le.mp h; rw [e0] at this; exact this)
    have ha := h.mpr (Int.le_of_lt hb)
    rw [hq, Int.tdiv_eq_ediv_of_nonneg ha]
  · rename_i h
    have h : ¬ 0 ≤ a.toInt := fun ha => h (ti_le.mpr (by rw [e0]; exact (bits32 a b).mpr ⟨fun _ => Int.le_of_lt hb, fun _ => ha⟩))
    split
    · rename_i hz
      have hz : a.toInt.tdiv b.toInt * b.toInt = a.toInt := by rw [← hp, hz]
      rw [hq, Int.tdiv_eq_ediv_of_dvd ⟨a.toInt.tdiv b.toInt, by rw [Int.mul_comm]; exact hz.symm⟩]
    · rename_i hz
      have hz : ¬ a.toInt.tdiv b.toInt * b.toInt = a.toInt := by rw [← hp]; exact ti_ne hz
      have hd : ¬ b.toInt ∣ a.toInt := fun hd => hz (Int.tdiv_mul_cancel hd)
      have h6 : b.toInt.sign = 1 := Int.sign_eq_one_of_pos hb
      have he : a.toInt.tdiv b.toInt = a.toInt / b.toInt + 1 := by
        rw [Int.tdiv_eq_ediv, if_neg (by intro hc; rcases hc with hc | hc; exact h hc; exact hd hc), h6]
      have hlow : -2147483648 ≤ a.toInt / b.toInt := by
        have h7 : a.toInt * 1 ≥ a.toInt * b.toInt := by
          have := Int.mul_le_mul_of_nonpos_left (a := a.toInt) (b := b.toInt) (c := 1) (by omega) (by omega)
          omega
        have h8 : a.toInt ≤ a.toInt / b.toInt := (Int.le_ediv_iff_mul_le hb).mpr (by omega)
        omega
      rw [ti_sub (by rw [hq, he, e1]; omega) (by rw [hq, he, e1]; omega), hq, he, e1]
      omega
theorem down_toInt {v : Int32} (hv : -1000000000 ≤ v.toInt) : (F_X7_down v 1440).toInt = v.toInt / 1440 := by
  have e : (1440 : Int32).toInt = 1440 := rfl
  have h2 := Int32.toInt_lt v
  have er := rest_toInt (v := v) (b := 1440) (by decide)
  rw [e] at er
  have es := ti_sub (a := v) (b := F_X7_rest v 1440) (by rw [er]; omega) (by rw [er]; omega)
  rw [er] at es
  unfold F_X7_down
  rw [Int32.toInt_div, es, e, Int.tdiv_eq_ediv_of_dvd ⟨v.toInt / 1440, by omega⟩]
  rw [Int.bmod_eq_of_le (by omega) (by omega)]
  omega
theorem fd1440 {h : Int32} (hv : -1000000000 ≤ h.toInt) : F_J9_floorDiv_7cf53 h 1440 = F_X7_down h 1440 :=
  Int32.toInt_inj.mp (by rw [down_toInt hv, floorDiv_toInt (by decide)]; rfl)
theorem fm720 (x : Int32) : F_J9_floorMod_7cf53 x 720 = F_X7_rest x 720 := Int32.toInt_inj.mp (by rw [rest_toInt (by decide), floorMod_toInt (by decide)])
theorem fmround (x : Int32) : F_J9_floorMod_7cf53 x 1036800 = F_X7_rest x 1036800 := Int32.toInt_inj.mp (by rw [rest_toInt (by decide), floorMod_toInt (by decide)])
theorem fm1440 (x : Int32) : F_J9_floorMod_7cf53 x 1440 = F_X7_rest x 1440 := Int32.toInt_inj.mp (by rw [rest_toInt (by decide), floorMod_toInt (by decide)])
def csh (h1 h2 m : Int32) : Int32 := if (F_J9_floorDiv_7cf53 (F_J9_max_7cf53 h1 h2) 1440 - F_J9_floorDiv_7cf53 (F_J9_min_7cf53 h1 h2) 1440) < F_J9_floorMod_7cf53 (m - F_J9_floorDiv_7cf53 (F_J9_min_7cf53 h1 h2) 1440) 720 then 0 else 1
theorem canShow_csh (k s d lo hi t m : Int32) : F_X0_canShow k s d lo hi t m = csh (F_X0_handAt k s d t lo) (F_X0_handAt k s d t hi) m := rfl
theorem between_eq {h1 h2 m : Int32} (r1 : -1000000000 ≤ h1.toInt) (r2 : -1000000000 ≤ h2.toInt) : csh h1 h2 m = F_X7_isBetween h1 h2 m := by
  unfold csh F_X7_isBetween
  by_cases h : h2 ≤ h1
  · have emax : F_J9_max_7cf53 h1 h2 = h1 := by
      unfold F_J9_max_7cf53
      rw [if_neg (by rw [Int32.not_lt]; exact h)]
    have emin : F_J9_min_7cf53 h1 h2 = h2 := by
      unfold F_J9_min_7cf53
      by_cases h3 : h2 < h1
      · rw [if_pos h3]
      · rw [if_neg h3]; exact Int32.le_antisymm (Int32.not_lt.mp h3) h
    rw [if_pos h, emax, emin, fd1440 r1, fd1440 r2, fm720]
    unfold F_X7_isBetween_10
    rw [if_pos h]
    rfl
  · have hlt : h1 < h2 := Int32.not_le.mp h
    have emax : F_J9_max_7cf53 h1 h2 = h2 := by
      unfold F_J9_max_7cf53
      rw [if_pos hlt]
    have emin : F_J9_min_7cf53 h1 h2 = h1 := by
      unfold F_J9_min_7cf53
      rw [if_neg (by rw [Int32.not_lt]; exact Int32.le_of_lt hlt)]
    rw [if_neg h, emax, emin, fd1440 r1, fd1440 r2, fm720]
    unfold F_X7_isBetween_10
    rw [if_neg h]
    rfl
section HRs
variable {ck : Nat → Nat → Int32} {nm : Int32} {nc nt nd : Nat → Int32} {told rd : Int32} {c : Nat → Int32} {noted : Int32} {note : Nat → Int32}
theorem HR.tob (h : HR ck nm nc nt nd told rd c noted note) : F_X1_toldBits ck = told := by
  rw [toldBits_orf, ← orf_of h.1.1 h.1.2]
  refine orf_congr (fun k hk => ?_)
  by_cases hc : ck k 0 = -1
  · rw [if_pos hc, if_pos ((h.2.2.2.1 k hk).1.mpr hc)]
  · rw [if_neg hc, if_neg (fun e => hc ((h.2.2.2.1 k hk).1.mp e))]
theorem HR.rdb (h : HR ck nm nc nt nd told rd c noted note) : F_X1_readBits ck = rd := by
  rw [readBits_orf, ← orf_of h.2.1.1 h.2.1.2]
  refine orf_congr (fun k hk => ?_)
  by_cases hc : ck k 5 = -1
  · rw [if_pos hc, if_pos ((h.2.2.2.1 k hk).2.1.mpr hc)]
  · rw [if_neg hc, if_neg (fun e => hc ((h.2.2.2.1 k hk).2.1.mp e))]
theorem of_in8 {x : Int32} (h : ¬ F_X7_in x 0 7 = 0) : ∃ k : Nat, k < 8 ∧ x = nI k := by
  obtain ⟨h0, h1⟩ : (0 : Int) ≤ x.toInt ∧ x.toInt ≤ 7 := X7_in_in h
  exact ⟨x.toInt.toNat, by omega, (iN_of h0).symm⟩
theorem HR.tl (h : HR ck nm nc nt nd told rd c noted note) (x : Int32) : tld ck x = F_X7_isClock told x := by
  unfold tld F_X7_isClock
  rw [bel8]
  by_cases hi : F_X7_in x 0 7 = 0
  · rw [if_pos hi, if_pos hi]
  · rw [if_neg hi, if_neg hi]
    obtain ⟨k, hk, rfl⟩ := of_in8 hi
    rw [nI_tn (by omega)]
    by_cases hc : ck k 0 = -1
    · rw [if_pos hc, if_pos ((h.2.2.2.1 k hk).1.mpr hc)]
    · rw [if_neg hc, if_neg (fun e => hc ((h.2.2.2.1 k hk).1.mp e))]
theorem HR.at (h : HR ck nm nc nt nd told rd c noted note) {x : Int32} (hx : ¬ F_X7_isClock told x = 0) : ∃ k : Nat, k < 8 ∧ x = nI k ∧ ¬ ck k 0 = -1 := by
  unfold F_X7_isClock at hx
  by_cases hi : F_X7_in x 0 7 = 0
  · rw [if_pos hi] at hx; exact absurd rfl hx
  · rw [if_neg hi] at hx
    obtain ⟨k, hk, rfl⟩ := of_in8 hi
    refine ⟨k, hk, rfl, fun e => ?_⟩
    rw [if_pos ((h.2.2.2.1 k hk).1.mpr e)] at hx
    exact hx rfl
theorem prod_bd {a b A B : Int} (h1 : -A ≤ a) (h2 : a ≤ A) (h3 : 0 ≤ b) (h4 : b ≤ B) : -(A * B) ≤ a * b ∧ a * b ≤ A * B := by
  have hA : 0 ≤ A := by omega
  have g1 := Int.mul_le_mul_of_nonneg_right h2 h3
  have g2 := Int.mul_le_mul_of_nonneg_right h1 h3
  have g3 := Int.mul_le_mul_of_nonneg_left h4 hA
  rw [Int.neg_mul] at g2
  omega
theorem hand_nI {k : Nat} (hk : k < 8) (t r : Int32) : F_X7_hand c (nI k) t r = if c (6 * k) = 1 then 1440 * c (6 * k + 2) + -((t - c (6 * k + 1)) * (1440 + r)) else 1440 * c (6 * k + 2) + (t - c (6 * k + 1)) * (1440 + r) := by
  unfold F_X7_hand
  rw [ixk0 hk, ixk1 hk, ixk2 hk]
/-- where a hand is, in whole numbers -/
theorem hand_int (hc : CkR c) {k : Nat} (hk : k < 8) {t r : Int32} (t0 : 0 ≤ t.toInt) (t1 : t.toInt ≤ 4320) (r0 : -1440 ≤ r.toInt) (r1 : r.toInt ≤ 120) : (F_X7_hand c (nI k) t r).toInt = 1440 * (c (6 * k + 2)).toInt + (if c (6 * k) = 1 then -((t.toInt - (c (6 * k + 1)).toInt) * (1440 + r.toInt)) else (t.toInt - (c (6 * k + 1)).toInt) * (1440 + r.toInt)) ∧ -9000000 ≤ (F_X7_hand c (nI k) t r).toInt ∧ (F_X7_hand c (nI k) t r).toInt ≤ 9000000 := by
  obtain ⟨-, ⟨s0, s1⟩, ⟨d0, d1⟩, -⟩ := hc k hk
  obtain ⟨p0, p1⟩ := prod_bd (a := t.toInt - (c (6 * k + 1)).toInt) (b := 1440 + r.toInt) (A := 4320) (B := 1560) (by omega) (by omega) (by omega) (by omega)
  have e1 := ti_sub (a := t) (b := c (6 * k + 1)) (by omega) (by omega)
  have e2 := ti_cadd 1440 r 1440 rfl (by omega) (by omega)
  have e3 := ti_mul (a := t - c (6 * k + 1)) (b := 1440 + r) (by rw [e1, e2]; omega) (by rw [e1, e2]; omega)
  rw [e1, e2] at e3
  have e4 := ti_mulc (c (6 * k + 2)) 1440 1440 rfl (by omega) (by omega)
  have e5 := ti_neg (a := (t - c (6 * k + 1)) * (1440 + r)) (by rw [e3]; omega)
  rw [e3] at e5
  rw [hand_nI hk]
  by_cases h1 : c (6 * k) = 1
  · rw [if_pos h1, if_pos h1]
    have e6 := ti_add (a := 1440 * c (6 * k + 2)) (b := -((t - c (6 * k + 1)) * (1440 + r))) (by rw [e4, e5]; omega) (by rw [e4, e5]; omega)
    rw [e4, e5] at e6
    rw [e6]
    exact ⟨rfl, by omega, by omega⟩
  · rw [if_neg h1, if_neg h1]
    have e6 := ti_add (a := 1440 * c (6 * k + 2)) (b := (t - c (6 * k + 1)) * (1440 + r)) (by rw [e4, e3]; omega) (by rw [e4, e3]; omega)
    rw [e4, e3] at e6
    rw [e6]
    exact ⟨rfl, by omega, by omega⟩
theorem CR.kind {k : Nat} (h : CR ck told rd c k) (ht : ¬ ck k 0 = -1) : ck k 0 = c (6 * k) := (h.2.2.2 ht).1
theorem CR.hand {k : Nat} (h : CR ck told rd c k) (hk : k < 8) (ht : ¬ ck k 0 = -1) (h2 : ¬ c (6 * k) = 2) (t r : Int32) : F_X0_handAt (ck k 0) (ck k 1) (ck k 2) t r = F_X7_hand c (nI k) t r := by
  obtain ⟨e0, e2, -, hn⟩ := h.2.2.2 ht
  obtain ⟨e1, -, -⟩ := hn h2
  rw [hand_nI hk]
  unfold F_X0_handAt F_X0_way
  rw [e0, e1, e2, if_neg h2, Int32.mul_comm (c (6 * k + 2)) 1440]
  split <;> rfl
theorem CR.handS {k : Nat} (h : CR ck told rd c k) (hk : k < 8) (ht : ¬ ck k 0 = -1) (h2 : c (6 * k) = 2) (t r : Int32) : F_X0_handAt (ck k 0) (ck k 1) (ck k 2) t r = 1440 * c (6 * k + 2) ∧ F_X7_hand c (nI k) t (-1440) = 1440 * c (6 * k + 2) := by
  obtain ⟨e0, e2, -, -⟩ := h.2.2.2 ht
  constructor
  · unfold F_X0_handAt F_X0_way
    rw [e0, e2, if_pos h2, Int32.add_zero, Int32.mul_comm]
  · rw [hand_nI hk, if_neg (by rw [h2]; decide)]
    have e : (1440 : Int32) + (-1440) = 0 := by decide
    rw [e, Int32.mul_zero, Int32.add_zero]
theorem CR.hand3 {k : Nat} (h : CR ck told rd c k) (hk : k < 8) (ht : ¬ ck k 0 = -1) (t : Int32) : F_X0_handAt (ck k 0) (ck k 1) (ck k 2) t (ck k 3) = F_X7_hand c (nI k) t (c (6 * k + 3)) := by
  by_cases h2 : c (6 * k) = 2
  · obtain ⟨-, -, hs, -⟩ := h.2.2.2 ht
    obtain ⟨a, b⟩ := h.handS hk ht h2 t (ck k 3)
    rw [a, (hs h2).2.2.2.1, b]
  · rw [h.hand hk ht h2, ((h.2.2.2 ht).2.2.2 h2).2.1]
theorem CR.hand4 {k : Nat} (h : CR ck told rd c k) (hk : k < 8) (ht : ¬ ck k 0 = -1) (t : Int32) : F_X0_handAt (ck k 0) (ck k 1) (ck k 2) t (ck k 4) = F_X7_hand c (nI k) t (c (6 * k + 4)) := by
  by_cases h2 : c (6 * k) = 2
  · obtain ⟨-, -, hs, -⟩ := h.2.2.2 ht
    obtain ⟨a, b⟩ := h.handS hk ht h2 t (ck k 4)
    rw [a, (hs h2).2.2.2.2, b]
  · rw [h.hand hk ht h2, ((h.2.2.2 ht).2.2.2 h2).2.2]
theorem HR.dial (h : HR ck nm nc nt nd told rd c noted note) {k : Nat} (hk : k < 8) (ht : ¬ ck k 0 = -1) {t : Int32} (t0 : 0 ≤ t.toInt) (t1 : t.toInt ≤ 4320) : F_X0_dialAt (ck k 0) (ck k 1) (ck k 2) t (ck k 3) = F_X7_rest (F_X7_down (F_X7_hand c (nI k) t (c (6 * k + 3))) 1440) 720 ∧ F_X0_dialAt (ck k 0) (ck k 1) (ck k 2) t (ck k 4) = F_X7_rest (F_X7_down (F_X7_hand c (nI k) t (c (6 * k + 4))) 1440) 720 := by
  have hc := h.2.2.1
  obtain ⟨-, -, -, ⟨a0, a1⟩, ⟨b0, b1⟩, -⟩ := hc k hk
  have r3 := hand_int hc hk t0 t1 a0 a1
  have r4 := hand_int hc hk t0 t1 b0 b1
  unfold F_X0_dialAt
  rw [(h.2.2.2.1 k hk).hand3 hk ht, (h.2.2.2.1 k hk).hand4 hk ht, fm720, fm720, fd1440 (by omega), fd1440 (by omega)]
  exact ⟨rfl, rfl⟩
theorem HR.csh (h : HR ck nm nc nt nd told rd c noted note) {k : Nat} (hk : k < 8) (ht : ¬ ck k 0 = -1) {t : Int32} (m : Int32) (t0 : 0 ≤ t.toInt) (t1 : t.toInt ≤ 4320) : F_X0_canShow (ck k 0) (ck k 1) (ck k 2) (ck k 3) (ck k 4) t m = F_X7_canShow c (nI k) t m := by
  have hc := h.2.2.1
  obtain ⟨-, -, -, ⟨a0, a1⟩, ⟨b0, b1⟩, -⟩ := hc k hk
  have r3 := hand_int hc hk t0 t1 a0 a1
  have r4 := hand_int hc hk t0 t1 b0 b1
  rw [canShow_csh, (h.2.2.2.1 k hk).hand3 hk ht, (h.2.2.2.1 k hk).hand4 hk ht, between_eq (by omega) (by omega)]
  unfold F_X7_canShow
  rw [ixk3 hk, ixk4 hk]
end HRs
