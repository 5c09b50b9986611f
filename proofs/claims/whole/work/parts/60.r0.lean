/-! the relation of states, and what is alike in small: tests, bits, hands -/
theorem bel_spec (x n : Int32) : F_X6_isBelow x n = if 0 ≤ x.toInt ∧ x.toInt < n.toInt then 1 else 0 := by
  have e0 : (0 : Int32).toInt = 0 := rfl
  unfold F_X6_isBelow
  by_cases h : x < 0
  · rw [if_pos h, if_neg]
    have := ti_lt.mp h
    omega
  · have h1 := ti_nlt h
    rw [if_neg h]
    by_cases h2 : n ≤ x
    · rw [if_pos h2, if_neg]
      have := ti_le.mp h2
      omega
    · rw [if_neg h2, if_pos]
      have := ti_nle h2
      omega
theorem in_spec (x a b : Int32) : F_X7_in x a b = if a.toInt ≤ x.toInt ∧ x.toInt ≤ b.toInt then 1 else 0 := by
  unfold F_X7_in
  by_cases h : x < a
  · rw [if_pos h, if_neg]
    have := ti_lt.mp h
    omega
  · have h1 := ti_nlt h
    rw [if_neg h]
    by_cases h2 : b < x
    · rw [if_pos h2, if_neg]
      have := ti_lt.mp h2
      omega
    · rw [if_neg h2, if_pos]
      have := ti_nlt h2
      omega
theorem bel_in {x n b : Int32} (h : n.toInt = b.toInt + 1) : F_X6_isBelow x n = F_X7_in x 0 b := by
  have e0 : (0 : Int32).toInt = 0 := rfl
  rw [bel_spec, in_spec]
  by_cases hc : 0 ≤ x.toInt ∧ x.toInt < n.toInt
  · rw [if_pos hc, if_pos (by omega)]
  · rw [if_neg hc, if_neg (by omega)]
theorem bel2 (x : Int32) : F_X6_isBelow x 2 = F_X7_in x 0 1 := bel_in (by decide)
theorem bel3 (x : Int32) : F_X6_isBelow x 3 = F_X7_in x 0 2 := bel_in (by decide)
theorem bel4 (x : Int32) : F_X6_isBelow x 4 = F_X7_in x 0 3 := bel_in (by decide)
theorem bel8 (x : Int32) : F_X6_isBelow x 8 = F_X7_in x 0 7 := bel_in (by decide)
theorem bel256 (x : Int32) : F_X6_isBelow x 256 = F_X7_in x 0 255 := bel_in (by decide)
theorem bel720 (x : Int32) : F_X6_isBelow x 720 = F_X7_in x 0 719 := bel_in (by decide)
theorem bel4320 (x : Int32) : F_X6_isBelow x 4320 = F_X7_isMinute x := by unfold F_X7_isMinute; exact bel_in (by decide)
theorem bel_lt {x n : Int32} (h : ¬ F_X6_isBelow x n = 0) : 0 ≤ x.toInt ∧ x.toInt < n.toInt := by
  rw [bel_spec] at h
  by_cases hc : 0 ≤ x.toInt ∧ x.toInt < n.toInt
  · exact hc
  · rw [if_neg hc] at h; exact absurd rfl h
-- eight bits
def orf (g : Nat → Int32) : Int32 := 0 ||| g 0 ||| g 1 ||| g 2 ||| g 3 ||| g 4 ||| g 5 ||| g 6 ||| g 7
theorem orf_congr {f g : Nat → Int32} (h : ∀ k, k < 8 → f k = g k) : orf f = orf g := by
  unfold orf
  rw [h 0 (by decide), h 1 (by decide), h 2 (by decide), h 3 (by decide), h 4 (by decide), h 5 (by decide), h 6 (by decide), h 7 (by decide)]
def bk (k : Nat) : Int32 := 1 <<< (nI k &&& 31)
theorem orf_self : ∀ n : Fin 256, orf (fun k => if F_X7_has (nI n.val) (nI k) = 0 then 0 else bk k) = nI n.val := by decide +kernel
theorem orf_of {s : Int32} (h0 : 0 ≤ s.toInt) (h1 : s.toInt ≤ 255) : orf (fun k => if F_X7_has s (nI k) = 0 then 0 else bk k) = s := by
  have e := iN_of h0
  have := orf_self ⟨s.toInt.toNat, by omega⟩
  simp only [e] at this
  exact this
theorem bits_cnt : ∀ n : Fin 256, F_J6_bitCount_0f7a4 (nI n.val) = F_X7_bits (nI n.val) := by decide +kernel
theorem bits_of {s : Int32} (h0 : 0 ≤ s.toInt) (h1 : s.toInt ≤ 255) : F_J6_bitCount_0f7a4 s = F_X7_bits s := by
  have e := iN_of h0
  have := bits_cnt ⟨s.toInt.toNat, by omega⟩
  simp only [e] at this
  exact this
theorem has_set : ∀ n : Fin 256, ∀ k : Fin 8, ∀ j : Fin 8, F_X7_has (nI n.val ||| bk k.val) (nI j.val) = if j = k then 1 else F_X7_has (nI n.val) (nI j.val) := by decide +kernel
theorem has_clr : ∀ n : Fin 256, ∀ k : Fin 8, ∀ j : Fin 8, F_X7_has (nI n.val &&& (bk k.val ^^^ (-1))) (nI j.val) = if j = k then 0 else F_X7_has (nI n.val) (nI j.val) := by decide +kernel
theorem rng_set : ∀ n : Fin 256, ∀ k : Fin 8, (0 ≤ (nI n.val ||| bk k.val).toInt ∧ (nI n.val ||| bk k.val).toInt ≤ 255) ∧ (0 ≤ (nI n.val &&& (bk k.val ^^^ (-1))).toInt ∧ (nI n.val &&& (bk k.val ^^^ (-1))).toInt ≤ 255) := by decide +kernel
theorem set_has {s : Int32} {k j : Nat} (h0 : 0 ≤ s.toInt) (h1 : s.toInt ≤ 255) (hk : k < 8) (hj : j < 8) : F_X7_has (s ||| bk k) (nI j) = if j = k then 1 else F_X7_has s (nI j) := by
  have e := iN_of h0
  have := has_set ⟨s.toInt.toNat, by omega⟩ ⟨k, hk⟩ ⟨j, hj⟩
  simp only [e, Fin.mk.injEq] at this
  exact this
theorem clr_has {s : Int32} {k j : Nat} (h0 : 0 ≤ s.toInt) (h1 : s.toInt ≤ 255) (hk : k < 8) (hj : j < 8) : F_X7_has (s &&& (bk k ^^^ (-1))) (nI j) = if j = k then 0 else F_X7_has s (nI j) := by
  have e := iN_of h0
  have := has_clr ⟨s.toInt.toNat, by omega⟩ ⟨k, hk⟩ ⟨j, hj⟩
  simp only [e, Fin.mk.injEq] at this
  exact this
theorem set_rng {s : Int32} {k : Nat} (h0 : 0 ≤ s.toInt) (h1 : s.toInt ≤ 255) (hk : k < 8) : (0 ≤ (s ||| bk k).toInt ∧ (s ||| bk k).toInt ≤ 255) ∧ (0 ≤ (s &&& (bk k ^^^ (-1))).toInt ∧ (s &&& (bk k ^^^ (-1))).toInt ≤ 255) := by
  have e := iN_of h0
  have := rng_set ⟨s.toInt.toNat, by omega⟩ ⟨k, hk⟩
  simp only [e] at this
  exact this
theorem has0 : ∀ k : Fin 8, F_X7_has 0 (nI k.val) = 0 := by decide +kernel
/-- three kinds of a clock: not read, read and not fitting, read and fitting -/
def o3 (a : Fin 3) (x : Fin 3) (k : Nat) : Int32 := if a = x then bk k else 0
def or1 (q0 q1 q2 q3 q4 q5 q6 q7 : Fin 3) : Int32 := 0 ||| o3 1 q0 0 ||| o3 1 q1 1 ||| o3 1 q2 2 ||| o3 1 q3 3 ||| o3 1 q4 4 ||| o3 1 q5 5 ||| o3 1 q6 6 ||| o3 1 q7 7
def or2 (q0 q1 q2 q3 q4 q5 q6 q7 : Fin 3) : Int32 := 0 ||| o3 2 q0 0 ||| o3 2 q1 1 ||| o3 2 q2 2 ||| o3 2 q3 3 ||| o3 2 q4 4 ||| o3 2 q5 5 ||| o3 2 q6 6 ||| o3 2 q7 7
def or3 (q0 q1 q2 q3 q4 q5 q6 q7 : Fin 3) : Int32 := 0 ||| (o3 1 q0 0 ||| o3 2 q0 0) ||| (o3 1 q1 1 ||| o3 2 q1 1) ||| (o3 1 q2 2 ||| o3 2 q2 2) ||| (o3 1 q3 3 ||| o3 2 q3 3) ||| (o3 1 q4 4 ||| o3 2 q4 4) ||| (o3 1 q5 5 ||| o3 2 q5 5) ||| (o3 1 q6 6 ||| o3 2 q6 6) ||| (o3 1 q7 7 ||| o3 2 q7 7)
theorem tri : ∀ q0 q1 q2 q3 q4 q5 q6 q7 : Fin 3, or1 q0 q1 q2 q3 q4 q5 q6 q7 = (or3 q0 q1 q2 q3 q4 q5 q6 q7 &&& (or2 q0 q1 q2 q3 q4 q5 q6 q7 ^^^ (-1))) ∧ or2 q0 q1 q2 q3 q4 q5 q6 q7 = (or3 q0 q1 q2 q3 q4 q5 q6 q7 &&& (or1 q0 q1 q2 q3 q4 q5 q6 q7 ^^^ (-1))) ∧ (or1 q0 q1 q2 q3 q4 q5 q6 q7 = 0 ↔ or2 q0 q1 q2 q3 q4 q5 q6 q7 = or3 q0 q1 q2 q3 q4 q5 q6 q7) ∧ 0 ≤ (or1 q0 q1 q2 q3 q4 q5 q6 q7).toInt ∧ (or1 q0 q1 q2 q3 q4 q5 q6 q7).toInt ≤ 255 := by decide +kernel
theorem tri_of (q : Nat → Fin 3) : orf (fun k => o3 1 (q k) k) = (orf (fun k => o3 1 (q k) k ||| o3 2 (q k) k) &&& (orf (fun k => o3 2 (q k) k) ^^^ (-1))) ∧ orf (fun k => o3 2 (q k) k) = (orf (fun k => o3 1 (q k) k ||| o3 2 (q k) k) &&& (orf (fun k => o3 1 (q k) k) ^^^ (-1))) ∧ (orf (fun k => o3 1 (q k) k) = 0 ↔ orf (fun k => o3 2 (q k) k) = orf (fun k => o3 1 (q k) k ||| o3 2 (q k) k)) ∧ 0 ≤ (orf (fun k => o3 1 (q k) k)).toInt ∧ (orf (fun k => o3 1 (q k) k)).toInt ≤ 255 := tri (q 0) (q 1) (q 2) (q 3) (q 4) (q 5) (q 6) (q 7)
-- loops of eight
theorem nI8 {k : Nat} (h : k < 8) : ¬ (8 : Int32) ≤ nI k := fun hc => by
  have := (iN_le (a := 8) (b := k) (by decide) (by omega)).mp hc
  omega
theorem le8 : (8 : Int32) ≤ nI 8 := by decide
theorem tb_step {ck : Nat → Nat → Int32} {n k : Nat} {a : Int32} (h : k < 8) : F_X1_toldBits_4 ck (n + 1) (nI k) a = F_X1_toldBits_4 ck n (nI (k + 1)) (a ||| (if ck k 0 = (-1) then 0 else bk k)) := by
  rw [F_X1_toldBits_4.eq_2, if_neg (nI8 h), nI_tn (by omega), nI_suc (by omega)]
  split <;> rfl
theorem toldBits_orf (ck : Nat → Nat → Int32) : F_X1_toldBits ck = orf (fun k => if ck k 0 = (-1) then 0 else bk k) := by
  show F_X1_toldBits_4 ck 9 (nI 0) 0 = _
  rw [tb_step (by decide), tb_step (by decide), tb_step (by decide), tb_step (by decide), tb_step (by decide), tb_step (by decide), tb_step (by decide), tb_step (by decide), F_X1_toldBits_4.eq_2, if_pos le8]
  rfl
theorem rb_step {ck : Nat → Nat → Int32} {n k : Nat} {a : Int32} (h : k < 8) : F_X1_readBits_4 ck (n + 1) (nI k) a = F_X1_readBits_4 ck n (nI (k + 1)) (a ||| (if ck k 5 = (-1) then 0 else bk k)) := by
  rw [F_X1_readBits_4.eq_2, if_neg (nI8 h), nI_tn (by omega), nI_suc (by omega)]
  split <;> rfl
theorem readBits_orf (ck : Nat → Nat → Int32) : F_X1_readBits ck = orf (fun k => if ck k 5 = (-1) then 0 else bk k) := by
  show F_X1_readBits_4 ck 9 (nI 0) 0 = _
  rw [rb_step (by decide), rb_step (by decide), rb_step (by decide), rb_step (by decide), rb_step (by decide), rb_step (by decide), rb_step (by decide), rb_step (by decide), F_X1_readBits_4.eq_2, if_pos le8]
  rfl
def cSh (ck : Nat → Nat → Int32) (t : Int32) (k : Nat) (m : Int32) : Int32 := F_X0_canShow (ck k 0) (ck k 1) (ck k 2) (ck k 3) (ck k 4) t m
theorem mf_step {ck : Nat → Nat → Int32} {t : Int32} {n k : Nat} {a : Int32} (h : k < 8) : F_X1_misfitsAt_4 ck t (n + 1) (nI k) a = F_X1_misfitsAt_4 ck t n (nI (k + 1)) (a ||| (if ck k 5 = (-1) then 0 else if cSh ck t k (ck k 5) = 0 then bk k else 0)) := by
  rw [F_X1_misfitsAt_4.eq_2, if_neg (nI8 h), nI_tn (by omega), nI_suc (by omega)]
  unfold cSh
  split
  · rw [Int32.or_zero]
  · split
    · rfl
    · rw [Int32.or_zero]
theorem misfits_orf (ck : Nat → Nat → Int32) (t : Int32) : F_X1_misfitsAt ck t = orf (fun k => if ck k 5 = (-1) then 0 else if cSh ck t k (ck k 5) = 0 then bk k else 0) := by
  show F_X1_misfitsAt_4 ck t 9 (nI 0) 0 = _
  rw [mf_step (by decide), mf_step (by decide), mf_step (by decide), mf_step (by decide), mf_step (by decide), mf_step (by decide), mf_step (by decide), mf_step (by decide), F_X1_misfitsAt_4.eq_2, if_pos le8]
  rfl
theorem fa_step {rd : Int32} {c : Nat → Int32} {t : Int32} {n k : Nat} {a : Int32} (h : k < 8) : F_X7_fitAt_4 rd c t (n + 1) (nI k) a = F_X7_fitAt_4 rd c t n (nI (k + 1)) (a ||| (if F_X7_has rd (nI k) = 0 then 0 else if F_X7_canShow c (nI k) t (c (6 * k + 5)) = 0 then 0 else bk k)) := by
  have e := ix_c (k := nI k) (c := 5) 5 (by rw [nI_toInt (by omega)]; omega) (by rw [nI_toInt (by omega)]; omega) rfl (by decide)
  rw [nI_tn (by omega)] at e
  rw [F_X7_fitAt_4.eq_2, if_neg (nI8 h), e, nI_suc (by omega)]
  split
  · rfl
  · split <;> rfl
theorem fitAt_orf (rd : Int32) (c : Nat → Int32) (t : Int32) : F_X7_fitAt rd c t = orf (fun k => if F_X7_has rd (nI k) = 0 then 0 else if F_X7_canShow c (nI k) t (c (6 * k + 5)) = 0 then 0 else bk k) := by
  show F_X7_fitAt_4 rd c t 9 (nI 0) 0 = _
  rw [fa_step (by decide), fa_step (by decide), fa_step (by decide), fa_step (by decide), fa_step (by decide), fa_step (by decide), fa_step (by decide), fa_step (by decide), F_X7_fitAt_4.eq_2, if_pos le8]
  rfl
