def oo (s : Int32) : Nat → Int32 × Int32
  | 0 => (-1, -1)
  | d + 1 => if F_X7_has s (nI (7 - d)) = 0 then oo s d else (nI (7 - d), (oo s d).1)
theorem oo_step {s k : Int32} (h0 : 0 ≤ k.toInt) (h1 : k.toInt ≤ 7) : oo s (7 - (k + (-1)).toInt).toNat = if F_X7_has s k = 0 then oo s (7 - k.toInt).toNat else (k, (oo s (7 - k.toInt).toNat).1) := by
  have e := ti_dec (a := k) (by omega)
  have e2 : (7 - (k + (-1)).toInt).toNat = (7 - k.toInt).toNat + 1 := by omega
  have e3 : nI (7 - (7 - k.toInt).toNat) = k := Int32.toInt_inj.mp (by rw [nI_toInt (by omega)]; omega)
  rw [e2]
  show (if F_X7_has s (nI (7 - (7 - k.toInt).toNat)) = 0 then _ else _) = _
  rw [e3]
theorem oo_skip {s k a b : Int32} (h : (a, b) = oo s (7 - k.toInt).toNat) (h0 : 0 ≤ k.toInt) (h1 : k.toInt ≤ 7) (hc : F_X7_has s k = 0) : (a, b) = oo s (7 - (k + (-1)).toInt).toNat := by
  rw [oo_step h0 h1, if_pos hc, h]
theorem oo_take {s k a b : Int32} (h : (a, b) = oo s (7 - k.toInt).toNat) (h0 : 0 ≤ k.toInt) (h1 : k.toInt ≤ 7) (hc : ¬ F_X7_has s k = 0) : (k, a) = oo s (7 - (k + (-1)).toInt).toNat := by
  rw [oo_step h0 h1, if_neg hc, ← h]
theorem oo_init {s : Int32} : ((-1 : Int32), (-1 : Int32)) = oo s (7 - (7 : Int32).toInt).toNat := by
  have e : (7 - (7 : Int32).toInt).toNat = 0 := by decide
  rw [e]; rfl
theorem oo_all : ∀ n : Fin 256, ¬ F_X7_bits (nI n.val) < 2 → (0 ≤ (oo (nI n.val) 8).1.toInt ∧ (oo (nI n.val) 8).1.toInt < 8) ∧ (0 ≤ (oo (nI n.val) 8).2.toInt ∧ (oo (nI n.val) 8).2.toInt < 8) := by decide +kernel
theorem oo_ok {s a b : Int32} (h0 : 0 ≤ s.toInt) (h1 : s.toInt ≤ 255) (hb : ¬ F_X7_bits s < 2) (h : (a, b) = oo s 8) : (0 ≤ a.toInt ∧ a.toInt < 8) ∧ (0 ≤ b.toInt ∧ b.toInt < 8) := by
  have e : nI s.toInt.toNat = s := Int32.toInt_inj.mp (by rw [nI_toInt (by omega)]; omega)
  have := oo_all ⟨s.toInt.toNat, by omega⟩
  simp only [e] at this
  have := this hb
  rw [← h] at this
  exact this
theorem lgc_eq {x y : Int64} (h : lg_cmp x y = 0) : x = y := by
  unfold lg_cmp at h
  split at h
  · exact absurd h (by decide)
  · split at h
    · assumption
    · exact absurd h (by decide)
theorem lgc_ne {x : Int64} {y : Int64} (h : ¬ lg_cmp x y = 0) : ¬ x = y := fun e => h (by subst e; simp [lg_cmp])
def FastOk (x : Int64) : Prop := 1 ≤ x.toInt ∧ x.toInt ≤ 1560
theorem fast64 {r : Int32} (h : -120 ≤ r.toInt ∧ r.toInt ≤ 120) : FastOk ((1440 + r).toInt64) := by
  obtain ⟨h1, h2⟩ := h
  show 1 ≤ ((1440 + r).toInt64).toInt ∧ ((1440 + r).toInt64).toInt ≤ 1560
  have e : (1440 : Int32).toInt = 1440 := rfl
  rw [Int32.toInt_toInt64, ti_add (by rw [e]; omega) (by rw [e]; omega), e]
  omega
theorem mul64_ne {a b : Int64} (ha : FastOk a) (hb : FastOk b) : ¬ a * b = 0 := fun e => by
  obtain ⟨h1, h2⟩ := ha
  obtain ⟨h3, h4⟩ := hb
  have h : (a * b).toInt = (0 : Int64).toInt := by rw [e]
  have e0 : (0 : Int64).toInt = 0 := rfl
  have g1 : a.toInt * b.toInt ≤ 1560 * 1560 := Int.mul_le_mul h2 h4 (by omega) (by omega)
  have g2 : 1 * 1 ≤ a.toInt * b.toInt := Int.mul_le_mul h1 h3 (by omega) (by omega)
  rw [Int64.toInt_mul, Int.bmod_eq_of_le (by omega) (by omega), e0] at h
  omega
