/-! an order: sets weighed (the class), rows in their order (the model) -/
theorem d_bit : ∀ s : Fin 64, ∀ i : Fin 6, ((nI s.val >>> (nI i.val &&& 31)) &&& 1) = if s.val.testBit i.val = true then 1 else 0 := by decide +kernel
theorem d_or : ∀ s : Fin 64, ∀ i : Fin 6, (nI s.val ||| (1 <<< (nI i.val &&& 31))) = nI (s.val ||| 2 ^ i.val) ∧ (s.val ||| 2 ^ i.val) < 64 ∧ (s.val.testBit i.val = false → s.val < (s.val ||| 2 ^ i.val)) := by decide +kernel
def pc (s : Nat) : Nat := (s.testBit 0).toNat + (s.testBit 1).toNat + (s.testBit 2).toNat + (s.testBit 3).toNat + (s.testBit 4).toNat + (s.testBit 5).toNat
theorem d_pc : ∀ s : Fin 64, ∀ i : Fin 6, s.val.testBit i.val = false → pc (s.val ||| 2 ^ i.val) = pc s.val + 1 := by decide +kernel
theorem d_full : ∀ n : Fin 7, ∀ s : Fin 64, (∀ i : Fin 6, n.val ≤ i.val → s.val.testBit i.val = false) → ((∀ i : Fin 6, i.val < n.val → s.val.testBit i.val = true) ↔ pc s.val = n.val) := by decide +kernel
theorem tb_or (s i k : Nat) : (s ||| 2 ^ i).testBit k = (s.testBit k || decide (i = k)) := by rw [Nat.testBit_or, Nat.testBit_two_pow]
theorem bt {s i : Nat} (hs : s < 64) (hi : i < 6) : ((nI s >>> (nI i &&& 31)) &&& 1) = if s.testBit i = true then 1 else 0 := d_bit ⟨s, hs⟩ ⟨i, hi⟩
theorem bo {s i : Nat} (hs : s < 64) (hi : i < 6) : (nI s ||| (1 <<< (nI i &&& 31))) = nI (s ||| 2 ^ i) := (d_or ⟨s, hs⟩ ⟨i, hi⟩).1
theorem bo_lt {s i : Nat} (hs : s < 64) (hi : i < 6) : (s ||| 2 ^ i) < 64 := (d_or ⟨s, hs⟩ ⟨i, hi⟩).2.1
theorem bo_gt {s i : Nat} (hs : s < 64) (hi : i < 6) (h : s.testBit i = false) : s < (s ||| 2 ^ i) := (d_or ⟨s, hs⟩ ⟨i, hi⟩).2.2 h
/-- the error behind those of a set, of the first k -/
def esk (r : Nat → Int32) (s : Nat) : Nat → Int
  | 0 => 0
  | k + 1 => esk r s k + (if s.testBit k = true then (r k).toInt else 0)
def RB (r : Nat → Int32) (n : Nat) : Prop := ∀ i, i < n → -120 ≤ (r i).toInt ∧ (r i).toInt ≤ 120
theorem esk_bd {r : Nat → Int32} {n : Nat} (h : RB r n) (s : Nat) : ∀ k, k ≤ n → -(120 * k : Int) ≤ esk r s k ∧ esk r s k ≤ 120 * k := by
  intro k
  induction k with
  | zero => intro _; exact ⟨Int.le_refl _, Int.le_refl _⟩
  | succ k ih =>
    intro hk
    have h1 := ih (by omega)
    have h2 := h k (by omega)
    show -(120 * ((k + 1 : Nat) : Int)) ≤ esk r s k + _ ∧ esk r s k + _ ≤ 120 * ((k + 1 : Nat) : Int)
    split <;> omega
theorem esk_or {r : Nat → Int32} {s i : Nat} (h : s.testBit i = false) : ∀ k, esk r (s ||| 2 ^ i) k = esk r s k + (if i < k then (r i).toInt else 0) := by
  intro k
  induction k with
  | zero => show (0 : Int) = 0 + _; rw [if_neg (Nat.not_lt_zero _)]; rfl
  | succ k ih =>
    show esk r (s ||| 2 ^ i) k + _ = esk r s k + _ + _
    rw [ih, tb_or]
    by_cases hk : i = k
    · subst hk
      rw [h, if_neg (Nat.lt_irrefl _), if_pos (by simp), if_neg (by decide), if_pos (Nat.lt_succ_self _)]
    · have e : decide (i = k) = false := by simp [hk]
      rw [e, Bool.or_false]
      by_cases h2 : i < k
      · rw [if_pos h2, if_pos (show i < k + 1 by omega)]; omega
      · rw [if_neg h2, if_neg (show ¬ i < k + 1 by omega)]; omega
theorem err_loop {n s : Nat} {r : Nat → Int32} (hn : n ≤ 6) (hs : s < 64) (h : RB r n) : ∀ (f k : Nat) (a : Int32), k ≤ n → n - k < f → a.toInt = esk r s k → F_X3_errorBehind_4 (nI n) r (nI s) f (nI k) a = F_X3_errorBehind_42 (Int32.ofInt (esk r s n)) := by
  intro f
  induction f with
  | zero => intro k a _ h _; exact absurd h (Nat.not_lt_zero _)
  | succ f ih =>
    intro k a hk hm ha
    rw [F_X3_errorBehind_4.eq_2]
    by_cases hc : k < n
    · rw [if_neg (show ¬ nI n ≤ nI k from fun hq => by have := (iN_le (a := n) (b := k) (by omega) (by omega)).mp hq; omega), if_neg (nI8 (by omega)), bt hs (by omega), nI_tn (n := k) (by omega), nI_suc (by omega)]
      obtain ⟨b0, b1⟩ := esk_bd h s k (by omega)
      obtain ⟨r0, r1⟩ := h k hc
      by_cases hb : s.testBit k = true
      · rw [if_pos hb, if_pos rfl]
        refine ih (k + 1) _ (by omega) (by omega) ?_
        rw [ti_add (by omega) (by omega), ha]
        show _ = esk r s k + _
        rw [if_pos hb]
      · rw [if_neg hb, if_neg (by decide)]
        refine ih (k + 1) _ (by omega) (by omega) ?_
        rw [ha]
        show _ = esk r s k + _
        rw [if_neg hb]; omega
    · have e : k = n := by omega
      subst e
      rw [if_pos (Int32.le_refl _)]
      have : a = Int32.ofInt (esk r s k) := by rw [← ha, Int32.ofInt_toInt]
      rw [this]
theorem abs_toInt {a : Int32} (h : -2147483648 < a.toInt) : (F_J9_abs_0f7a4 a).toInt = a.toInt.natAbs := by
  have z0 : (0 : Int32).toInt = 0 := rfl
  unfold F_J9_abs_0f7a4
  by_cases hc : 0 ≤ a
  · have := ti_le.mp hc
    rw [if_pos hc]; omega
  · have := ti_nle hc
    rw [if_neg hc, ti_neg h]; omega
theorem err_int {n s : Nat} {r : Nat → Int32} (hn : n ≤ 6) (hs : s < 64) (h : RB r n) : (F_X3_errorBehind (nI n) r (nI s)).toInt = (esk r s n).natAbs := by
  have g := err_loop hn hs h 9 0 0 (Nat.zero_le _) (by omega) rfl
  rw [iz] at g
  show (F_X3_errorBehind_4 (nI n) r (nI s) 9 0 0).toInt = _
  obtain ⟨b0, b1⟩ := esk_bd h s n (Nat.le_refl _)
  have e : (Int32.ofInt (esk r s n)).toInt = esk r s n := by
    rw [Int32.toInt_ofInt]; show Int.bmod (esk r s n) 4294967296 = _; exact Int.bmod_eq_of_le (by omega) (by omega)
  rw [g]
  show (F_J9_abs_0f7a4 (Int32.ofInt (esk r s n))).toInt = _
  rw [abs_toInt (by rw [e]; omega), e]
theorem lbv {w : Nat → Int32} {s : Nat} (hs : s < 64) : F_X3_leastBehind w (nI s) = w s := by
  have e := nI_toInt (n := s) (by omega)
  unfold F_X3_leastBehind
  rw [if_neg, nI_tn (by omega)]
  rw [bel_spec, if_pos (by rw [e]; exact ⟨by omega, by show (s : Int) < 64; omega⟩)]
  decide
/-- what is weighed of a set, by what is weighed of the greater ones -/
def WS (n : Nat) (r w : Nat → Int32) (s : Nat) : Prop :=
  ((esk r s n).natAbs : Int) ≤ (w s).toInt ∧ (∀ l, l < n → s.testBit l = false → (w s).toInt ≤ ((esk r s n).natAbs : Int) ∨ (w s).toInt ≤ (w (s ||| 2 ^ l)).toInt) ∧ ((∀ l, l < n → s.testBit l = true) → (w s).toInt = ((esk r s n).natAbs : Int)) ∧ ((∃ l, l < n ∧ s.testBit l = false) → ∃ k, k < n ∧ s.testBit k = false ∧ (w (s ||| 2 ^ k)).toInt ≤ (w s).toInt)
theorem WS.same {n : Nat} {r w w' : Nat → Int32} {s : Nat} (hn : n ≤ 6) (hs : s < 64) (h : WS n r w s) (e : ∀ q, s ≤ q → w' q = w q) : WS n r w' s := by
  obtain ⟨h1, h2, h3, h4⟩ := h
  refine ⟨by rw [e s (Nat.le_refl _)]; exact h1, fun l hl hb => ?_, fun hb => ?_, fun hb => ?_⟩
  · rw [e s (Nat.le_refl _), e _ (Nat.le_of_lt (bo_gt hs (by omega) hb))]; exact h2 l hl hb
  · rw [e s (Nat.le_refl _)]; exact h3 hb
  · obtain ⟨k, k1, k2, k3⟩ := h4 hb
    refine ⟨k, k1, k2, ?_⟩
    rw [e s (Nat.le_refl _), e _ (Nat.le_of_lt (bo_gt hs (by omega) k2))]; exact k3
/-- the least of the sets by one greater, of the first i -/
def BI (w : Nat → Int32) (s i : Nat) (b : Int32) : Prop := (b = -1 ∧ ∀ k, k < i → s.testBit k = true) ∨ ∃ k, k < i ∧ s.testBit k = false ∧ b = w (s ||| 2 ^ k) ∧ ∀ l, l < i → s.testBit l = false → (w (s ||| 2 ^ k)).toInt ≤ (w (s ||| 2 ^ l)).toInt
theorem w11 {n s : Nat} {r w : Nat → Int32} (hn : n ≤ 6) (hs : s < 64) (hw : ∀ q, s < q → q < 64 → 0 ≤ (w q).toInt) {K : Int32 → (Nat → Int32) → (Nat → Int32)} : ∀ (f i : Nat) (b : Int32), i ≤ n → n - i < f → BI w s i b → ∃ b', F_X3_weigh_11 (nI n) r (nI s) w K f (nI i) b = K (nI s + (-1)) (upd w s (F_J9_max_7cf53 b' (F_X3_errorBehind (nI n) r (nI s)))) ∧ BI w s n b' := by
  have zm : (-1 : Int32).toInt = -1 := rfl
  intro f
  induction f with
  | zero => intro i b _ h _; exact absurd h (Nat.not_lt_zero _)
  | succ f ih =>
    intro i b hi hm hB
    rw [F_X3_weigh_11.eq_2]
    by_cases hc : i < n
    · rw [if_neg (show ¬ nI n ≤ nI i from fun hq => by have := (iN_le (a := n) (b := i) (by omega) (by omega)).mp hq; omega), bt hs (by omega), bo hs (by omega), lbv (bo_lt hs (by omega))]
      unfold F_X3_weigh_45
      rw [bo hs (by omega), lbv (bo_lt hs (by omega)), nI_suc (by omega)]
      by_cases hb : s.testBit i = true
      · rw [if_pos hb, if_neg (by decide)]
        refine ih (i + 1) b (by omega) (by omega) ?_
        rcases hB with ⟨h1, h2⟩ | ⟨k, k1, k2, k3, k4⟩
        · left
          refine ⟨h1, fun k hk => ?_⟩
          by_cases hki : k = i
          · rw [hki]; exact hb
          · exact h2 k (by omega)
        · right
          refine ⟨k, by omega, k2, k3, fun l hl hlb => ?_⟩
          by_cases hli : l = i
          · rw [hli, hb] at hlb; exact absurd hlb (by decide)
          · exact k4 l (by omega) hlb
      · have hb' : s.testBit i = false := by simpa using hb
        rw [if_neg hb, if_pos rfl]
        have hgi := hw _ (bo_gt hs (by omega) hb') (bo_lt hs (by omega))
        by_cases h1 : b = -1
        · rw [if_pos h1]
          refine ih (i + 1) _ (by omega) (by omega) (Or.inr ⟨i, by omega, hb', rfl, fun l hl hlb => ?_⟩)
          rcases hB with ⟨-, h2⟩ | ⟨k, k1, k2, k3, -⟩
          · by_cases hli : l = i
            · rw [hli]; exact Int.le_refl _
            · have := h2 l (by omega); rw [this] at hlb; exact absurd hlb (by decide)
          · exfalso
            have := hw _ (bo_gt hs (by omega) k2) (bo_lt hs (by omega))
            rw [← k3, h1] at this
            omega
        · rw [if_neg h1]
          rcases hB with ⟨h2, -⟩ | ⟨k, k1, k2, k3, k4⟩
          · exact absurd h2 h1
          · by_cases h5 : b ≤ w (s ||| 2 ^ i)
            · rw [if_pos h5]
              refine ih (i + 1) b (by omega) (by omega) (Or.inr ⟨k, by omega, k2, k3, fun l hl hlb => ?_⟩)
              by_cases hli : l = i
              · rw [hli, ← k3]; exact ti_le.mp h5
              · exact k4 l (by omega) hlb
            · rw [if_neg h5]
              have h6 := ti_nle h5
              refine ih (i + 1) _ (by omega) (by omega) (Or.inr ⟨i, by omega, hb', rfl, fun l hl hlb => ?_⟩)
              by_cases hli : l = i
              · rw [hli]; exact Int.le_refl _
              · have := k4 l (by omega) hlb
                rw [← k3] at this
                omega
    · have e : i = n := by omega
      subst e
      rw [if_pos (Int32.le_refl _), nI_tn (n := s) (by omega)]
      exact ⟨b, rfl, hB⟩
theorem w3 {n : Nat} {r : Nat → Int32} (hn : n ≤ 6) (h : RB r n) : ∀ (f s : Nat) (w : Nat → Int32), s < 64 → s + 1 < f → (∀ q, s < q → q < 64 → WS n r w q) → ∀ q, q < 64 → WS n r (F_X3_weigh_3 (nI n) r f (nI s) w) q := by
  intro f
  induction f with
  | zero => intro s w _ h _; exact absurd h (Nat.not_lt_zero _)
  | succ f ih =>
    intro s w hs hm hW
    have es := nI_toInt (n := s) (by omega)
    have z0 : (0 : Int32).toInt = 0 := rfl
    have zm : (-1 : Int32).toInt = -1 := rfl
    rw [F_X3_weigh_3.eq_2, if_neg (show ¬ nI s < 0 from fun hq => by have := ti_lt.mp hq; omega)]
    have hw0 : ∀ q, s < q → q < 64 → 0 ≤ (w q).toInt := fun q h1 h2 => by have := (hW q h1 h2).1; omega
    obtain ⟨b', e1, hB⟩ := w11 (r := r) hn hs hw0 (K := F_X3_weigh_3 (nI n) r f) 9 0 (-1) (Nat.zero_le _) (by omega) (Or.inl ⟨rfl, fun k hk => absurd hk (Nat.not_lt_zero _)⟩)
    rw [iz] at e1
    rw [e1]
    have hE := err_int hn hs h
    have hM := mx_toInt b' (F_X3_errorBehind (nI n) r (nI s))
    rw [hE] at hM
    have hE0 : (0 : Int) ≤ ((esk r s n).natAbs : Int) := Int.natCast_nonneg _
    -- the set itself
    have hself : WS n r (upd w s (F_J9_max_7cf53 b' (F_X3_errorBehind (nI n) r (nI s)))) s := by
      generalize F_J9_max_7cf53 b' (F_X3_errorBehind (nI n) r (nI s)) = v at hM ⊢
      have ne : ∀ l, l < n → s.testBit l = false → upd w s v (s ||| 2 ^ l) = w (s ||| 2 ^ l) := fun l hl hb => upd_ne (by have := bo_gt hs (show l < 6 by omega) hb; omega)
      unfold WS
      generalize ((esk r s n).natAbs : Int) = E at hM hE0 ⊢
      refine ⟨?_, fun l hl hb => ?_, fun hb => ?_, fun hb => ?_⟩
      · rw [upd_at, hM]; split <;> omega
      · rw [upd_at, ne l hl hb]
        rcases hB with ⟨h1, h2⟩ | ⟨k, k1, k2, k3, k4⟩
        · have := h2 l hl; rw [this] at hb; exact absurd hb (by decide)
        · have := k4 l hl hb
          rw [← k3] at this
          split at hM <;> omega
      · rw [upd_at]
        rcases hB with ⟨h1, h2⟩ | ⟨k, k1, k2, k3, k4⟩
        · rw [h1, zm] at hM
          split at hM <;> omega
        · have := hb k k1; rw [this] at k2; exact absurd k2 (by decide)
      · obtain ⟨l, hl, hlb⟩ := hb
        rcases hB with ⟨h1, h2⟩ | ⟨k, k1, k2, k3, k4⟩
        · have := h2 l hl; rw [this] at hlb; exact absurd hlb (by decide)
        · refine ⟨k, k1, k2, ?_⟩
          rw [upd_at, ne k k1 k2, ← k3, hM]
          split <;> omega
    have hrest : ∀ q, s ≤ q → q < 64 → WS n r (upd w s (F_J9_max_7cf53 b' (F_X3_errorBehind (nI n) r (nI s)))) q := fun q h1 h2 => by
      by_cases hq : q = s
      · rw [hq]; exact hself
      · exact (hW q (by omega) h2).same hn h2 (fun x hx => upd_ne (by omega))
    cases s with
    | zero =>
      obtain ⟨f', rfl⟩ : ∃ f', f = f' + 1 := ⟨f - 1, by omega⟩
      rw [F_X3_weigh_3.eq_2, if_pos (show nI 0 + (-1) < 0 by decide)]
      exact fun q hq => hrest q (Nat.zero_le _) hq
    | succ s =>
      rw [nI_prd (by omega)]
      exact ih s _ (by omega) (by omega) (fun q h1 h2 => hrest q (by omega) h2)
theorem weigh_ok {n : Nat} {r : Nat → Int32} (hn : n ≤ 6) (h : RB r n) (w : Nat → Int32) : ∀ q, q < 64 → WS n r (F_X3_weigh (nI n) r w) q :=
  w3 hn h 65 63 w (by decide) (by decide) (fun q h1 h2 => by omega)
