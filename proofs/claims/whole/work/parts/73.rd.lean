/-! tokens of a text, in both -/
section TOK
variable {L : Nat} {tb mt : Nat → Int32}
/-- a text of L signs in both -/
def TT (L : Nat) (tb mt : Nat → Int32) : Prop := L ≤ 200 ∧ ∀ i, i < L → tb i = mt i
theorem sg_in (h : TT L tb mt) {i : Nat} (hi : i < L) : F_X5_signAt (nI L) tb (nI i) = mt i := by
  have e := nI_toInt (n := i) (by have := h.1; omega)
  have z0 : (0 : Int32).toInt = 0 := rfl
  unfold F_X5_signAt
  rw [if_neg (show ¬ nI i < 0 from fun hq => by have := ti_lt.mp hq; omega), if_neg (show ¬ nI L ≤ nI i from fun hq => by have := (iN_le (by have := h.1; omega) (by have := h.1; omega)).mp hq; omega), if_neg (show ¬ (200 : Int32) ≤ nI i from fun hq => by have := (iN_le (a := 200) (b := i) (by decide) (by have := h.1; omega)).mp hq; have := h.1; omega), nI_tn (by have := h.1; omega)]
  exact h.2 i hi
theorem sg_out (h : TT L tb mt) {i : Nat} (hi : L ≤ i) (h2 : i < 1000) : F_X5_signAt (nI L) tb (nI i) = -1 := by
  have e := nI_toInt (n := i) (by omega)
  have z0 : (0 : Int32).toInt = 0 := rfl
  unfold F_X5_signAt
  rw [if_neg (show ¬ nI i < 0 from fun hq => by have := ti_lt.mp hq; omega), if_pos ((iN_le (by have := h.1; omega) (by omega)).mpr hi)]
theorem lt_in (x : Int32) : F_X5_isLetter x = F_X7_in x 97 122 := rfl
theorem dg_in (x : Int32) : F_X5_isDigit x = F_X7_in x 48 57 := rfl
def isL (mt : Nat → Int32) (i : Nat) : Prop := ¬ F_X7_in (mt i) 97 122 = 0
def isD (mt : Nat → Int32) (i : Nat) : Prop := ¬ F_X7_in (mt i) 48 57 = 0
theorem isL_rng {i : Nat} (h : isL mt i) : 97 ≤ (mt i).toInt ∧ (mt i).toInt ≤ 122 := X7_in_in h
theorem isD_rng {i : Nat} (h : isD mt i) : 48 ≤ (mt i).toInt ∧ (mt i).toInt ≤ 57 := X7_in_in h
theorem le_L (h : TT L tb mt) {i : Nat} (hi : i < 1000) : (nI L ≤ nI i) ↔ L ≤ i := iN_le (by have := h.1; omega) (by omega)
theorem skip_sp (h : TT L tb mt) : ∀ (f p : Nat), p ≤ L → L - p < f → ∃ q, p ≤ q ∧ q ≤ L ∧ F_X5_takeToken_8 (nI L) tb f (nI p) = F_X5_takeToken_45 (nI L) tb (nI q) ∧ F_X7_nextToken_0 (nI L) mt f (nI p) = F_X7_nextToken_38 (nI L) mt (nI q) := by
  intro f
  induction f with
  | zero => intro p _ h; exact absurd h (Nat.not_lt_zero _)
  | succ f ih =>
    intro p hp hm
    have hL := h.1
    rw [F_X5_takeToken_8.eq_2, F_X7_nextToken_0.eq_2]
    by_cases c1 : L ≤ p
    · rw [if_pos ((le_L h (by omega)).mpr c1), if_pos ((le_L h (by omega)).mpr c1)]
      exact ⟨p, Nat.le_refl _, hp, rfl, rfl⟩
    · rw [if_neg (fun hq => c1 ((le_L h (by omega)).mp hq)), if_neg (fun hq => c1 ((le_L h (by omega)).mp hq)), sg_in h (by omega), nI_tn (by omega)]
      by_cases c2 : mt p = 32
      · rw [if_pos c2, if_pos c2, nI_suc (by omega)]
        obtain ⟨q, q1, q2, q3⟩ := ih (p + 1) (by omega) (by omega)
        exact ⟨q, by omega, q2, q3⟩
      · rw [if_neg c2, if_neg c2]
        exact ⟨p, Nat.le_refl _, hp, rfl, rfl⟩
/-- a word's number, by twenty-seven -/
def lv (g : Nat → Int) : Nat → Int
  | 0 => 0
  | m + 1 => 27 * lv g m + g m
theorem lv_pos {g : Nat → Int} : ∀ m, (∀ i, i < m → 1 ≤ g i ∧ g i ≤ 26) → 0 ≤ lv g m ∧ lv g m < 27 ^ m := by
  intro m
  induction m with
  | zero => intro _; exact ⟨Int.le_refl _, (show (0 : Int) < 27 ^ 0 by decide)⟩
  | succ m ih =>
    intro h
    obtain ⟨a, b⟩ := ih (fun i hi => h i (by omega))
    have := h m (by omega)
    show 0 ≤ 27 * lv g m + g m ∧ 27 * lv g m + g m < 27 ^ (m + 1)
    rw [Int.pow_succ]
    omega
theorem lv_inj {g g' : Nat → Int} : ∀ m m', (∀ i, i < m → 1 ≤ g i ∧ g i ≤ 26) → (∀ i, i < m' → 1 ≤ g' i ∧ g' i ≤ 26) → lv g m = lv g' m' → m = m' ∧ ∀ i, i < m → g i = g' i := by
  intro m
  induction m with
  | zero =>
    intro m' _ h' e
    cases m' with
    | zero => exact ⟨rfl, fun i hi => absurd hi (Nat.not_lt_zero _)⟩
    | succ m' =>
      have h1 := (lv_pos m' (fun i hi => h' i (by omega))).1
      have h2 := h' m' (by omega)
      have e : 0 = 27 * lv g' m' + g' m' := e
      omega
  | succ m ih =>
    intro m' h h' e
    cases m' with
    | zero =>
      have h1 := (lv_pos m (fun i hi => h i (by omega))).1
      have h2 := h m (by omega)
      have e : 27 * lv g m + g m = 0 := e
      omega
    | succ m' =>
      have h2 := h m (by omega)
      have h3 := h' m' (by omega)
      have e : 27 * lv g m + g m = 27 * lv g' m' + g' m' := e
      obtain ⟨e1, e2⟩ := ih m' (fun i hi => h i (by omega)) (fun i hi => h' i (by omega)) (by omega)
      subst e1
      refine ⟨rfl, fun i hi => ?_⟩
      by_cases hi' : i = m
      · subst hi'; omega
      · exact e2 i (by omega)
def gl (mt : Nat → Int32) (p : Nat) (i : Nat) : Int := (mt (p + i)).toInt - 96
theorem p27 (m : Nat) (h : m ≤ 9) : (27 : Int) ^ m ≤ 7625597484987 := by
  have h2 : m = 0 ∨ m = 1 ∨ m = 2 ∨ m = 3 ∨ m = 4 ∨ m = 5 ∨ m = 6 ∨ m = 7 ∨ m = 8 ∨ m = 9 := by omega
  rcases h2 with rfl | rfl | rfl | rfl | rfl | rfl | rfl | rfl | rfl | rfl <;> decide
/-- the letters from p on -/
theorem word_loop (h : TT L tb mt) {p : Nat} : ∀ (f q : Nat) (t : Int64), p ≤ q → q ≤ L → L - q < f → (∀ i, p ≤ i → i < q → isL mt i) → (q - p ≤ 9 → t.toInt = lv (gl mt p) (q - p)) →
    ∃ e t', q ≤ e ∧ e ≤ L ∧ (∀ i, p ≤ i → i < e → isL mt i) ∧ (e = L ∨ ¬ isL mt e) ∧ F_X5_takeToken_67 (nI L) tb (nI p) f (nI q) = (nI p, nI e) ∧ F_X7_nextToken_101 (nI L) mt (nI p) f (nI q) t = (nI e, nI p, t', 0, 0) ∧ (e - p ≤ 9 → t'.toInt = lv (gl mt p) (e - p)) ∧ (9 < e - p → t' = -4) := by
  have hL := h.1
  intro f
  induction f with
  | zero => intro q t _ _ h; exact absurd h (Nat.not_lt_zero _)
  | succ f ih =>
    intro q t hpq hq hm hl ht
    have esub : (nI q - nI p).toInt = ((q - p : Nat) : Int) := by
      have e1 := nI_toInt (n := q) (by omega)
      have e2 := nI_toInt (n := p) (by omega)
      rw [ti_sub (by omega) (by omega)]; omega
    have e9 : (9 : Int32).toInt = 9 := rfl
    have hend : (q = L ∨ ¬ isL mt q) → ∃ e t', q ≤ e ∧ e ≤ L ∧ (∀ i, p ≤ i → i < e → isL mt i) ∧ (e = L ∨ ¬ isL mt e) ∧ (nI p, nI q) = (nI p, nI e) ∧ F_X7_nextToken_191 (nI p) (nI q) t = (nI e, nI p, t', 0, 0) ∧ (e - p ≤ 9 → t'.toInt = lv (gl mt p) (e - p)) ∧ (9 < e - p → t' = -4) := fun hh => by
      unfold F_X7_nextToken_191
      by_cases c : (nI q - nI p) ≤ 9
      · have := ti_le.mp c
        rw [if_pos c]
        exact ⟨q, t, Nat.le_refl _, hq, hl, hh, rfl, rfl, ht, fun h9 => by omega⟩
      · have := ti_nle c
        rw [if_neg c]
        exact ⟨q, -4, Nat.le_refl _, hq, hl, hh, rfl, rfl, fun h9 => by omega, fun _ => rfl⟩
    rw [F_X5_takeToken_67.eq_2, F_X7_nextToken_101.eq_2]
    by_cases c1 : L ≤ q
    · rw [if_pos ((le_L h (by omega)).mpr c1), if_pos ((le_L h (by omega)).mpr c1)]
      exact hend (Or.inl (by omega))
    · rw [if_neg (fun hq => c1 ((le_L h (by omega)).mp hq)), if_neg (fun hq => c1 ((le_L h (by omega)).mp hq)), sg_in h (by omega), nI_tn (by omega), lt_in]
      by_cases c2 : F_X7_in (mt q) 97 122 = 0
      · rw [if_pos c2, if_pos c2]
        exact hend (Or.inr (fun hh => hh c2))
      · clear hend
        rw [if_neg c2, if_neg c2, nI_suc (by omega)]
        have hlq : ∀ i, p ≤ i → i < q + 1 → isL mt i := fun i h1 h2 => by
          by_cases e : i = q
          · rw [e]; exact c2
          · exact hl i h1 (by omega)
        unfold F_X7_nextToken_175
        rw [nI_suc (by omega)]
        by_cases c3 : (9 : Int32) ≤ (nI q - nI p)
        · have := ti_le.mp c3
          rw [if_pos c3]
          obtain ⟨e, t', a1, a2, a3⟩ := ih (q + 1) (-4) (by omega) (by omega) (by omega) hlq (fun h9 => by omega)
          exact ⟨e, t', by omega, a2, a3⟩
        · have := ti_nle c3
          rw [if_neg c3]
          have hr := isL_rng (mt := mt) (i := q) c2
          obtain ⟨b1, b2⟩ := lv_pos (g := gl mt p) (q - p) (fun i hi => by
            have := isL_rng (hl (p + i) (by omega) (by omega))
            unfold gl; omega)
          have b3 := p27 (q - p) (by omega)
          have ht := ht (by omega)
          have f27 : (27 : Int64).toInt = 27 := rfl
          have f96 : (96 : Int64).toInt = 96 := rfl
          have m1 : (27 * t).toInt = 27 * t.toInt := by rw [l_mul (by rw [f27]; omega) (by rw [f27]; omega), f27]
          have m2 : (27 * t + (mt q).toInt64).toInt = 27 * t.toInt + (mt q).toInt := by rw [l_add (by rw [m1, Int32.toInt_toInt64]; omega) (by rw [m1, Int32.toInt_toInt64]; omega), m1, Int32.toInt_toInt64]
          have m3 : (27 * t + (mt q).toInt64 - 96).toInt = 27 * t.toInt + (mt q).toInt - 96 := by rw [l_sub (by rw [m2, f96]; omega) (by rw [m2, f96]; omega), m2, f96]
          obtain ⟨e, t', a1, a2, a3⟩ := ih (q + 1) (27 * t + (mt q).toInt64 - 96) (by omega) (by omega) (by omega) hlq (fun h9 => by
            have es : q + 1 - p = (q - p) + 1 := by omega
            rw [m3, es]
            show _ = 27 * lv (gl mt p) (q - p) + gl mt p (q - p)
            have eg : gl mt p (q - p) = (mt q).toInt - 96 := by
              unfold gl
              rw [show p + (q - p) = q by omega]
            rw [eg, ht]; omega)
          exact ⟨e, t', by omega, a2, a3⟩
/-- a number of digits -/
def dv (mt : Nat → Int32) (p : Nat) : Nat → Int
  | 0 => 0
  | m + 1 => 10 * dv mt p m + ((mt (p + m)).toInt - 48)
theorem dv_bd {p : Nat} : ∀ m, (∀ i, i < m → isD mt (p + i)) → 0 ≤ dv mt p m ∧ dv mt p m < 10 ^ m := by
  intro m
  induction m with
  | zero => intro _; exact ⟨Int.le_refl _, (show (0 : Int) < 10 ^ 0 by decide)⟩
  | succ m ih =>
    intro h
    obtain ⟨a, b⟩ := ih (fun i hi => h i (by omega))
    have := isD_rng (h m (by omega))
    show 0 ≤ 10 * dv mt p m + ((mt (p + m)).toInt - 48) ∧ 10 * dv mt p m + ((mt (p + m)).toInt - 48) < 10 ^ (m + 1)
    rw [Int.pow_succ]
    omega
theorem p10 (m : Nat) (h : m ≤ 4) : (10 : Int) ^ m ≤ 10000 := by
  have h2 : m = 0 ∨ m = 1 ∨ m = 2 ∨ m = 3 ∨ m = 4 := by omega
  rcases h2 with rfl | rfl | rfl | rfl | rfl <;> decide
theorem num_loop (h : TT L tb mt) {p : Nat} : ∀ (f q : Nat) (d v : Int32), p ≤ q → q ≤ L → L - q < f → (∀ i, p ≤ i → i < q → isD mt i) → d = nI (q - p) → (q - p ≤ 4 → v.toInt = dv mt p (q - p)) →
    ∃ e v', q ≤ e ∧ e ≤ L ∧ (∀ i, p ≤ i → i < e → isD mt i) ∧ (e = L ∨ ¬ isD mt e) ∧ F_X5_takeToken_119 (nI L) tb (nI p) f (nI q) = (nI p, nI e) ∧ F_X7_nextToken_241 (nI L) mt (nI p) f (nI q) d v = (nI e, nI p, (if e - p ≤ 4 then -1 else -4), nI (e - p), v') ∧ (e - p ≤ 4 → v'.toInt = dv mt p (e - p)) := by
  have hL := h.1
  intro f
  induction f with
  | zero => intro q d v _ _ h; exact absurd h (Nat.not_lt_zero _)
  | succ f ih =>
    intro q d v hpq hq hm hl hd hv
    subst hd
    have e4 : ∀ m, m ≤ 200 → (nI m ≤ 4 ↔ m ≤ 4) := fun m hm => iN_le (a := m) (b := 4) (by omega) (by decide)
    have e4' : ∀ m, m ≤ 200 → ((4 : Int32) ≤ nI m ↔ 4 ≤ m) := fun m hm => iN_le (a := 4) (b := m) (by decide) (by omega)
    have hend : (q = L ∨ ¬ isD mt q) → ∃ e v', q ≤ e ∧ e ≤ L ∧ (∀ i, p ≤ i → i < e → isD mt i) ∧ (e = L ∨ ¬ isD mt e) ∧ (nI p, nI q) = (nI p, nI e) ∧ F_X7_nextToken_333 (nI p) (nI q) (nI (q - p)) v = (nI e, nI p, (if e - p ≤ 4 then -1 else -4), nI (e - p), v') ∧ (e - p ≤ 4 → v'.toInt = dv mt p (e - p)) := fun hh => by
      refine ⟨q, v, Nat.le_refl _, hq, hl, hh, rfl, ?_, hv⟩
      unfold F_X7_nextToken_333
      by_cases c : q - p ≤ 4
      · rw [if_pos ((e4 _ (by omega)).mpr c), if_pos c]
      · rw [if_neg (fun hq => c ((e4 _ (by omega)).mp hq)), if_neg c]
    rw [F_X5_takeToken_119.eq_2, F_X7_nextToken_241.eq_2]
    by_cases c1 : L ≤ q
    · rw [if_pos ((le_L h (by omega)).mpr c1), if_pos ((le_L h (by omega)).mpr c1)]
      exact hend (Or.inl (by omega))
    · rw [if_neg (fun hq => c1 ((le_L h (by omega)).mp hq)), if_neg (fun hq => c1 ((le_L h (by omega)).mp hq)), sg_in h (by omega), nI_tn (n := q) (by omega), dg_in]
      by_cases c2 : F_X7_in (mt q) 48 57 = 0
      · rw [if_pos c2, if_pos c2]
        exact hend (Or.inr (fun hh => hh c2))
      · clear hend
        rw [if_neg c2, if_neg c2, nI_suc (by omega)]
        have hlq : ∀ i, p ≤ i → i < q + 1 → isD mt i := fun i h1 h2 => by
          by_cases e : i = q
          · rw [e]; exact c2
          · exact hl i h1 (by omega)
        unfold F_X7_nextToken_307
        have es : q + 1 - p = (q - p) + 1 := by omega
        rw [nI_suc (by omega), nI_suc (by omega), ← es]
        by_cases c3 : 4 ≤ q - p
        · rw [if_pos ((e4' _ (by omega)).mpr c3)]
          obtain ⟨e, v', a1, a2, a3⟩ := ih (q + 1) _ v (by omega) (by omega) (by omega) hlq rfl (fun h4 => by omega)
          exact ⟨e, v', by omega, a2, a3⟩
        · rw [if_neg (fun hq => c3 ((e4' _ (by omega)).mp hq))]
          have hr := isD_rng (mt := mt) (i := q) c2
          obtain ⟨b1, b2⟩ := dv_bd (mt := mt) (p := p) (q - p) (fun i hi => hl (p + i) (by omega) (by omega))
          have b3 := p10 (q - p) (by omega)
          have hv := hv (by omega)
          have m1 := ti_mulc v 10 10 rfl (by omega) (by omega)
          have m2 := ti_add (a := 10 * v) (b := mt q) (by omega) (by omega)
          have m3 := ti_subc (10 * v + mt q) 48 48 rfl (by omega) (by omega)
          obtain ⟨e, v', a1, a2, a3⟩ := ih (q + 1) _ (10 * v + mt q - 48) (by omega) (by omega) (by omega) hlq rfl (fun h4 => by
            rw [m3, m2, m1, es]
            show _ = 10 * dv mt p (q - p) + ((mt (p + (q - p))).toInt - 48)
            rw [show p + (q - p) = q by omega, hv]; omega)
          exact ⟨e, v', by omega, a2, a3⟩
/-- the class's number -/
theorem nt36 (h : TT L tb mt) {p e : Nat} (hpe : p ≤ e) (he : e ≤ L) (h4 : e - p ≤ 4) (hd : ∀ i, p ≤ i → i < e → isD mt i) : ∀ (f q : Nat) (v : Int32), p ≤ q → q ≤ e → e - q < f → v.toInt = dv mt p (q - p) → (F_X5_numberTaken_36 (nI L) (nI e) tb f (nI q) v).toInt = dv mt p (e - p) := by
  have hL := h.1
  intro f
  induction f with
  | zero => intro q v _ _ h; exact absurd h (Nat.not_lt_zero _)
  | succ f ih =>
    intro q v hpq hqe hm hv
    rw [F_X5_numberTaken_36.eq_2]
    by_cases c1 : e ≤ q
    · rw [if_pos ((iN_le (by omega) (by omega)).mpr c1), hv, show q = e by omega]
    · rw [if_neg (fun hq => c1 ((iN_le (by omega) (by omega)).mp hq)), sg_in h (by omega), nI_suc (by omega)]
      have hr := isD_rng (hd q hpq (by omega))
      obtain ⟨b1, b2⟩ := dv_bd (mt := mt) (p := p) (q - p) (fun i hi => hd (p + i) (by omega) (by omega))
      have b3 := p10 (q - p) (by omega)
      have e10 : (10 : Int32).toInt = 10 := rfl
      have m1 : (v * 10).toInt = v.toInt * 10 := by rw [ti_mul (by rw [e10]; omega) (by rw [e10]; omega), e10]
      have m2 := ti_add (a := v * 10) (b := mt q) (by omega) (by omega)
      have m3 := ti_subc (v * 10 + mt q) 48 48 rfl (by omega) (by omega)
      refine ih (q + 1) _ (by omega) (by omega) (by omega) ?_
      rw [m3, m2, m1, show q + 1 - p = (q - p) + 1 by omega]
      show _ = 10 * dv mt p (q - p) + ((mt (p + (q - p))).toInt - 48)
      rw [show p + (q - p) = q by omega, hv]; omega
end TOK
