/-! an egg: all pairs of a beginning and an end (the model), the two ends next to the wanted time (the class) -/
theorem l_add {a b : Int64} (h1 : -9000000000000000000 ≤ a.toInt + b.toInt) (h2 : a.toInt + b.toInt ≤ 9000000000000000000) : (a + b).toInt = a.toInt + b.toInt := by
  rw [Int64.toInt_add]; exact Int.bmod_eq_of_le (by omega) (by omega)
theorem l_sub {a b : Int64} (h1 : -9000000000000000000 ≤ a.toInt - b.toInt) (h2 : a.toInt - b.toInt ≤ 9000000000000000000) : (a - b).toInt = a.toInt - b.toInt := by
  rw [Int64.toInt_sub]; exact Int.bmod_eq_of_le (by omega) (by omega)
theorem l_mul {a b : Int64} (h1 : -9000000000000000000 ≤ a.toInt * b.toInt) (h2 : a.toInt * b.toInt ≤ 9000000000000000000) : (a * b).toInt = a.toInt * b.toInt := by
  rw [Int64.toInt_mul]; exact Int.bmod_eq_of_le (by omega) (by omega)
theorem l_neg {a : Int64} (h1 : -9000000000000000000 ≤ a.toInt) (h2 : a.toInt ≤ 9000000000000000000) : (-a).toInt = -a.toInt := by
  rw [Int64.toInt_neg]; exact Int.bmod_eq_of_le (by omega) (by omega)
theorem lc_le (x y : Int64) : lg_cmp x y ≤ 0 ↔ x.toInt ≤ y.toInt := (lg_cmp_le x y).trans Int64.le_iff_toInt_le
theorem lc_ge (x y : Int64) : 0 ≤ lg_cmp x y ↔ y.toInt ≤ x.toInt := (lg_cmp_ge x y).trans Int64.le_iff_toInt_le
theorem lc_gt (x y : Int64) : 0 < lg_cmp x y ↔ y.toInt < x.toInt := (lg_cmp_gt x y).trans Int64.lt_iff_toInt_lt
theorem lc_lt (x y : Int64) : lg_cmp x y < 0 ↔ x.toInt < y.toInt := (lg_cmp_lt x y).trans Int64.lt_iff_toInt_lt
theorem lc_eq (x y : Int64) : lg_cmp x y = 0 ↔ x.toInt = y.toInt := (lg_cmp_eq x y).trans Int64.toInt_inj.symm
theorem l_abs {a : Int64} (h1 : -9000000000000000000 ≤ a.toInt) (h2 : a.toInt ≤ 9000000000000000000) : (F_J9_abs_067f4 a).toInt = a.toInt.natAbs := by
  have z0 : (0 : Int64).toInt = 0 := rfl
  unfold F_J9_abs_067f4
  by_cases h : 0 ≤ lg_cmp a 0
  · have := (lc_ge a 0).mp h
    rw [if_pos h]; omega
  · have := mt (lc_ge a 0).mpr h
    rw [if_neg h, l_neg h1 h2]; omega
/-- the least off of the pairs P; none: -1 -/
def ML (D : Nat → Nat → Int) (w : Int) (P : Nat → Nat → Prop) (l : Int) : Prop := (l = -1 ∧ ∀ i j, P i j → D i j ≤ 0) ∨ ((∃ i j, P i j ∧ 0 < D i j ∧ l = ((D i j - w).natAbs : Int)) ∧ ∀ i j, P i j → 0 < D i j → l ≤ ((D i j - w).natAbs : Int))
theorem ML.uniq {D : Nat → Nat → Int} {w l l' : Int} {P : Nat → Nat → Prop} (h : ML D w P l) (h' : ML D w P l') : l = l' := by
  rcases h with ⟨h1, h2⟩ | ⟨⟨i, j, p1, p2, p3⟩, h2⟩
  · rcases h' with ⟨g1, g2⟩ | ⟨⟨i, j, p1, p2, p3⟩, g2⟩
    · omega
    · have := h2 i j p1; omega
  · rcases h' with ⟨g1, g2⟩ | ⟨⟨i', j', q1, q2, q3⟩, g2⟩
    · have := g2 i j p1; omega
    · have := h2 i' j' q1 q2
      have := g2 i j p1 p2
      omega
theorem ML.congr {D : Nat → Nat → Int} {w l : Int} {P P' : Nat → Nat → Prop} (h : ML D w P l) (e : ∀ i j, P i j ↔ P' i j) : ML D w P' l := by
  rcases h with ⟨h1, h2⟩ | ⟨⟨i, j, p1, p2, p3⟩, h2⟩
  · exact Or.inl ⟨h1, fun i j hp => h2 i j ((e i j).mpr hp)⟩
  · exact Or.inr ⟨⟨i, j, (e i j).mp p1, p2, p3⟩, fun i j hp => h2 i j ((e i j).mpr hp)⟩
theorem ML.skip {D : Nat → Nat → Int} {w l : Int} {P : Nat → Nat → Prop} {a b : Nat} (h : ML D w P l) (hd : D a b ≤ 0) : ML D w (fun i j => P i j ∨ (i = a ∧ j = b)) l := by
  rcases h with ⟨h1, h2⟩ | ⟨⟨i, j, p1, p2, p3⟩, h2⟩
  · refine Or.inl ⟨h1, fun i j hp => ?_⟩
    rcases hp with hp | ⟨rfl, rfl⟩
    · exact h2 i j hp
    · exact hd
  · refine Or.inr ⟨⟨i, j, Or.inl p1, p2, p3⟩, fun i' j' hp hv => ?_⟩
    rcases hp with hp | ⟨rfl, rfl⟩
    · exact h2 i' j' hp hv
    · omega
theorem ML.none {D : Nat → Nat → Int} {w : Int} {P : Nat → Nat → Prop} {a b : Nat} (h : ML D w P (-1)) (hd : 0 < D a b) : ML D w (fun i j => P i j ∨ (i = a ∧ j = b)) ((D a b - w).natAbs : Int) := by
  refine Or.inr ⟨⟨a, b, Or.inr ⟨rfl, rfl⟩, hd, rfl⟩, fun i j hp hv => ?_⟩
  rcases hp with hp | ⟨rfl, rfl⟩
  · rcases h with ⟨_, h2⟩ | ⟨⟨i', j', p1, p2, p3⟩, _⟩
    · have := h2 i j hp; omega
    · omega
  · exact Int.le_refl _
theorem ML.less {D : Nat → Nat → Int} {w l : Int} {P : Nat → Nat → Prop} {a b : Nat} (h : ML D w P l) (hl : 0 ≤ l) (hd : 0 < D a b) (hv : ((D a b - w).natAbs : Int) ≤ l) : ML D w (fun i j => P i j ∨ (i = a ∧ j = b)) ((D a b - w).natAbs : Int) := by
  refine Or.inr ⟨⟨a, b, Or.inr ⟨rfl, rfl⟩, hd, rfl⟩, fun i j hp hv => ?_⟩
  rcases hp with hp | ⟨rfl, rfl⟩
  · rcases h with ⟨h1, h2⟩ | ⟨⟨i', j', p1, p2, p3⟩, h2⟩
    · omega
    · have := h2 i j hp hv; omega
  · exact Int.le_refl _
theorem ML.keep {D : Nat → Nat → Int} {w l : Int} {P : Nat → Nat → Prop} {a b : Nat} (h : ML D w P l) (hl : 0 ≤ l) (hv : l ≤ ((D a b - w).natAbs : Int)) : ML D w (fun i j => P i j ∨ (i = a ∧ j = b)) l := by
  rcases h with ⟨h1, h2⟩ | ⟨⟨i, j, p1, p2, p3⟩, h2⟩
  · omega
  · refine Or.inr ⟨⟨i, j, Or.inl p1, p2, p3⟩, fun i' j' hp hv' => ?_⟩
    rcases hp with hp | ⟨rfl, rfl⟩
    · exact h2 i' j' hp hv'
    · exact hv
theorem ML.dom {D : Nat → Nat → Int} {w l : Int} {P P' : Nat → Nat → Prop} (h : ML D w P l) (hs : ∀ i j, P i j → P' i j) (hd : ∀ i j, P' i j → 0 < D i j → ∃ i' j', P i' j' ∧ 0 < D i' j' ∧ ((D i' j' - w).natAbs : Int) ≤ ((D i j - w).natAbs : Int)) : ML D w P' l := by
  rcases h with ⟨h1, h2⟩ | ⟨⟨i, j, p1, p2, p3⟩, h2⟩
  · refine Or.inl ⟨h1, fun i j hp => Int.not_lt.mp (fun hv => ?_)⟩
    obtain ⟨i', j', q1, q2, _⟩ := hd i j hp hv
    have := h2 i' j' q1
    omega
  · refine Or.inr ⟨⟨i, j, hs i j p1, p2, p3⟩, fun i' j' hp hv => ?_⟩
    obtain ⟨a, b, q1, q2, q3⟩ := hd i' j' hp hv
    have := h2 a b q1 q2
    omega
theorem ML.nn {D : Nat → Nat → Int} {w l : Int} {P : Nat → Nat → Prop} (h : ML D w P l) : l = -1 ∨ 0 ≤ l := by
  rcases h with ⟨h1, _⟩ | ⟨⟨i, j, _, _, p3⟩, _⟩
  · exact Or.inl h1
  · right; omega
theorem ML.bd {D : Nat → Nat → Int} {w l : Int} {P : Nat → Nat → Prop} (h : ML D w P l) {B : Int} (hB : 0 ≤ B) (hb : ∀ i j, P i j → ((D i j - w).natAbs : Int) ≤ B) : -1 ≤ l ∧ l ≤ B := by
  rcases h with ⟨h1, _⟩ | ⟨⟨i, j, p1, _, p3⟩, _⟩
  · omega
  · have := hb i j p1; omega
section EGG
variable {x3 x11 x9 x7 x5 : Int64} {e b : Nat → Int} {w : Int}
/-- the class's numbers as whole numbers -/
def EB (x3 x11 x9 x7 x5 : Int64) (e b : Nat → Int) (w : Int) : Prop := x3.toInt = w ∧ (0 ≤ w ∧ w ≤ 10000000000) ∧ (∀ j, j < 241 → (x11 + ((nI j * 1440).toInt64 * x5)).toInt = e j ∧ 0 ≤ e j ∧ e j ≤ 10000000000) ∧ (∀ i, i < 60 → (x9 + ((nI i * 1440).toInt64 * x7)).toInt = b i ∧ 0 ≤ b i ∧ b i ≤ 10000000000) ∧ (∀ j j', j < j' → e j < e j') ∧ ∀ i i', i ≤ i' → b i ≤ b i'
theorem l118 (h : EB x3 x11 x9 x7 x5 e b w) {i en : Nat} (hi : i < 60) (hen : en < 240) {K : Int32 → Int32 → Int64 → Int64} {P : Nat → Nat → Prop} (hPb : ∀ i j, P i j → i < 60 ∧ j < 240) : ∀ (f j : Nat) (l : Int64), en ≤ j → j ≤ en + 2 → j ≤ 240 → en + 2 - j < f → ML (fun i j => e j - b i) w (fun i' j' => P i' j' ∨ (i' = i ∧ en ≤ j' ∧ j' < j)) l.toInt →
    ∃ l', F_X6_leastOff_118 x3 x11 x9 x7 x5 (nI i) K (nI en) f (nI j) l = K (nI i + 1) (nI en) l' ∧ ML (fun i j => e j - b i) w (fun i' j' => P i' j' ∨ (i' = i ∧ en ≤ j' ∧ j' ≤ en + 1 ∧ j' < 240)) l'.toInt := by
  obtain ⟨h3, ⟨w0, w1⟩, hE, hB, hmono, -⟩ := h
  have zm : (-1 : Int64).toInt = -1 := rfl
  have z0 : (0 : Int64).toInt = 0 := rfl
  intro f
  induction f with
  | zero => intro j l _ _ _ h _; exact absurd h (Nat.not_lt_zero _)
  | succ f ih =>
    intro j l j0 j1 j2 hm hL
    rw [F_X6_leastOff_118.eq_2, nI_suc (n := en) (by omega)]
    by_cases c1 : en + 1 < j
    · rw [if_pos ((iN_lt (by omega) (by omega)).mpr c1)]
      exact ⟨l, rfl, hL.congr (fun i' j' => by constructor <;> (intro hh; rcases hh with hh | hh; exact Or.inl hh; exact Or.inr (by omega)))⟩
    · rw [if_neg (show ¬ nI (en + 1) < nI j from fun hq => c1 ((iN_lt (by omega) (by omega)).mp hq))]
      by_cases c2 : 240 ≤ j
      · rw [if_pos (show (240 : Int32) ≤ nI j from (iN_le (a := 240) (b := j) (by decide) (by omega)).mpr c2)]
        exact ⟨l, rfl, hL.congr (fun i' j' => by constructor <;> (intro hh; rcases hh with hh | hh; exact Or.inl hh; exact Or.inr (by omega)))⟩
      · rw [if_neg (show ¬ (240 : Int32) ≤ nI j from fun hq => c2 ((iN_le (a := 240) (b := j) (by decide) (by omega)).mp hq))]
        obtain ⟨e1, e2, e3⟩ := hE j (by omega)
        obtain ⟨b1, b2, b3⟩ := hB i hi
        generalize x11 + ((nI j * 1440).toInt64 * x5) = ee at e1 ⊢
        generalize x9 + ((nI i * 1440).toInt64 * x7) = bb at b1 ⊢
        have ed : (ee - bb).toInt = e j - b i := by rw [l_sub (by omega) (by omega), e1, b1]
        have eo : (F_J9_abs_067f4 (ee - bb - x3)).toInt = ((e j - b i - w).natAbs : Int) := by
          have := l_sub (a := ee - bb) (b := x3) (by omega) (by omega)
          rw [l_abs (by omega) (by omega), this, ed, h3]
        generalize F_J9_abs_067f4 (ee - bb - x3) = oo at eo ⊢
        have hset : ∀ i' j', ((P i' j' ∨ (i' = i ∧ en ≤ j' ∧ j' < j)) ∨ (i' = i ∧ j' = j)) ↔ (P i' j' ∨ (i' = i ∧ en ≤ j' ∧ j' < j + 1)) := fun i' j' => by
          constructor
          · rintro ((hh | hh) | hh)
            · exact Or.inl hh
            · exact Or.inr (by omega)
            · exact Or.inr (by omega)
          · rintro (hh | hh)
            · exact Or.inl (Or.inl hh)
            · by_cases hj : j' = j
              · exact Or.inr ⟨hh.1, hj⟩
              · exact Or.inl (Or.inr (by omega))
        rw [nI_suc (n := j) (by omega)]
        by_cases c3 : lg_cmp (ee - bb) 0 ≤ 0
        · rw [if_pos c3]
          have := (lc_le _ _).mp c3
          exact ih (j + 1) l (by omega) (by omega) (by omega) (by omega) ((hL.skip (a := i) (b := j) (by show e j - b i ≤ 0; omega)).congr hset)
        · rw [if_neg c3]
          have c3' := mt (lc_le _ _).mpr c3
          by_cases c4 : lg_cmp l (-1) = 0
          · rw [if_pos c4]
            have c4' := (lc_eq _ _).mp c4
            refine ih (j + 1) oo (by omega) (by omega) (by omega) (by omega) ?_
            rw [c4', zm] at hL
            have := (hL.none (a := i) (b := j) (by show 0 < e j - b i; omega)).congr hset
            rw [eo]; exact this
          · rw [if_neg c4]
            have c4' := mt (lc_eq _ _).mpr c4
            have hl0 : 0 ≤ l.toInt := by rcases hL.nn with hh | hh <;> omega
            by_cases c5 : 0 ≤ lg_cmp oo l
            · rw [if_pos c5]
              have := (lc_ge _ _).mp c5
              exact ih (j + 1) l (by omega) (by omega) (by omega) (by omega) ((hL.keep (a := i) (b := j) hl0 (by show l.toInt ≤ ((e j - b i - w).natAbs : Int); omega)).congr hset)
            · rw [if_neg c5]
              have := mt (lc_ge _ _).mpr c5
              refine ih (j + 1) oo (by omega) (by omega) (by omega) (by omega) ?_
              have := (hL.less (a := i) (b := j) hl0 (by show 0 < e j - b i; omega) (by show ((e j - b i - w).natAbs : Int) ≤ l.toInt; omega)).congr hset
              rw [eo]; exact this
theorem l118_eq {x16 x15 : Int32} {K : Int32 → Int32 → Int64 → Int64} : ∀ (f : Nat) (j : Int32) (l : Int64), F_X6_leastOff_118_12 x3 x11 x9 x7 x5 x16 K x15 f j l = F_X6_leastOff_118 x3 x11 x9 x7 x5 x16 K x15 f j l := by
  intro f
  induction f with
  | zero => intro j l; rfl
  | succ f ih =>
    intro j l
    rw [F_X6_leastOff_118_12.eq_2, F_X6_leastOff_118.eq_2]
    simp only [ih]
/-- the ends next to the wanted time are enough -/
theorem enough (h : EB x3 x11 x9 x7 x5 e b w) {i en : Nat} (hi : i < 60) (hen : en < 240) (h1 : en = 0 ∨ e en ≤ b i + w) (h2 : en = 239 ∨ b i + w < e (en + 1)) {l : Int} (hL : ML (fun i j => e j - b i) w (fun i' j' => (i' < i ∧ j' < 240) ∨ (i' = i ∧ en ≤ j' ∧ j' ≤ en + 1 ∧ j' < 240)) l) : ML (fun i j => e j - b i) w (fun i' j' => i' < i + 1 ∧ j' < 240) l := by
  obtain ⟨-, ⟨w0, w1⟩, -, -, hmono, -⟩ := h
  refine hL.dom (fun i' j' hp => by omega) (fun i' j' hp hv => ?_)
  by_cases hii : i' = i
  · subst hii
    have hv : 0 < e j' - b i' := hv
    by_cases c1 : j' < en
    · have := hmono j' en c1
      rcases h1 with h1 | h1
      · omega
      · exact ⟨i', en, Or.inr (by omega), (by show 0 < e en - b i'; omega), by show ((e en - b i' - w).natAbs : Int) ≤ ((e j' - b i' - w).natAbs : Int); omega⟩
    · by_cases c2 : en + 1 < j'
      · have := hmono (en + 1) j' c2
        rcases h2 with h2 | h2
        · omega
        · exact ⟨i', en + 1, Or.inr (by omega), (by show 0 < e (en + 1) - b i'; omega), by show ((e (en + 1) - b i' - w).natAbs : Int) ≤ ((e j' - b i' - w).natAbs : Int); omega⟩
      · exact ⟨i', j', Or.inr (by omega), hv, Int.le_refl _⟩
  · exact ⟨i', j', Or.inl (by omega), hv, Int.le_refl _⟩
theorem l77 (h : EB x3 x11 x9 x7 x5 e b w) {i : Nat} (hi : i < 60) {K : Int32 → Int32 → Int64 → Int64} {l : Int64} (hL : ML (fun i j => e j - b i) w (fun i' j' => i' < i ∧ j' < 240) l.toInt) : ∀ (f en : Nat), en < 240 → 239 - en < f → (en = 0 ∨ e en ≤ b i + w) →
    ∃ en' l', en' < 240 ∧ (en' = 0 ∨ e en' ≤ b i + w) ∧ F_X6_leastOff_77 x3 x11 x9 x7 x5 (nI i) l K f (nI en) = K (nI i + 1) (nI en') l' ∧ ML (fun i j => e j - b i) w (fun i' j' => i' < i + 1 ∧ j' < 240) l'.toInt := by
  have hh := h
  obtain ⟨h3, ⟨w0, w1⟩, hE, hB, hmono, -⟩ := h
  intro f
  induction f with
  | zero => intro en _ h _; exact absurd h (Nat.not_lt_zero _)
  | succ f ih =>
    intro en hen hm h1
    rw [F_X6_leastOff_77.eq_2]
    have hfin : (en = 239 ∨ b i + w < e (en + 1)) → ∃ en' l', en' < 240 ∧ (en' = 0 ∨ e en' ≤ b i + w) ∧ F_X6_leastOff_118 x3 x11 x9 x7 x5 (nI i) K (nI en) 241 (nI en) l = K (nI i + 1) (nI en') l' ∧ ML (fun i j => e j - b i) w (fun i' j' => i' < i + 1 ∧ j' < 240) l'.toInt := fun h2 => by
      have hs : ∀ i' j', (i' < i ∧ j' < 240) ↔ ((i' < i ∧ j' < 240) ∨ (i' = i ∧ en ≤ j' ∧ j' < en)) := fun i' j' => ⟨fun hq => Or.inl hq, fun hq => hq.elim id (fun hq => by omega)⟩
      obtain ⟨l', e1, m1⟩ := l118 hh hi hen (K := K) (P := fun i' j' => i' < i ∧ j' < 240) (fun i' j' hp => by omega) 241 en l (Nat.le_refl _) (by omega) (by omega) (by omega) (hL.congr hs)
      exact ⟨en, l', hen, h1, e1, enough hh hi hen h1 h2 m1⟩
    by_cases c1 : 239 ≤ en
    · rw [if_pos (show (239 : Int32) ≤ nI en from (iN_le (a := 239) (b := en) (by decide) (by omega)).mpr c1)]
      exact hfin (Or.inl (by omega))
    · rw [if_neg (show ¬ (239 : Int32) ≤ nI en from fun hq => c1 ((iN_le (a := 239) (b := en) (by decide) (by omega)).mp hq)), nI_suc (n := en) (by omega)]
      obtain ⟨e1, e2, e3⟩ := hE (en + 1) (by omega)
      obtain ⟨b1, b2, b3⟩ := hB i hi
      have eb : (x9 + (nI i * 1440).toInt64 * x7 + x3).toInt = b i + w := by rw [l_add (by omega) (by omega), b1, h3]
      by_cases c2 : 0 < lg_cmp (x11 + (nI (en + 1) * 1440).toInt64 * x5) (x9 + (nI i * 1440).toInt64 * x7 + x3)
      · have := (lc_gt _ _).mp c2
        rw [if_pos c2, l118_eq]
        exact hfin (Or.inr (by omega))
      · have := mt (lc_gt _ _).mpr c2
        rw [if_neg c2]
        exact ih (en + 1) (by omega) (by omega) (Or.inr (by omega))
theorem l55 (h : EB x3 x11 x9 x7 x5 e b w) : ∀ (f i en : Nat) (l : Int64), i ≤ 60 → 60 - i < f → en < 240 → (en = 0 ∨ i < 60 → en = 0 ∨ e en ≤ b i + w) → ML (fun i j => e j - b i) w (fun i' j' => i' < i ∧ j' < 240) l.toInt →
    ML (fun i j => e j - b i) w (fun i' j' => i' < 60 ∧ j' < 240) (F_X6_leastOff_55 x3 x11 x9 x7 x5 f (nI i) (nI en) l).toInt := by
  intro f
  induction f with
  | zero => intro i en l _ h _ _ _; exact absurd h (Nat.not_lt_zero _)
  | succ f ih =>
    intro i en l hi hm hen h1 hL
    rw [F_X6_leastOff_55.eq_2]
    by_cases c1 : i < 60
    · rw [if_neg (show ¬ (60 : Int32) ≤ nI i from fun hq => by have := (iN_le (a := 60) (b := i) (by decide) (by omega)).mp hq; omega)]
      obtain ⟨en', l', p1, p2, p3, p4⟩ := l77 h c1 (K := F_X6_leastOff_55 x3 x11 x9 x7 x5 f) hL 240 en hen (by omega) (h1 (Or.inr c1))
      rw [p3, nI_suc (by omega)]
      refine ih (i + 1) en' l' (by omega) (by omega) p1 (fun _ => ?_) p4
      rcases p2 with p2 | p2
      · exact Or.inl p2
      · have := h.2.2.2.2.2 i (i + 1) (by omega)
        exact Or.inr (by omega)
    · have e9 : i = 60 := by omega
      subst e9
      rw [if_pos (show (60 : Int32) ≤ nI 60 by decide)]
      exact hL
theorem least_class (h : EB x3 x11 x9 x7 x5 e b w) : ML (fun i j => e j - b i) w (fun i' j' => i' < 60 ∧ j' < 240) (F_X6_leastOff_49 x3 x11 x9 x7 x5).toInt := by
  have g := l55 h 61 0 0 (-1) (by decide) (by decide) (by decide) (fun _ => Or.inl rfl) (Or.inl ⟨rfl, fun i j hp => by omega⟩)
  rw [iz] at g
  exact g
end EGG
