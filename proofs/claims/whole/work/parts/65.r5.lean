theorem le720 {k : Nat} (h : k < 720) : ¬ (720 : Int32) ≤ nI k := fun hc => by
  have := (iN_le (a := 720) (b := k) (by decide) (by omega)).mp hc
  omega
theorem fill_loop : ∀ (n k : Nat) (w : Nat → Int32), k ≤ 720 → 720 - k < n → (∀ i, i < k → w i = 0) → ∀ i, i < 720 → (F_J7_fill_53178_5 0 n (nI k) w) i = 0 := by
  intro n
  induction n with
  | zero => intro k w _ h _; exact absurd h (Nat.not_lt_zero _)
  | succ n ih =>
    intro k w hk hm hi
    rw [F_J7_fill_53178_5.eq_2]
    by_cases h : k < 720
    · rw [if_neg (le720 h), nI_tn (by omega), nI_suc (by omega)]
      refine ih (k + 1) _ (by omega) (by omega) (fun i hik => ?_)
      by_cases h2 : i = k
      · rw [h2, upd_at]
      · rw [upd_ne h2]; exact hi i (by omega)
    · have e : k = 720 := by omega
      subst e
      rw [if_pos (show (720 : Int32) ≤ nI 720 by decide)]
      exact hi
theorem fill_ok (w : Nat → Int32) : ∀ i, i < 720 → (F_J7_fill_53178 w 0) i = 0 := by
  have := fill_loop 721 0 w (by decide) (by decide) (fun i h => absurd h (Nat.not_lt_zero _))
  rw [iz] at this
  exact this
theorem n57_loop {rd : Int32} {c L : Nat → Int32} {x l b : Int32} {K : Int32 → Int32 → Int32 → (Nat → Int32) → Int32 × (Nat → Int32) × (Nat → Int32)} : ∀ (n k : Nat) (w : Nat → Int32), k ≤ 720 → 720 - k < n → (∀ i, i < k → w i = 0) → ∃ w', F_X7_next_57 rd c L x l b K n (nI k) w = F_X7_next_82 rd c L x l b K 4321 0 0 w' ∧ ∀ i, i < 720 → w' i = 0 := by
  intro n
  induction n with
  | zero => intro k w _ h _; exact absurd h (Nat.not_lt_zero _)
  | succ n ih =>
    intro k w hk hm hi
    rw [F_X7_next_57.eq_2]
    by_cases h : k < 720
    · rw [if_neg (le720 h), nI_tn (by omega), nI_suc (by omega)]
      refine ih (k + 1) _ (by omega) (by omega) (fun i hik => ?_)
      by_cases h2 : i = k
      · rw [h2, upd_at]
      · rw [upd_ne h2]; exact hi i (by omega)
    · have e : k = 720 := by omega
      subst e
      rw [if_pos (show (720 : Int32) ≤ nI 720 by decide)]
      exact ⟨w, rfl, hi⟩
/-- behind the count of one clock -/
def fin82 (x l b : Int32) (K : Int32 → Int32 → Int32 → (Nat → Int32) → Int32 × (Nat → Int32) × (Nat → Int32)) (r : Int32) (w : Nat → Int32) : Int32 × (Nat → Int32) × (Nat → Int32) := if b = -1 then K (x + 1) r x w else if l ≤ r then K (x + 1) l b w else K (x + 1) r x w
section HRs
variable {ck : Nat → Nat → Int32} {nm : Int32} {nc nt nd : Nat → Int32} {told rd : Int32} {c : Nat → Int32} {noted : Int32} {note : Nat → Int32} {si : Int32} {mis fit : Nat → Int32}
theorem n82_loop (h : HR ck nm nc nt nd told rd c noted note) {k : Nat} (hk : k < 8) (hn : ¬ ck k 0 = -1) {M L : Nat → Int32} (hS : ∀ i, i < 4320 → (M i = 0 ↔ L i = rd)) {l b : Int32} {K : Int32 → Int32 → Int32 → (Nat → Int32) → Int32 × (Nat → Int32) × (Nat → Int32)} : ∀ (n t : Nat) (r : Int32) (w w' : Nat → Int32), t ≤ 4320 → 4320 - t < n → (∀ i, i < 720 → w i = w' i) → ∃ u', F_X7_next_82 rd c L (nI k) l b K n (nI t) r w' = fin82 (nI k) l b K (F_X6_mostLeftBy_12 ck M k n (nI t) r w).1 u' := by
  intro n
  induction n with
  | zero => intro t r w w' _ h _; exact absurd h (Nat.not_lt_zero _)
  | succ n ih =>
    intro t r w w' ht hm hw
    rw [F_X7_next_82.eq_2, F_X6_mostLeftBy_12.eq_2]
    by_cases hc : t < 4320
    · rw [if_neg (le4320 hc), if_neg (le4320 hc), nI_tn (n := t) (by omega)]
      by_cases c1 : M t = 0
      · rw [if_pos c1, if_pos ((hS t hc).mp c1), ixk3 hk, ← (h.dial hk hn (t := nI t) (by rw [nI_toInt (by omega)]; omega) (by rw [nI_toInt (by omega)]; omega)).1]
        have hd : (F_X0_dialAt (ck k 0) (ck k 1) (ck k 2) (nI t) (ck k 3)).toNatClampNeg < 720 := by
          have hin := vp_in_iff.mp (dial_in (k := ck k 0) (s := ck k 1) (d := ck k 2) (m := nI t) (r := ck k 3))
          exact tn_lt hin.1 (by omega)
        generalize (F_X0_dialAt (ck k 0) (ck k 1) (ck k 2) (nI t) (ck k 3)).toNatClampNeg = q at hd ⊢
        rw [upd_at, upd_at, ← hw q hd, nI_suc (by omega)]
        have hw2 : ∀ i, i < 720 → upd w q (w q + 1) i = upd w' q (w q + 1) i := fun i hi => by
          by_cases h2 : i = q
          · rw [h2, upd_at, upd_at]
          · rw [upd_ne h2, upd_ne h2]; exact hw i hi
        unfold F_J9_max_7cf53
        by_cases c2 : w q + 1 ≤ r
        · rw [if_pos c2, if_neg (show ¬ r < w q + 1 by rw [Int32.not_lt]; exact c2)]
          exact ih (t + 1) r _ _ (by omega) (by omega) hw2
        · rw [if_neg c2, if_pos (show r < w q + 1 from Int32.not_le.mp c2)]
          exact ih (t + 1) (w q + 1) _ _ (by omega) (by omega) hw2
      · rw [if_neg c1, if_neg (fun e => c1 ((hS t hc).mpr e)), nI_suc (by omega)]
        exact ih (t + 1) r w w' (by omega) (by omega) hw
    · have e : t = 4320 := by omega
      subst e
      rw [if_pos (show (4320 : Int32) ≤ nI 4320 by decide), if_pos (show (4320 : Int32) ≤ nI 4320 by decide)]
      refine ⟨w', ?_⟩
      unfold fin82 F_X7_next_192 F_X7_next_197 F_X7_next_210
      by_cases c1 : b = -1
      · rw [if_pos c1, if_pos c1, if_neg (show ¬ (1 : Int32) = 0 by decide), if_neg (show ¬ (1 : Int32) = 0 by decide)]
      · rw [if_neg c1, if_neg c1]
        by_cases c2 : l ≤ r
        · rw [if_pos c2, if_pos c2, if_pos rfl, if_pos rfl]
        · rw [if_neg c2, if_neg c2, if_neg (show ¬ (1 : Int32) = 0 by decide), if_neg (show ¬ (1 : Int32) = 0 by decide)]
theorem next_loop (h : HR ck nm nc nt nd told rd c noted note) {S : Int32 × (Nat → Int32)} {L : Nat → Int32} (hS : ∀ i, i < 4320 → (S.2 i = 0 ↔ L i = rd)) (x1 : Int32) : ∀ (n k : Nat) (l l' b : Int32) (w w' : Nat → Int32), k ≤ 8 → 8 - k < n → (b = -1 → l = -1) → (¬ b = -1 → l = l') →
    (F_X6_next_22 ck x1 S n (nI k) l b w).1 = (F_X7_next_23 told rd c x1 L n (nI k) l' b w').1 ∧ (F_X6_next_22 ck x1 S n (nI k) l b w).2.1 = S.1 ∧ (F_X6_next_22 ck x1 S n (nI k) l b w).2.2.1 = S.2 := by
  intro n
  induction n with
  | zero => intro k l l' b w w' _ h _ _; exact absurd h (Nat.not_lt_zero _)
  | succ n ih =>
    intro k l l' b w w' hk hm hb1 hb2
    rw [F_X6_next_22.eq_2, F_X7_next_23.eq_2]
    by_cases hc : k < 8
    · rw [if_neg (nI8 hc), if_neg (nI8 hc), nI_tn (n := k) (by omega), h.tl]
      unfold F_X7_isExact
      by_cases c1 : F_X7_isClock told (nI k) = 0
      · rw [if_pos c1, if_pos c1, if_pos rfl, nI_suc (by omega)]
        exact ih (k + 1) l l' b w w' (by omega) (by omega) hb1 hb2
      · rw [if_neg c1, if_neg c1, ixk3 hc, ixk4 hc]
        obtain ⟨k', hk', ek, hn⟩ := h.at c1
        have ek : k = k' := by
          have := congrArg Int32.toInt ek
          rw [nI_toInt (by omega), nI_toInt (by omega)] at this
          omega
        subst ek
        obtain ⟨a1, a2, a3, a4⟩ := h.2.2.2.1 k hc
        obtain ⟨b0, b2, bs, bn⟩ := a4 hn
        have hex : ck k 3 = ck k 4 ↔ c (6 * k + 3) = c (6 * k + 4) := by
          by_cases h2 : c (6 * k) = 2
          · obtain ⟨-, s3, s4, m3, m4⟩ := bs h2
            rw [s3, s4, m3, m4]
            exact ⟨fun _ => rfl, fun _ => rfl⟩
          · obtain ⟨-, s3, s4⟩ := bn h2
            rw [s3, s4]
        by_cases c2 : c (6 * k + 3) = c (6 * k + 4)
        · rw [if_pos c2, if_neg (show ¬ (1 : Int32) = 0 by decide)]
          by_cases c3 : ck k 5 = -1
          · rw [if_pos c3, if_pos (a2.mpr c3), if_pos (hex.mpr c2)]
            obtain ⟨w2, e2, z2⟩ := n57_loop (rd := rd) (c := c) (L := L) (x := nI k) (l := l') (b := b) (K := F_X7_next_23 told rd c x1 L n) 721 0 w' (by decide) (by decide) (fun i h => absurd h (Nat.not_lt_zero _))
            rw [iz] at e2
            obtain ⟨u', e3⟩ := n82_loop h hc hn hS (l := l') (b := b) (K := F_X7_next_23 told rd c x1 L n) 4321 0 0 (F_J7_fill_53178 w 0) w2 (by decide) (by decide) (fun i hi => by rw [z2 i hi, fill_ok w i hi])
            rw [iz] at e3
            rw [e2, e3]
            have em : F_X6_mostLeftBy ck S.2 w k = F_X6_mostLeftBy_12 ck S.2 k 4321 0 0 (F_J7_fill_53178 w 0) := rfl
            rw [← em]
            generalize F_X6_mostLeftBy ck S.2 w k = R
            unfold F_X6_next_c73 fin82
            rw [nI_suc (by omega)]
            have hkn : ¬ nI k = -1 := fun e => by
              have := congrArg Int32.toInt e
              rw [nI_toInt (by omega)] at this
              have zm : (-1 : Int32).toInt = -1 := rfl
              omega
            by_cases c4 : b = -1
            · rw [if_pos c4, if_pos c4]
              exact ih (k + 1) R.1 R.1 (nI k) _ _ (by omega) (by omega) (fun e => absurd e hkn) (fun _ => rfl)
            · rw [if_neg c4, if_neg c4, hb2 c4]
              by_cases c5 : l' ≤ R.1
              · rw [if_pos c5, if_pos c5]
                exact ih (k + 1) l' l' b _ _ (by omega) (by omega) (fun e => absurd e c4) (fun _ => rfl)
              · rw [if_neg c5, if_neg c5]
                exact ih (k + 1) R.1 R.1 (nI k) _ _ (by omega) (by omega) (fun e => absurd e hkn) (fun _ => rfl)
          · rw [if_neg c3, if_neg (fun e => c3 (a2.mp e)), nI_suc (by omega)]
            exact ih (k + 1) l l' b w w' (by omega) (by omega) hb1 hb2
        · rw [if_neg c2, if_pos rfl, if_neg (fun e => c2 (hex.mp e)), nI_suc (by omega)]
          have e9 : (if ck k 5 = -1 then F_X6_next_22 ck x1 S n (nI (k + 1)) l b w else F_X6_next_22 ck x1 S n (nI (k + 1)) l b w) = F_X6_next_22 ck x1 S n (nI (k + 1)) l b w := by split <;> rfl
          rw [e9]
          exact ih (k + 1) l l' b w w' (by omega) (by omega) hb1 hb2
    · have e : k = 8 := by omega
      subst e
      rw [if_pos le8, if_pos le8]
      by_cases c1 : b = -1
      · rw [if_pos c1, hb1 c1]
        by_cases c0 : x1 = 0
        · rw [if_pos c0]; exact ⟨rfl, rfl, rfl⟩
        · rw [if_neg c0]; exact ⟨c1.symm, rfl, rfl⟩
      · rw [if_neg c1, hb2 c1]
        by_cases c0 : x1 = 0
        · rw [if_pos c0, if_pos c0]; exact ⟨rfl, rfl, rfl⟩
        · rw [if_neg c0, if_neg c0]; exact ⟨rfl, rfl, rfl⟩
theorem q_next (h : HR ck nm nc nt nd told rd c noted note) (hs : SF si mis ck) (fit sh sh' : Nat → Int32) (x1 : Int32) : (F_X6_next si ck mis sh x1).1 = (F_X7_next told rd c fit sh' x1).1 ∧ SF (F_X6_next si ck mis sh x1).2.1 (F_X6_next si ck mis sh x1).2.2.1 ck := by
  unfold F_X6_next F_X7_next
  rw [bel2]
  by_cases ci : F_X7_in x1 0 1 = 0
  · rw [if_pos ci, if_pos ci]; exact ⟨rfl, hs⟩
  · rw [if_neg ci, if_neg ci]
    unfold F_X6_next_c12 F_X7_next_c13
    have g := next_loop h (fun i hi => (fit_all h hs fit i hi).1) x1 9 0 (-1) 0 (-1) sh sh' (by decide) (by decide) (fun _ => rfl) (fun e => absurd rfl e)
    rw [iz] at g
    obtain ⟨g1, g2, g3⟩ := g
    refine ⟨g1, ?_⟩
    rw [g2, g3]
    exact (sift_ok hs).2
end HRs
