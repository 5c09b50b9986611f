/-- only these places speak of a house -/
theorem HR.congr {ck ck' : Nat → Nat → Int32} {nm nm' : Int32} {nc nt nd nc' nt' nd' : Nat → Int32} {told rd : Int32} {c c' : Nat → Int32} {noted : Int32} {note note' : Nat → Int32} (h : HR ck nm nc nt nd told rd c noted note) (hck : ∀ k j, k < 8 → j < 6 → ck' k j = ck k j) (hnm : nm' = nm) (hn : ∀ i : Nat, (i : Int) < noted.toInt → nc' i = nc i ∧ nt' i = nt i ∧ nd' i = nd i) (hc : ∀ i, i < 48 → c' i = c i) (hno : ∀ i, i < 36 → note' i = note i) : HR ck' nm' nc' nt' nd' told rd c' noted note' := by
  obtain ⟨h1, h2, h3, h4, h5, h6, h7, h8⟩ := h
  refine ⟨h1, h2, fun k hk => ?_, fun k hk => ?_, by rw [hnm]; exact h5, h6, h7, fun i hi => ?_⟩
  · have := h3 k hk
    rw [hc (6 * k) (by omega), hc (6 * k + 1) (by omega), hc (6 * k + 2) (by omega), hc (6 * k + 3) (by omega), hc (6 * k + 4) (by omega)]
    exact this
  · have := h4 k hk
    unfold CR at this ⊢
    rw [hc (6 * k) (by omega), hc (6 * k + 1) (by omega), hc (6 * k + 2) (by omega), hc (6 * k + 3) (by omega), hc (6 * k + 4) (by omega), hc (6 * k + 5) (by omega), hck k 0 hk (by decide), hck k 1 hk (by decide), hck k 2 hk (by decide), hck k 3 hk (by decide), hck k 4 hk (by decide), hck k 5 hk (by decide)]
    exact this
  · obtain ⟨e1, e2, e3⟩ := hn i hi
    rw [hno (3 * i) (by omega), hno (3 * i + 1) (by omega), hno (3 * i + 2) (by omega), e1, e2, e3]
    exact h8 i hi
section HRs
variable {ck : Nat → Nat → Int32} {nm : Int32} {nc nt nd : Nat → Int32} {told rd : Int32} {c : Nat → Int32} {noted : Int32} {note : Nat → Int32}
theorem HR.notes (h : HR ck nm nc nt nd told rd c noted note) {nm' : Int32} {nc' nt' nd' : Nat → Int32} {noted' : Int32} {note' : Nat → Int32} (hN : NR nm' nc' nt' nd' noted' note') : HR ck nm' nc' nt' nd' told rd c noted' note' := ⟨h.1, h.2.1, h.2.2.1, h.2.2.2.1, hN⟩
theorem q_burn (h : HR ck nm nc nt nd told rd c noted note) : (F_X6_burn nm).1 = (F_X7_burn noted).1 ∧ HR ck (F_X6_burn nm).2 nc nt nd told rd c (F_X7_burn noted).2 note := by
  refine ⟨h.2.2.2.2.1, h.notes ⟨rfl, (show 0 ≤ (0 : Int32).toInt by decide), (show (0 : Int32).toInt ≤ 12 by decide), fun i hi => ?_⟩⟩
  have e0 : (0 : Int32).toInt = 0 := rfl
  have hi : (i : Int) < (0 : Int32).toInt := hi
  omega
theorem q_note (h : HR ck nm nc nt nd told rd c noted note) (x1 x2 x3 : Int32) : (F_X6_note ck nm nc nt nd x1 x2 x3).1 = (F_X7_note told note noted x1 x2 x3).1 ∧ HR ck (F_X6_note ck nm nc nt nd x1 x2 x3).2.1 (F_X6_note ck nm nc nt nd x1 x2 x3).2.2.1 (F_X6_note ck nm nc nt nd x1 x2 x3).2.2.2.1 (F_X6_note ck nm nc nt nd x1 x2 x3).2.2.2.2 told rd c (F_X7_note told note noted x1 x2 x3).2.2 (F_X7_note told note noted x1 x2 x3).2.1 := by
  unfold F_X6_note F_X7_note
  rw [h.tl, bel4320, bel720]
  by_cases hi : F_X7_isClock told x1 = 0
  · rw [if_pos hi, if_pos hi]; exact ⟨rfl, h⟩
  · rw [if_neg hi, if_neg hi]
    by_cases c1 : F_X7_isMinute x2 = 0
    · rw [if_pos c1, if_pos c1]; exact ⟨rfl, h⟩
    · rw [if_neg c1, if_neg c1]
      by_cases c2 : F_X7_in x3 0 719 = 0
      · rw [if_pos c2, if_pos c2]; exact ⟨rfl, h⟩
      · rw [if_neg c2, if_neg c2]
        obtain ⟨k0, k1⟩ := X7_isClock_in hi
        obtain ⟨t0, t1⟩ := X7_isMinute_in c1
        obtain ⟨s0, s1⟩ : (0 : Int) ≤ x3.toInt ∧ x3.toInt ≤ 719 := X7_in_in c2
        obtain ⟨-, -, -, -, rfl, n0, n1, hn⟩ := id h
        have e12 : (12 : Int32).toInt = 12 := rfl
        unfold F_X2_add
        by_cases c3 : nm = 12
        · rw [if_pos c3, if_neg (show ¬ nm < 12 by rw [c3]; decide)]
          unfold F_X6_note_c47
          rw [if_pos rfl]
          exact ⟨rfl, h⟩
        · have g3 := ti_ne c3
          rw [if_neg c3, if_pos (show nm < 12 from ti_lt.mpr (by omega))]
          unfold F_X6_note_c47
          rw [if_neg (show ¬ (1 : Int32) = 0 by decide)]
          have e1 := ti_inc (a := nm) (by omega)
          have en := tn_of n0
          have e3 := ti_mulc nm 3 3 rfl (by omega) (by omega)
          have i0 : (3 * nm).toNatClampNeg = 3 * nm.toNatClampNeg := by
            have := tn_of (x := 3 * nm) (by omega); omega
          have i1 : (3 * nm + 1).toNatClampNeg = 3 * nm.toNatClampNeg + 1 := by
            have e4 := ti_addc (3 * nm) 1 1 rfl (by omega) (by omega)
            have := tn_of (x := 3 * nm + 1) (by omega); omega
          have i2 : (3 * nm + 2).toNatClampNeg = 3 * nm.toNatClampNeg + 2 := by
            have e4 := ti_addc (3 * nm) 2 2 rfl (by omega) (by omega)
            have := tn_of (x := 3 * nm + 2) (by omega); omega
          refine ⟨rfl, h.notes ⟨rfl, ?_, ?_, fun i hi => ?_⟩⟩
          · show 0 ≤ (nm + 1).toInt; omega
          · show (nm + 1).toInt ≤ 12; omega
          · have hi : (i : Int) < (nm + 1).toInt := hi
            show (upd nc nm.toNatClampNeg x1 i = upd (upd (upd note (3 * nm).toNatClampNeg x1) (3 * nm + 1).toNatClampNeg x2) (3 * nm + 2).toNatClampNeg x3 (3 * i) ∧ upd nt nm.toNatClampNeg x2 i = upd (upd (upd note (3 * nm).toNatClampNeg x1) (3 * nm + 1).toNatClampNeg x2) (3 * nm + 2).toNatClampNeg x3 (3 * i + 1) ∧ upd nd nm.toNatClampNeg x3 i = upd (upd (upd note (3 * nm).toNatClampNeg x1) (3 * nm + 1).toNatClampNeg x2) (3 * nm + 2).toNatClampNeg x3 (3 * i + 2)) ∧ (0 ≤ (upd (upd (upd note (3 * nm).toNatClampNeg x1) (3 * nm + 1).toNatClampNeg x2) (3 * nm + 2).toNatClampNeg x3 (3 * i)).toInt ∧ (upd (upd (upd note (3 * nm).toNatClampNeg x1) (3 * nm + 1).toNatClampNeg x2) (3 * nm + 2).toNatClampNeg x3 (3 * i)).toInt < 8) ∧ (0 ≤ (upd (upd (upd note (3 * nm).toNatClampNeg x1) (3 * nm + 1).toNatClampNeg x2) (3 * nm + 2).toNatClampNeg x3 (3 * i + 1)).toInt ∧ (upd (upd (upd note (3 * nm).toNatClampNeg x1) (3 * nm + 1).toNatClampNeg x2) (3 * nm + 2).toNatClampNeg x3 (3 * i + 1)).toInt < 4320) ∧ (0 ≤ (upd (upd (upd note (3 * nm).toNatClampNeg x1) (3 * nm + 1).toNatClampNeg x2) (3 * nm + 2).toNatClampNeg x3 (3 * i + 2)).toInt ∧ (upd (upd (upd note (3 * nm).toNatClampNeg x1) (3 * nm + 1).toNatClampNeg x2) (3 * nm + 2).toNatClampNeg x3 (3 * i + 2)).toInt < 720)
            rw [i0, i1, i2]
            by_cases hin : i = nm.toNatClampNeg
            · subst hin
              rw [upd_at, upd_at, upd_at, upd_ne (show ¬ 3 * nm.toNatClampNeg = 3 * nm.toNatClampNeg + 2 by omega), upd_ne (show ¬ 3 * nm.toNatClampNeg = 3 * nm.toNatClampNeg + 1 by omega), upd_at, upd_ne (show ¬ 3 * nm.toNatClampNeg + 1 = 3 * nm.toNatClampNeg + 2 by omega), upd_at, upd_at]
              exact ⟨⟨rfl, rfl, rfl⟩, ⟨k0, k1⟩, ⟨t0, t1⟩, ⟨s0, by omega⟩⟩
            · rw [upd_ne hin, upd_ne hin, upd_ne hin, upd_ne (show ¬ 3 * i = 3 * nm.toNatClampNeg + 2 by omega), upd_ne (show ¬ 3 * i = 3 * nm.toNatClampNeg + 1 by omega), upd_ne (show ¬ 3 * i = 3 * nm.toNatClampNeg by omega), upd_ne (show ¬ 3 * i + 1 = 3 * nm.toNatClampNeg + 2 by omega), upd_ne (show ¬ 3 * i + 1 = 3 * nm.toNatClampNeg + 1 by omega), upd_ne (show ¬ 3 * i + 1 = 3 * nm.toNatClampNeg by omega), upd_ne (show ¬ 3 * i + 2 = 3 * nm.toNatClampNeg + 2 by omega), upd_ne (show ¬ 3 * i + 2 = 3 * nm.toNatClampNeg + 1 by omega), upd_ne (show ¬ 3 * i + 2 = 3 * nm.toNatClampNeg by omega)]
              exact hn i (by omega)
end HRs
-- copies
theorem ckU_at {ck : Nat → Nat → Int32} {j : Nat} {a0 a1 a2 a3 a4 a5 : Int32} : ckU ck j a0 a1 a2 a3 a4 a5 j 0 = a0 ∧ ckU ck j a0 a1 a2 a3 a4 a5 j 1 = a1 ∧ ckU ck j a0 a1 a2 a3 a4 a5 j 2 = a2 ∧ ckU ck j a0 a1 a2 a3 a4 a5 j 3 = a3 ∧ ckU ck j a0 a1 a2 a3 a4 a5 j 4 = a4 ∧ ckU ck j a0 a1 a2 a3 a4 a5 j 5 = a5 := by
  unfold ckU
  simp
theorem ckU_ne {ck : Nat → Nat → Int32} {i j f : Nat} {a0 a1 a2 a3 a4 a5 : Int32} (h : ¬ i = j) : ckU ck j a0 a1 a2 a3 a4 a5 i f = ck i f := by
  unfold ckU
  rw [if_neg h]
theorem ckU_self {ck g : Nat → Nat → Int32} {j f : Nat} (hf : f < 6) : ckU ck j (g j 0) (g j 1) (g j 2) (g j 3) (g j 4) (g j 5) j f = g j f := by
  obtain ⟨h0, h1, h2, h3, h4, h5⟩ := ckU_at (ck := ck) (j := j) (a0 := g j 0) (a1 := g j 1) (a2 := g j 2) (a3 := g j 3) (a4 := g j 4) (a5 := g j 5)
  have h6 : f = 0 ∨ f = 1 ∨ f = 2 ∨ f = 3 ∨ f = 4 ∨ f = 5 := by omega
  rcases h6 with rfl | rfl | rfl | rfl | rfl | rfl
  · exact h0
  · exact h1
  · exact h2
  · exact h3
  · exact h4
  · exact h5
theorem ncopy_loop {gm : Int32} {gc gt gd : Nat → Int32} (g0 : 0 ≤ gm.toInt) (g1 : gm.toInt ≤ 12) : ∀ (n : Nat) (k m : Int32) (nc nt nd : Nat → Int32), 0 ≤ k.toInt → k.toInt ≤ gm.toInt → (gm.toInt - k.toInt).toNat < n → m = k → (∀ i : Nat, (i : Int) < k.toInt → nc i = gc i ∧ nt i = gt i ∧ nd i = gd i) →
    (F_X2_copy_7 gm gc gt gd n k m nc nt nd).1 = gm ∧ ∀ i : Nat, (i : Int) < gm.toInt → (F_X2_copy_7 gm gc gt gd n k m nc nt nd).2.1 i = gc i ∧ (F_X2_copy_7 gm gc gt gd n k m nc nt nd).2.2.1 i = gt i ∧ (F_X2_copy_7 gm gc gt gd n k m nc nt nd).2.2.2 i = gd i := by
  intro n
  induction n with
  | zero => intro k m nc nt nd _ _ h _ _; exact absurd h (Nat.not_lt_zero _)
  | succ n ih =>
    intro k m nc nt nd k0 k1 hm hmk hi
    subst hmk
    have e12 : (12 : Int32).toInt = 12 := rfl
    rw [F_X2_copy_7.eq_2]
    by_cases hc : gm ≤ m
    · rw [if_pos hc]
      have hc := ti_le.mp hc
      exact ⟨Int32.toInt_inj.mp (show m.toInt = gm.toInt by omega), fun i h => hi i (by omega)⟩
    · rw [if_neg hc]
      have hc := ti_nle hc
      have e1 := ti_inc (a := m) (by omega)
      have em := tn_of k0
      rw [if_neg (show ¬ (12 : Int32) ≤ m from fun h => by have := ti_le.mp h; omega)]
      unfold F_X2_copy_c40 F_X2_add
      rw [if_pos (show m < 12 from ti_lt.mpr (by omega))]
      refine ih (m + 1) (m + 1) _ _ _ (by omega) (by omega) (by omega) rfl (fun i h => ?_)
      show upd nc m.toNatClampNeg _ i = _ ∧ upd nt m.toNatClampNeg _ i = _ ∧ upd nd m.toNatClampNeg _ i = _
      by_cases h2 : i = m.toNatClampNeg
      · subst h2
        rw [upd_at, upd_at, upd_at]
        exact ⟨rfl, rfl, rfl⟩
      · rw [upd_ne h2, upd_ne h2, upd_ne h2]
        exact hi i (by omega)
theorem ncopy {gm : Int32} {gc gt gd nc nt nd : Nat → Int32} (g0 : 0 ≤ gm.toInt) (g1 : gm.toInt ≤ 12) : (F_X2_copy nc nt nd gm gc gt gd).1 = gm ∧ ∀ i : Nat, (i : Int) < gm.toInt → (F_X2_copy nc nt nd gm gc gt gd).2.1 i = gc i ∧ (F_X2_copy nc nt nd gm gc gt gd).2.2.1 i = gt i ∧ (F_X2_copy nc nt nd gm gc gt gd).2.2.2 i = gd i := by
  have e0 : (0 : Int32).toInt = 0 := rfl
  exact ncopy_loop g0 g1 13 0 0 nc nt nd (by decide) (by omega) (by omega) rfl (fun i h => by omega)
theorem hcopy_loop {nc nt nd gc gt gd : Nat → Int32} {g : Nat → Nat → Int32} {gm : Int32} : ∀ (n k : Nat) (w : Nat → Nat → Int32), k ≤ 8 → 8 - k < n → (∀ i f, i < k → f < 6 → w i f = g i f) →
    (∀ i f, i < 8 → f < 6 → (F_X1_copy_2 nc nt nd g gm gc gt gd n (nI k) w).1 i f = g i f) ∧ (F_X1_copy_2 nc nt nd g gm gc gt gd n (nI k) w).2 = F_X2_copy nc nt nd gm gc gt gd := by
  intro n
  induction n with
  | zero => intro k w _ h _; exact absurd h (Nat.not_lt_zero _)
  | succ n ih =>
    intro k w k8 hm hi
    rw [F_X1_copy_2.eq_2]
    by_cases hk : k < 8
    · rw [if_neg (nI8 hk), nI_tn (by omega)]
      unfold F_X1_copy_c20 F_X0_copy F_X0_copy_c21 F_X0_tell
      rw [nI_suc (by omega)]
      refine ih (k + 1) _ (by omega) (by omega) (fun i f h hf => ?_)
      show ckU w (nI k).toNatClampNeg (g k 0) (g k 1) (g k 2) (g k 3) (g k 4) (g k 5) i f = g i f
      rw [nI_tn (by omega)]
      by_cases h2 : i = k
      · subst h2; exact ckU_self hf
      · rw [ckU_ne h2]; exact hi i f (by omega) hf
    · have e : k = 8 := by omega
      subst e
      rw [if_pos le8]
      unfold F_X1_copy_c37
      exact ⟨fun i f h hf => hi i f h hf, rfl⟩
theorem hcopy {ck g : Nat → Nat → Int32} {nc nt nd gc gt gd : Nat → Int32} {gm : Int32} (g0 : 0 ≤ gm.toInt) (g1 : gm.toInt ≤ 12) : (∀ i f, i < 8 → f < 6 → (F_X1_copy ck nc nt nd g gm gc gt gd).1 i f = g i f) ∧ (F_X1_copy ck nc nt nd g gm gc gt gd).2.1 = gm ∧ ∀ i : Nat, (i : Int) < gm.toInt → (F_X1_copy ck nc nt nd g gm gc gt gd).2.2.1 i = gc i ∧ (F_X1_copy ck nc nt nd g gm gc gt gd).2.2.2.1 i = gt i ∧ (F_X1_copy ck nc nt nd g gm gc gt gd).2.2.2.2 i = gd i := by
  obtain ⟨h1, h2⟩ := hcopy_loop (nc := nc) (nt := nt) (nd := nd) (gc := gc) (gt := gt) (gd := gd) (g := g) (gm := gm) 9 0 ck (by decide) (by decide) (fun i f h => absurd h (Nat.not_lt_zero _))
  have e : F_X1_copy ck nc nt nd g gm gc gt gd = F_X1_copy_2 nc nt nd g gm gc gt gd 9 (nI 0) ck := rfl
  rw [e]
  refine ⟨h1, ?_⟩
  rw [h2]
  exact ncopy g0 g1
/-- a kept house in both -/
def KR (filled : Int32) (ck : Nat → Nat → Int32) (nm : Int32) (nc nt nd : Nat → Int32) (isKept image : Nat → Int32) (j : Nat) : Prop :=
  filled = isKept j ∧ (¬ isKept j = 0 → HR ck nm nc nt nd (image (90 * j)) (image (90 * j + 1)) (fun i => image (90 * j + 3 + i)) (image (90 * j + 2)) (fun i => image (90 * j + 51 + i)))
theorem keep83 {told : Int32} {note isKept : Nat → Int32} {j : Nat} (hj : j < 2) : ∀ (n k : Nat) (im : Nat → Int32), k ≤ 36 → 36 - k < n →
    (F_X7_keep_83 told note isKept (nI j) n (nI k) im).1 = F_X7_bits told ∧ (F_X7_keep_83 told note isKept (nI j) n (nI k) im).2.2 = upd isKept j 1 ∧ ∀ i, (F_X7_keep_83 told note isKept (nI j) n (nI k) im).2.1 i = if 90 * j + 51 + k ≤ i ∧ i < 90 * j + 87 then note (i - (90 * j + 51)) else im i := by
  intro n
  induction n with
  | zero => intro k im _ h; exact absurd h (Nat.not_lt_zero _)
  | succ n ih =>
    intro k im k36 hm
    rw [F_X7_keep_83.eq_2]
    by_cases hk : k < 36
    · rw [if_neg (show ¬ (36 : Int32) ≤ nI k from fun h => by have := (iN_le (a := 36) (b := k) (by decide) (by omega)).mp h; omega), nI_suc (by omega)]
      have ei : (90 * nI j + 51 + nI k).toNatClampNeg = 90 * j + 51 + k := by
        have e0 := nI_toInt (n := j) (by omega)
        have e1 := ti_mulc (nI j) 90 90 rfl (by omega) (by omega)
        have e2 := ti_addc (90 * nI j) 51 51 rfl (by omega) (by omega)
        have e3 := nI_toInt (n := k) (by omega)
        have e4 := ti_add (a := 90 * nI j + 51) (b := nI k) (by omega) (by omega)
        have := tn_of (x := 90 * nI j + 51 + nI k) (by omega)
        omega
      rw [ei, nI_tn (n := k) (by omega)]
      obtain ⟨a1, a2, a3⟩ := ih (k + 1) (upd im (90 * j + 51 + k) (note k)) (by omega) (by omega)
      refine ⟨a1, a2, fun i => ?_⟩
      rw [a3 i]
      by_cases h1 : 90 * j + 51 + (k + 1) ≤ i ∧ i < 90 * j + 87
      · rw [if_pos h1, if_pos (by omega)]
      · rw [if_neg h1]
        by_cases h2 : i = 90 * j + 51 + k
        · rw [h2, upd_at, if_pos (by omega)]
          congr 1; omega
        · rw [upd_ne h2, if_neg (by omega)]
    · have e : k = 36 := by omega
      subst e
      rw [if_pos (show (36 : Int32) ≤ nI 36 by decide), nI_tn (n := j) (by omega)]
      exact ⟨rfl, rfl, fun i => by rw [if_neg (by omega)]⟩
theorem keep53 {told : Int32} {c note isKept : Nat → Int32} {j : Nat} (hj : j < 2) : ∀ (n k : Nat) (im : Nat → Int32), k ≤ 48 → 48 - k < n →
    (F_X7_keep_53 told c note isKept (nI j) n (nI k) im).1 = F_X7_bits told ∧ (F_X7_keep_53 told c note isKept (nI j) n (nI k) im).2.2 = upd isKept j 1 ∧ ∀ i, (F_X7_keep_53 told c note isKept (nI j) n (nI k) im).2.1 i = if 90 * j + 51 ≤ i ∧ i < 90 * j + 87 then note (i - (90 * j + 51)) else if 90 * j + 3 + k ≤ i ∧ i < 90 * j + 51 then c (i - (90 * j + 3)) else im i := by
  intro n
  induction n with
  | zero => intro k im _ h; exact absurd h (Nat.not_lt_zero _)
  | succ n ih =>
    intro k im k48 hm
    rw [F_X7_keep_53.eq_2]
    by_cases hk : k < 48
    · rw [if_neg (show ¬ (48 : Int32) ≤ nI k from fun h => by have := (iN_le (a := 48) (b := k) (by decide) (by omega)).mp h; omega), nI_suc (by omega)]
      have ei : (90 * nI j + 3 + nI k).toNatClampNeg = 90 * j + 3 + k := by
        have e0 := nI_toInt (n := j) (by omega)
        have e1 := ti_mulc (nI j) 90 90 rfl (by omega) (by omega)
        have e2 := ti_addc (90 * nI j) 3 3 rfl (by omega) (by omega)
        have e3 := nI_toInt (n := k) (by omega)
        have e4 := ti_add (a := 90 * nI j + 3) (b := nI k) (by omega) (by omega)
        have := tn_of (x := 90 * nI j + 3 + nI k) (by omega)
        omega
      rw [ei, nI_tn (n := k) (by omega)]
      obtain ⟨a1, a2, a3⟩ := ih (k + 1) (upd im (90 * j + 3 + k) (c k)) (by omega) (by omega)
      refine ⟨a1, a2, fun i => ?_⟩
      rw [a3 i]
      by_cases h0 : 90 * j + 51 ≤ i ∧ i < 90 * j + 87
      · rw [if_pos h0, if_pos h0]
      · rw [if_neg h0, if_neg h0]
        by_cases h1 : 90 * j + 3 + (k + 1) ≤ i ∧ i < 90 * j + 51
        · rw [if_pos h1, if_pos (by omega)]
        · rw [if_neg h1]
          by_cases h2 : i = 90 * j + 3 + k
          · rw [h2, upd_at, if_pos (by omega)]
            congr 1; omega
          · rw [upd_ne h2, if_neg (by omega)]
    · have e : k = 48 := by omega
      subst e
      rw [if_pos (show (48 : Int32) ≤ nI 48 by decide)]
      obtain ⟨a1, a2, a3⟩ := keep83 (told := told) (note := note) (isKept := isKept) hj 37 0 im (by decide) (by decide)
      refine ⟨a1, a2, fun i => ?_⟩
      have := a3 i
      rw [Nat.add_zero] at this
      show (F_X7_keep_83 told note isKept (nI j) 37 (nI 0) im).2.1 i = _
      rw [this]
      by_cases h0 : 90 * j + 51 ≤ i ∧ i < 90 * j + 87
      · rw [if_pos h0, if_pos h0]
      · rw [if_neg h0, if_neg h0, if_neg (by omega)]
theorem keep_model {told rd noted : Int32} {c note image isKept : Nat → Int32} {j : Nat} (hj : j < 2) : (F_X7_keep told rd c note noted image isKept (nI j)).1 = F_X7_bits told ∧ (F_X7_keep told rd c note noted image isKept (nI j)).2.2 = upd isKept j 1 ∧ (F_X7_keep told rd c note noted image isKept (nI j)).2.1 (90 * j) = told ∧ (F_X7_keep told rd c note noted image isKept (nI j)).2.1 (90 * j + 1) = rd ∧ (F_X7_keep told rd c note noted image isKept (nI j)).2.1 (90 * j + 2) = noted ∧ (∀ i, i < 48 → (F_X7_keep told rd c note noted image isKept (nI j)).2.1 (90 * j + 3 + i) = c i) ∧ (∀ i, i < 36 → (F_X7_keep told rd c note noted image isKept (nI j)).2.1 (90 * j + 51 + i) = note i) ∧ ∀ i, i < 90 * j ∨ 90 * j + 87 ≤ i → (F_X7_keep told rd c note noted image isKept (nI j)).2.1 i = image i := by
  have e0 := nI_toInt (n := j) (by omega)
  have e1 := ti_mulc (nI j) 90 90 rfl (by omega) (by omega)
  have i0 : (90 * nI j).toNatClampNeg = 90 * j := by
    have := tn_of (x := 90 * nI j) (by omega); omega
  have i1 : (90 * nI j + 1).toNatClampNeg = 90 * j + 1 := by
    have e4 := ti_addc (90 * nI j) 1 1 rfl (by omega) (by omega)
    have := tn_of (x := 90 * nI j + 1) (by omega); omega
  have i2 : (90 * nI j + 2).toNatClampNeg = 90 * j + 2 := by
    have e4 := ti_addc (90 * nI j) 2 2 rfl (by omega) (by omega)
    have := tn_of (x := 90 * nI j + 2) (by omega); omega
  have ein : ¬ F_X7_in (nI j) 0 1 = 0 := by
    rw [in_spec, if_pos]
    · decide
    · have z0 : (0 : Int32).toInt = 0 := rfl
      have z1 : (1 : Int32).toInt = 1 := rfl
      omega
  have eF : F_X7_keep told rd c note noted image isKept (nI j) = F_X7_keep_53 told c note isKept (nI j) 49 (nI 0) (upd (upd (upd image (90 * j) told) (90 * j + 1) rd) (90 * j + 2) noted) := by
    unfold F_X7_keep
    rw [if_neg ein, i0, i1, i2]
    rfl
  rw [eF]
  obtain ⟨a1, a2, a3⟩ := keep53 (told := told) (c := c) (note := note) (isKept := isKept) hj 49 0 (upd (upd (upd image (90 * j) told) (90 * j + 1) rd) (90 * j + 2) noted) (by decide) (by decide)
  refine ⟨a1, a2, ?_, ?_, ?_, fun i hi => ?_, fun i hi => ?_, fun i hi => ?_⟩
  · rw [a3, if_neg (by omega), if_neg (by omega), upd_ne (by omega), upd_ne (by omega), upd_at]
  · rw [a3, if_neg (by omega), if_neg (by omega), upd_ne (by omega), upd_at]
  · rw [a3, if_neg (by omega), if_neg (by omega), upd_at]
  · rw [a3, if_neg (by omega), if_pos (by omega)]; congr 1; omega
  · rw [a3, if_pos (by omega)]; congr 1; omega
  · rw [a3, if_neg (by omega), if_neg (by omega), upd_ne (by omega), upd_ne (by omega), upd_ne (by omega)]
theorem KR.other {filled : Int32} {ck : Nat → Nat → Int32} {nm : Int32} {nc nt nd : Nat → Int32} {isKept image isKept' image' : Nat → Int32} {j : Nat} (h : KR filled ck nm nc nt nd isKept image j) (h1 : isKept' j = isKept j) (h2 : ∀ i, i < 87 → image' (90 * j + i) = image (90 * j + i)) : KR filled ck nm nc nt nd isKept' image' j := by
  refine ⟨by rw [h1]; exact h.1, fun hk => ?_⟩
  have hh := h.2 (by rw [← h1]; exact hk)
  have h20 : image' (90 * j) = image (90 * j) := h2 0 (by decide)
  rw [h20, h2 1 (by decide), h2 2 (by decide)]
  refine hh.congr (fun _ _ _ _ => rfl) rfl (fun _ _ => ⟨rfl, rfl, rfl⟩) (fun i hi => ?_) (fun i hi => ?_)
  · show image' (90 * j + 3 + i) = image (90 * j + 3 + i)
    rw [Nat.add_assoc]; exact h2 _ (by omega)
  · show image' (90 * j + 51 + i) = image (90 * j + 51 + i)
    rw [Nat.add_assoc]; exact h2 _ (by omega)
section HRs
variable {ck : Nat → Nat → Int32} {nm : Int32} {nc nt nd : Nat → Int32} {told rd : Int32} {c : Nat → Int32} {noted : Int32} {note : Nat → Int32}
theorem keep_new (h : HR ck nm nc nt nd told rd c noted note) {wk : Nat → Nat → Int32} {wc wt wd : Nat → Int32} {image isKept : Nat → Int32} {j : Nat} (hj : j < 2) :
    KR 1 (F_X1_copy wk wc wt wd ck nm nc nt nd).1 (F_X1_copy wk wc wt wd ck nm nc nt nd).2.1 (F_X1_copy wk wc wt wd ck nm nc nt nd).2.2.1 (F_X1_copy wk wc wt wd ck nm nc nt nd).2.2.2.1 (F_X1_copy wk wc wt wd ck nm nc nt nd).2.2.2.2 (F_X7_keep told rd c note noted image isKept (nI j)).2.2 (F_X7_keep told rd c note noted image isKept (nI j)).2.1 j := by
  obtain ⟨m1, m2, m3, m4, m5, m6, m7, m8⟩ := keep_model (told := told) (rd := rd) (noted := noted) (c := c) (note := note) (image := image) (isKept := isKept) hj
  obtain ⟨-, -, -, -, rfl, n0, n1, -⟩ := id h
  obtain ⟨g1, g2, g3⟩ := hcopy (ck := wk) (g := ck) (nc := wc) (nt := wt) (nd := wd) (gc := nc) (gt := nt) (gd := nd) n0 n1
  refine ⟨by rw [m2, upd_at], fun _ => ?_⟩
  rw [m3, m4, m5]
  exact h.congr g1 g2 g3 (fun i hi => m6 i hi) (fun i hi => m7 i hi)
theorem q_keep (h : HR ck nm nc nt nd told rd c noted note) {af : Int32} {ak : Nat → Nat → Int32} {am : Int32} {ac at_ ad : Nat → Int32} {bf : Int32} {bk_ : Nat → Nat → Int32} {bm : Int32} {bc bt bd : Nat → Int32} {image isKept : Nat → Int32} (ka : KR af ak am ac at_ ad isKept image 0) (kb : KR bf bk_ bm bc bt bd isKept image 1) (x1 : Int32) :
    (F_X6_keep ck nm nc nt nd af ak am ac at_ ad bf bk_ bm bc bt bd x1).1 = (F_X7_keep told rd c note noted image isKept x1).1 ∧ KR (F_X6_keep ck nm nc nt nd af ak am ac at_ ad bf bk_ bm bc bt bd x1).2.1 (F_X6_keep ck nm nc nt nd af ak am ac at_ ad bf bk_ bm bc bt bd x1).2.2.1 (F_X6_keep ck nm nc nt nd af ak am ac at_ ad bf bk_ bm bc bt bd x1).2.2.2.1 (F_X6_keep ck nm nc nt nd af ak am ac at_ ad bf bk_ bm bc bt bd x1).2.2.2.2.1 (F_X6_keep ck nm nc nt nd af ak am ac at_ ad bf bk_ bm bc bt bd x1).2.2.2.2.2.1 (F_X6_keep ck nm nc nt nd af ak am ac at_ ad bf bk_ bm bc bt bd x1).2.2.2.2.2.2.1 (F_X7_keep told rd c note noted image isKept x1).2.2 (F_X7_keep told rd c note noted image isKept x1).2.1 0 ∧ KR (F_X6_keep ck nm nc nt nd af ak am ac at_ ad bf bk_ bm bc bt bd x1).2.2.2.2.2.2.2.1 (F_X6_keep ck nm nc nt nd af ak am ac at_ ad bf bk_ bm bc bt bd x1).2.2.2.2.2.2.2.2.1 (F_X6_keep ck nm nc nt nd af ak am ac at_ ad bf bk_ bm bc bt bd x1).2.2.2.2.2.2.2.2.2.1 (F_X6_keep ck nm nc nt nd af ak am ac at_ ad bf bk_ bm bc bt bd x1).2.2.2.2.2.2.2.2.2.2.1 (F_X6_keep ck nm nc nt nd af ak am ac at_ ad bf bk_ bm bc bt bd x1).2.2.2.2.2.2.2.2.2.2.2.1 (F_X6_keep ck nm nc nt nd af ak am ac at_ ad bf bk_ bm bc bt bd x1).2.2.2.2.2.2.2.2.2.2.2.2 (F_X7_keep told rd c note noted image isKept x1).2.2 (F_X7_keep told rd c note noted image isKept x1).2.1 1 := by
  have hcnt : F_J6_bitCount_0f7a4 (F_X1_toldBits ck) = F_X7_bits told := by rw [h.tob]; exact bits_of h.1.1 h.1.2
  have hin : F_X6_isBelow x1 2 = F_X7_in x1 0 1 := bel2 x1
  by_cases ci : F_X7_in x1 0 1 = 0
  · have e6 : F_X6_keep ck nm nc nt nd af ak am ac at_ ad bf bk_ bm bc bt bd x1 = ((-2), af, ak, am, ac, at_, ad, bf, bk_, bm, bc, bt, bd) := by unfold F_X6_keep; rw [hin, if_pos ci]
    have e7 : F_X7_keep told rd c note noted image isKept x1 = ((-2), image, isKept) := by unfold F_X7_keep; rw [if_pos ci]
    rw [e6, e7]
    exact ⟨rfl, ka, kb⟩
  · obtain ⟨s0, s1⟩ : (0 : Int) ≤ x1.toInt ∧ x1.toInt ≤ 1 := X7_in_in ci
    by_cases c0 : x1 = 0
    · have e6 : F_X6_keep ck nm nc nt nd af ak am ac at_ ad bf bk_ bm bc bt bd x1 = F_X6_keep_c21 ck af bf bk_ bm bc bt bd x1 (F_X1_copy ak ac at_ ad ck nm nc nt nd) := by unfold F_X6_keep; rw [hin, if_neg ci, if_pos c0]
      rw [e6]
      unfold F_X6_keep_c21
      rw [if_pos c0, hcnt]
      subst c0
      have m := keep_model (told := told) (rd := rd) (noted := noted) (c := c) (note := note) (image := image) (isKept := isKept) (j := 0) (by decide)
      have e0 : nI 0 = 0 := rfl
      have kn := keep_new h (wk := ak) (wc := ac) (wt := at_) (wd := ad) (image := image) (isKept := isKept) (j := 0) (by decide)
      rw [e0] at m kn
      exact ⟨m.1.symm, kn, kb.other (by rw [m.2.1, upd_ne (by decide)]) (fun i hi => m.2.2.2.2.2.2.2 _ (by omega))⟩
    · have e1 : x1 = nI 1 := Int32.toInt_inj.mp (by have := ti_ne c0; have z0 : (0 : Int32).toInt = 0 := rfl; have z1 : (nI 1).toInt = 1 := rfl; omega)
      have e6 : F_X6_keep ck nm nc nt nd af ak am ac at_ ad bf bk_ bm bc bt bd x1 = F_X6_keep_c21_2 ck af ak am ac at_ ad bf x1 (F_X1_copy bk_ bc bt bd ck nm nc nt nd) := by unfold F_X6_keep; rw [hin, if_neg ci, if_neg c0]
      rw [e6]
      unfold F_X6_keep_c21_2
      rw [if_neg c0, hcnt, e1]
      have m := keep_model (told := told) (rd := rd) (noted := noted) (c := c) (note := note) (image := image) (isKept := isKept) (j := 1) (by decide)
      have kn := keep_new h (wk := bk_) (wc := bc) (wt := bt) (wd := bd) (image := image) (isKept := isKept) (j := 1) (by decide)
      exact ⟨m.1.symm, ka.other (by rw [m.2.1, upd_ne (by decide)]) (fun i hi => m.2.2.2.2.2.2.2 _ (by omega)), kn⟩
end HRs
theorem back95 {image c' : Nat → Int32} {j : Nat} (hj : j < 2) : ∀ (n k : Nat) (no : Nat → Int32), k ≤ 36 → 36 - k < n → (∀ i, i < k → no i = image (90 * j + 51 + i)) →
    ∃ no', F_X7_back_95 image (nI j) c' n (nI k) no = (F_X7_bits (image (90 * j)), image (90 * j), image (90 * j + 1), c', no', image (90 * j + 2)) ∧ ∀ i, i < 36 → no' i = image (90 * j + 51 + i) := by
  have e0 := nI_toInt (n := j) (by omega)
  have e1 := ti_mulc (nI j) 90 90 rfl (by omega) (by omega)
  have i0 : (90 * nI j).toNatClampNeg = 90 * j := by
    have := tn_of (x := 90 * nI j) (by omega); omega
  have i1 : (90 * nI j + 1).toNatClampNeg = 90 * j + 1 := by
    have e4 := ti_addc (90 * nI j) 1 1 rfl (by omega) (by omega)
    have := tn_of (x := 90 * nI j + 1) (by omega); omega
  have i2 : (90 * nI j + 2).toNatClampNeg = 90 * j + 2 := by
    have e4 := ti_addc (90 * nI j) 2 2 rfl (by omega) (by omega)
    have := tn_of (x := 90 * nI j + 2) (by omega); omega
  intro n
  induction n with
  | zero => intro k no _ h _; exact absurd h (Nat.not_lt_zero _)
  | succ n ih =>
    intro k no k36 hm hi
    rw [F_X7_back_95.eq_2]
    by_cases hk : k < 36
    · rw [if_neg (show ¬ (36 : Int32) ≤ nI k from fun h => by have := (iN_le (a := 36) (b := k) (by decide) (by omega)).mp h; omega), nI_suc (by omega)]
      have ei : (90 * nI j + 51 + nI k).toNatClampNeg = 90 * j + 51 + k := by
        have e2 := ti_addc (90 * nI j) 51 51 rfl (by omega) (by omega)
        have e3 := nI_toInt (n := k) (by omega)
        have e4 := ti_add (a := 90 * nI j + 51) (b := nI k) (by omega) (by omega)
        have := tn_of (x := 90 * nI j + 51 + nI k) (by omega)
        omega
      rw [ei, nI_tn (n := k) (by omega)]
      refine ih (k + 1) _ (by omega) (by omega) (fun i h => ?_)
      by_cases h2 : i = k
      · rw [h2, upd_at]
      · rw [upd_ne h2]; exact hi i (by omega)
    · have e : k = 36 := by omega
      subst e
      rw [if_pos (show (36 : Int32) ≤ nI 36 by decide), i0, i1, i2]
      exact ⟨no, rfl, hi⟩
theorem back65 {image note : Nat → Int32} {j : Nat} (hj : j < 2) : ∀ (n k : Nat) (w : Nat → Int32), k ≤ 48 → 48 - k < n → (∀ i, i < k → w i = image (90 * j + 3 + i)) →
    ∃ c' no', F_X7_back_65 note image (nI j) n (nI k) w = (F_X7_bits (image (90 * j)), image (90 * j), image (90 * j + 1), c', no', image (90 * j + 2)) ∧ (∀ i, i < 48 → c' i = image (90 * j + 3 + i)) ∧ ∀ i, i < 36 → no' i = image (90 * j + 51 + i) := by
  have e0 := nI_toInt (n := j) (by omega)
  have e1 := ti_mulc (nI j) 90 90 rfl (by omega) (by omega)
  intro n
  induction n with
  | zero => intro k w _ h _; exact absurd h (Nat.not_lt_zero _)
  | succ n ih =>
    intro k w k48 hm hi
    rw [F_X7_back_65.eq_2]
    by_cases hk : k < 48
    · rw [if_neg (show ¬ (48 : Int32) ≤ nI k from fun h => by have := (iN_le (a := 48) (b := k) (by decide) (by omega)).mp h; omega), nI_suc (by omega)]
      have ei : (90 * nI j + 3 + nI k).toNatClampNeg = 90 * j + 3 + k := by
        have e2 := ti_addc (90 * nI j) 3 3 rfl (by omega) (by omega)
        have e3 := nI_toInt (n := k) (by omega)
        have e4 := ti_add (a := 90 * nI j + 3) (b := nI k) (by omega) (by omega)
        have := tn_of (x := 90 * nI j + 3 + nI k) (by omega)
        omega
      rw [ei, nI_tn (n := k) (by omega)]
      refine ih (k + 1) _ (by omega) (by omega) (fun i h => ?_)
      by_cases h2 : i = k
      · rw [h2, upd_at]
      · rw [upd_ne h2]; exact hi i (by omega)
    · have e : k = 48 := by omega
      subst e
      rw [if_pos (show (48 : Int32) ≤ nI 48 by decide)]
      obtain ⟨no', g1, g2⟩ := back95 (image := image) (c' := w) hj 37 0 note (by decide) (by decide) (fun i h => absurd h (Nat.not_lt_zero _))
      exact ⟨w, no', g1, hi, g2⟩
section HRs
variable {ck : Nat → Nat → Int32} {nm : Int32} {nc nt nd : Nat → Int32} {told rd : Int32} {c : Nat → Int32} {noted : Int32} {note : Nat → Int32}
/-- the house that comes back -/
theorem back_new {wk : Nat → Nat → Int32} {wm : Int32} {wc wt wd : Nat → Int32} {f : Int32} {image isKept : Nat → Int32} {j : Nat} (hj : j < 2) (hk : KR f wk wm wc wt wd isKept image j) (hn : ¬ isKept j = 0) (told rd : Int32) (c : Nat → Int32) (noted : Int32) (note : Nat → Int32) :
    F_J6_bitCount_0f7a4 (F_X1_toldBits (F_X1_copy ck nc nt nd wk wm wc wt wd).1) = (F_X7_back told rd c note noted image isKept (nI j)).1 ∧ HR (F_X1_copy ck nc nt nd wk wm wc wt wd).1 (F_X1_copy ck nc nt nd wk wm wc wt wd).2.1 (F_X1_copy ck nc nt nd wk wm wc wt wd).2.2.1 (F_X1_copy ck nc nt nd wk wm wc wt wd).2.2.2.1 (F_X1_copy ck nc nt nd wk wm wc wt wd).2.2.2.2 (F_X7_back told rd c note noted image isKept (nI j)).2.1 (F_X7_back told rd c note noted image isKept (nI j)).2.2.1 (F_X7_back told rd c note noted image isKept (nI j)).2.2.2.1 (F_X7_back told rd c note noted image isKept (nI j)).2.2.2.2.2 (F_X7_back told rd c note noted image isKept (nI j)).2.2.2.2.1 := by
  have ein : ¬ F_X7_in (nI j) 0 1 = 0 := by
    have e0 := nI_toInt (n := j) (by omega)
    rw [in_spec, if_pos]
    · decide
    · have z0 : (0 : Int32).toInt = 0 := rfl
      have z1 : (1 : Int32).toInt = 1 := rfl
      omega
  obtain ⟨c', no', g1, g2, g3⟩ := back65 (image := image) (note := note) hj 49 0 c (by decide) (by decide) (fun i h => absurd h (Nat.not_lt_zero _))
  have eF : F_X7_back told rd c note noted image isKept (nI j) = (F_X7_bits (image (90 * j)), image (90 * j), image (90 * j + 1), c', no', image (90 * j + 2)) := by
    unfold F_X7_back
    rw [if_neg ein, nI_tn (by omega), if_neg hn]
    exact g1
  have hh := hk.2 hn
  obtain ⟨-, -, -, -, em, n0, n1, -⟩ := id hh
  subst em
  obtain ⟨k1, k2, k3⟩ := hcopy (ck := ck) (g := wk) (nc := nc) (nt := nt) (nd := nd) (gc := wc) (gt := wt) (gd := wd) n0 n1
  have hH := hh.congr k1 k2 k3 g2 g3
  rw [eF]
  refine ⟨?_, hH⟩
  show _ = F_X7_bits (image (90 * j))
  rw [hH.tob]
  exact bits_of hH.1.1 hH.1.2
theorem q_back (h : HR ck nm nc nt nd told rd c noted note) {af : Int32} {ak : Nat → Nat → Int32} {am : Int32} {ac at_ ad : Nat → Int32} {bf : Int32} {bk_ : Nat → Nat → Int32} {bm : Int32} {bc bt bd : Nat → Int32} {image isKept : Nat → Int32} (ka : KR af ak am ac at_ ad isKept image 0) (kb : KR bf bk_ bm bc bt bd isKept image 1) (si x1 : Int32) :
    (F_X6_back si ck nm nc nt nd af ak am ac at_ ad bf bk_ bm bc bt bd x1).1 = (F_X7_back told rd c note noted image isKept x1).1 ∧ HR (F_X6_back si ck nm nc nt nd af ak am ac at_ ad bf bk_ bm bc bt bd x1).2.2.1 (F_X6_back si ck nm nc nt nd af ak am ac at_ ad bf bk_ bm bc bt bd x1).2.2.2.1 (F_X6_back si ck nm nc nt nd af ak am ac at_ ad bf bk_ bm bc bt bd x1).2.2.2.2.1 (F_X6_back si ck nm nc nt nd af ak am ac at_ ad bf bk_ bm bc bt bd x1).2.2.2.2.2.1 (F_X6_back si ck nm nc nt nd af ak am ac at_ ad bf bk_ bm bc bt bd x1).2.2.2.2.2.2 (F_X7_back told rd c note noted image isKept x1).2.1 (F_X7_back told rd c note noted image isKept x1).2.2.1 (F_X7_back told rd c note noted image isKept x1).2.2.2.1 (F_X7_back told rd c note noted image isKept x1).2.2.2.2.2 (F_X7_back told rd c note noted image isKept x1).2.2.2.2.1 ∧ ((F_X6_back si ck nm nc nt nd af ak am ac at_ ad bf bk_ bm bc bt bd x1).2.1 = 0 ∨ ((F_X6_back si ck nm nc nt nd af ak am ac at_ ad bf bk_ bm bc bt bd x1).2.1 = si ∧ (F_X6_back si ck nm nc nt nd af ak am ac at_ ad bf bk_ bm bc bt bd x1).2.2.1 = ck)) := by
  have hin : F_X6_isBelow x1 2 = F_X7_in x1 0 1 := bel2 x1
  by_cases ci : F_X7_in x1 0 1 = 0
  · have e6 : F_X6_back si ck nm nc nt nd af ak am ac at_ ad bf bk_ bm bc bt bd x1 = ((-2), si, ck, nm, nc, nt, nd) := by unfold F_X6_back; rw [hin, if_pos ci]
    have e7 : F_X7_back told rd c note noted image isKept x1 = ((-2), told, rd, c, note, noted) := by unfold F_X7_back; rw [if_pos ci]
    rw [e6, e7]
    exact ⟨rfl, h, Or.inr ⟨rfl, rfl⟩⟩
  · obtain ⟨s0, s1⟩ : (0 : Int) ≤ x1.toInt ∧ x1.toInt ≤ 1 := X7_in_in ci
    by_cases c0 : x1 = 0
    · by_cases cf : isKept 0 = 0
      · have e6 : F_X6_back si ck nm nc nt nd af ak am ac at_ ad bf bk_ bm bc bt bd x1 = ((-4), si, ck, nm, nc, nt, nd) := by unfold F_X6_back; rw [hin, if_neg ci, if_pos c0, if_pos (ka.1.trans cf)]
        have e7 : F_X7_back told rd c note noted image isKept x1 = ((-4), told, rd, c, note, noted) := by unfold F_X7_back; rw [if_neg ci, c0]; exact if_pos cf
        rw [e6, e7]
        exact ⟨rfl, h, Or.inr ⟨rfl, rfl⟩⟩
      · have e6 : F_X6_back si ck nm nc nt nd af ak am ac at_ ad bf bk_ bm bc bt bd x1 = F_X6_back_c36 (F_X1_copy ck nc nt nd ak am ac at_ ad) := by unfold F_X6_back; rw [hin, if_neg ci, if_pos c0, if_neg (fun e => cf (ka.1.symm.trans e)), if_pos c0]
        rw [e6]
        unfold F_X6_back_c36
        subst c0
        have e0 : nI 0 = 0 := rfl
        have kn := back_new (ck := ck) (nc := nc) (nt := nt) (nd := nd) (j := 0) (by decide) ka cf told rd c noted note
        rw [e0] at kn
        exact ⟨kn.1, kn.2, Or.inl rfl⟩
    · have e1 : x1 = nI 1 := Int32.toInt_inj.mp (by have := ti_ne c0; have z0 : (0 : Int32).toInt = 0 := rfl; have z1 : (nI 1).toInt = 1 := rfl; omega)
      by_cases cf : isKept 1 = 0
      · have e6 : F_X6_back si ck nm nc nt nd af ak am ac at_ ad bf bk_ bm bc bt bd x1 = ((-4), si, ck, nm, nc, nt, nd) := by unfold F_X6_back; rw [hin, if_neg ci, if_neg c0, if_pos (kb.1.trans cf)]
        have e7 : F_X7_back told rd c note noted image isKept x1 = ((-4), told, rd, c, note, noted) := by unfold F_X7_back; rw [if_neg ci, e1]; exact if_pos cf
        rw [e6, e7]
        exact ⟨rfl, h, Or.inr ⟨rfl, rfl⟩⟩
      · have e6 : F_X6_back si ck nm nc nt nd af ak am ac at_ ad bf bk_ bm bc bt bd x1 = F_X6_back_c36_4 (F_X1_copy ck nc nt nd bk_ bm bc bt bd) := by unfold F_X6_back; rw [hin, if_neg ci, if_neg c0, if_neg (fun e => cf (kb.1.symm.trans e)), if_neg c0]
        rw [e6]
        unfold F_X6_back_c36_4
        rw [e1]
        have kn := back_new (ck := ck) (nc := nc) (nt := nt) (nd := nd) (j := 1) (by decide) kb cf told rd c noted note
        exact ⟨kn.1, kn.2, Or.inl rfl⟩
end HRs
