/-! a whole text, in both; a house told -/
theorem iN_mul6 {l : Nat} (hl : l < 1000) : 6 * nI l = nI (6 * l) := by
  have e1 := nI_toInt (n := l) (by omega)
  have e2 := nI_toInt (n := 6 * l) (by omega)
  have m := ti_mulc (nI l) 6 6 rfl (by omega) (by omega)
  exact Int32.toInt_inj.mp (by rw [m, e1, e2]; omega)
abbrev T10 : Type := Int32 × Int32 × Int32 × Int64 × Int32 × Int32 × Int32 × Int32 × Int32 × (Nat → Int32)
/-- the clocks told behind the first lines -/
def KN (R : Nat → Int32) (told : Int32) : Nat → Int32
  | 0 => told
  | l + 1 => F_X5_knownBehind R (nI l) (KN R told l)
theorem kb_congr {R R' : Nat → Int32} {l : Nat} {known : Int32} (hl : l < 8) (e0 : R' (6 * l) = R (6 * l)) (e1 : R' (6 * l + 1) = R (6 * l + 1)) : F_X5_knownBehind R' (nI l) known = F_X5_knownBehind R (nI l) known := by
  have n0 : F_X5_number R (nI l) 0 = R (6 * l) := numb (q := 0) hl (by decide)
  have n1 : F_X5_number R (nI l) 1 = R (6 * l + 1) := numb (q := 1) hl (by decide)
  have m0 : F_X5_number R' (nI l) 0 = R' (6 * l) := numb (q := 0) hl (by decide)
  have m1 : F_X5_number R' (nI l) 1 = R' (6 * l + 1) := numb (q := 1) hl (by decide)
  unfold F_X5_knownBehind F_X5_knownBehind_39
  rw [n0, n1, m0, m1, e0, e1]
theorem KN.congr {R R' : Nat → Int32} {told : Int32} : ∀ l, l ≤ 8 → (∀ i, i < 6 * l → R' i = R i) → KN R' told l = KN R told l := by
  intro l
  induction l with
  | zero => intro _ _; rfl
  | succ l ih =>
    intro hl he
    show F_X5_knownBehind R' (nI l) (KN R' told l) = F_X5_knownBehind R (nI l) (KN R told l)
    rw [ih (by omega) (fun i hi => he i (by omega)), kb_congr (by omega) (he _ (by omega)) (he _ (by omega))]
theorem LR.congr {R Q R' Q' : Nat → Int32} {l : Nat} (h : LR R Q l) (e : ∀ i, i < 6 → R' (6 * l + i) = R (6 * l + i) ∧ Q' (6 * l + i) = Q (6 * l + i)) : LR R' Q' l := by
  obtain ⟨a0, b0⟩ := e 0 (by decide)
  obtain ⟨a1, b1⟩ := e 1 (by decide)
  obtain ⟨a2, b2⟩ := e 2 (by decide)
  obtain ⟨a3, b3⟩ := e 3 (by decide)
  obtain ⟨a4, b4⟩ := e 4 (by decide)
  obtain ⟨a5, b5⟩ := e 5 (by decide)
  rw [Nat.add_zero] at a0 b0
  unfold LR at h ⊢
  rw [a0, a1, a2, a3, a4, a5, b0, b1, b2, b3, b4, b5]
  exact h
/-- a line that was taken, with the clocks told before it -/
def LK (R Q : Nat → Int32) (told : Int32) (l : Nat) : Prop := LR R Q l ∧ (R (6 * l) = 4 → ¬ F_X7_has (KN R told l) (R (6 * l + 1)) = 0)
/-- what a text leaves in both -/
def FF (told : Int32) (C : Int32 × Int32 × Int32 × Int32 × (Nat → Int32)) (M : T10) : Prop := RdR M.2.2.2.2.2.2.2.2.2 ∧ ((C.1 = -1 ∧ M.1 = 1 ∧ ∃ m, 1 ≤ m ∧ m ≤ 8 ∧ C.2.1 = nI m ∧ M.2.2.2.2.2.2.2.1 = nI m ∧ ∀ i, i < m → LK C.2.2.2.2 M.2.2.2.2.2.2.2.2.2 told i) ∨ (¬ C.1 = -1 ∧ M.1 = 0 ∧ M.2.2.2.2.2.2.1 = C.1))
theorem ne_m1 {x : Int32} (h : 0 ≤ x.toInt) : ¬ x = -1 := fun hq => by
  rw [hq] at h
  exact absurd h (by decide)
section TOK
variable {L : Nat} {tb mt : Nat → Int32}
theorem text_loop (h : TT L tb mt) {told : Int32} : ∀ (f l p : Nat) (st tA : Int32) (tk : Int64) (d n fa known : Int32) (R Q : Nat → Int32), l < 8 → 9 - l ≤ f → p ≤ L → 0 ≤ known.toInt → known.toInt ≤ 255 → known = KN R told l → RdR Q → (∀ i, i < l → LK R Q told i) →
    FF told (F_X5_findFault_14 (nI L) tb f (nI l) known (nI l) st (nI p) R) (F_X7_isText_20 (nI L) mt f 1 (nI p) tA tk d n fa (nI l) known Q) := by
  intro f
  induction f with
  | zero => intro l p st tA tk d n fa known R Q hl hf; omega
  | succ f ih =>
    intro l p st tA tk d n fa known R Q hl hf hp k0 k1 hkn hrd hLK
    obtain ⟨f', rfl⟩ : ∃ f', f = f' + 1 := ⟨f - 1, by omega⟩
    have LN1 := line_step h hl k0 k1 (R := R) hrd hp fa
    rw [F_X5_findFault_14.eq_2, F_X7_isText_20.eq_2, if_neg (nI8 hl), if_neg one0, iN_mul6 (by omega)]
    generalize F_X5_takeLine (nI L) (nI p) tb R (nI l) known = C at LN1 ⊢
    generalize F_X7_isLine (nI L) mt (nI p) fa known Q (nI (6 * l)) = M at LN1 ⊢
    obtain ⟨c0, cs, ce, cr⟩ := C
    obtain ⟨m0, mp, mta, mtk, md, mn, mfa, mkn, mr⟩ := M
    obtain ⟨hr, hx⟩ := LN1
    dsimp only at hr hx
    unfold F_X5_findFault_c23 F_X7_isText_c32
    dsimp only
    rcases hx with ⟨x1, x2, x3, x4⟩ | ⟨x1, x2, ⟨e, he, x3, x4⟩, hw4, hlr, hout, hk, hk0, hk1⟩
    · rw [if_pos x1, if_pos x2]
      exact ⟨hr, Or.inr ⟨ne_m1 x4, rfl, x3⟩⟩
    · subst x1 x2 x3 x4
      rw [if_neg one0, if_neg one0]
      obtain ⟨s, e2, t, d2, v, a1, a2, a3, a4, a5, -, -, a7, a8⟩ := tok h he
      rw [a4, a5]
      unfold F_X5_findFault_c49 F_X7_isText_c51
      dsimp only
      have hsn := sI_nn h (s := s) (by omega)
      have hkc : KN cr told l = KN R told l := KN.congr l (by omega) (fun i hi => (hout i (Or.inl hi)).1)
      have hLK' : ∀ i, i < l + 1 → LK cr mr told i := fun i hi => by
        by_cases e : i = l
        · subst e
          exact ⟨hlr, fun hq => by rw [hkc, ← hkn]; exact hw4 hq⟩
        · obtain ⟨z1, z2⟩ := hLK i (by omega)
          have o0 := (hout (6 * i) (by omega)).1
          have o1 := (hout (6 * i + 1) (by omega)).1
          refine ⟨z1.congr (fun j hj => hout (6 * i + j) (by omega)), fun hq => ?_⟩
          rw [o1, KN.congr i (by omega) (fun j hj => (hout j (by omega)).1)]
          exact z2 (o0 ▸ hq)
      rw [nI_suc (by omega)]
      by_cases cL : s = L
      · have t2 := a7.mp cL
        subst t2
        rw [if_pos (congrArg nI cL), if_neg (show ¬ lg_cmp (-2) (-3) = 0 by decide), F_X7_isText_20.eq_2, if_pos rfl, if_pos (show lg_cmp (-2) (-2) = 0 by decide)]
        exact ⟨hr, Or.inl ⟨rfl, rfl, l + 1, by omega, by omega, rfl, rfl, hLK'⟩⟩
      · rw [if_neg (show ¬ nI s = nI L from fun hq => cL (iN_inj (by have := h.1; omega) (by have := h.1; omega) hq))]
        by_cases c59 : F_X5_signAt (nI L) tb (nI s) = 59
        · have t3 := a8.mp c59
          subst t3
          rw [if_pos c59, if_pos (show lg_cmp (-3) (-3) = 0 by decide)]
          by_cases c8 : l + 1 < 8
          · rw [if_neg (nI8 c8), ← hk]
            exact ih (l + 1) e2 _ _ _ _ _ _ _ cr mr c8 (by omega) a3 hk0 hk1 (by rw [hk]; show _ = F_X5_knownBehind cr (nI l) (KN cr told l); rw [hkc, ← hkn]) hr hLK'
          · have c8' : (8 : Int32) ≤ nI (l + 1) := by
              have : l + 1 = 8 := by omega
              rw [this]; exact le8
            rw [if_pos c8', F_X5_findFault_14.eq_2, if_pos c8', F_X7_isText_20.eq_2, if_pos rfl, if_neg (show ¬ lg_cmp (-3) (-2) = 0 by decide)]
            unfold F_X7_isText_c95 F_X7_fails
            dsimp only
            rw [if_pos rfl]
            exact ⟨hr, Or.inr ⟨ne_m1 hsn, rfl, rfl⟩⟩
        · rw [if_neg c59, if_neg (show ¬ lg_cmp t (-3) = 0 from fun hq => c59 (a8.mpr (lgc_eq hq))), F_X7_isText_20.eq_2, if_pos rfl, if_neg (show ¬ lg_cmp t (-2) = 0 from fun hq => cL (a7.mpr (lgc_eq hq)))]
          unfold F_X7_isText_c95 F_X7_fails
          dsimp only
          rw [if_pos rfl]
          exact ⟨hr, Or.inr ⟨ne_m1 hsn, rfl, rfl⟩⟩
end TOK
theorem TX.tt {tl mb : Int32} {tb mt : Nat → Int32} (h : TX tl tb mb mt) : ∃ L : Nat, tl = nI L ∧ mb = nI L ∧ TT L tb mt := by
  obtain ⟨h1, h2, h3, h4⟩ := h
  have e : nI mb.toInt.toNat = mb := iN_of h2
  exact ⟨mb.toInt.toNat, by rw [e]; exact h1, e.symm, by omega, fun i hi => h4 i (by omega)⟩
theorem text_ff {tl mb : Int32} {tb mt : Nat → Int32} (h : TX tl tb mb mt) {told : Int32} (k0 : 0 ≤ told.toInt) (k1 : told.toInt ≤ 255) {Q : Nat → Int32} (hrd : RdR Q) (st : Int32) (R : Nat → Int32) (tA : Int32) (tk : Int64) (d n fa : Int32) :
    FF told (F_X5_findFault tl st tb R told) (F_X7_isText told mb mt tA tk d n fa Q) := by
  obtain ⟨L, rfl, rfl, ht⟩ := h.tt
  exact text_loop ht 9 0 0 st tA tk d n fa told R Q (by decide) (by decide) (by omega) k0 k1 rfl hrd (fun i hi => absurd hi (Nat.not_lt_zero _))
theorem FF.ok {told : Int32} {C : Int32 × Int32 × Int32 × Int32 × (Nat → Int32)} {M : T10} (h : FF told C M) : TxOk M := by
  intro h1
  rcases h.2 with ⟨-, -, m, m1, m2, -, e2, hl⟩ | ⟨-, hq, -⟩
  · rw [e2, nI_toInt (by omega)]
    refine ⟨by omega, fun k hk0 hk1 h5 => ?_⟩
    have ek : nI k.toInt.toNat = k := iN_of hk0
    have hi : k.toInt.toNat < m := by omega
    generalize k.toInt.toNat = i at ek hi
    subst ek
    rw [iN_mul6 (by omega), nI_tn (by omega)] at h5
    rw [iN_mul6 (by omega), ixw1 (by omega)]
    obtain ⟨⟨a0, a1⟩, -⟩ := hl i hi
    rcases a1 with a1 | ⟨a1, a2, -⟩
    · exact absurd (a0.symm.trans a1) h5
    · rw [← a1]; exact a2
  · exact absurd hq h1
section HRs
variable {ck : Nat → Nat → Int32} {nm : Int32} {nc nt nd : Nat → Int32} {told rd : Int32} {c : Nat → Int32} {noted : Int32} {note : Nat → Int32}
theorem q_fault (h : HR ck nm nc nt nd told rd c noted note) {tl mb : Int32} {tb mt : Nat → Int32} (ht : TX tl tb mb mt) {Q : Nat → Int32} (hrd : RdR Q) (st : Int32) (R : Nat → Int32) (tA : Int32) (tk : Int64) (d n fa : Int32) :
    (F_X6_fault tl st tb R ck).1 = (F_X7_fault told mb mt tA tk d n fa Q).1 ∧ RdR (F_X7_fault told mb mt tA tk d n fa Q).2.2.2.2.2.2.2.2.2 := by
  have F := text_ff ht h.1.1 h.1.2 hrd st R tA tk d n fa
  unfold F_X6_fault F_X7_fault
  rw [h.tob]
  generalize F_X5_findFault tl st tb R told = C at F ⊢
  generalize F_X7_isText told mb mt tA tk d n fa Q = M at F ⊢
  unfold F_X6_fault_c11 F_X7_fault_c1
  obtain ⟨hr, hx⟩ := F
  rcases hx with ⟨x1, x2, -⟩ | ⟨x1, x2, x3⟩
  · rw [if_neg (by rw [x2]; exact one0)]
    exact ⟨x1, hr⟩
  · rw [if_pos x2]
    exact ⟨x3.symm, hr⟩
/-- one clock told in both -/
theorem HR.put (h : HR ck nm nc nt nd told rd c noted note) {j : Nat} (hj : j < 8) {a0 a1 a2 a3 a4 b0 b1 b2 b3 b4 : Int32} (n0 : ¬ a0 = -1) (e0 : a0 = b0) (e2 : a2 = b2) (eS : b0 = 2 → a1 = 0 ∧ a3 = 0 ∧ a4 = 0 ∧ b3 = -1440 ∧ b4 = -1440) (eG : ¬ b0 = 2 → a1 = b1 ∧ a3 = b3 ∧ a4 = b4) (hb : (0 ≤ b0.toInt ∧ b0.toInt ≤ 2) ∧ (0 ≤ b1.toInt ∧ b1.toInt ≤ 4319) ∧ (0 ≤ b2.toInt ∧ b2.toInt ≤ 719) ∧ (-1440 ≤ b3.toInt ∧ b3.toInt ≤ 120) ∧ (-1440 ≤ b4.toInt ∧ b4.toInt ≤ 120) ∧ (¬ b0 = 2 → -120 ≤ b3.toInt ∧ -120 ≤ b4.toInt)) :
    HR (ckU ck j a0 a1 a2 a3 a4 (-1)) nm nc nt nd (told ||| bk j) (rd &&& (bk j ^^^ (-1))) (upd (upd (upd (upd (upd c (6 * j) b0) (6 * j + 1) b1) (6 * j + 2) b2) (6 * j + 3) b3) (6 * j + 4) b4) noted note := by
  obtain ⟨h1, h2, h3, h4, h5⟩ := h
  have rn : ∀ i, ¬ (i = 6 * j ∨ i = 6 * j + 1 ∨ i = 6 * j + 2 ∨ i = 6 * j + 3 ∨ i = 6 * j + 4) → (upd (upd (upd (upd (upd c (6 * j) b0) (6 * j + 1) b1) (6 * j + 2) b2) (6 * j + 3) b3) (6 * j + 4) b4) i = c i := fun i hi => by
    rw [upd_ne (by omega), upd_ne (by omega), upd_ne (by omega), upd_ne (by omega), upd_ne (by omega)]
  have r0 : (upd (upd (upd (upd (upd c (6 * j) b0) (6 * j + 1) b1) (6 * j + 2) b2) (6 * j + 3) b3) (6 * j + 4) b4) (6 * j) = b0 := by
    rw [upd_ne (by omega), upd_ne (by omega), upd_ne (by omega), upd_ne (by omega), upd_at]
  have r1 : (upd (upd (upd (upd (upd c (6 * j) b0) (6 * j + 1) b1) (6 * j + 2) b2) (6 * j + 3) b3) (6 * j + 4) b4) (6 * j + 1) = b1 := by
    rw [upd_ne (by omega), upd_ne (by omega), upd_ne (by omega), upd_at]
  have r2 : (upd (upd (upd (upd (upd c (6 * j) b0) (6 * j + 1) b1) (6 * j + 2) b2) (6 * j + 3) b3) (6 * j + 4) b4) (6 * j + 2) = b2 := by
    rw [upd_ne (by omega), upd_ne (by omega), upd_at]
  have r3 : (upd (upd (upd (upd (upd c (6 * j) b0) (6 * j + 1) b1) (6 * j + 2) b2) (6 * j + 3) b3) (6 * j + 4) b4) (6 * j + 3) = b3 := by
    rw [upd_ne (by omega), upd_at]
  have r4 : (upd (upd (upd (upd (upd c (6 * j) b0) (6 * j + 1) b1) (6 * j + 2) b2) (6 * j + 3) b3) (6 * j + 4) b4) (6 * j + 4) = b4 := upd_at
  generalize upd (upd (upd (upd (upd c (6 * j) b0) (6 * j + 1) b1) (6 * j + 2) b2) (6 * j + 3) b3) (6 * j + 4) b4 = c' at rn r0 r1 r2 r3 r4 ⊢
  obtain ⟨q0, q1, q2, q3, q4, q5⟩ := ckU_at (ck := ck) (j := j) (a0 := a0) (a1 := a1) (a2 := a2) (a3 := a3) (a4 := a4) (a5 := -1)
  have qn : ∀ i f, ¬ i = j → ckU ck j a0 a1 a2 a3 a4 (-1) i f = ck i f := fun i f hi => ckU_ne hi
  generalize ckU ck j a0 a1 a2 a3 a4 (-1) = ck' at q0 q1 q2 q3 q4 q5 qn ⊢
  refine ⟨(set_rng h1.1 h1.2 hj).1, (set_rng h2.1 h2.2 hj).2, fun k hk => ?_, fun k hk => ?_, h5⟩
  · by_cases e : k = j
    · subst e
      rw [r0, r1, r2, r3, r4]; exact hb
    · rw [rn _ (by omega), rn _ (by omega), rn _ (by omega), rn _ (by omega), rn _ (by omega)]; exact h3 k hk
  · unfold CR
    rw [set_has h1.1 h1.2 hj hk, clr_has h2.1 h2.2 hj hk]
    by_cases e : k = j
    · subst e
      rw [if_pos rfl, if_pos rfl, q0, q1, q2, q3, q4, q5, r0, r1, r2, r3, r4]
      exact ⟨⟨fun hq => absurd hq one0, fun hq => absurd hq n0⟩, ⟨fun _ => rfl, fun _ => rfl⟩, fun hq => absurd rfl hq, fun _ => ⟨e0, e2, eS, eG⟩⟩
    · rw [if_neg e, if_neg e, qn _ _ e, qn _ _ e, qn _ _ e, qn _ _ e, qn _ _ e, qn _ _ e, rn (6 * k) (by omega), rn (6 * k + 1) (by omega), rn (6 * k + 2) (by omega), rn (6 * k + 3) (by omega), rn (6 * k + 4) (by omega), rn (6 * k + 5) (by omega)]
      exact h4 k hk
theorem HR.gone (h : HR ck nm nc nt nd told rd c noted note) {j : Nat} (hj : j < 8) {a1 a2 a3 a4 : Int32} :
    HR (ckU ck j (-1) a1 a2 a3 a4 (-1)) nm nc nt nd (told &&& (bk j ^^^ (-1))) (rd &&& (bk j ^^^ (-1))) c noted note := by
  obtain ⟨h1, h2, h3, h4, h5⟩ := h
  obtain ⟨q0, q1, q2, q3, q4, q5⟩ := ckU_at (ck := ck) (j := j) (a0 := -1) (a1 := a1) (a2 := a2) (a3 := a3) (a4 := a4) (a5 := -1)
  have qn : ∀ i f, ¬ i = j → ckU ck j (-1) a1 a2 a3 a4 (-1) i f = ck i f := fun i f hi => ckU_ne hi
  generalize ckU ck j (-1) a1 a2 a3 a4 (-1) = ck' at q0 q1 q2 q3 q4 q5 qn ⊢
  refine ⟨(set_rng h1.1 h1.2 hj).2, (set_rng h2.1 h2.2 hj).2, h3, fun k hk => ?_, h5⟩
  unfold CR
  rw [clr_has h1.1 h1.2 hj hk, clr_has h2.1 h2.2 hj hk]
  by_cases e : k = j
  · subst e
    rw [if_pos rfl, if_pos rfl, q0, q5]
    exact ⟨⟨fun _ => rfl, fun _ => rfl⟩, ⟨fun _ => rfl, fun _ => rfl⟩, fun hq => absurd rfl hq, fun hq => absurd rfl hq⟩
  · rw [if_neg e, if_neg e, qn _ _ e, qn _ _ e, qn _ _ e, qn _ _ e, qn _ _ e, qn _ _ e]
    exact h4 k hk
theorem HR.now (h : HR ck nm nc nt nd told rd c noted note) {j : Nat} (hj : j < 8) (ht : ¬ F_X7_has told (nI j) = 0) {v : Int32} (v0 : 0 ≤ v.toInt) (v1 : v.toInt < 720) :
    HR (ckU ck j (ck j 0) (ck j 1) (ck j 2) (ck j 3) (ck j 4) v) nm nc nt nd told (rd ||| bk j) (upd c (6 * j + 5) v) noted note := by
  obtain ⟨h1, h2, h3, h4, h5⟩ := h
  have rn : ∀ i, ¬ i = 6 * j + 5 → upd c (6 * j + 5) v i = c i := fun i hi => upd_ne hi
  have r5 : upd c (6 * j + 5) v (6 * j + 5) = v := upd_at
  generalize upd c (6 * j + 5) v = c' at rn r5 ⊢
  obtain ⟨q0, q1, q2, q3, q4, q5⟩ := ckU_at (ck := ck) (j := j) (a0 := ck j 0) (a1 := ck j 1) (a2 := ck j 2) (a3 := ck j 3) (a4 := ck j 4) (a5 := v)
  have qn : ∀ i f, ¬ i = j → ckU ck j (ck j 0) (ck j 1) (ck j 2) (ck j 3) (ck j 4) v i f = ck i f := fun i f hi => ckU_ne hi
  generalize ckU ck j (ck j 0) (ck j 1) (ck j 2) (ck j 3) (ck j 4) v = ck' at q0 q1 q2 q3 q4 q5 qn ⊢
  refine ⟨h1, (set_rng h2.1 h2.2 hj).1, fun k hk => ?_, fun k hk => ?_, h5⟩
  · rw [rn _ (by omega), rn _ (by omega), rn _ (by omega), rn _ (by omega), rn _ (by omega)]; exact h3 k hk
  · obtain ⟨k1, k2, k3, k4⟩ := h4 k hk
    unfold CR
    rw [set_has h2.1 h2.2 hj hk, rn (6 * k) (by omega), rn (6 * k + 1) (by omega), rn (6 * k + 2) (by omega), rn (6 * k + 3) (by omega), rn (6 * k + 4) (by omega)]
    by_cases e : k = j
    · subst e
      rw [if_pos rfl, q0, q1, q2, q3, q4, q5, r5]
      exact ⟨k1, ⟨fun hq => absurd hq one0, fun hq => absurd hq (ne_m1 v0)⟩, fun _ => ⟨fun hq => ht (k1.mpr hq), rfl, v0, v1⟩, k4⟩
    · rw [if_neg e, qn _ _ e, qn _ _ e, qn _ _ e, qn _ _ e, qn _ _ e, qn _ _ e, rn (6 * k + 5) (by omega)]
      exact ⟨k1, k2, k3, k4⟩
theorem rn_loop : ∀ (f k : Nat) (w : Nat → Nat → Int32), k ≤ 8 → 8 - k < f → ∀ i, i < 8 → (∀ j, j < 5 → (F_X1_readNone_2 f (nI k) w) i j = w i j) ∧ (F_X1_readNone_2 f (nI k) w) i 5 = if k ≤ i then -1 else w i 5 := by
  intro f
  induction f with
  | zero => intro k w _ hf; exact absurd hf (Nat.not_lt_zero _)
  | succ f ih =>
    intro k w hk hf i hi
    rw [F_X1_readNone_2.eq_2]
    by_cases c8 : k < 8
    · rw [if_neg (nI8 c8), nI_tn (by omega), nI_suc (by omega)]
      obtain ⟨a1, a2⟩ := ih (k + 1) (ckU w k (w k 0) (w k 1) (w k 2) (w k 3) (w k 4) (-1)) (by omega) (by omega) i hi
      obtain ⟨q0, q1, q2, q3, q4, q5⟩ := ckU_at (ck := w) (j := k) (a0 := w k 0) (a1 := w k 1) (a2 := w k 2) (a3 := w k 3) (a4 := w k 4) (a5 := -1)
      have qn : ∀ i f, ¬ i = k → ckU w k (w k 0) (w k 1) (w k 2) (w k 3) (w k 4) (-1) i f = w i f := fun i f hi => ckU_ne hi
      refine ⟨fun j hj => ?_, ?_⟩
      · rw [a1 j hj]
        by_cases e : i = k
        · subst e
          have hj' : j = 0 ∨ j = 1 ∨ j = 2 ∨ j = 3 ∨ j = 4 := by omega
          rcases hj' with rfl | rfl | rfl | rfl | rfl
          · exact q0
          · exact q1
          · exact q2
          · exact q3
          · exact q4
        · exact qn i j e
      · rw [a2]
        by_cases e : i = k
        · subst e
          rw [if_neg (by omega), if_pos (by omega)]; exact q5
        · rw [qn i 5 e]
          by_cases c : k ≤ i
          · rw [if_pos (by omega), if_pos c]
          · rw [if_neg (by omega), if_neg c]
    · have : k = 8 := by omega
      subst this
      rw [if_pos le8]
      exact ⟨fun j _ => rfl, by rw [if_neg (by omega)]⟩
theorem HR.unread (h : HR ck nm nc nt nd told rd c noted note) : HR (F_X1_readNone ck) nm nc nt nd told 0 c noted note := by
  obtain ⟨h1, h2, h3, h4, h5⟩ := h
  have rl : ∀ i, i < 8 → (∀ j, j < 5 → (F_X1_readNone ck) i j = ck i j) ∧ (F_X1_readNone ck) i 5 = -1 := fun i hi => by
    obtain ⟨a, b⟩ := rn_loop 9 0 ck (by decide) (by decide) i hi
    exact ⟨a, b.trans (if_pos (Nat.zero_le _))⟩
  generalize F_X1_readNone ck = ck' at rl ⊢
  refine ⟨h1, by decide, h3, fun k hk => ?_, h5⟩
  obtain ⟨a, b⟩ := rl k hk
  obtain ⟨k1, k2, k3, k4⟩ := h4 k hk
  unfold CR
  rw [a 0 (by decide), a 1 (by decide), a 2 (by decide), a 3 (by decide), a 4 (by decide), b]
  exact ⟨k1, ⟨fun _ => rfl, fun _ => has0 ⟨k, hk⟩⟩, fun hq => absurd rfl hq, k4⟩
end HRs
