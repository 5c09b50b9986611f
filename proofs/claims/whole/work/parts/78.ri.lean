/-! a house told by a text, in both -/
section HRs
variable {ck : Nat → Nat → Int32} {nm : Int32} {nc nt nd : Nat → Int32} {told rd : Int32} {c : Nat → Int32} {noted : Int32} {note : Nat → Int32}
theorem heed_ok (h : HR ck nm nc nt nd told rd c noted note) {R Q : Nat → Int32} {l : Nat} (hl : l < 8) (hr : RdR Q) (hLR : LR R Q l) (h4 : R (6 * l) = 4 → ¬ F_X7_has told (R (6 * l + 1)) = 0) :
    HR (F_X1_heed ck R (nI l)) nm nc nt nd (F_X7_doLine told rd c Q (nI (6 * l))).1 (F_X7_doLine told rd c Q (nI (6 * l))).2.1 (F_X7_doLine told rd c Q (nI (6 * l))).2.2 noted note ∧ (F_X7_doLine told rd c Q (nI (6 * l))).1 = F_X5_knownBehind R (nI l) told := by
  obtain ⟨e0, hx⟩ := hLR
  have n0 : F_X5_number R (nI l) 0 = R (6 * l) := numb (q := 0) hl (by decide)
  have n1 : F_X5_number R (nI l) 1 = R (6 * l + 1) := numb (q := 1) hl (by decide)
  have n2 : F_X5_number R (nI l) 2 = R (6 * l + 2) := numb (q := 2) hl (by decide)
  have n3 : F_X5_number R (nI l) 3 = R (6 * l + 3) := numb (q := 3) hl (by decide)
  have n4 : F_X5_number R (nI l) 4 = R (6 * l + 4) := numb (q := 4) hl (by decide)
  have n5 : F_X5_number R (nI l) 5 = R (6 * l + 5) := numb (q := 5) hl (by decide)
  have hx0 : (nI (6 * l)).toNatClampNeg = 6 * l := nI_tn (by omega)
  have hq := hr l hl
  have hw : ∀ w, R (6 * l) = w → Q (6 * l) = w := fun w hw => by rw [← e0]; exact hw
  unfold F_X1_heed F_X1_heed_7 F_X7_doLine F_X7_doLine_229
  rw [n0, hx0, ixw1 hl, ixw2 hl, ixw3 hl, ixw4 hl, ixw5 hl]
  rcases hx with h5 | ⟨e1, hv, hc⟩
  · rw [hw 5 h5, h5, if_pos rfl, if_neg (by decide), if_neg (by decide), if_pos rfl, kb_same hl (Or.inr h5)]
    exact ⟨h.unread, rfl⟩
  · rw [n1, ← e1]
    obtain ⟨j, hj, ej⟩ : ∃ j, j < 8 ∧ R (6 * l + 1) = nI j := ⟨(R (6 * l + 1)).toInt.toNat, by omega, (iN_of hv.1).symm⟩
    have hbk : (1 : Int32) <<< (nI j &&& 31) = bk j := rfl
    have hb : ¬ F_X6_isBelow (nI j) 8 = 0 := by
      have e1 := nI_toInt (n := j) (by omega)
      rw [bel_spec, if_pos (by rw [e1]; exact ⟨by omega, by show (j : Int) < 8; omega⟩)]; decide
    unfold F_X1_heed_25 F_X1_heed_c76 F_X1_heed_c99 F_X1_heed_c146 F_X0_tell
    rw [n2, n3, n4, n5]
    rw [ej, hbk, ixk0 hj, ixk1 hj, ixk2 hj, ixk3 hj, ixk4 hj, ixk5 hj, nI_tn (n := j) (by omega), if_neg hb]
    dsimp only
    have k120 : (120 : Int32).toInt = 120 := rfl
    have z1440 : (-1440 : Int32).toInt = -1440 := rfl
    rcases hc with ⟨hW, f2, f3, f4, f5, g2, g3, g4, g5⟩ | ⟨hW, f2, g0, g1⟩ | hW | ⟨hW, f2, g0, g1⟩
    · -- running on or back
      have s4 := ti_subc (Q (6 * l + 4)) 120 120 rfl (by rw [← f4]; omega) (by rw [← f4]; omega)
      have s5 := ti_subc (Q (6 * l + 5)) 120 120 rfl (by rw [← f5]; omega) (by rw [← f5]; omega)
      have hkb : F_X5_knownBehind R (nI l) told = told ||| bk j := by
        rw [kb_set hl (by rcases hW with hW | hW
                          · exact Or.inl hW
                          · exact Or.inr (Or.inl hW)), ej, hbk]
      rw [hkb, f2, f3, f4, f5]
      rw [f2] at g2
      rw [f3] at g3
      rw [f4] at g4
      rw [f5] at g5
      rcases hW with hW | hW
      · rw [hw 0 hW, hW, if_neg (by decide), if_neg (by decide), if_neg (by decide), if_neg (by decide), if_neg (by decide), if_neg (by decide), if_neg (by decide), if_neg (by decide), if_neg (by decide)]
        exact ⟨h.put hj (by decide) rfl rfl (fun hq => absurd hq (by decide)) (fun _ => ⟨rfl, rfl, rfl⟩) ⟨by decide, by omega, by omega, by omega, by omega, fun _ => by omega⟩, rfl⟩
      · rw [hw 1 hW, hW, if_neg (by decide), if_neg (by decide), if_neg (by decide), if_neg (by decide), if_neg (by decide), if_neg (by decide), if_neg (by decide), if_neg (by decide), if_neg (by decide)]
        exact ⟨h.put hj (by decide) rfl rfl (fun hq => absurd hq (by decide)) (fun _ => ⟨rfl, rfl, rfl⟩) ⟨by decide, by omega, by omega, by omega, by omega, fun _ => by omega⟩, rfl⟩
    · -- stopped
      have hkb : F_X5_knownBehind R (nI l) told = told ||| bk j := by
        rw [kb_set hl (Or.inr (Or.inr hW)), ej, hbk]
      rw [f2] at g0 g1
      rw [hkb, f2, hw 2 hW, hW, if_neg (by decide), if_neg (by decide), if_neg (by decide), if_pos rfl, if_neg (by decide), if_neg (by decide), if_neg (by decide), if_pos rfl, if_pos rfl]
      exact ⟨h.put hj (by decide) rfl rfl (fun _ => ⟨rfl, rfl, rfl, rfl, rfl⟩) (fun hq => absurd rfl hq) ⟨by decide, by omega, by omega, by decide, by decide, fun hq => absurd rfl hq⟩, rfl⟩
    · -- gone
      have hkb : F_X5_knownBehind R (nI l) told = told &&& (bk j ^^^ (-1)) := by
        rw [kb_clr hl hW, ej, hbk]
      rw [hkb, hw 3 hW, hW, if_neg (by decide), if_neg (by decide), if_pos rfl, if_pos rfl]
      exact ⟨h.gone hj, rfl⟩
    · -- shown
      have h4 := h4 hW
      rw [ej] at h4
      rw [kb_same hl (Or.inl hW), ← f2, hw 4 hW, hW, if_neg (by decide), if_pos rfl, if_neg (by decide), if_pos rfl]
      exact ⟨h.now hj h4 g0 g1, rfl⟩
theorem house_loop {C : Int32 × Int32 × Int32 × Int32 × (Nat → Int32)} {M : T10} {t0 : Int32} {m : Nat} (m8 : m ≤ 8) (hc : C.2.1 = nI m) (hm : M.2.2.2.2.2.2.2.1 = nI m) (hr : RdR M.2.2.2.2.2.2.2.2.2) (hl : ∀ i, i < m → LK C.2.2.2.2 M.2.2.2.2.2.2.2.2.2 t0 i) : ∀ (f g k : Nat) (ck : Nat → Nat → Int32) (told rd : Int32) (c : Nat → Int32), k ≤ m → m - k < f → m - k < g → HR ck nm nc nt nd told rd c noted note → told = KN C.2.2.2.2 t0 k →
    ∃ ck' told' rd' c', F_X6_house_23 C f (nI k) ck = (nI m, 0, 0, nI m, C.2.2.1, C.2.2.2.1, C.2.2.2.2, ck') ∧ F_X7_house_12 M g (nI k) told rd c = (nI m, told', rd', c', 0, M.2.1, M.2.2.1, M.2.2.2.1, M.2.2.2.2.1, M.2.2.2.2.2.1, M.2.2.2.2.2.2.1, nI m, M.2.2.2.2.2.2.2.2.1, M.2.2.2.2.2.2.2.2.2) ∧ HR ck' nm nc nt nd told' rd' c' noted note := by
  intro f
  induction f with
  | zero => intro g k ck told rd c _ hf; exact absurd hf (Nat.not_lt_zero _)
  | succ f ih =>
    intro g k ck told rd c hk hf hg h ht
    obtain ⟨g', rfl⟩ : ∃ g', g = g' + 1 := ⟨g - 1, by omega⟩
    rw [F_X6_house_23.eq_2, F_X7_house_12.eq_2, hc, hm]
    by_cases ce : m ≤ k
    · have : k = m := by omega
      subst this
      rw [if_pos (Int32.le_refl _), if_pos (Int32.le_refl _)]
      exact ⟨ck, told, rd, c, rfl, rfl, h⟩
    · have cn : ¬ nI m ≤ nI k := fun hq => ce ((iN_le (by omega) (by omega)).mp hq)
      obtain ⟨l1, l2⟩ := hl k (by omega)
      have hh := heed_ok h (by omega) hr l1 (fun hq => by rw [ht]; exact l2 hq)
      rw [if_neg cn, if_neg cn, iN_mul6 (by omega)]
      unfold F_X6_house_c43 F_X7_house_c25
      rw [nI_suc (by omega)]
      generalize F_X1_heed ck C.2.2.2.2 (nI k) = ck1 at hh ⊢
      generalize F_X7_doLine told rd c M.2.2.2.2.2.2.2.2.2 (nI (6 * k)) = D1 at hh ⊢
      exact ih g' (k + 1) ck1 D1.1 D1.2.1 D1.2.2 (by omega) (by omega) (by omega) hh.1 (by rw [hh.2, ht]; rfl)
theorem q_house (h : HR ck nm nc nt nd told rd c noted note) {tl mb : Int32} {tb mt : Nat → Int32} (ht : TX tl tb mb mt) {Q : Nat → Int32} (hrd : RdR Q) {si : Int32} {mis : Nat → Int32} (hs : SF si mis ck) (st : Int32) (R : Nat → Int32) (tA : Int32) (tk : Int64) (d n fa : Int32) :
    (F_X6_house si tl st tb R ck).1 = (F_X7_house told rd c mb mt tA tk d n fa Q).1 ∧ HR (F_X6_house si tl st tb R ck).2.2.2.2.2.2.2 nm nc nt nd (F_X7_house told rd c mb mt tA tk d n fa Q).2.1 (F_X7_house told rd c mb mt tA tk d n fa Q).2.2.1 (F_X7_house told rd c mb mt tA tk d n fa Q).2.2.2.1 noted note ∧ TX (F_X6_house si tl st tb R ck).2.2.1 tb (F_X7_house told rd c mb mt tA tk d n fa Q).2.2.2.2.1 mt ∧ SF (F_X6_house si tl st tb R ck).2.1 mis (F_X6_house si tl st tb R ck).2.2.2.2.2.2.2 ∧ RdR (F_X7_house told rd c mb mt tA tk d n fa Q).2.2.2.2.2.2.2.2.2.2.2.2.2 := by
  have F := text_ff ht h.1.1 h.1.2 hrd st R tA tk d n fa
  unfold F_X6_house F_X7_house
  rw [h.tob]
  generalize F_X5_findFault tl st tb R told = C at F ⊢
  generalize F_X7_isText told mb mt tA tk d n fa Q = M at F ⊢
  unfold F_X6_house_c11 F_X7_house_c1
  obtain ⟨hr, hx⟩ := F
  rcases hx with ⟨x1, x2, m, m1, m8, hc, hm, hl⟩ | ⟨x1, x2, x3⟩
  · rw [if_pos x1, if_neg (by rw [x2]; exact one0)]
    have em : (C.2.1.toInt.toNat + 1) = m + 1 := by rw [hc, nI_toInt (by omega)]; omega
    rw [em]
    obtain ⟨ck', told', rd', c', e1, e2, e3⟩ := house_loop m8 hc hm hr hl (m + 1) 9 0 ck told rd c (Nat.zero_le _) (by omega) (by omega) h rfl
    rw [iz] at e1 e2
    rw [e1, e2]
    have hT : TX 0 tb 0 mt := ⟨rfl, by decide, by decide, fun i hi => by
      have z : (0 : Int32).toInt = 0 := rfl
      omega⟩
    exact ⟨rfl, e3, hT, fun hq => absurd rfl hq, hr⟩
  · rw [if_neg x1, if_pos x2]
    exact ⟨rfl, h, ht, hs, hr⟩
end HRs
