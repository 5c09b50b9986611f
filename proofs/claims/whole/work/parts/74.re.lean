theorem iN_add {a b : Nat} (h : a + b < 2 ^ 31) : nI a + nI b = nI (a + b) := by
  have e1 := nI_toInt (n := a) (by omega)
  have e2 := nI_toInt (n := b) (by omega)
  exact Int32.toInt_inj.mp (by rw [ti_add (by omega) (by omega), e1, e2, nI_toInt h]; omega)
theorem iN_inj {a b : Nat} (ha : a < 2 ^ 31) (hb : b < 2 ^ 31) (h : nI a = nI b) : a = b := by
  have := congrArg Int32.toInt h
  rw [nI_toInt ha, nI_toInt hb] at this
  omega
section TOK
variable {L : Nat} {tb mt : Nat → Int32}
theorem tk_loop {s j m : Nat} (hm : skLen.getD j 0 = m) (hm7 : m ≤ 7) (hs : s ≤ 200) : ∀ (f i : Nat), i ≤ m → m - i < f → (F_X5_isTaken_20 (nI L) (nI s) tb j f (nI i) = 1 ∧ ∀ k, i ≤ k → k < m → F_X5_signAt (nI L) tb (nI (s + k)) = sbyt j (nI k)) ∨ (F_X5_isTaken_20 (nI L) (nI s) tb j f (nI i) = 0 ∧ ¬ ∀ k, i ≤ k → k < m → F_X5_signAt (nI L) tb (nI (s + k)) = sbyt j (nI k)) := by
  have hsl : slen j = nI m := by unfold slen; rw [hm]; rfl
  intro f
  induction f with
  | zero => intro i _ h; exact absurd h (Nat.not_lt_zero _)
  | succ f ih =>
    intro i hi hf
    rw [F_X5_isTaken_20.eq_2, hsl]
    by_cases c1 : m ≤ i
    · rw [if_pos ((iN_le (by omega) (by omega)).mpr c1)]
      exact Or.inl ⟨rfl, fun k h1 h2 => by omega⟩
    · rw [if_neg (fun hq => c1 ((iN_le (by omega) (by omega)).mp hq)), iN_add (by omega)]
      by_cases c2 : F_X5_signAt (nI L) tb (nI (s + i)) = sbyt j (nI i)
      · rw [if_pos c2, nI_suc (by omega)]
        rcases ih (i + 1) (by omega) (by omega) with ⟨h1, h2⟩ | ⟨h1, h2⟩
        · refine Or.inl ⟨h1, fun k k1 k2 => ?_⟩
          by_cases e : k = i
          · rw [e]; exact c2
          · exact h2 k (by omega) k2
        · exact Or.inr ⟨h1, fun h3 => h2 (fun k k1 k2 => h3 k (by omega) k2)⟩
      · rw [if_neg c2]
        exact Or.inr ⟨rfl, fun h3 => c2 (h3 i (Nat.le_refl _) (by omega))⟩
/-- whether a token is a word -/
theorem tk_spec {s e j m : Nat} (hm : skLen.getD j 0 = m) (hm7 : m ≤ 7) (hse : s ≤ e) (he : e ≤ 200) : (F_X5_isTaken (nI L) (nI s) (nI e) tb j = 0 ↔ ¬ (e - s = m ∧ ∀ k, k < m → F_X5_signAt (nI L) tb (nI (s + k)) = sbyt j (nI k))) := by
  have hsl : slen j = nI m := by unfold slen; rw [hm]; rfl
  have esub : nI e - nI s = nI (e - s) := by
    have e1 := nI_toInt (n := e) (by omega)
    have e2 := nI_toInt (n := s) (by omega)
    exact Int32.toInt_inj.mp (by rw [ti_sub (by omega) (by omega), e1, e2, nI_toInt (by omega)]; omega)
  unfold F_X5_isTaken
  rw [esub, hsl]
  by_cases c1 : e - s = m
  · rw [if_pos (by rw [c1])]
    have g := tk_loop (L := L) (tb := tb) hm hm7 (show s ≤ 200 by omega) 9 0 (Nat.zero_le _) (by omega)
    rw [iz] at g
    rcases g with ⟨g1, g2⟩ | ⟨g1, g2⟩
    · rw [g1]
      exact ⟨fun h => absurd h (by decide), fun h => absurd ⟨c1, fun k hk => g2 k (Nat.zero_le _) hk⟩ h⟩
    · rw [g1]
      exact ⟨fun _ h => g2 (fun k _ hk => h.2 k hk), fun _ => rfl⟩
  · rw [if_neg (fun hq => c1 (iN_inj (by omega) (by omega) hq))]
    exact ⟨fun _ h => c1 h.1, fun _ => rfl⟩
def wt (a0 a1 a2 a3 a4 a5 : Int32) : Int32 := if a0 = 0 then if a1 = 0 then if a2 = 0 then if a3 = 0 then if a4 = 0 then if a5 = 0 then -1 else 5 else 4 else 3 else 2 else 1 else 0
theorem wt_eq (s e : Int32) : F_X5_wordTaken (nI L) s e tb = wt (F_X5_isTaken (nI L) s e tb 0) (F_X5_isTaken (nI L) s e tb 1) (F_X5_isTaken (nI L) s e tb 2) (F_X5_isTaken (nI L) s e tb 3) (F_X5_isTaken (nI L) s e tb 4) (F_X5_isTaken (nI L) s e tb 5) := by
  have w : ∀ k : Fin 6, F_X5_wordOf (nI k.val) = k.val := by decide +kernel
  have st : ∀ (f k : Nat), k < 6 → F_X5_wordTaken_2 (nI L) s e tb (f + 1) (nI k) = if F_X5_isTaken (nI L) s e tb k = 0 then F_X5_wordTaken_2 (nI L) s e tb f (nI (k + 1)) else nI k := fun f k hk => by
    have wk : F_X5_wordOf (nI k) = k := w ⟨k, hk⟩
    rw [F_X5_wordTaken_2.eq_2, if_neg (show ¬ (6 : Int32) ≤ nI k from fun hq => by have := (iN_le (a := 6) (b := k) (by decide) (by omega)).mp hq; omega), wk, nI_suc (by omega)]
  show F_X5_wordTaken_2 (nI L) s e tb 7 (nI 0) = _
  rw [st 6 0 (by decide), st 5 1 (by decide), st 4 2 (by decide), st 3 3 (by decide), st 2 4 (by decide), st 1 5 (by decide), F_X5_wordTaken_2.eq_2, if_pos (show (6 : Int32) ≤ nI (5 + 1) by decide)]
  rfl
/-- the model's words -/
def wv (t : Int64) : Int32 := if lg_cmp t 4022278 = 0 then 0 else if lg_cmp t 40187 = 0 then 1 else if lg_cmp t 7656265777 = 0 then 2 else if lg_cmp t 149099 = 0 then 3 else if lg_cmp t 10634 = 0 then 4 else if lg_cmp t 309125191 = 0 then 5 else -1
def V : Nat → Int
  | 0 => 4022278 | 1 => 40187 | 2 => 7656265777 | 3 => 149099 | 4 => 10634 | _ => 309125191
theorem wt_wv {s e : Int32} {t : Int64} (h : ∀ j, j < 6 → (F_X5_isTaken (nI L) s e tb j = 0 ↔ ¬ t.toInt = V j)) : F_X5_wordTaken (nI L) s e tb = wv t := by
  rw [wt_eq]
  have h0 := h 0 (by decide)
  have h1 := h 1 (by decide)
  have h2 := h 2 (by decide)
  have h3 := h 3 (by decide)
  have h4 := h 4 (by decide)
  have h5 := h 5 (by decide)
  have l0 : lg_cmp t 4022278 = 0 ↔ t.toInt = V 0 := lc_eq _ _
  have l1 : lg_cmp t 40187 = 0 ↔ t.toInt = V 1 := lc_eq _ _
  have l2 : lg_cmp t 7656265777 = 0 ↔ t.toInt = V 2 := lc_eq _ _
  have l3 : lg_cmp t 149099 = 0 ↔ t.toInt = V 3 := lc_eq _ _
  have l4 : lg_cmp t 10634 = 0 ↔ t.toInt = V 4 := lc_eq _ _
  have l5 : lg_cmp t 309125191 = 0 ↔ t.toInt = V 5 := lc_eq _ _
  unfold wt wv
  by_cases c0 : t.toInt = V 0
  · rw [if_neg (fun hq => (h0.mp hq) c0), if_pos (l0.mpr c0)]
  · rw [if_pos (h0.mpr c0), if_neg (fun hq => c0 (l0.mp hq))]
    by_cases c1 : t.toInt = V 1
    · rw [if_neg (fun hq => (h1.mp hq) c1), if_pos (l1.mpr c1)]
    · rw [if_pos (h1.mpr c1), if_neg (fun hq => c1 (l1.mp hq))]
      by_cases c2 : t.toInt = V 2
      · rw [if_neg (fun hq => (h2.mp hq) c2), if_pos (l2.mpr c2)]
      · rw [if_pos (h2.mpr c2), if_neg (fun hq => c2 (l2.mp hq))]
        by_cases c3 : t.toInt = V 3
        · rw [if_neg (fun hq => (h3.mp hq) c3), if_pos (l3.mpr c3)]
        · rw [if_pos (h3.mpr c3), if_neg (fun hq => c3 (l3.mp hq))]
          by_cases c4 : t.toInt = V 4
          · rw [if_neg (fun hq => (h4.mp hq) c4), if_pos (l4.mpr c4)]
          · rw [if_pos (h4.mpr c4), if_neg (fun hq => c4 (l4.mp hq))]
            by_cases c5 : t.toInt = V 5
            · rw [if_neg (fun hq => (h5.mp hq) c5), if_pos (l5.mpr c5)]
            · rw [if_pos (h5.mpr c5), if_neg (fun hq => c5 (l5.mp hq))]
def sv (j : Nat) (k : Nat) : Int := (sbyt j (nI k)).toInt - 96
theorem sk_rng : ∀ j : Fin 6, 3 ≤ skLen.getD j.val 0 ∧ skLen.getD j.val 0 ≤ 7 ∧ ∀ k : Fin 7, k.val < skLen.getD j.val 0 → 1 ≤ sv j.val k.val ∧ sv j.val k.val ≤ 26 := by decide +kernel
theorem sk_val : ∀ j : Fin 6, lv (sv j.val) (skLen.getD j.val 0) = V j.val ∧ 1 ≤ V j.val := by decide +kernel
theorem lv_congr {g g' : Nat → Int} : ∀ m, (∀ i, i < m → g i = g' i) → lv g m = lv g' m := by
  intro m
  induction m with
  | zero => intro _; rfl
  | succ m ih => intro h; show 27 * lv g m + g m = 27 * lv g' m + g' m; rw [ih (fun i hi => h i (by omega)), h m (by omega)]
theorem dg_neg : F_X5_isDigit (-1) = 0 := by decide
theorem lt_neg : F_X5_isLetter (-1) = 0 := by decide
theorem nt_long {s e : Nat} (hse : s ≤ e) (he : e ≤ 200) (h4 : 4 < e - s) : F_X5_numberTaken (nI L) (nI s) (nI e) tb = -1 := by
  have e1 := nI_toInt (n := e) (by omega)
  have e2 := nI_toInt (n := s) (by omega)
  have e3 := ti_sub (a := nI e) (b := nI s) (by omega) (by omega)
  have z4 : (4 : Int32).toInt = 4 := rfl
  unfold F_X5_numberTaken
  rw [if_pos (ti_lt.mpr (by omega))]
theorem nt_none {s e : Int32} (h : F_X5_isDigit (F_X5_signAt (nI L) tb s) = 0) : F_X5_numberTaken (nI L) s e tb = -1 := by
  unfold F_X5_numberTaken
  rw [if_pos h]
  split <;> rfl
/-- a token in both -/
def TK (L : Nat) (tb : Nat → Int32) (s e : Nat) (t : Int64) (v : Int32) : Prop := F_X5_wordTaken (nI L) (nI s) (nI e) tb = wv t ∧ ((t = -1 ∧ F_X5_numberTaken (nI L) (nI s) (nI e) tb = v ∧ 0 ≤ v.toInt ∧ v.toInt ≤ 9999) ∨ (¬ t = -1 ∧ F_X5_numberTaken (nI L) (nI s) (nI e) tb = -1)) ∧ (s = L ↔ t = -2) ∧ (F_X5_signAt (nI L) tb (nI s) = 59 ↔ t = -3)
theorem tok (h : TT L tb mt) {p0 : Nat} (hp0 : p0 ≤ L) : ∃ s e t d v, p0 ≤ s ∧ s ≤ e ∧ e ≤ L ∧ F_X5_takeToken (nI L) (nI p0) tb = (nI s, nI e) ∧ F_X7_nextToken (nI L) mt (nI p0) = (nI e, nI s, t, d, v) ∧ TK L tb s e t v := by
  have hL := h.1
  obtain ⟨p, p1, p2, p3, p4⟩ := skip_sp h 201 p0 hp0 (by omega)
  have q3 : F_X5_takeToken (nI L) (nI p0) tb = F_X5_takeToken_45 (nI L) tb (nI p) := p3
  have q4 : F_X7_nextToken (nI L) mt (nI p0) = F_X7_nextToken_38 (nI L) mt (nI p) := p4
  rw [q3, q4]
  have v0 : ∀ (j : Nat) (t : Int64), j < 6 → t.toInt < 0 → ¬ t.toInt = V j := fun j t hj ht => by have := (sk_val ⟨j, hj⟩).2; have this : 1 ≤ V j := this; omega
  unfold F_X5_takeToken_45 F_X7_nextToken_38
  by_cases cL : p = L
  · -- the end
    subst cL
    have hsg := sg_out h (i := p) (Nat.le_refl _) (by omega)
    rw [hsg, lt_neg, dg_neg, if_pos rfl, if_pos rfl, if_pos (Int32.le_refl _), if_pos rfl]
    refine ⟨p, p, -2, 0, 0, p1, Nat.le_refl _, Nat.le_refl _, rfl, rfl, wt_wv (fun j hj => ?_), Or.inr ⟨by decide, nt_none (by rw [hsg]; exact dg_neg)⟩, ⟨fun _ => rfl, fun _ => rfl⟩, ⟨fun hq => by rw [hsg] at hq; exact absurd hq (by decide), fun hq => absurd hq (by decide)⟩⟩
    obtain ⟨k1, k2, -⟩ := sk_rng ⟨j, hj⟩
    rw [tk_spec rfl k2 (Nat.le_refl _) (by omega)]
    exact ⟨fun _ => v0 j (-2) hj (by decide), fun _ hq => by have := hq.1; have k1 : 3 ≤ skLen.getD j 0 := k1; omega⟩
  · have hlt : p < L := by omega
    have hsg := sg_in h hlt
    have hnL : ¬ nI p = nI L := fun hq => cL (iN_inj (by omega) (by omega) hq)
    rw [hsg, lt_in, dg_in, if_neg hnL, nI_tn (by omega)]
    by_cases c1 : F_X7_in (mt p) 97 122 = 0
    · rw [if_pos c1, if_pos c1]
      by_cases c2 : F_X7_in (mt p) 48 57 = 0
      · -- one sign
        have hnt : F_X5_numberTaken (nI L) (nI p) (nI (p + 1)) tb = -1 := nt_none (by rw [hsg]; exact c2)
        have hw : ∀ t : Int64, t.toInt < 0 → F_X5_wordTaken (nI L) (nI p) (nI (p + 1)) tb = wv t := fun t ht => wt_wv (fun j hj => by
          obtain ⟨k1, k2, -⟩ := sk_rng ⟨j, hj⟩
          rw [tk_spec rfl k2 (by omega) (by omega)]
          exact ⟨fun _ => v0 j t hj ht, fun _ hq => by have := hq.1; have k1 : 3 ≤ skLen.getD j 0 := k1; omega⟩)
        rw [if_pos c2, if_pos c2, if_neg (fun hq => by have := (le_L h (by omega)).mp hq; omega), nI_suc (by omega)]
        by_cases c3 : mt p = 59
        · rw [if_pos c3]
          exact ⟨p, p + 1, -3, 0, 0, p1, by omega, by omega, rfl, rfl, hw _ (by decide), Or.inr ⟨by decide, hnt⟩, ⟨fun hq => absurd hq cL, fun hq => absurd hq (by decide)⟩, ⟨fun _ => rfl, fun _ => by rw [hsg]; exact c3⟩⟩
        · rw [if_neg c3]
          exact ⟨p, p + 1, -4, 0, 0, p1, by omega, by omega, rfl, rfl, hw _ (by decide), Or.inr ⟨by decide, hnt⟩, ⟨fun hq => absurd hq cL, fun hq => absurd hq (by decide)⟩, ⟨fun hq => absurd (hsg.symm.trans hq) c3, fun hq => absurd hq (by decide)⟩⟩
      · -- digits
        rw [if_neg c2, if_neg c2]
        obtain ⟨e, v', a1, a2, a3, a4, a5, a6, a7⟩ := num_loop h (p := p) 201 p 0 0 (Nat.le_refl _) (by omega) (by omega) (fun i h1 h2 => by omega) (by rw [Nat.sub_self]; rfl) (fun _ => by rw [Nat.sub_self]; rfl)
        have hpe : p < e := by
          rcases a4 with a4 | a4
          · omega
          · refine Nat.lt_of_le_of_ne a1 (fun hq => a4 ?_)
            rw [← hq]; exact c2
        rw [a5, a6]
        have hdp := isD_rng (mt := mt) (i := p) c2
        have htk : ∀ t : Int64, t.toInt < 0 → F_X5_wordTaken (nI L) (nI p) (nI e) tb = wv t := fun t ht => wt_wv (fun j hj => by
          obtain ⟨k1, k2, k3⟩ := sk_rng ⟨j, hj⟩
          rw [tk_spec rfl k2 a1 (by omega)]
          refine ⟨fun _ => v0 j t hj ht, fun _ hq => ?_⟩
          have h0 := hq.2 0 (by have k1 : 3 ≤ skLen.getD j 0 := k1; omega)
          rw [Nat.add_zero, hsg] at h0
          have k4 := k3 ⟨0, by decide⟩ (by show 0 < skLen.getD j 0; have k1 : 3 ≤ skLen.getD j 0 := k1; omega)
          have k4 : 1 ≤ sv j 0 ∧ sv j 0 ≤ 26 := k4
          unfold sv at k4
          rw [← h0] at k4
          omega)
        have hs59 : F_X5_signAt (nI L) tb (nI p) = 59 → False := fun hq => by
          rw [hsg] at hq
          have := congrArg Int32.toInt hq
          have z : (59 : Int32).toInt = 59 := rfl
          omega
        by_cases c4 : e - p ≤ 4
        · rw [if_pos c4]
          refine ⟨p, e, -1, nI (e - p), v', p1, a1, a2, rfl, rfl, htk _ (by decide), Or.inl ⟨rfl, ?_⟩, ⟨fun hq => absurd hq cL, fun hq => absurd hq (by decide)⟩, ⟨fun hq => (hs59 hq).elim, fun hq => absurd hq (by decide)⟩⟩
          obtain ⟨b1, b2⟩ := dv_bd (mt := mt) (p := p) (e - p) (fun i hi => a3 (p + i) (by omega) (by omega))
          have b3 := p10 (e - p) c4
          have a7 := a7 c4
          refine ⟨?_, by omega, by omega⟩
          refine Int32.toInt_inj.mp ?_
          rw [a7]
          have e1 := nI_toInt (n := e) (by omega)
          have e2 := nI_toInt (n := p) (by omega)
          have e3 := ti_sub (a := nI e) (b := nI p) (by omega) (by omega)
          have z4 : (4 : Int32).toInt = 4 := rfl
          unfold F_X5_numberTaken
          rw [if_neg (fun hq => by have := ti_lt.mp hq; omega), hsg, dg_in, if_neg c2]
          exact nt36 h a1 a2 c4 a3 _ p 0 (Nat.le_refl _) a1 (by omega) (by rw [Nat.sub_self]; rfl)
        · rw [if_neg c4]
          exact ⟨p, e, -4, nI (e - p), v', p1, a1, a2, rfl, rfl, htk _ (by decide), Or.inr ⟨by decide, nt_long a1 (by omega) (by omega)⟩, ⟨fun hq => absurd hq cL, fun hq => absurd hq (by decide)⟩, ⟨fun hq => (hs59 hq).elim, fun hq => absurd hq (by decide)⟩⟩
    · -- letters
      rw [if_neg c1, if_neg c1]
      obtain ⟨e, t', a1, a2, a3, a4, a5, a6, a7, a8⟩ := word_loop h (p := p) 201 p 0 (Nat.le_refl _) (by omega) (by omega) (fun i h1 h2 => by omega) (fun _ => by rw [Nat.sub_self]; rfl)
      have hpe : p < e := by
        rcases a4 with a4 | a4
        · omega
        · refine Nat.lt_of_le_of_ne a1 (fun hq => a4 ?_)
          rw [← hq]; exact c1
      rw [a5, a6]
      have hlp := isL_rng (mt := mt) (i := p) c1
      have hgl : ∀ i, i < e - p → 1 ≤ gl mt p i ∧ gl mt p i ≤ 26 := fun i hi => by
        have := isL_rng (a3 (p + i) (by omega) (by omega))
        unfold gl; omega
      have hpos : 9 < e - p ∨ 1 ≤ t'.toInt := by
        by_cases c9 : e - p ≤ 9
        · right
          rw [a7 c9]
          obtain ⟨m, hm⟩ : ∃ m, e - p = m + 1 := ⟨e - p - 1, by omega⟩
          rw [hm] at hgl ⊢
          have := (lv_pos m (fun i hi => hgl i (by omega))).1
          have := hgl m (by omega)
          show 1 ≤ 27 * lv (gl mt p) m + gl mt p m
          omega
        · left; omega
      have htn : t' = -4 ∨ 1 ≤ t'.toInt := by
        rcases hpos with h9 | h9
        · exact Or.inl (a8 h9)
        · exact Or.inr h9
      have hne : ∀ z : Int64, z.toInt < 0 → ¬ z = -4 → ¬ t' = z := fun z hz h4 hq => by
        rcases htn with h9 | h9
        · exact h4 (by rw [← hq, h9])
        · rw [hq] at h9; omega
      refine ⟨p, e, t', 0, 0, p1, a1, a2, rfl, rfl, wt_wv (fun j hj => ?_), Or.inr ⟨hne (-1) (by decide) (by decide), ?_⟩, ⟨fun hq => absurd hq cL, fun hq => absurd hq (hne (-2) (by decide) (by decide))⟩, ⟨fun hq => ?_, fun hq => absurd hq (hne (-3) (by decide) (by decide))⟩⟩
      · obtain ⟨k1, k2, k3⟩ := sk_rng ⟨j, hj⟩
        have k2 : skLen.getD j 0 ≤ 7 := k2
        have kv := (sk_val ⟨j, hj⟩).1
        have kv : lv (sv j) (skLen.getD j 0) = V j := kv
        have kp : 1 ≤ V j := (sk_val ⟨j, hj⟩).2
        have k3' : ∀ i, i < skLen.getD j 0 → 1 ≤ sv j i ∧ sv j i ≤ 26 := fun i hi => k3 ⟨i, by omega⟩ hi
        rw [tk_spec rfl k2 a1 (by omega)]
        constructor
        · intro hnt htv
          by_cases c9 : e - p ≤ 9
          · rw [a7 c9, ← kv] at htv
            obtain ⟨i1, i2⟩ := lv_inj _ _ hgl k3' htv
            refine hnt ⟨i1, fun k hk => ?_⟩
            rw [sg_in h (by omega)]
            have := i2 k (by omega)
            unfold gl sv at this
            exact Int32.toInt_inj.mp (by omega)
          · rw [a8 (by omega)] at htv
            have z4 : (-4 : Int64).toInt = -4 := rfl
            omega
        · rintro htv ⟨i1, i2⟩
          have c9 : e - p ≤ 9 := by omega
          refine htv ?_
          rw [a7 c9, ← kv, i1]
          refine lv_congr _ (fun i hi => ?_)
          have := i2 i hi
          rw [sg_in h (by omega)] at this
          unfold gl sv
          rw [this]
      · refine nt_none ?_
        rw [hsg, dg_in, in_spec, if_neg]
        intro hq
        have z1 : (57 : Int32).toInt = 57 := rfl
        omega
      · rw [hsg] at hq
        have := congrArg Int32.toInt hq
        have z : (59 : Int32).toInt = 59 := rfl
        omega
/-- a number where one is due, in both -/
theorem num_step (h : TT L tb mt) {p0 : Nat} (hp0 : p0 ≤ L) (fa : Int32) (read : Nat → Int32) (wh least most : Int32) (hl : 0 ≤ least.toInt) : ∃ s e v, s ≤ e ∧ e ≤ L ∧ F_X5_takeToken (nI L) (nI p0) tb = (nI s, nI e) ∧ F_X5_numberTaken (nI L) (nI s) (nI e) tb = v ∧ (((v < least ∨ ¬ v ≤ most) ∧ ∃ q t d n, F_X7_isNumber (nI L) mt (nI p0) fa read wh least most = (0, q, nI s, t, d, n, nI s, read)) ∨ (¬ v < least ∧ v ≤ most ∧ 0 ≤ v.toInt ∧ ∃ t d, F_X7_isNumber (nI L) mt (nI p0) fa read wh least most = (1, nI e, nI s, t, d, v, fa, upd read wh.toNatClampNeg v))) := by
  obtain ⟨s, e, t, d, v, a1, a2, a3, a4, a5, -, a6, -, -⟩ := tok h hp0
  have hN : F_X7_isNumber (nI L) mt (nI p0) fa read wh least most = F_X7_isNumber_c1 fa read wh least most (nI e, nI s, t, d, v) := by
    unfold F_X7_isNumber
    rw [a5]
  rw [hN]
  unfold F_X7_isNumber_c1 F_X7_isNumber_27 F_X7_isNumber_c28 F_X7_fails
  dsimp only
  rcases a6 with ⟨rfl, b1, b2, b3⟩ | ⟨b0, b1⟩
  · refine ⟨s, e, v, a2, a3, a4, b1, ?_⟩
    rw [if_pos (show lg_cmp (-1) (-1) = 0 by decide), in_spec]
    by_cases c1 : v < least
    · have := ti_lt.mp c1
      left
      rw [if_neg (show ¬ (least.toInt ≤ v.toInt ∧ v.toInt ≤ most.toInt) by omega), if_pos rfl]
      exact ⟨Or.inl c1, _, _, _, _, rfl⟩
    · have g1 := ti_nlt c1
      by_cases c2 : v ≤ most
      · have := ti_le.mp c2
        right
        rw [if_pos (show least.toInt ≤ v.toInt ∧ v.toInt ≤ most.toInt by omega), if_neg (by decide)]
        exact ⟨c1, c2, b2, _, _, rfl⟩
      · have := ti_nle c2
        left
        rw [if_neg (show ¬ (least.toInt ≤ v.toInt ∧ v.toInt ≤ most.toInt) by omega), if_pos rfl]
        exact ⟨Or.inr c2, _, _, _, _, rfl⟩
  · refine ⟨s, e, -1, a2, a3, a4, b1, ?_⟩
    have zm : (-1 : Int32).toInt = -1 := rfl
    left
    rw [if_neg (fun hq => b0 (lgc_eq hq))]
    exact ⟨Or.inl (ti_lt.mpr (by omega)), _, _, _, _, rfl⟩
end TOK
