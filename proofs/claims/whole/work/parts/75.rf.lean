/-! lines of a text, in both -/
theorem ixl {l i : Nat} (hl : l < 8) (hi : i < 6) : (nI l * 6 + nI i).toNatClampNeg = 6 * l + i := by
  have e1 := nI_toInt (n := l) (by omega)
  have e2 := nI_toInt (n := i) (by omega)
  have e6 : (6 : Int32).toInt = 6 := rfl
  have m1 : (nI l * 6).toInt = (l : Int) * 6 := by rw [ti_mul (by rw [e1, e6]; omega) (by rw [e1, e6]; omega), e1, e6]
  have m2 : (nI l * 6 + nI i).toInt = (l : Int) * 6 + i := by rw [ti_add (by rw [m1, e2]; omega) (by rw [m1, e2]; omega), m1, e2]
  have := tn_of (x := nI l * 6 + nI i) (by omega)
  omega
theorem ixl0 {l : Nat} (hl : l < 8) : (nI l * 6).toNatClampNeg = 6 * l := by
  have e1 := nI_toInt (n := l) (by omega)
  have e6 : (6 : Int32).toInt = 6 := rfl
  have m1 : (nI l * 6).toInt = (l : Int) * 6 := by rw [ti_mul (by rw [e1, e6]; omega) (by rw [e1, e6]; omega), e1, e6]
  have := tn_of (x := nI l * 6) (by omega)
  omega
theorem ixl1 {l i : Nat} (hl : l < 8) (hi : i < 5) : (nI l * 6 + nI i + 1).toNatClampNeg = 6 * l + (i + 1) := by
  rw [Int32.add_assoc, nI_suc (by omega)]
  exact ixl hl (by omega)
theorem ixw {l q : Nat} (hl : l < 8) (hq : q < 6) : (nI (6 * l) + nI q).toNatClampNeg = 6 * l + q := by
  rw [iN_add (by omega), nI_tn (by omega)]
theorem ixw1 {l : Nat} (hl : l < 8) : (nI (6 * l) + 1).toNatClampNeg = 6 * l + 1 := ixw (q := 1) hl (by decide)
theorem ixw2 {l : Nat} (hl : l < 8) : (nI (6 * l) + 2).toNatClampNeg = 6 * l + 2 := ixw (q := 2) hl (by decide)
theorem ixw3 {l : Nat} (hl : l < 8) : (nI (6 * l) + 3).toNatClampNeg = 6 * l + 3 := ixw (q := 3) hl (by decide)
theorem ixw4 {l : Nat} (hl : l < 8) : (nI (6 * l) + 4).toNatClampNeg = 6 * l + 4 := ixw (q := 4) hl (by decide)
theorem ixw5 {l : Nat} (hl : l < 8) : (nI (6 * l) + 5).toNatClampNeg = 6 * l + 5 := ixw (q := 5) hl (by decide)
theorem numb {R : Nat → Int32} {l q : Nat} (hl : l < 8) (hq : q < 6) : F_X5_number R (nI l) (nI q) = R (6 * l + q) := by
  have e1 := nI_toInt (n := l) (by omega)
  have e2 := nI_toInt (n := q) (by omega)
  unfold F_X5_number
  rw [if_neg, if_neg, ixl hl hq]
  · rw [bel_spec, if_pos (by rw [e2]; exact ⟨by omega, by show (q : Int) < 6; omega⟩)]; decide
  · rw [bel_spec, if_pos (by rw [e1]; exact ⟨by omega, by show (l : Int) < 8; omega⟩)]; decide
/-- the places of minutes that the model has read, in all lines -/
def RdR (Q : Nat → Int32) : Prop := ∀ i, i < 8 → 0 ≤ (Q (6 * i + 2)).toInt ∧ (Q (6 * i + 2)).toInt ≤ 4319
theorem RdR.up {Q : Nat → Int32} (h : RdR Q) {k : Nat} {v : Int32} (hv : (∀ i, i < 8 → ¬ k = 6 * i + 2) ∨ (0 ≤ v.toInt ∧ v.toInt ≤ 4319)) : RdR (upd Q k v) := fun i hi => by
  unfold upd
  by_cases e : 6 * i + 2 = k
  · rw [if_pos e]
    rcases hv with hv | hv
    · exact absurd e.symm (hv i hi)
    · exact hv
  · rw [if_neg e]; exact h i hi
/-- a line that was taken, in both -/
def LR (R Q : Nat → Int32) (l : Nat) : Prop := R (6 * l) = Q (6 * l) ∧ (R (6 * l) = 5 ∨ (R (6 * l + 1) = Q (6 * l + 1) ∧ (0 ≤ (R (6 * l + 1)).toInt ∧ (R (6 * l + 1)).toInt < 8) ∧ (((R (6 * l) = 0 ∨ R (6 * l) = 1) ∧ R (6 * l + 2) = Q (6 * l + 2) ∧ R (6 * l + 3) = Q (6 * l + 3) ∧ R (6 * l + 4) = Q (6 * l + 4) ∧ R (6 * l + 5) = Q (6 * l + 5) ∧ (0 ≤ (R (6 * l + 2)).toInt ∧ (R (6 * l + 2)).toInt < 4320) ∧ (0 ≤ (R (6 * l + 3)).toInt ∧ (R (6 * l + 3)).toInt < 720) ∧ (0 ≤ (R (6 * l + 4)).toInt ∧ (R (6 * l + 4)).toInt ≤ 240) ∧ (0 ≤ (R (6 * l + 5)).toInt ∧ (R (6 * l + 5)).toInt ≤ 240)) ∨ (R (6 * l) = 2 ∧ R (6 * l + 2) = Q (6 * l + 3) ∧ 0 ≤ (R (6 * l + 2)).toInt ∧ (R (6 * l + 2)).toInt < 720) ∨ R (6 * l) = 3 ∨ (R (6 * l) = 4 ∧ R (6 * l + 2) = Q (6 * l + 2) ∧ 0 ≤ (R (6 * l + 2)).toInt ∧ (R (6 * l + 2)).toInt < 720))))
abbrev T9 : Type := Int32 × Int32 × Int32 × Int64 × Int32 × Int32 × Int32 × Int32 × (Nat → Int32)
/-- what a line leaves in both -/
def LN (L l : Nat) (R Q : Nat → Int32) (known : Int32) (C : Int32 × Int32 × Int32 × (Nat → Int32)) (M : T9) : Prop :=
  RdR M.2.2.2.2.2.2.2.2 ∧ ((C.1 = 0 ∧ M.1 = 0 ∧ M.2.2.2.2.2.2.1 = C.2.1 ∧ 0 ≤ C.2.1.toInt) ∨ (C.1 = 1 ∧ M.1 = 1 ∧ (∃ e, e ≤ L ∧ C.2.2.1 = nI e ∧ M.2.1 = nI e) ∧ (C.2.2.2 (6 * l) = 4 → ¬ F_X7_has known (C.2.2.2 (6 * l + 1)) = 0) ∧ LR C.2.2.2 M.2.2.2.2.2.2.2.2 l ∧ (∀ i, (i < 6 * l ∨ 6 * l + 6 ≤ i) → C.2.2.2 i = R i ∧ M.2.2.2.2.2.2.2.2 i = Q i) ∧ M.2.2.2.2.2.2.2.1 = F_X5_knownBehind C.2.2.2 (nI l) known ∧ 0 ≤ M.2.2.2.2.2.2.2.1.toInt ∧ M.2.2.2.2.2.2.2.1.toInt ≤ 255))
theorem kb_set {R : Nat → Int32} {l : Nat} {known : Int32} (hl : l < 8) (hw : R (6 * l) = 0 ∨ R (6 * l) = 1 ∨ R (6 * l) = 2) : F_X5_knownBehind R (nI l) known = known ||| (1 <<< (R (6 * l + 1) &&& 31)) := by
  have n0 : F_X5_number R (nI l) 0 = R (6 * l) := numb (q := 0) hl (by decide)
  have n1 : F_X5_number R (nI l) 1 = R (6 * l + 1) := numb (q := 1) hl (by decide)
  unfold F_X5_knownBehind F_X5_knownBehind_39
  rw [n0, n1]
  rcases hw with hw | hw | hw <;> rw [hw]
  · rw [if_neg (by decide), if_pos rfl]
  · rw [if_neg (by decide), if_neg (by decide), if_pos rfl]
  · rw [if_neg (by decide), if_neg (by decide), if_neg (by decide), if_pos rfl]
theorem kb_clr {R : Nat → Int32} {l : Nat} {known : Int32} (hl : l < 8) (hw : R (6 * l) = 3) : F_X5_knownBehind R (nI l) known = known &&& ((1 <<< (R (6 * l + 1) &&& 31)) ^^^ (-1)) := by
  have n0 : F_X5_number R (nI l) 0 = R (6 * l) := numb (q := 0) hl (by decide)
  have n1 : F_X5_number R (nI l) 1 = R (6 * l + 1) := numb (q := 1) hl (by decide)
  unfold F_X5_knownBehind
  rw [n0, n1, if_pos hw]
theorem kb_same {R : Nat → Int32} {l : Nat} {known : Int32} (hl : l < 8) (hw : R (6 * l) = 4 ∨ R (6 * l) = 5) : F_X5_knownBehind R (nI l) known = known := by
  have n0 : F_X5_number R (nI l) 0 = R (6 * l) := numb (q := 0) hl (by decide)
  unfold F_X5_knownBehind
  rw [n0]
  rcases hw with hw | hw <;> rw [hw, if_neg (by decide), if_neg (by decide), if_neg (by decide), if_neg (by decide)]
theorem bit_has : ∀ n : Fin 256, ∀ k : Fin 8, (((nI n.val >>> (nI k.val &&& 31)) &&& 1) = 0 ↔ F_X7_has (nI n.val) (nI k.val) = 0) := by decide +kernel
section TOK
variable {L : Nat} {tb mt : Nat → Int32}
/-- one number of a line, in the class -/
theorem cl_step {l i j : Nat} (hl : l < 8) (hi : i < 5) (hsl : i < skLen.getD j 0) (hs7 : skLen.getD j 0 ≤ 7) {known W kind : Int32} (hk : sbyt j (nI i) = kind) {f p s e : Nat} {st v : Int32} {R : Nat → Int32} (ht : F_X5_takeToken (nI L) (nI p) tb = (nI s, nI e)) (hv : F_X5_numberTaken (nI L) (nI s) (nI e) tb = v) :
    F_X5_takeLine_50 (nI L) tb (nI l) known W j (f + 1) (nI i) st (nI p) R = if v < (if kind = 72 then R (6 * l + i) else 0) then (0, nI s, nI e, R) else if v ≤ F_X5_mostOf kind then (if W = 4 then (if kind = 75 then (if ((known >>> (v &&& 31)) &&& 1) = 0 then (0, nI s, nI e, R) else F_X5_takeLine_50 (nI L) tb (nI l) known W j f (nI (i + 1)) (nI s) (nI e) (upd R (6 * l + (i + 1)) v)) else F_X5_takeLine_50 (nI L) tb (nI l) known W j f (nI (i + 1)) (nI s) (nI e) (upd R (6 * l + (i + 1)) v)) else F_X5_takeLine_50 (nI L) tb (nI l) known W j f (nI (i + 1)) (nI s) (nI e) (upd R (6 * l + (i + 1)) v)) else (0, nI s, nI e, R) := by
  have es : slen j = nI (skLen.getD j 0) := rfl
  rw [F_X5_takeLine_50.eq_2, es, if_neg (fun hq => by have := (iN_le (by omega) (by omega)).mp hq; omega), if_neg (show ¬ (5 : Int32) ≤ nI i from fun hq => by have := (iN_le (a := 5) (b := i) (by decide) (by omega)).mp hq; omega), hk]
  unfold F_X5_takeLine_75 F_X5_takeLine_c76 F_X5_takeLine_85 F_X5_takeLine_105 F_X5_takeLine_150
  rw [ht]
  dsimp only
  rw [hv, ixl hl (by omega), ixl1 hl hi, nI_suc (by omega)]
  by_cases c : kind = 72
  · rw [if_pos c, if_pos c]
  · rw [if_neg c, if_neg c]
theorem cl_end {l i j : Nat} {known W : Int32} {f : Nat} {st en : Int32} {R : Nat → Int32} (hi : i < 100) (hs7 : skLen.getD j 0 ≤ 7) (hsl : skLen.getD j 0 ≤ i ∨ 5 ≤ i) : F_X5_takeLine_50 (nI L) tb (nI l) known W j (f + 1) (nI i) st en R = (1, st, en, R) := by
  have es : slen j = nI (skLen.getD j 0) := rfl
  rw [F_X5_takeLine_50.eq_2, es]
  by_cases c : skLen.getD j 0 ≤ i
  · rw [if_pos ((iN_le (by omega) (by omega)).mpr c)]
  · rw [if_neg (fun hq => c ((iN_le (by omega) (by omega)).mp hq)), if_pos (show (5 : Int32) ≤ nI i from (iN_le (a := 5) (b := i) (by decide) (by omega)).mpr (by omega))]
theorem sI_nn (h : TT L tb mt) {s : Nat} (hs : s ≤ L) : 0 ≤ (nI s).toInt := by rw [nI_toInt (by have := h.1; omega)]; omega
theorem one0 : ¬ (1 : Int32) = 0 := by decide
/-- one number in both, where no bit is asked -/
theorem both (h : TT L tb mt) {l i j : Nat} (hl : l < 8) (hi : i < 5) (hsl : i < skLen.getD j 0) (hs7 : skLen.getD j 0 ≤ 7) {known W kind least most : Int32} (hk : sbyt j (nI i) = kind) (hm : F_X5_mostOf kind = most) {R : Nat → Int32} (hle : (if kind = 72 then R (6 * l + i) else 0) = least) (h0 : 0 ≤ least.toInt) (hW : ¬ W = 4 ∨ ¬ kind = 75) {f p : Nat} (hp : p ≤ L) (st fa wh : Int32) (Q : Nat → Int32) :
    (∃ s e q t d n, s ≤ L ∧ F_X5_takeLine_50 (nI L) tb (nI l) known W j (f + 1) (nI i) st (nI p) R = (0, nI s, nI e, R) ∧ F_X7_isNumber (nI L) mt (nI p) fa Q wh least most = (0, q, nI s, t, d, n, nI s, Q)) ∨ (∃ s e v t d, e ≤ L ∧ F_X5_takeLine_50 (nI L) tb (nI l) known W j (f + 1) (nI i) st (nI p) R = F_X5_takeLine_50 (nI L) tb (nI l) known W j f (nI (i + 1)) (nI s) (nI e) (upd R (6 * l + (i + 1)) v) ∧ F_X7_isNumber (nI L) mt (nI p) fa Q wh least most = (1, nI e, nI s, t, d, v, fa, upd Q wh.toNatClampNeg v) ∧ least.toInt ≤ v.toInt ∧ v.toInt ≤ most.toInt ∧ 0 ≤ v.toInt) := by
  obtain ⟨s, e, v, a1, a2, a3, a4, a5⟩ := num_step h hp fa Q wh least most h0
  rw [cl_step hl hi hsl hs7 hk a3 a4, hle, hm]
  rcases a5 with ⟨b1, q, t, d, n, b2⟩ | ⟨b1, b2, b3, t, d, b4⟩
  · left
    refine ⟨s, e, q, t, d, n, by omega, ?_, b2⟩
    rcases b1 with b1 | b1
    · rw [if_pos b1]
    · by_cases c : v < least
      · rw [if_pos c]
      · rw [if_neg c, if_neg b1]
  · right
    refine ⟨s, e, v, t, d, a2, ?_, b4, ti_nlt b1, ti_le.mp b2, b3⟩
    rw [if_neg b1, if_pos b2]
    by_cases c : W = 4
    · rw [if_pos c]
      rcases hW with hW | hW
      · exact absurd c hW
      · rw [if_neg hW]
    · rw [if_neg c]
theorem z0rng : (0 : Int) ≤ (0 : Int32).toInt := by decide
theorem ln_going (h : TT L tb mt) {l : Nat} (hl : l < 8) {known W : Int32} (k0 : 0 ≤ known.toInt) (k1 : known.toInt ≤ 255) (hW : W = 0 ∨ W = 1) {R Q R0 Q0 : Nat → Int32} (hR : R (6 * l) = W) (hQ : Q (6 * l) = W) (hRR : ∀ i, (i < 6 * l ∨ 6 * l + 6 ≤ i) → R i = R0 i ∧ Q i = Q0 i) (hrd : RdR Q) {p : Nat} (hp : p ≤ L) (st fa : Int32) :
    LN L l R0 Q0 known (F_X5_takeLine_50 (nI L) tb (nI l) known W 6 6 (nI 0) st (nI p) R) (F_X7_isGoing (nI L) mt (nI p) fa known Q (nI (6 * l))) := by
  have hW4 : ¬ W = 4 := by rcases hW with rfl | rfl <;> decide
  have hs : skLen.getD 6 0 = 5 := rfl
  have z7 : (7 : Int32).toInt = 7 := rfl
  have z4319 : (4319 : Int32).toInt = 4319 := rfl
  have z719 : (719 : Int32).toInt = 719 := rfl
  have z240 : (240 : Int32).toInt = 240 := rfl
  have z0 : (0 : Int32).toInt = 0 := rfl
  unfold F_X7_isGoing
  rcases both h hl (i := 0) (j := 6) (by decide) (by decide) (by decide) (known := known) (W := W) (kind := 75) (least := 0) (most := 7) rfl (by decide) (R := R) (by rw [if_neg (by decide)]) z0rng (Or.inl hW4) (f := 5) hp st fa (nI (6 * l) + 1) Q with ⟨s, e, q, t, d, n, b0, e1, e2⟩ | ⟨s1, p1, v1, t, d, b1, e1, e2, r1, r1', r1''⟩
  · rw [e1, e2]
    exact ⟨hrd, Or.inl ⟨rfl, rfl, rfl, sI_nn h b0⟩⟩
  rw [e1, e2, ixw1 hl]
  unfold F_X7_isGoing_c7
  rw [if_neg one0]
  dsimp only
  have hrd1 : RdR (upd Q (6 * l + 1) v1) := hrd.up (Or.inl (fun i hi => by omega))
  rcases both h hl (i := 1) (j := 6) (by decide) (by decide) (by decide) (known := known) (W := W) (kind := 83) (least := 0) (most := 4319) (by decide) (by decide) (R := upd R (6 * l + (0 + 1)) v1) (by rw [if_neg (by decide)]) z0rng (Or.inl hW4) (f := 4) b1 (nI s1) fa (nI (6 * l) + 2) (upd Q (6 * l + 1) v1) with ⟨s, e, q, t, d, n, b0, e1, e2⟩ | ⟨s2, p2, v2, t, d, b2, e1, e2, r2, r2', r2''⟩
  · rw [e1, e2]
    exact ⟨hrd1, Or.inl ⟨rfl, rfl, rfl, sI_nn h b0⟩⟩
  rw [e1, e2, ixw2 hl]
  unfold F_X7_isGoing_c21
  rw [if_neg one0]
  dsimp only
  have hrd2 : RdR (upd (upd Q (6 * l + 1) v1) (6 * l + 2) v2) := hrd1.up (Or.inr (by omega))
  rcases both h hl (i := 2) (j := 6) (by decide) (by decide) (by decide) (known := known) (W := W) (kind := 65) (least := 0) (most := 719) (by decide) (by decide) (R := upd (upd R (6 * l + (0 + 1)) v1) (6 * l + (1 + 1)) v2) (by rw [if_neg (by decide)]) z0rng (Or.inl hW4) (f := 3) b2 (nI s2) fa (nI (6 * l) + 3) (upd (upd Q (6 * l + 1) v1) (6 * l + 2) v2) with ⟨s, e, q, t, d, n, b0, e1, e2⟩ | ⟨s3, p3, v3, t, d, b3, e1, e2, r3, r3', r3''⟩
  · rw [e1, e2]
    exact ⟨hrd2, Or.inl ⟨rfl, rfl, rfl, sI_nn h b0⟩⟩
  rw [e1, e2, ixw3 hl]
  unfold F_X7_isGoing_c35
  rw [if_neg one0]
  dsimp only
  have hrd3 : RdR (upd (upd (upd Q (6 * l + 1) v1) (6 * l + 2) v2) (6 * l + 3) v3) := hrd2.up (Or.inl (fun i hi => by omega))
  rcases both h hl (i := 3) (j := 6) (by decide) (by decide) (by decide) (known := known) (W := W) (kind := 76) (least := 0) (most := 240) (by decide) (by decide) (R := upd (upd (upd R (6 * l + (0 + 1)) v1) (6 * l + (1 + 1)) v2) (6 * l + (2 + 1)) v3) (by rw [if_neg (by decide)]) z0rng (Or.inl hW4) (f := 2) b3 (nI s3) fa (nI (6 * l) + 4) (upd (upd (upd Q (6 * l + 1) v1) (6 * l + 2) v2) (6 * l + 3) v3) with ⟨s, e, q, t, d, n, b0, e1, e2⟩ | ⟨s4, p4, v4, t, d, b4, e1, e2, r4, r4', r4''⟩
  · rw [e1, e2]
    exact ⟨hrd3, Or.inl ⟨rfl, rfl, rfl, sI_nn h b0⟩⟩
  rw [e1, e2, ixw4 hl]
  unfold F_X7_isGoing_c49
  rw [if_neg one0]
  dsimp only
  have hrd4 : RdR (upd (upd (upd (upd Q (6 * l + 1) v1) (6 * l + 2) v2) (6 * l + 3) v3) (6 * l + 4) v4) := hrd3.up (Or.inl (fun i hi => by omega))
  rw [ixw4 hl, upd_at]
  rcases both h hl (i := 4) (j := 6) (by decide) (by decide) (by decide) (known := known) (W := W) (kind := 72) (least := v4) (most := 240) (by decide) (by decide) (R := upd (upd (upd (upd R (6 * l + (0 + 1)) v1) (6 * l + (1 + 1)) v2) (6 * l + (2 + 1)) v3) (6 * l + (3 + 1)) v4) (by rw [if_pos rfl]; exact upd_at) r4'' (Or.inl hW4) (f := 1) b4 (nI s4) fa (nI (6 * l) + 5) (upd (upd (upd (upd Q (6 * l + 1) v1) (6 * l + 2) v2) (6 * l + 3) v3) (6 * l + 4) v4) with ⟨s, e, q, t, d, n, b0, e1, e2⟩ | ⟨s5, p5, v5, t, d, b5, e1, e2, r5, r5', r5''⟩
  · rw [e1, e2]
    exact ⟨hrd4, Or.inl ⟨rfl, rfl, rfl, sI_nn h b0⟩⟩
  rw [e1, e2, ixw5 hl, cl_end (i := 4 + 1) (by decide) (by decide) (Or.inr (by decide))]
  unfold F_X7_isGoing_c70
  rw [if_neg one0]
  unfold F_X7_isGoing_81
  rw [if_neg one0]
  dsimp only
  rw [ixw1 hl]
  have hrd5 : RdR (upd (upd (upd (upd (upd Q (6 * l + 1) v1) (6 * l + 2) v2) (6 * l + 3) v3) (6 * l + 4) v4) (6 * l + 5) v5) := hrd4.up (Or.inl (fun i hi => by omega))
  have rd : ∀ (Z : Nat → Int32), (upd (upd (upd (upd (upd Z (6 * l + 1) v1) (6 * l + 2) v2) (6 * l + 3) v3) (6 * l + 4) v4) (6 * l + 5) v5) (6 * l) = Z (6 * l) ∧ (upd (upd (upd (upd (upd Z (6 * l + 1) v1) (6 * l + 2) v2) (6 * l + 3) v3) (6 * l + 4) v4) (6 * l + 5) v5) (6 * l + 1) = v1 ∧ (upd (upd (upd (upd (upd Z (6 * l + 1) v1) (6 * l + 2) v2) (6 * l + 3) v3) (6 * l + 4) v4) (6 * l + 5) v5) (6 * l + 2) = v2 ∧ (upd (upd (upd (upd (upd Z (6 * l + 1) v1) (6 * l + 2) v2) (6 * l + 3) v3) (6 * l + 4) v4) (6 * l + 5) v5) (6 * l + 3) = v3 ∧ (upd (upd (upd (upd (upd Z (6 * l + 1) v1) (6 * l + 2) v2) (6 * l + 3) v3) (6 * l + 4) v4) (6 * l + 5) v5) (6 * l + 4) = v4 ∧ (upd (upd (upd (upd (upd Z (6 * l + 1) v1) (6 * l + 2) v2) (6 * l + 3) v3) (6 * l + 4) v4) (6 * l + 5) v5) (6 * l + 5) = v5 ∧ ∀ i, (i < 6 * l ∨ 6 * l + 6 ≤ i) → (upd (upd (upd (upd (upd Z (6 * l + 1) v1) (6 * l + 2) v2) (6 * l + 3) v3) (6 * l + 4) v4) (6 * l + 5) v5) i = Z i := fun Z => by
    refine ⟨?_, ?_, ?_, ?_, ?_, ?_, fun i hi => ?_⟩
    · rw [upd_ne (by omega), upd_ne (by omega), upd_ne (by omega), upd_ne (by omega), upd_ne (by omega)]
    · rw [upd_ne (by omega), upd_ne (by omega), upd_ne (by omega), upd_ne (by omega), upd_at]
    · rw [upd_ne (by omega), upd_ne (by omega), upd_ne (by omega), upd_at]
    · rw [upd_ne (by omega), upd_ne (by omega), upd_at]
    · rw [upd_ne (by omega), upd_at]
    · rw [upd_at]
    · rw [upd_ne (by omega), upd_ne (by omega), upd_ne (by omega), upd_ne (by omega), upd_ne (by omega)]
  obtain ⟨x0, x1, x2, x3, x4, x5, x6⟩ := rd R
  obtain ⟨y0, y1, y2, y3, y4, y5, y6⟩ := rd Q
  have hk : nI v1.toInt.toNat = v1 := iN_of r1''
  have hb : (1 : Int32) <<< (v1 &&& 31) = bk v1.toInt.toNat := by unfold bk; rw [hk]
  have hset := set_rng (k := v1.toInt.toNat) k0 k1 (by omega)
  rw [← hb] at hset
  refine ⟨hrd5, Or.inr ⟨rfl, rfl, ⟨p5, b5, rfl, rfl⟩, fun hq => absurd (hR.symm.trans (x0.symm.trans hq)) hW4, ?_, fun i hi => ?_, ?_, ?_⟩⟩
  · show LR (upd (upd (upd (upd (upd R (6 * l + 1) v1) (6 * l + 2) v2) (6 * l + 3) v3) (6 * l + 4) v4) (6 * l + 5) v5) (upd (upd (upd (upd (upd Q (6 * l + 1) v1) (6 * l + 2) v2) (6 * l + 3) v3) (6 * l + 4) v4) (6 * l + 5) v5) l
    unfold LR
    rw [x0, x1, x2, x3, x4, x5, y0, y1, y2, y3, y4, y5, hR, hQ]
    exact ⟨rfl, Or.inr ⟨rfl, by omega, Or.inl ⟨hW, rfl, rfl, rfl, rfl, by omega, by omega, by omega, by omega⟩⟩⟩
  · show (upd (upd (upd (upd (upd R (6 * l + 1) v1) (6 * l + 2) v2) (6 * l + 3) v3) (6 * l + 4) v4) (6 * l + 5) v5) i = _ ∧ (upd (upd (upd (upd (upd Q (6 * l + 1) v1) (6 * l + 2) v2) (6 * l + 3) v3) (6 * l + 4) v4) (6 * l + 5) v5) i = _
    rw [x6 i hi, y6 i hi]; exact hRR i hi
  · show known ||| (1 <<< ((upd (upd (upd (upd (upd Q (6 * l + 1) v1) (6 * l + 2) v2) (6 * l + 3) v3) (6 * l + 4) v4) (6 * l + 5) v5) (6 * l + 1) &&& 31)) = F_X5_knownBehind (upd (upd (upd (upd (upd R (6 * l + 1) v1) (6 * l + 2) v2) (6 * l + 3) v3) (6 * l + 4) v4) (6 * l + 5) v5) (nI l) known
    rw [kb_set hl (by rw [x0, hR]; rcases hW with hW | hW
                      · exact Or.inl hW
                      · exact Or.inr (Or.inl hW)), x1, y1]
  · show 0 ≤ (known ||| (1 <<< ((upd (upd (upd (upd (upd Q (6 * l + 1) v1) (6 * l + 2) v2) (6 * l + 3) v3) (6 * l + 4) v4) (6 * l + 5) v5) (6 * l + 1) &&& 31))).toInt ∧ (known ||| (1 <<< ((upd (upd (upd (upd (upd Q (6 * l + 1) v1) (6 * l + 2) v2) (6 * l + 3) v3) (6 * l + 4) v4) (6 * l + 5) v5) (6 * l + 1) &&& 31))).toInt ≤ 255
    rw [y1]; exact hset.1
end TOK
