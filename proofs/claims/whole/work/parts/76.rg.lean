/-! lines and texts, in both -/
section TOK
variable {L : Nat} {tb mt : Nat → Int32}
theorem sk7 : skLen.getD 7 0 = 2 := rfl
theorem sk8 : skLen.getD 8 0 = 1 := rfl
theorem sk9 : skLen.getD 9 0 = 2 := rfl
theorem sk10 : skLen.getD 10 0 = 0 := rfl
theorem bit_of {v : Int32} (r0 : 0 ≤ v.toInt) : (1 : Int32) <<< (v &&& 31) = bk v.toInt.toNat := by unfold bk; rw [iN_of r0]
theorem ln_stopped (h : TT L tb mt) {l : Nat} (hl : l < 8) {known : Int32} (k0 : 0 ≤ known.toInt) (k1 : known.toInt ≤ 255) {R Q R0 Q0 : Nat → Int32} (hR : R (6 * l) = 2) (hQ : Q (6 * l) = 2) (hRR : ∀ i, (i < 6 * l ∨ 6 * l + 6 ≤ i) → R i = R0 i ∧ Q i = Q0 i) (hrd : RdR Q) {p : Nat} (hp : p ≤ L) (st fa : Int32) :
    LN L l R0 Q0 known (F_X5_takeLine_50 (nI L) tb (nI l) known 2 7 6 (nI 0) st (nI p) R) (F_X7_isStopped (nI L) mt (nI p) fa known Q (nI (6 * l))) := by
  have hW4 : ¬ (2 : Int32) = 4 := by decide
  have z7 : (7 : Int32).toInt = 7 := rfl
  have z719 : (719 : Int32).toInt = 719 := rfl
  have z0 : (0 : Int32).toInt = 0 := rfl
  unfold F_X7_isStopped
  rcases both h hl (i := 0) (j := 7) (by decide) (by decide) (by decide) (known := known) (W := 2) (kind := 75) (least := 0) (most := 7) rfl (by decide) (R := R) (by rw [if_neg (by decide)]) z0rng (Or.inl hW4) (f := 5) hp st fa (nI (6 * l) + 1) Q with ⟨s, e, q, t, d, n, b0, e1, e2⟩ | ⟨s1, p1, v1, t, d, b1, e1, e2, r1, r1', r1''⟩
  · rw [e1, e2]
    exact ⟨hrd, Or.inl ⟨rfl, rfl, rfl, sI_nn h b0⟩⟩
  rw [e1, e2, ixw1 hl]
  unfold F_X7_isStopped_c7
  rw [if_neg one0]
  dsimp only
  have hrd1 : RdR (upd Q (6 * l + 1) v1) := hrd.up (Or.inl (fun i hi => by omega))
  rcases both h hl (i := 1) (j := 7) (by decide) (by decide) (by decide) (known := known) (W := 2) (kind := 65) (least := 0) (most := 719) (by decide) (by decide) (R := upd R (6 * l + (0 + 1)) v1) (by rw [if_neg (by decide)]) z0rng (Or.inl hW4) (f := 4) b1 (nI s1) fa (nI (6 * l) + 3) (upd Q (6 * l + 1) v1) with ⟨s, e, q, t, d, n, b0, e1, e2⟩ | ⟨s2, p2, v2, t, d, b2, e1, e2, r2, r2', r2''⟩
  · rw [e1, e2]
    exact ⟨hrd1, Or.inl ⟨rfl, rfl, rfl, sI_nn h b0⟩⟩
  rw [e1, e2, ixw3 hl, cl_end (i := 1 + 1) (by decide) (by decide) (Or.inl (by decide))]
  unfold F_X7_isStopped_c21
  rw [if_neg one0]
  unfold F_X7_isStopped_32
  rw [if_neg one0]
  dsimp only
  rw [ixw1 hl]
  have hrd2 : RdR (upd (upd Q (6 * l + 1) v1) (6 * l + 3) v2) := hrd1.up (Or.inl (fun i hi => by omega))
  have x0 : (upd (upd R (6 * l + 1) v1) (6 * l + 2) v2) (6 * l) = R (6 * l) := by rw [upd_ne (by omega), upd_ne (by omega)]
  have x1 : (upd (upd R (6 * l + 1) v1) (6 * l + 2) v2) (6 * l + 1) = v1 := by rw [upd_ne (by omega), upd_at]
  have x2 : (upd (upd R (6 * l + 1) v1) (6 * l + 2) v2) (6 * l + 2) = v2 := by rw [upd_at]
  have y0 : (upd (upd Q (6 * l + 1) v1) (6 * l + 3) v2) (6 * l) = Q (6 * l) := by rw [upd_ne (by omega), upd_ne (by omega)]
  have y1 : (upd (upd Q (6 * l + 1) v1) (6 * l + 3) v2) (6 * l + 1) = v1 := by rw [upd_ne (by omega), upd_at]
  have y3 : (upd (upd Q (6 * l + 1) v1) (6 * l + 3) v2) (6 * l + 3) = v2 := by rw [upd_at]
  have hset := set_rng (k := v1.toInt.toNat) k0 k1 (by omega)
  rw [← bit_of r1''] at hset
  refine ⟨hrd2, Or.inr ⟨rfl, rfl, ⟨p2, b2, rfl, rfl⟩, fun hq => absurd (hR.symm.trans (x0.symm.trans hq)) hW4, ?_, fun i hi => ?_, ?_, ?_⟩⟩
  · show LR (upd (upd R (6 * l + 1) v1) (6 * l + 2) v2) (upd (upd Q (6 * l + 1) v1) (6 * l + 3) v2) l
    unfold LR
    rw [x0, x1, x2, y0, y1, y3, hR, hQ]
    exact ⟨rfl, Or.inr ⟨rfl, by omega, Or.inr (Or.inl ⟨rfl, rfl, by omega, by omega⟩)⟩⟩
  · show (upd (upd R (6 * l + 1) v1) (6 * l + 2) v2) i = _ ∧ (upd (upd Q (6 * l + 1) v1) (6 * l + 3) v2) i = _
    rw [upd_ne (by omega), upd_ne (by omega), upd_ne (by omega), upd_ne (by omega)]; exact hRR i hi
  · show known ||| (1 <<< ((upd (upd Q (6 * l + 1) v1) (6 * l + 3) v2) (6 * l + 1) &&& 31)) = F_X5_knownBehind (upd (upd R (6 * l + 1) v1) (6 * l + 2) v2) (nI l) known
    rw [kb_set hl (Or.inr (Or.inr (x0.trans hR))), x1, y1]
  · show 0 ≤ (known ||| (1 <<< ((upd (upd Q (6 * l + 1) v1) (6 * l + 3) v2) (6 * l + 1) &&& 31))).toInt ∧ (known ||| (1 <<< ((upd (upd Q (6 * l + 1) v1) (6 * l + 3) v2) (6 * l + 1) &&& 31))).toInt ≤ 255
    rw [y1]; exact hset.1
theorem ln_gone (h : TT L tb mt) {l : Nat} (hl : l < 8) {known : Int32} (k0 : 0 ≤ known.toInt) (k1 : known.toInt ≤ 255) {R Q R0 Q0 : Nat → Int32} (hR : R (6 * l) = 3) (hQ : Q (6 * l) = 3) (hRR : ∀ i, (i < 6 * l ∨ 6 * l + 6 ≤ i) → R i = R0 i ∧ Q i = Q0 i) (hrd : RdR Q) {p : Nat} (hp : p ≤ L) (st fa : Int32) :
    LN L l R0 Q0 known (F_X5_takeLine_50 (nI L) tb (nI l) known 3 8 6 (nI 0) st (nI p) R) (F_X7_isGone (nI L) mt (nI p) fa known Q (nI (6 * l))) := by
  have hW4 : ¬ (3 : Int32) = 4 := by decide
  have z7 : (7 : Int32).toInt = 7 := rfl
  have z0 : (0 : Int32).toInt = 0 := rfl
  unfold F_X7_isGone
  rcases both h hl (i := 0) (j := 8) (by decide) (by decide) (by decide) (known := known) (W := 3) (kind := 75) (least := 0) (most := 7) rfl (by decide) (R := R) (by rw [if_neg (by decide)]) z0rng (Or.inl hW4) (f := 5) hp st fa (nI (6 * l) + 1) Q with ⟨s, e, q, t, d, n, b0, e1, e2⟩ | ⟨s1, p1, v1, t, d, b1, e1, e2, r1, r1', r1''⟩
  · rw [e1, e2]
    exact ⟨hrd, Or.inl ⟨rfl, rfl, rfl, sI_nn h b0⟩⟩
  rw [e1, e2, ixw1 hl, cl_end (i := 0 + 1) (by decide) (by decide) (Or.inl (by decide))]
  unfold F_X7_isGone_c7
  rw [if_neg one0]
  dsimp only
  rw [ixw1 hl]
  have hrd1 : RdR (upd Q (6 * l + 1) v1) := hrd.up (Or.inl (fun i hi => by omega))
  have x0 : (upd R (6 * l + 1) v1) (6 * l) = R (6 * l) := by rw [upd_ne (by omega)]
  have x1 : (upd R (6 * l + 1) v1) (6 * l + 1) = v1 := by rw [upd_at]
  have y0 : (upd Q (6 * l + 1) v1) (6 * l) = Q (6 * l) := by rw [upd_ne (by omega)]
  have y1 : (upd Q (6 * l + 1) v1) (6 * l + 1) = v1 := by rw [upd_at]
  have hset := set_rng (k := v1.toInt.toNat) k0 k1 (by omega)
  rw [← bit_of r1''] at hset
  refine ⟨hrd1, Or.inr ⟨rfl, rfl, ⟨p1, b1, rfl, rfl⟩, fun hq => absurd (hR.symm.trans (x0.symm.trans hq)) hW4, ?_, fun i hi => ?_, ?_, ?_⟩⟩
  · show LR (upd R (6 * l + 1) v1) (upd Q (6 * l + 1) v1) l
    unfold LR
    rw [x0, x1, y0, y1, hR, hQ]
    exact ⟨rfl, Or.inr ⟨rfl, by omega, Or.inr (Or.inr (Or.inl rfl))⟩⟩
  · show (upd R (6 * l + 1) v1) i = _ ∧ (upd Q (6 * l + 1) v1) i = _
    rw [upd_ne (by omega), upd_ne (by omega)]; exact hRR i hi
  · show known &&& ((1 <<< ((upd Q (6 * l + 1) v1) (6 * l + 1) &&& 31)) ^^^ (-1)) = F_X5_knownBehind (upd R (6 * l + 1) v1) (nI l) known
    rw [kb_clr hl (x0.trans hR), x1, y1]
  · show 0 ≤ (known &&& ((1 <<< ((upd Q (6 * l + 1) v1) (6 * l + 1) &&& 31)) ^^^ (-1))).toInt ∧ (known &&& ((1 <<< ((upd Q (6 * l + 1) v1) (6 * l + 1) &&& 31)) ^^^ (-1))).toInt ≤ 255
    rw [y1]; exact hset.2
theorem ln_now (h : TT L tb mt) {l : Nat} (hl : l < 8) {known : Int32} (k0 : 0 ≤ known.toInt) (k1 : known.toInt ≤ 255) {R Q R0 Q0 : Nat → Int32} (hR : R (6 * l) = 4) (hQ : Q (6 * l) = 4) (hRR : ∀ i, (i < 6 * l ∨ 6 * l + 6 ≤ i) → R i = R0 i ∧ Q i = Q0 i) (hrd : RdR Q) {p : Nat} (hp : p ≤ L) (st fa : Int32) :
    LN L l R0 Q0 known (F_X5_takeLine_50 (nI L) tb (nI l) known 4 9 6 (nI 0) st (nI p) R) (F_X7_isLine_c164 known (F_X7_isNow (nI L) mt (nI p) fa known Q (nI (6 * l)))) := by
  have z7 : (7 : Int32).toInt = 7 := rfl
  have z719 : (719 : Int32).toInt = 719 := rfl
  have z0 : (0 : Int32).toInt = 0 := rfl
  have m7 : F_X5_mostOf 75 = 7 := by decide
  have hrd1 : ∀ v, RdR (upd Q (6 * l + 1) v) := fun v => hrd.up (Or.inl (fun i hi => by omega))
  obtain ⟨s1, p1, v1, a1, a2, a3, a4, a5⟩ := num_step h hp fa Q (nI (6 * l) + 1) 0 7 z0rng
  rw [cl_step hl (i := 0) (j := 9) (by decide) (by decide) (by decide) (kind := 75) rfl a3 a4, m7, if_neg (show ¬ (75 : Int32) = 72 by decide), if_pos rfl, if_pos rfl]
  unfold F_X7_isNow
  rcases a5 with ⟨b1, q, t, d, n, b2⟩ | ⟨b1, b2, b3, t, d, b4⟩
  · rw [b2]
    have e1 : (if v1 < 0 then (0, nI s1, nI p1, R) else if v1 ≤ 7 then if ((known >>> (v1 &&& 31)) &&& 1) = 0 then (0, nI s1, nI p1, R) else F_X5_takeLine_50 (nI L) tb (nI l) known 4 9 5 (nI (0 + 1)) (nI s1) (nI p1) (upd R (6 * l + (0 + 1)) v1) else (0, nI s1, nI p1, R)) = (0, nI s1, nI p1, R) := by
      rcases b1 with b1 | b1
      · rw [if_pos b1]
      · by_cases c : v1 < 0
        · rw [if_pos c]
        · rw [if_neg c, if_neg b1]
    rw [e1]
    exact ⟨hrd, Or.inl ⟨rfl, rfl, rfl, sI_nn h (by omega)⟩⟩
  · rw [b4, if_neg b1, if_pos b2, ixw1 hl]
    unfold F_X7_isNow_c7
    rw [if_neg one0]
    dsimp only
    have q1 : F_X7_has known (upd Q (6 * l + 1) v1 (nI (6 * l) + 1).toNatClampNeg) = F_X7_has known v1 := by rw [ixw1 hl, upd_at]
    have r1' := ti_le.mp b2
    have hbit := bit_has ⟨known.toInt.toNat, by omega⟩ ⟨v1.toInt.toNat, by omega⟩
    have hbit : ((nI known.toInt.toNat >>> (nI v1.toInt.toNat &&& 31)) &&& 1) = 0 ↔ F_X7_has (nI known.toInt.toNat) (nI v1.toInt.toNat) = 0 := hbit
    rw [iN_of k0, iN_of b3] at hbit
    by_cases c : F_X7_has known v1 = 0
    · rw [if_pos (q1.trans c), if_pos (hbit.mpr c)]
      exact ⟨hrd1 v1, Or.inl ⟨rfl, rfl, rfl, sI_nn h (by omega)⟩⟩
    · rw [if_neg (fun hq => c (q1.symm.trans hq)), if_neg (fun hq => c (hbit.mp hq))]
      unfold F_X7_isNow_c41
      rcases both h hl (i := 1) (j := 9) (by decide) (by decide) (by decide) (known := known) (W := 4) (kind := 77) (least := 0) (most := 719) (by decide) (by decide) (R := upd R (6 * l + (0 + 1)) v1) (by rw [if_neg (by decide)]) z0rng (Or.inr (by decide)) (f := 4) a2 (nI s1) fa (nI (6 * l) + 2) (upd Q (6 * l + 1) v1) with ⟨s, e, q, t, d, n, b0, e1, e2⟩ | ⟨s2, p2, v2, t, d, b2, e1, e2, r2, r2', r2''⟩
      · rw [e1, e2]
        exact ⟨hrd1 v1, Or.inl ⟨rfl, rfl, rfl, sI_nn h b0⟩⟩
      rw [e1, e2, ixw2 hl, cl_end (i := 1 + 1) (by decide) (by decide) (Or.inl (by decide))]
      have hrd2 : RdR (upd (upd Q (6 * l + 1) v1) (6 * l + 2) v2) := (hrd1 v1).up (Or.inr (by omega))
      have rd : ∀ Z : Nat → Int32, (upd (upd Z (6 * l + 1) v1) (6 * l + 2) v2) (6 * l) = Z (6 * l) ∧ (upd (upd Z (6 * l + 1) v1) (6 * l + 2) v2) (6 * l + 1) = v1 ∧ (upd (upd Z (6 * l + 1) v1) (6 * l + 2) v2) (6 * l + 2) = v2 ∧ ∀ i, (i < 6 * l ∨ 6 * l + 6 ≤ i) → (upd (upd Z (6 * l + 1) v1) (6 * l + 2) v2) i = Z i := fun Z => by
        refine ⟨?_, ?_, ?_, fun i hi => ?_⟩
        · rw [upd_ne (by omega), upd_ne (by omega)]
        · rw [upd_ne (by omega), upd_at]
        · rw [upd_at]
        · rw [upd_ne (by omega), upd_ne (by omega)]
      obtain ⟨x0, x1, x2, x3⟩ := rd R
      obtain ⟨y0, y1, y2, y3⟩ := rd Q
      refine ⟨hrd2, Or.inr ⟨rfl, rfl, ⟨p2, b2, rfl, rfl⟩, fun _ hq => c ((congrArg (F_X7_has known) x1).symm.trans hq), ?_, fun i hi => ?_, ?_, k0, k1⟩⟩
      · show LR (upd (upd R (6 * l + 1) v1) (6 * l + 2) v2) (upd (upd Q (6 * l + 1) v1) (6 * l + 2) v2) l
        unfold LR
        rw [x0, x1, x2, y0, y1, y2, hR, hQ]
        exact ⟨rfl, Or.inr ⟨rfl, by omega, Or.inr (Or.inr (Or.inr ⟨rfl, rfl, by omega, by omega⟩))⟩⟩
      · show (upd (upd R (6 * l + 1) v1) (6 * l + 2) v2) i = _ ∧ (upd (upd Q (6 * l + 1) v1) (6 * l + 2) v2) i = _
        rw [x3 i hi, y3 i hi]; exact hRR i hi
      · show known = F_X5_knownBehind (upd (upd R (6 * l + 1) v1) (6 * l + 2) v2) (nI l) known
        rw [kb_same hl (Or.inl (x0.trans hR))]
/-- a line, in both -/
theorem wv_val (t : Int64) : wv t = 0 ∨ wv t = 1 ∨ wv t = 2 ∨ wv t = 3 ∨ wv t = 4 ∨ wv t = 5 ∨ wv t = -1 := by
  unfold wv
  by_cases c0 : lg_cmp t 4022278 = 0
  · rw [if_pos c0]; exact Or.inl rfl
  rw [if_neg c0]
  by_cases c1 : lg_cmp t 40187 = 0
  · rw [if_pos c1]; exact Or.inr (Or.inl rfl)
  rw [if_neg c1]
  by_cases c2 : lg_cmp t 7656265777 = 0
  · rw [if_pos c2]; exact Or.inr (Or.inr (Or.inl rfl))
  rw [if_neg c2]
  by_cases c3 : lg_cmp t 149099 = 0
  · rw [if_pos c3]; exact Or.inr (Or.inr (Or.inr (Or.inl rfl)))
  rw [if_neg c3]
  by_cases c4 : lg_cmp t 10634 = 0
  · rw [if_pos c4]; exact Or.inr (Or.inr (Or.inr (Or.inr (Or.inl rfl))))
  rw [if_neg c4]
  by_cases c5 : lg_cmp t 309125191 = 0
  · rw [if_pos c5]; exact Or.inr (Or.inr (Or.inr (Or.inr (Or.inr (Or.inl rfl)))))
  · rw [if_neg c5]; exact Or.inr (Or.inr (Or.inr (Or.inr (Or.inr (Or.inr rfl)))))
theorem isl_wv (m_bytes : Int32) (m_text : Nat → Int32) (fa told : Int32) (Q : Nat → Int32) (x1 : Int32) (r : Int32 × Int32 × Int64 × Int32 × Int32) : F_X7_isLine_c1 m_bytes m_text fa told Q x1 r = F_X7_isLine_100 m_bytes m_text fa told Q x1 r (wv r.2.2.1) := by
  unfold F_X7_isLine_c1 wv
  by_cases c0 : lg_cmp r.2.2.1 4022278 = 0
  · rw [if_pos c0, if_pos c0]
  rw [if_neg c0, if_neg c0]
  by_cases c1 : lg_cmp r.2.2.1 40187 = 0
  · rw [if_pos c1, if_pos c1]
  rw [if_neg c1, if_neg c1]
  by_cases c2 : lg_cmp r.2.2.1 7656265777 = 0
  · rw [if_pos c2, if_pos c2]
  rw [if_neg c2, if_neg c2]
  by_cases c3 : lg_cmp r.2.2.1 149099 = 0
  · rw [if_pos c3, if_pos c3]
  rw [if_neg c3, if_neg c3]
  by_cases c4 : lg_cmp r.2.2.1 10634 = 0
  · rw [if_pos c4, if_pos c4]
  rw [if_neg c4, if_neg c4]
  by_cases c5 : lg_cmp r.2.2.1 309125191 = 0
  · rw [if_pos c5, if_pos c5]
  · rw [if_neg c5, if_neg c5]
theorem w146 (r : T9) : F_X7_isLine_c146 r = r := rfl
theorem w146b (r : T9) : F_X7_isLine_c146_4 r = r := rfl
theorem w152 (r : T9) : F_X7_isLine_c152 r = r := rfl
theorem w158 (r : T9) : F_X7_isLine_c158 r = r := rfl
theorem nof0 : F_X5_numbersOf 0 = 6 := by decide
theorem nof1 : F_X5_numbersOf 1 = 6 := by decide
theorem nof2 : F_X5_numbersOf 2 = 7 := by decide
theorem nof3 : F_X5_numbersOf 3 = 8 := by decide
theorem nof4 : F_X5_numbersOf 4 = 9 := by decide
theorem nof5 : F_X5_numbersOf 5 = 10 := by decide
theorem t47 {l : Nat} (hl : l < 8) (R : Nat → Int32) (known w : Int32) (s e : Int32) (j : Nat) : F_X5_takeLine_47 (nI L) tb R (nI l) known (s, e) w j = F_X5_takeLine_50 (nI L) tb (nI l) known w j 6 (nI 0) s e (upd R (6 * l) w) := by
  unfold F_X5_takeLine_47
  rw [ixl0 hl, ← iz]
theorem line_step (h : TT L tb mt) {l : Nat} (hl : l < 8) {known : Int32} (k0 : 0 ≤ known.toInt) (k1 : known.toInt ≤ 255) {R Q : Nat → Int32} (hrd : RdR Q) {p : Nat} (hp : p ≤ L) (fa : Int32) :
    LN L l R Q known (F_X5_takeLine (nI L) (nI p) tb R (nI l) known) (F_X7_isLine (nI L) mt (nI p) fa known Q (nI (6 * l))) := by
  obtain ⟨s, e, t, d, v, a1, a2, a3, a4, a5, a6, -, -, -⟩ := tok h hp
  have hsn := sI_nn h (s := s) (by omega)
  have eC : F_X5_takeLine (nI L) (nI p) tb R (nI l) known = F_X5_takeLine_15 (nI L) tb R (nI l) known (nI s, nI e) (wv t) := by
    unfold F_X5_takeLine F_X5_takeLine_c6
    rw [a4]
    dsimp only
    rw [a6]
  have eM : F_X7_isLine (nI L) mt (nI p) fa known Q (nI (6 * l)) = F_X7_isLine_100 (nI L) mt fa known Q (nI (6 * l)) (nI e, nI s, t, d, v) (wv t) := by
    unfold F_X7_isLine
    rw [a5, isl_wv]
  rw [eC, eM]
  have hb : ¬ F_X6_isBelow (nI l) 8 = 0 := by
    have e1 := nI_toInt (n := l) (by omega)
    rw [bel_spec, if_pos (by rw [e1]; exact ⟨by omega, by show (l : Int) < 8; omega⟩)]; decide
  have hx : (nI (6 * l)).toNatClampNeg = 6 * l := nI_tn (by omega)
  have hrd0 : ∀ w, RdR (upd Q (6 * l) w) := fun w => hrd.up (Or.inl (fun i hi => by omega))
  have hu : ∀ w i, (i < 6 * l ∨ 6 * l + 6 ≤ i) → (upd R (6 * l) w) i = R i ∧ (upd Q (6 * l) w) i = Q i := fun w i hi => ⟨upd_ne (by omega), upd_ne (by omega)⟩
  unfold F_X5_takeLine_15 F_X7_isLine_100
  rw [hx, show upd Q (6 * l) (wv t) (6 * l) = wv t from upd_at]
  dsimp only
  rw [t47 hl]
  rcases wv_val t with w | w | w | w | w | w | w <;> rw [w]
  · rw [if_neg (by decide), if_neg hb, if_pos rfl, nof0, w146]
    exact ln_going h hl k0 k1 (Or.inl rfl) upd_at upd_at (hu 0) (hrd0 0) a3 (nI s) fa
  · rw [if_neg (by decide), if_neg hb, if_neg (by decide), if_pos rfl, nof1, w146b]
    exact ln_going h hl k0 k1 (Or.inr rfl) upd_at upd_at (hu 1) (hrd0 1) a3 (nI s) fa
  · rw [if_neg (by decide), if_neg hb, if_neg (by decide), if_neg (by decide), if_pos rfl, nof2, w152]
    exact ln_stopped h hl k0 k1 upd_at upd_at (hu 2) (hrd0 2) a3 (nI s) fa
  · rw [if_neg (by decide), if_neg hb, if_neg (by decide), if_neg (by decide), if_neg (by decide), if_pos rfl, nof3, w158]
    exact ln_gone h hl k0 k1 upd_at upd_at (hu 3) (hrd0 3) a3 (nI s) fa
  · rw [if_neg (by decide), if_neg hb, if_neg (by decide), if_neg (by decide), if_neg (by decide), if_neg (by decide), if_pos rfl, nof4]
    exact ln_now h hl k0 k1 upd_at upd_at (hu 4) (hrd0 4) a3 (nI s) fa
  · rw [if_neg (by decide), if_neg hb, if_neg (by decide), if_neg (by decide), if_neg (by decide), if_neg (by decide), if_neg (by decide), if_pos rfl]
    rw [nof5]
    have ec : F_X5_takeLine_50 (nI L) tb (nI l) known 5 10 6 (nI 0) (nI s) (nI e) (upd R (6 * l) 5) = (1, nI s, nI e, upd R (6 * l) 5) := cl_end (i := 0) (j := 10) (by decide) (by decide) (Or.inl (by decide))
    rw [ec]
    refine ⟨hrd0 5, Or.inr ⟨rfl, rfl, ⟨e, a3, rfl, rfl⟩, fun hq => absurd ((upd_at (f := R) (k := 6 * l) (v := 5)).symm.trans hq) (by decide), ⟨?_, Or.inl upd_at⟩, hu 5, ?_, k0, k1⟩⟩
    · show upd R (6 * l) 5 (6 * l) = upd Q (6 * l) 5 (6 * l)
      rw [upd_at, upd_at]
    · show known = F_X5_knownBehind (upd R (6 * l) 5) (nI l) known
      rw [kb_same hl (Or.inr upd_at)]
  · rw [if_pos rfl, if_neg (by decide), if_neg (by decide), if_neg (by decide), if_neg (by decide), if_neg (by decide), if_neg (by decide)]
    unfold F_X7_isLine_c171 F_X7_fails
    rw [hx]
    exact ⟨hrd0 (-1), Or.inl ⟨rfl, rfl, rfl, hsn⟩⟩
end TOK
