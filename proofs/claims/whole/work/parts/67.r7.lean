/-- two walks over the notes: alike, or both apart by more than a minute already -/
def NP (most least base any high low first : Int32) : Prop :=
  (0 ≤ most.toInt ∧ most.toInt ≤ 518400) ∧ (-518400 ≤ least.toInt ∧ least.toInt ≤ 0) ∧ (0 ≤ high.toInt ∧ high.toInt ≤ 518400) ∧ (-518400 ≤ low.toInt ∧ low.toInt ≤ 0) ∧ (-10000000 ≤ base.toInt ∧ base.toInt ≤ 10000000) ∧ (-1 ≤ first.toInt ∧ first.toInt < 1036800) ∧
  ((most = high ∧ least = low ∧ ((any = 0 ∧ first = -1) ∨ (¬ any = 0 ∧ ¬ first = -1 ∧ first.toInt = base.toInt % 1036800))) ∨ (1440 ≤ most.toInt - least.toInt ∧ 1440 ≤ high.toInt - low.toInt))
theorem NP.last {most least base any high low first : Int32} (h : NP most least base any high low first) : F_X2_allow_125 most least = if 1440 ≤ high - low then 0 else 1 := by
  obtain ⟨⟨a0, a1⟩, ⟨b0, b1⟩, ⟨c0, c1⟩, ⟨d0, d1⟩, -, -, hr⟩ := h
  have e14 : (1440 : Int32).toInt = 1440 := rfl
  unfold F_X2_allow_125
  rcases hr with ⟨rfl, rfl, -⟩ | ⟨g1, g2⟩
  · rfl
  · have e1 := ti_sub (a := most) (b := least) (by omega) (by omega)
    have e2 := ti_sub (a := high) (b := low) (by omega) (by omega)
    rw [if_pos (ti_le.mpr (by omega)), if_pos (ti_le.mpr (by omega))]
theorem mx_toInt (a b : Int32) : (F_J9_max_7cf53 a b).toInt = if a.toInt < b.toInt then b.toInt else a.toInt := by
  unfold F_J9_max_7cf53
  by_cases h : a < b
  · rw [if_pos h, if_pos (ti_lt.mp h)]
  · rw [if_neg h, if_neg (by have := ti_nlt h; omega)]
theorem mn_toInt (a b : Int32) : (F_J9_min_7cf53 a b).toInt = if b.toInt < a.toInt then b.toInt else a.toInt := by
  unfold F_J9_min_7cf53
  by_cases h : b < a
  · rw [if_pos h, if_pos (ti_lt.mp h)]
  · rw [if_neg h, if_neg (by have := ti_nlt h; omega)]
theorem apart_int {f g : Int32} (f0 : -10000000 ≤ f.toInt) (f1 : f.toInt ≤ 10000000) (g0 : -10000000 ≤ g.toInt) (g1 : g.toInt ≤ 10000000) : (F_J9_floorMod_7cf53 (f - g + 518400) 1036800 - 518400).toInt = (f.toInt - g.toInt + 518400) % 1036800 - 518400 := by
  have eR : (1036800 : Int32).toInt = 1036800 := rfl
  have p1 := ti_sub (a := f) (b := g) (by omega) (by omega)
  have p2 := ti_addc (f - g) 518400 518400 rfl (by omega) (by omega)
  have p3 := floorMod_toInt (a := f - g + 518400) (b := 1036800) (by decide)
  rw [eR, p2, p1] at p3
  clear p1 p2
  generalize F_J9_floorMod_7cf53 (f - g + 518400) 1036800 = x at p3 ⊢
  generalize f.toInt - g.toInt + 518400 = z at p3 ⊢
  have h0 := Int.emod_nonneg z (show (1036800 : Int) ≠ 0 by decide)
  have h1 := Int.emod_lt_of_pos z (show (0 : Int) < 1036800 by decide)
  generalize z % 1036800 = w at p3 h0 h1 ⊢
  rw [ti_subc x 518400 518400 rfl (by omega) (by omega), p3]
theorem off_int {b g : Int32} (b0 : 0 ≤ b.toInt) (b1 : b.toInt < 1036800) (g0 : -1 ≤ g.toInt) (g1 : g.toInt < 1036800) : (F_X7_rest (b - g) 1036800).toInt = (b.toInt - g.toInt) % 1036800 := by
  have eR : (1036800 : Int32).toInt = 1036800 := rfl
  have p1 := ti_sub (a := b) (b := g) (by omega) (by omega)
  have p3 := rest_toInt (v := b - g) (b := 1036800) (by decide)
  rw [eR, p1] at p3
  exact p3
theorem off2_int {o : Int32} (o0 : 0 ≤ o.toInt) (o1 : o.toInt < 1036800) : (if o ≤ 518400 then o else o - 1036800).toInt = if o.toInt ≤ 518400 then o.toInt else o.toInt - 1036800 := by
  have eH : (518400 : Int32).toInt = 518400 := rfl
  by_cases hc : o ≤ 518400
  · have := ti_le.mp hc
    rw [if_pos hc, if_pos (by omega)]
  · have := ti_nle hc
    rw [if_neg hc, if_neg (by omega)]
    exact ti_subc o 1036800 1036800 rfl (by omega) (by omega)
theorem le_if_int (x y a b : Int32) : (if x ≤ y then a else b).toInt = if x.toInt ≤ y.toInt then a.toInt else b.toInt := by
  by_cases hc : x ≤ y
  · rw [if_pos hc, if_pos (ti_le.mp hc)]
  · rw [if_neg hc, if_neg (by have := ti_nle hc; omega)]
theorem np_bounds {mo le hi lo d o off M m lo' hi' : Int} (a0 : 0 ≤ mo) (a1 : mo ≤ 518400) (b0 : -518400 ≤ le) (b1 : le ≤ 0) (c0 : 0 ≤ hi) (c1 : hi ≤ 518400) (d0 : -518400 ≤ lo) (d1 : lo ≤ 0) (e0 : -518400 ≤ d) (e1 : d < 518400) (o0 : 0 ≤ o) (o1 : o < 1036800) (ho : off = if o ≤ 518400 then o else o - 1036800) (hM : M = if mo < d then d else mo) (hm : m = if d < le then d else le) (hl : lo' = if lo ≤ off then lo else off) (hh : hi' = if off ≤ hi then hi else off) : (0 ≤ M ∧ M ≤ 518400) ∧ (-518400 ≤ m ∧ m ≤ 0) ∧ (0 ≤ hi' ∧ hi' ≤ 518400) ∧ (-518400 ≤ lo' ∧ lo' ≤ 0) := by
  have f0 : -518400 ≤ off ∧ off ≤ 518400 := by rw [ho]; split <;> omega
  refine ⟨?_, ?_, ?_, ?_⟩
  · rw [hM]; split <;> omega
  · rw [hm]; split <;> omega
  · rw [hh]; split <;> omega
  · rw [hl]; split <;> omega
theorem np_far {mo le hi lo d off M m lo' hi' : Int} (hM : M = if mo < d then d else mo) (hm : m = if d < le then d else le) (hl : lo' = if lo ≤ off then lo else off) (hh : hi' = if off ≤ hi then hi else off) (w1 : 1440 ≤ mo - le) (w2 : 1440 ≤ hi - lo) : 1440 ≤ M - m ∧ 1440 ≤ hi' - lo' := by
  constructor
  · rw [hM, hm]; split <;> split <;> omega
  · rw [hh, hl]; split <;> split <;> omega
/-- half a round apart -/
theorem np_half {mo le d o off M m lo' hi' : Int} (a0 : 0 ≤ mo) (b1 : le ≤ 0) (hd : d = -518400) (ho : o = 518400) (hoff : off = if o ≤ 518400 then o else o - 1036800) (hM : M = if mo < d then d else mo) (hm : m = if d < le then d else le) (hl : lo' = if le ≤ off then le else off) (hh : hi' = if off ≤ mo then mo else off) : 1440 ≤ M - m ∧ 1440 ≤ hi' - lo' := by
  have f0 : off = 518400 := by rw [hoff, ho]; rfl
  subst f0; subst hd
  constructor
  · rw [hM, hm, if_neg (by omega)]; split <;> omega
  · rw [hh, hl, if_pos (show le ≤ 518400 by omega)]; split <;> omega
theorem np_same {mo le d M m lo' hi' : Int} (hM : M = if mo < d then d else mo) (hm : m = if d < le then d else le) (hl : lo' = if le ≤ d then le else d) (hh : hi' = if d ≤ mo then mo else d) : M = hi' ∧ m = lo' := by
  constructor
  · rw [hM, hh]; split <;> split <;> omega
  · rw [hm, hl]; split <;> split <;> omega
theorem np_dist {F B b g o : Int} (hb : b = F % 1036800) (hg : g = B % 1036800) (ho : o = (b - g) % 1036800) : o = (F - B) % 1036800 := by
  rw [ho, hb, hg, ← Int.sub_emod]
theorem np_d {F B o off : Int} (ho : o = (F - B) % 1036800) (hn : ¬ o = 518400) (hoff : off = if o ≤ 518400 then o else o - 1036800) : (F - B + 518400) % 1036800 - 518400 = off := by
  generalize F - B = z at ho ⊢
  rw [hoff]; split <;> omega
theorem np_d2 {F B o : Int} (ho : o = (F - B) % 1036800) (hn : o = 518400) : (F - B + 518400) % 1036800 - 518400 = -518400 := by
  generalize F - B = z at ho ⊢
  omega
/-- what a note does to both -/
theorem NP.step {most least base any high low first f b : Int32} (h : NP most least base any high low first) (f0 : -10000000 ≤ f.toInt) (f1 : f.toInt ≤ 10000000) (hb : b.toInt = f.toInt % 1036800) {base' any' first' : Int32} (hbase : base' = if any = 0 then f else base) (hany : any' = if any = 0 then 1 else any) (hfirst : first' = if first = -1 then b else first) {o off low' high' : Int32} (ho : o = F_X7_rest (b - first') 1036800) (hoff : off = if o ≤ 518400 then o else o - 1036800) (hlow : low' = if low ≤ off then low else off) (hhigh : high' = if off ≤ high then high else off) :
    NP (F_J9_max_7cf53 most (F_J9_floorMod_7cf53 (f - base' + 518400) 1036800 - 518400)) (F_J9_min_7cf53 least (F_J9_floorMod_7cf53 (f - base' + 518400) 1036800 - 518400)) base' any' high' low' first' := by
  obtain ⟨⟨a0, a1⟩, ⟨b0, b1⟩, ⟨c0, c1⟩, ⟨d0, d1⟩, ⟨e0, e1⟩, ⟨g0, g1⟩, hr⟩ := h
  have hb0 : 0 ≤ b.toInt := by rw [hb]; exact Int.emod_nonneg _ (by decide)
  have hb1 : b.toInt < 1036800 := by rw [hb]; exact Int.emod_lt_of_pos _ (by decide)
  have hbr : -10000000 ≤ base'.toInt ∧ base'.toInt ≤ 10000000 := by
    rw [hbase]; split
    · exact ⟨f0, f1⟩
    · exact ⟨e0, e1⟩
  have hfr : -1 ≤ first'.toInt ∧ first'.toInt < 1036800 := by
    rw [hfirst]; split
    · exact ⟨Int.le_trans (by decide) hb0, hb1⟩
    · exact ⟨g0, g1⟩
  have hD := apart_int f0 f1 hbr.1 hbr.2
  have hO := off_int hb0 hb1 hfr.1 hfr.2
  rw [← ho] at hO
  have ho0 : 0 ≤ o.toInt := by rw [hO]; exact Int.emod_nonneg _ (by decide)
  have ho1 : o.toInt < 1036800 := by rw [hO]; exact Int.emod_lt_of_pos _ (by decide)
  have q3 := off2_int ho0 ho1
  rw [← hoff] at q3
  have q4 := le_if_int low off low off
  rw [← hlow] at q4
  have q5 := le_if_int off high high off
  rw [← hhigh] at q5
  have ma := mx_toInt most (F_J9_floorMod_7cf53 (f - base' + 518400) 1036800 - 518400)
  have mi := mn_toInt least (F_J9_floorMod_7cf53 (f - base' + 518400) 1036800 - 518400)
  rw [hD] at ma mi
  generalize F_J9_max_7cf53 most (F_J9_floorMod_7cf53 (f - base' + 518400) 1036800 - 518400) = M at ma ⊢
  generalize F_J9_min_7cf53 least (F_J9_floorMod_7cf53 (f - base' + 518400) 1036800 - 518400) = m at mi ⊢
  have hd0 : -518400 ≤ (f.toInt - base'.toInt + 518400) % 1036800 - 518400 := by
    have := Int.emod_nonneg (f.toInt - base'.toInt + 518400) (show (1036800 : Int) ≠ 0 by decide)
    generalize (f.toInt - base'.toInt + 518400) % 1036800 = z at this ⊢
    clear ma mi q3 q4 q5 hO hD
    omega
  have hd1 : (f.toInt - base'.toInt + 518400) % 1036800 - 518400 < 518400 := by
    have := Int.emod_lt_of_pos (f.toInt - base'.toInt + 518400) (show (0 : Int) < 1036800 by decide)
    generalize (f.toInt - base'.toInt + 518400) % 1036800 = z at this ⊢
    clear ma mi q3 q4 q5 hO hD
    omega
  have hB := np_bounds a0 a1 b0 b1 c0 c1 d0 d1 hd0 hd1 ho0 ho1 q3 ma mi q4 q5
  refine ⟨hB.1, hB.2.1, hB.2.2.1, hB.2.2.2, hbr, hfr, ?_⟩
  rcases hr with ⟨rfl, rfl, hr⟩ | ⟨w1, w2⟩
  · have hfb : first'.toInt = base'.toInt % 1036800 ∧ ¬ any' = 0 ∧ ¬ first' = -1 := by
      rcases hr with ⟨r1, r2⟩ | ⟨r1, r2, r3⟩
      · rw [hfirst, hbase, hany, if_pos r1, if_pos r1, if_pos r2]
        refine ⟨hb, by decide, fun e => ?_⟩
        rw [e] at hb0
        exact absurd hb0 (by decide)
      · rw [hfirst, hbase, hany, if_neg r1, if_neg r1, if_neg r2]
        exact ⟨r3, r1, r2⟩
    have hoo := np_dist hb hfb.1 hO
    by_cases hh : o.toInt = 518400
    · right
      exact np_half a0 b1 (np_d2 hoo hh) hh q3 ma mi q4 q5
    · left
      rw [np_d hoo hh q3] at ma mi
      obtain ⟨z1, z2⟩ := np_same ma mi q4 q5
      exact ⟨Int32.toInt_inj.mp z1, Int32.toInt_inj.mp z2, Or.inr ⟨hfb.2.1, hfb.2.2, hfb.1⟩⟩
  · right
    exact np_far ma mi q4 q5 w1 w2
theorem NP.init : NP 0 0 0 0 0 0 (-1) := ⟨by decide, by decide, by decide, by decide, by decide, by decide, Or.inl ⟨rfl, rfl, Or.inl ⟨rfl, rfl⟩⟩⟩
section HRs
variable {ck : Nat → Nat → Int32} {nm : Int32} {nc nt nd : Nat → Int32} {told rd : Int32} {c : Nat → Int32} {noted : Int32} {note : Nat → Int32} {si : Int32} {mis fit : Nat → Int32}
theorem allow_loop (h : HR ck nm nc nt nd told rd c noted note) {k : Nat} (hk : k < 8) (hn : ¬ ck k 0 = -1) {r : Int32} (r0 : -120 ≤ r.toInt) (r1 : r.toInt ≤ 120) : ∀ (n i : Nat) (most least base any high low first : Int32), (i : Int) ≤ noted.toInt → (noted.toInt - i).toNat < n → NP most least base any high low first →
    F_X2_allow_15 nm nc nt nd (ck k 0) (nI k) r n (nI i) most least base any = F_X7_isNoted_11 c note noted (nI k) r n (nI i) high low first := by
  obtain ⟨-, -, -, -, rfl, n0, n1, hno⟩ := id h
  have ek := (h.2.2.2.1 k hk).kind hn
  have e12 : (12 : Int32).toInt = 12 := rfl
  intro n
  induction n with
  | zero => intro i most least base any high low first _ h _; exact absurd h (Nat.not_lt_zero _)
  | succ n ih =>
    intro i most least base any high low first hi hm hP
    have ei := nI_toInt (n := i) (by omega)
    rw [F_X2_allow_15.eq_2, F_X7_isNoted_11.eq_2]
    by_cases hc : nm ≤ nI i
    · rw [if_pos hc, if_pos hc]
      exact hP.last
    · have hc' := ti_nle hc
      obtain ⟨⟨h1, h2, h3⟩, ⟨k0, k1⟩, ⟨t0, t1⟩, ⟨s0, s1⟩⟩ := hno i (by omega)
      have i0 : (3 * nI i).toNatClampNeg = 3 * i := by
        have e3 := ti_mulc (nI i) 3 3 rfl (by omega) (by omega)
        have := tn_of (x := 3 * nI i) (by omega); omega
      have i1 : (3 * nI i + 1).toNatClampNeg = 3 * i + 1 := by
        have e3 := ti_mulc (nI i) 3 3 rfl (by omega) (by omega)
        have e4 := ti_addc (3 * nI i) 1 1 rfl (by omega) (by omega)
        have := tn_of (x := 3 * nI i + 1) (by omega); omega
      have i2 : (3 * nI i + 2).toNatClampNeg = 3 * i + 2 := by
        have e3 := ti_mulc (nI i) 3 3 rfl (by omega) (by omega)
        have e4 := ti_addc (3 * nI i) 2 2 rfl (by omega) (by omega)
        have := tn_of (x := 3 * nI i + 2) (by omega); omega
      rw [if_neg hc, if_neg hc, if_neg (show ¬ (12 : Int32) ≤ nI i from fun hq => by have := ti_le.mp hq; omega), nI_tn (n := i) (by omega), i0, h1, ixk0 hk]
      by_cases c1 : note (3 * i) = nI k
      · rw [if_pos c1, if_pos c1]
        -- where it begins
        obtain ⟨f, ef⟩ : ∃ f, f = nd i * 1440 - F_X0_way (ck k 0) (nt i) r := ⟨_, rfl⟩
        obtain ⟨y5, e5⟩ : ∃ y5 : Int32, y5 = if c (6 * k) = 2 then 0 else 1440 + r := ⟨_, rfl⟩
        obtain ⟨y6, e6⟩ : ∃ y6 : Int32, y6 = if c (6 * k) = 1 then note (3 * i + 1) * y5 else -(note (3 * i + 1) * y5) := ⟨_, rfl⟩
        have r5 : 0 ≤ y5.toInt ∧ y5.toInt ≤ 1560 := by
          rw [e5]
          split
          · decide
          · have := ti_cadd 1440 r 1440 rfl (by omega) (by omega); omega
        obtain ⟨p0, p1⟩ := prod_bd (a := (note (3 * i + 1)).toInt) (b := y5.toInt) (A := 4320) (B := 1560) (by omega) (by omega) r5.1 r5.2
        have em := ti_mul (a := note (3 * i + 1)) (b := y5) (by omega) (by omega)
        have er6 : -6739200 ≤ y6.toInt ∧ y6.toInt ≤ 6739200 := by
          rw [e6]
          split
          · omega
          · have := ti_neg (a := note (3 * i + 1) * y5) (by omega); omega
        have eff : f = 1440 * note (3 * i + 2) + y6 := by
          rw [ef, h3, h2, Int32.mul_comm, e6]
          unfold F_X0_way
          rw [ek, e5]
          by_cases g2 : c (6 * k) = 2
          · rw [if_pos g2, if_pos g2, if_neg (show ¬ c (6 * k) = 1 by rw [g2]; decide), Int32.mul_zero, Int32.neg_zero, Int32.add_zero, Int32.sub_zero]
          · rw [if_neg g2, if_neg g2]
            by_cases g1 : c (6 * k) = 1
            · rw [if_pos g1, if_pos g1, Int32.sub_neg]
            · rw [if_neg g1, if_neg g1, Int32.sub_eq_add_neg]
        have ed := ti_mulc (note (3 * i + 2)) 1440 1440 rfl (by omega) (by omega)
        have efi := ti_add (a := 1440 * note (3 * i + 2)) (b := y6) (by omega) (by omega)
        rw [← eff] at efi
        obtain ⟨b, eb⟩ : ∃ b, b = F_X7_rest f 1036800 := ⟨_, rfl⟩
        have hb : b.toInt = f.toInt % 1036800 := by rw [eb]; exact rest_toInt (by decide)
        -- the class
        have eA : (if any = 0 then F_X2_allow_83 nt nd (ck k 0) r (nI i) most least (F_X2_allow_15 nm nc nt nd (ck k 0) (nI k) r n) (nd i * 1440 - F_X0_way (ck k 0) (nt i) r) 1 else F_X2_allow_83 nt nd (ck k 0) r (nI i) most least (F_X2_allow_15 nm nc nt nd (ck k 0) (nI k) r n) base any) = F_X2_allow_15 nm nc nt nd (ck k 0) (nI k) r n (nI i + 1) (F_J9_max_7cf53 most (F_J9_floorMod_7cf53 (f - (if any = 0 then f else base) + 518400) 1036800 - 518400)) (F_J9_min_7cf53 least (F_J9_floorMod_7cf53 (f - (if any = 0 then f else base) + 518400) 1036800 - 518400)) (if any = 0 then f else base) (if any = 0 then 1 else any) := by
          unfold F_X2_allow_83
          rw [nI_tn (n := i) (by omega), ← ef]
          by_cases ca : any = 0
          · rw [if_pos ca, if_pos ca, if_pos ca]
          · rw [if_neg ca, if_neg ca, if_neg ca]
        -- the model
        obtain ⟨first', ef'⟩ : ∃ z, z = if first = -1 then b else first := ⟨_, rfl⟩
        obtain ⟨o, eo⟩ : ∃ z, z = F_X7_rest (b - first') 1036800 := ⟨_, rfl⟩
        obtain ⟨off, eoff⟩ : ∃ z, z = if o ≤ 518400 then o else o - 1036800 := ⟨_, rfl⟩
        obtain ⟨low', elow⟩ : ∃ z, z = if low ≤ off then low else off := ⟨_, rfl⟩
        obtain ⟨high', ehigh⟩ : ∃ z, z = if off ≤ high then high else off := ⟨_, rfl⟩
        have e169 : ∀ z w, F_X7_isNoted_169 (nI i) high (F_X7_isNoted_11 c note nm (nI k) r n) w off z = F_X7_isNoted_11 c note nm (nI k) r n (nI i + 1) high' z w := fun z w => by
          unfold F_X7_isNoted_169
          rw [ehigh]
          split <;> rfl
        have e153 : ∀ w, F_X7_isNoted_153 (nI i) high low (F_X7_isNoted_11 c note nm (nI k) r n) w off = F_X7_isNoted_11 c note nm (nI k) r n (nI i + 1) high' low' w := fun w => by
          unfold F_X7_isNoted_153
          rw [e169, e169, elow]
          split <;> rfl
        have e105 : F_X7_isNoted_105 note (nI i) high low first (F_X7_isNoted_11 c note nm (nI k) r n) y6 = F_X7_isNoted_11 c note nm (nI k) r n (nI i + 1) high' low' first' := by
          have e124 : F_X7_isNoted_124 note (nI i) high low (F_X7_isNoted_11 c note nm (nI k) r n) y6 first' = F_X7_isNoted_11 c note nm (nI k) r n (nI i + 1) high' low' first' := by
            unfold F_X7_isNoted_124
            rw [i2, ← eff, ← eb, ← eo]
            by_cases co : o ≤ 518400
            · have : off = o := by rw [eoff, if_pos co]
              rw [if_pos co, ← e153 first', this]
            · have : off = o - 1036800 := by rw [eoff, if_neg co]
              rw [if_neg co, ← e153 first', this]
          unfold F_X7_isNoted_105
          rw [i2, ← eff, ← eb]
          by_cases cf : first = -1
          · have : first' = b := by rw [ef', if_pos cf]
            rw [if_pos cf, ← this]; exact e124
          · have : first' = first := by rw [ef', if_neg cf]
            rw [if_neg cf, ← this]; exact e124
        have e66 : F_X7_isNoted_66 c note (nI k) (nI i) high low first (F_X7_isNoted_11 c note nm (nI k) r n) y5 = F_X7_isNoted_11 c note nm (nI k) r n (nI i + 1) high' low' first' := by
          unfold F_X7_isNoted_66
          rw [ixk0 hk, i1, ← e105, e6]
          split <;> rfl
        have e66' : (if c (6 * k) = 2 then F_X7_isNoted_66 c note (nI k) (nI i) high low first (F_X7_isNoted_11 c note nm (nI k) r n) 0 else F_X7_isNoted_66 c note (nI k) (nI i) high low first (F_X7_isNoted_11 c note nm (nI k) r n) (1440 + r)) = F_X7_isNoted_11 c note nm (nI k) r n (nI i + 1) high' low' first' := by
          rw [← e66, e5]
          split <;> rfl
        rw [eA, e66', nI_suc (by omega)]
        exact ih (i + 1) _ _ _ _ _ _ _ (by omega) (by omega) (hP.step (by omega) (by omega) hb rfl rfl ef' eo eoff elow ehigh)
      · rw [if_neg c1, if_neg c1, nI_suc (by omega)]
        exact ih (i + 1) _ _ _ _ _ _ _ (by omega) (by omega) hP
theorem rates_loop (h : HR ck nm nc nt nd told rd c noted note) {k : Nat} (hk : k < 8) (hn : ¬ ck k 0 = -1) {x2 : Int32} (s0 : 0 ≤ x2.toInt) (s1 : x2.toInt ≤ 2) : ∀ (n i : Nat) (ym yf yl yr : Int32), i ≤ 241 → 241 - i < n →
    (F_X6_rates_37 ck nm nc nt nd (nI k) x2 n (nI i) ym yf yl yr).1 = F_X7_rates_35 c note noted (nI k) x2 n (nI i - 120) yl yf ym := by
  have z0 : (0 : Int32).toInt = 0 := rfl
  intro n
  induction n with
  | zero => intro i ym yf yl yr _ h; exact absurd h (Nat.not_lt_zero _)
  | succ n ih =>
    intro i ym yf yl yr hi hm
    have ei := nI_toInt (n := i) (by omega)
    have e1 := ti_subc (nI i) 120 120 rfl (by omega) (by omega)
    rw [F_X6_rates_37.eq_2, F_X7_rates_35.eq_2]
    by_cases hc : i < 241
    · have e121 : (121 : Int32).toInt = 121 := rfl
      have e241 : (241 : Int32).toInt = 241 := rfl
      have es : nI i - 120 + 1 = nI (i + 1) - 120 := Int32.toInt_inj.mp (by
        have e2 := nI_toInt (n := i + 1) (by omega)
        rw [ti_inc (by omega), e1, ti_subc (nI (i + 1)) 120 120 rfl (by omega) (by omega), e2, ei]; omega)
      have ea120 : nI i - 120 + 120 = nI i := Int32.toInt_inj.mp (by rw [ti_addc (nI i - 120) 120 120 rfl (by omega) (by omega), e1]; omega)
      have eal : F_X2_allow nm nc nt nd (ck k 0) (nI k) (nI i - 120) = F_X7_isNoted c note noted (nI k) (nI i - 120) := by
        have g := allow_loop h hk hn (r := nI i - 120) (by omega) (by omega) 13 0 0 0 0 0 0 0 (-1) (by have := h.2.2.2.2.2.1; omega) (by have := h.2.2.2.2.2.1; have := h.2.2.2.2.2.2.1; omega) NP.init
        rw [iz] at g
        exact g
      rw [if_neg (show ¬ (241 : Int32) ≤ nI i from fun hq => by have := ti_le.mp hq; omega), if_neg (show ¬ (121 : Int32) ≤ nI i - 120 from fun hq => by have := ti_le.mp hq; omega), nI_tn (n := k) (by omega), eal]
      by_cases c1 : F_X7_isNoted c note noted (nI k) (nI i - 120) = 0
      · rw [if_pos c1, if_pos c1, nI_suc (by omega), es]
        exact ih (i + 1) _ _ _ _ (by omega) (by omega)
      · rw [if_neg c1, if_neg c1]
        obtain ⟨yr', ea⟩ := add_spec ym yf yl yr (nI i)
        unfold F_X6_rates_c71 F_X7_rates_66
        rw [ea, nI_suc (by omega), es, ea120]
        by_cases cm : ym = 0
        · rw [if_pos cm, if_pos cm]
          exact ih (i + 1) _ _ _ _ (by omega) (by omega)
        · rw [if_neg cm, if_neg cm]
          exact ih (i + 1) _ _ _ _ (by omega) (by omega)
    · have e : i = 241 := by omega
      subst e
      rw [if_pos (show (241 : Int32) ≤ nI 241 by decide), if_pos (show (121 : Int32) ≤ nI 241 - 120 by decide)]
      show F_X4_tell ym yf yl yr x2 = _
      unfold F_X4_tell
      by_cases c0 : x2 = 0
      · rw [if_pos c0, if_pos c0]
      · rw [if_neg c0, if_neg c0]
        by_cases c1 : x2 = 1
        · rw [if_pos c1, if_pos c1]
        · rw [if_neg c1, if_neg c1, if_pos]
          have g0 := ti_ne c0
          have g1 := ti_ne c1
          have z1 : (1 : Int32).toInt = 1 := rfl
          have z2 : (2 : Int32).toInt = 2 := rfl
          exact Int32.toInt_inj.mp (by omega)
theorem q_rates (h : HR ck nm nc nt nd told rd c noted note) (y1 y2 y3 y4 x1 x2 : Int32) : (F_X6_rates ck nm nc nt nd y1 y2 y3 y4 x1 x2).1 = F_X7_rates told c note noted x1 x2 := by
  unfold F_X6_rates F_X7_rates
  rw [h.tl, bel3]
  by_cases c1 : F_X7_isClock told x1 = 0
  · rw [if_pos c1, if_pos c1]
  · rw [if_neg c1, if_neg c1]
    by_cases c2 : F_X7_in x2 0 2 = 0
    · rw [if_pos c2, if_pos c2]
    · rw [if_neg c2, if_neg c2]
      obtain ⟨s0, s1⟩ : (0 : Int) ≤ x2.toInt ∧ x2.toInt ≤ 2 := X7_in_in c2
      obtain ⟨k, hk, rfl, hn⟩ := h.at c1
      unfold F_X6_rates_c31 F_X4_clear
      have g := rates_loop h hk hn s0 s1 242 0 0 (-1) (-1) 0 (by decide) (by decide)
      rw [iz, show (0 : Int32) - 120 = (-120) by decide] at g
      exact g
end HRs
