section ORD
variable {n : Nat} {r W c ids : Nat → Int32}
/-- a row of clocks by a row of places -/
def RW (n : Nat) (ids : Nat → Int32) (row : Nat → Int32) (p : Nat → Nat) : Prop := ∀ i, i < n → row i = ids (p i)
/-- the clocks that are ordered, in their order, and their rates -/
def IDS (n : Nat) (ids r c : Nat → Int32) : Prop := (∀ a, a < n → 0 ≤ (ids a).toInt ∧ (ids a).toInt < 8) ∧ (∀ a b, a < b → b < n → (ids a).toInt < (ids b).toInt) ∧ (∀ a, a < n → c (6 * ids a + 3).toNatClampNeg = r a) ∧ RB r n
theorem IDS.lt (h : IDS n ids r c) {a b : Nat} (ha : a < n) (hb : b < n) : ids a ≤ ids b ↔ a ≤ b := by
  rw [ti_le]
  constructor
  · intro hl
    refine Nat.not_lt.mp (fun hab => ?_)
    have := h.2.1 b a hab ha
    omega
  · intro hl
    by_cases e : a = b
    · rw [e]; exact Int.le_refl _
    · exact Int.le_of_lt (h.2.1 a b (by omega) hb)
theorem IDS.inj (h : IDS n ids r c) {a b : Nat} (ha : a < n) (hb : b < n) (e : ids a = ids b) : a = b := by
  have h1 := (h.lt ha hb).mp (by rw [e]; exact Int32.le_refl _)
  have h2 := (h.lt hb ha).mp (by rw [e]; exact Int32.le_refl _)
  omega
theorem RW.RI (h : IDS n ids r c) {row : Nat → Int32} {p : Nat → Nat} (hp : PM n p) (hr : RW n ids row p) (ho : RowOk row) : RI n row :=
  ⟨ho, fun a b ha hb e => hp.2.1 a b ha hb (h.inj (hp.1 a ha) (hp.1 b hb) (by rw [← hr a ha, ← hr b hb]; exact e))⟩
theorem grt_loop (hn : n ≤ 6) (h : IDS n ids r c) {row : Nat → Int32} {p : Nat → Nat} (hp : PM n p) (hr : RW n ids row p) : ∀ (f k : Nat) (most sum : Int32), k ≤ n → n - k < f → sum.toInt = sm r p k → most.toInt = gm r p k → (-(120 * k : Int) ≤ sm r p k ∧ sm r p k ≤ 120 * k) → (F_X7_greatest_6 c row (nI n) f (nI k) most sum).toInt = gm r p n := by
  intro f
  induction f with
  | zero => intro k most sum _ h _ _ _; exact absurd h (Nat.not_lt_zero _)
  | succ f ih =>
    intro k most sum hk hm hs hg hb
    rw [F_X7_greatest_6.eq_2]
    by_cases hc : k < n
    · have z0 : (0 : Int32).toInt = 0 := rfl
      have hb2 := h.2.2.2 (p k) (hp.1 k hc)
      have es : sm r p (k + 1) = sm r p k + (r (p k)).toInt := rfl
      have e1 : (sum + r (p k)).toInt = sm r p (k + 1) := by rw [ti_add (by omega) (by omega), hs]; rfl
      rw [if_neg (show ¬ nI n ≤ nI k from fun hq => by have := (iN_le (a := n) (b := k) (by omega) (by omega)).mp hq; omega), nI_tn (n := k) (by omega), hr k hc, h.2.2.1 _ (hp.1 k hc)]
      have key : ∀ y : Int32, y.toInt = ((sm r p (k + 1)).natAbs : Int) → (F_X7_greatest_43 c row (nI k) most sum (F_X7_greatest_6 c row (nI n) f) y).toInt = gm r p n := fun y hy => by
        unfold F_X7_greatest_43
        rw [nI_tn (n := k) (by omega), hr k hc, h.2.2.1 _ (hp.1 k hc), nI_suc (by omega)]
        have eg := gm_succ r p k
        rw [← hg, ← hy] at eg
        by_cases hle : y ≤ most
        · rw [if_pos hle]
          rw [if_pos (ti_le.mp hle)] at eg
          exact ih (k + 1) _ _ (by omega) (by omega) e1 eg.symm (by constructor <;> omega)
        · rw [if_neg hle]
          rw [if_neg (fun hq => hle (ti_le.mpr hq))] at eg
          exact ih (k + 1) _ _ (by omega) (by omega) e1 eg.symm (by constructor <;> omega)
      by_cases hz : 0 ≤ sum + r (p k)
      · rw [if_pos hz]
        have := ti_le.mp hz
        exact key _ (by omega)
      · rw [if_neg hz]
        have := ti_nle hz
        exact key _ (by rw [ti_neg (by omega)]; omega)
    · have e : k = n := by omega
      subst e
      rw [if_pos (Int32.le_refl _)]
      exact hg
theorem grt (hn : n ≤ 6) (h : IDS n ids r c) {row : Nat → Int32} {p : Nat → Nat} (hp : PM n p) (hr : RW n ids row p) : (F_X7_greatest c row (nI n)).toInt = gm r p n := by
  have g := grt_loop hn h hp hr 7 0 0 0 (Nat.zero_le _) (by omega) rfl rfl ⟨by show (-(120 * 0) : Int) ≤ 0; decide, by show (0 : Int) ≤ 120 * 0; decide⟩
  rw [iz] at g
  exact g
theorem take_loop (hn : n ≤ 6) {row : Nat → Int32} : ∀ (f k : Nat) (b : Nat → Int32), k ≤ n → n - k < f → (∀ i, i < k → b i = row i) → (F_X7_take_10 c row (nI n) f (nI k) b).2 = F_X7_greatest c row (nI n) ∧ ∀ i, i < n → (F_X7_take_10 c row (nI n) f (nI k) b).1 i = row i := by
  intro f
  induction f with
  | zero => intro k b _ h _; exact absurd h (Nat.not_lt_zero _)
  | succ f ih =>
    intro k b hk hm hb
    rw [F_X7_take_10.eq_2]
    by_cases hc : k < n
    · rw [if_neg (show ¬ nI n ≤ nI k from fun hq => by have := (iN_le (a := n) (b := k) (by omega) (by omega)).mp hq; omega), nI_tn (n := k) (by omega), nI_suc (by omega)]
      refine ih (k + 1) _ (by omega) (by omega) (fun i hi => ?_)
      by_cases h2 : i = k
      · rw [h2, upd_at]
      · rw [upd_ne h2]; exact hb i (by omega)
    · have e : k = n := by omega
      subst e
      rw [if_pos (Int32.le_refl _)]
      exact ⟨rfl, hb⟩
theorem take_ok (hn : n ≤ 6) (row b : Nat → Int32) : (F_X7_take c row b (nI n)).2 = F_X7_greatest c row (nI n) ∧ ∀ i, i < n → (F_X7_take c row b (nI n)).1 i = row i := by
  have g := take_loop (c := c) (row := row) hn 7 0 b (Nat.zero_le _) (by omega) (fun i h => absurd h (Nat.not_lt_zero _))
  rw [iz] at g
  exact g
/-- the best so far, up to a row -/
def LI (n : Nat) (ids W : Nat → Int32) (p : Nat → Nat) (best : Nat → Int32) (least : Int32) : Prop := (lx n p (gg n W) ∧ (W 0).toInt < least.toInt) ∨ (¬ lx n p (gg n W) ∧ least = W 0 ∧ ∀ i, i < n → best i = ids (gg n W i))
def ANS (n : Nat) (ids W : Nat → Int32) (x : Int32) : Int32 := if x = -1 then W 0 else if nI n ≤ x then -1 else ids (gg n W x.toNatClampNeg)
theorem ord82 (h1 : 1 ≤ n) (hn : n ≤ 6) (h : IDS n ids r c) (hW : ∀ q, q < 64 → WS n r W q) {x : Int32} (hx : -1 ≤ x.toInt) : ∀ (f : Nat) (row best : Nat → Int32) (least : Int32) (p : Nat → Nat), PM n p → RW n ids row p → RowOk row → VD n row < f → LI n ids W p best least →
    (F_X7_order_82 c x (nI n) f row best least).1 = ANS n ids W x ∧ RowOk (F_X7_order_82 c x (nI n) f row best least).2.1 := by
  have hgp := gg_PM hn hW
  have hgm := gg_gm hn hW
  intro f
  induction f with
  | zero => intro row best least p _ _ _ h _; exact absurd h (Nat.not_lt_zero _)
  | succ f ih =>
    intro row best least p hp hr ho hm hL
    rw [F_X7_order_82.eq_2]
    unfold F_X7_order_c83
    have hRI := RW.RI h hp hr ho
    have cmp : ∀ a b, a < n → b < n → (row a ≤ row b ↔ p a ≤ p b) := fun a b ha hb => by rw [hr a ha, hr b hb]; exact h.lt (hp.1 a ha) (hp.1 b hb)
    rcases nr_all (r := row) h1 hn with ⟨e, hd⟩ | ⟨i, j, hij, hj, hu, hd, hv, hw, e⟩
    · rw [e]
      have hlast : ¬ lx n p (gg n W) := last_row hp hgp (fun k hk => by
        have := hd k hk
        rw [cmp k (k + 1) (by omega) hk] at this
        omega)
      rcases hL with ⟨h2, -⟩ | ⟨-, h3, h4⟩
      · exact absurd h2 hlast
      · rw [if_pos rfl]
        unfold ANS
        by_cases c1 : x = -1
        · rw [if_pos c1, if_pos c1]; exact ⟨h3, ho⟩
        · rw [if_neg c1, if_neg c1]
          by_cases c2 : nI n ≤ x
          · rw [if_pos c2, if_pos c2]; exact ⟨rfl, ho⟩
          · rw [if_neg c2, if_neg c2]
            have g1 := ti_ne c1
            have g2 := ti_nle c2
            have zm : (-1 : Int32).toInt = -1 := rfl
            have en := nI_toInt (n := n) (by omega)
            exact ⟨h4 _ (tn_lt (by omega) (by omega)), ho⟩
    · rw [e, if_neg (show ¬ (1 : Int32) = 0 by decide)]
      have hpi : p i < p j := by
        have h2 := (cmp i j (by omega) hj).mp hv
        have : ¬ p i = p j := fun e => by have := hp.2.1 i j (by omega) hj e; omega
        omega
      have hdp : ∀ k, i < k → k + 1 < n → p (k + 1) < p k := fun k k1 k2 => by
        have := hd k k1 k2
        rw [cmp k (k + 1) (by omega) k2] at this
        omega
      have hwp : ∀ k, j < k → k < n → p k < p i := fun k k1 k2 => by
        have := hw k k1 k2
        rw [cmp i k (by omega) k2] at this
        omega
      have hp' : PM n (fun k => p (nxt n i j k)) := ⟨fun k hk => hp.1 _ (nxt_lt hij hj hk), fun a b ha hb hab => nxt_inj hij hj ha hb (hp.2.1 _ _ (nxt_lt hij hj ha) (nxt_lt hij hj hb) hab), fun v hv => by
        obtain ⟨a, ha, ea⟩ := hp.2.2 v hv
        obtain ⟨b, hb, eb⟩ := nxt_sur hij hj ha
        exact ⟨b, hb, by show p (nxt n i j b) = v; rw [eb]; exact ea⟩⟩
      have hr' : RW n ids (nxr row n i j) (fun k => p (nxt n i j k)) := fun k hk => by rw [nxr_at hij hj]; exact hr _ (nxt_lt hij hj hk)
      have hRI' := nxr_RI hn hij hj hRI
      have hV : VD n (nxr row n i j) < VD n row := by
        have := (nr_step (r := row) h1 hn hRI (by rw [e]; exact (show ¬ (1 : Int32) = 0 by decide))).2
        rw [e] at this
        exact this
      have hgr := grt hn h hp' hr'
      have hlx : lx n p (fun k => p (nxt n i j k)) := ⟨i, by omega, fun k hk => by show p k = p (nxt n i j k); unfold nxt; rw [if_pos hk], by show p i < p (nxt n i j i); unfold nxt; rw [if_neg (Nat.lt_irrefl _), if_pos rfl]; exact hpi⟩
      have hge : (W 0).toInt ≤ gm r (fun k => p (nxt n i j k)) n := cl1' hn hW hp' (Nat.zero_le _)
      show (if least ≤ F_X7_greatest c (nxr row n i j) (nI n) then F_X7_order_82 c x (nI n) f (nxr row n i j) best least else F_X7_order_c101 (F_X7_order_82 c x (nI n) f) (1, nxr row n i j) (F_X7_take c (nxr row n i j) best (nI n))).1 = _ ∧ RowOk (if least ≤ F_X7_greatest c (nxr row n i j) (nI n) then F_X7_order_82 c x (nI n) f (nxr row n i j) best least else F_X7_order_c101 (F_X7_order_82 c x (nI n) f) (1, nxr row n i j) (F_X7_take c (nxr row n i j) best (nI n))).2.1
      rcases hL with ⟨h2, h3⟩ | ⟨h2, h3, h4⟩
      · rcases no_skip hp hgp hij hj hdp hpi hwp h2 with h5 | h5
        · -- the best row itself
          have eg : gm r (fun k => p (nxt n i j k)) n = (W 0).toInt := by
            rw [← hgm]
            have esm : ∀ k, k ≤ n → sm r (fun k => p (nxt n i j k)) k = sm r (gg n W) k := by
              intro k
              induction k with
              | zero => intro _; rfl
              | succ k ihk => intro hk; show sm r (fun k => p (nxt n i j k)) k + (r (p (nxt n i j k))).toInt = sm r (gg n W) k + (r (gg n W k)).toInt; rw [ihk (by omega), h5 k (by omega)]
            have egm : ∀ k, k ≤ n → gm r (fun k => p (nxt n i j k)) k = gm r (gg n W) k := by
              intro k
              induction k with
              | zero => intro _; rfl
              | succ k ihk => intro hk; rw [gm_succ, gm_succ, ihk (by omega), esm (k + 1) hk]
            exact egm n (Nat.le_refl _)
          rw [if_neg (show ¬ least ≤ F_X7_greatest c (nxr row n i j) (nI n) from fun hq => by have := ti_le.mp hq; omega)]
          unfold F_X7_order_c101
          obtain ⟨t1, t2⟩ := take_ok (c := c) hn (nxr row n i j) best
          refine ih _ _ _ _ hp' hr' hRI'.1 (by show VD n (nxr row n i j) < f; omega) (Or.inr ⟨?_, ?_, fun k hk => ?_⟩)
          · rintro ⟨d, hdn, he, hlt⟩
            rw [h5 d hdn] at hlt
            exact Nat.lt_irrefl _ hlt
          · rw [t1]; exact Int32.toInt_inj.mp (by rw [hgr, eg])
          · rw [t2 k hk, hr' k hk, h5 k hk]
        · -- not yet
          have hgt : (W 0).toInt < gm r (fun k => p (nxt n i j k)) n := by
            refine Int.not_le.mp (fun hle => cl3 hn hW hp' hle h5)
          by_cases c1 : least ≤ F_X7_greatest c (nxr row n i j) (nI n)
          · rw [if_pos c1]
            exact ih _ _ _ _ hp' hr' hRI'.1 (by omega) (Or.inl ⟨h5, h3⟩)
          · rw [if_neg c1]
            unfold F_X7_order_c101
            obtain ⟨t1, t2⟩ := take_ok (c := c) hn (nxr row n i j) best
            exact ih _ _ _ _ hp' hr' hRI'.1 (by show VD n (nxr row n i j) < f; omega) (Or.inl ⟨h5, by rw [t1, hgr]; exact hgt⟩)
      · have h6 : ¬ lx n (fun k => p (nxt n i j k)) (gg n W) := fun hq => h2 (lx_trans hlx hq)
        rw [if_pos (show least ≤ F_X7_greatest c (nxr row n i j) (nI n) from ti_le.mpr (by rw [h3, hgr]; exact hge))]
        exact ih _ _ _ _ hp' hr' hRI'.1 (by omega) (Or.inr ⟨h6, h3, h4⟩)
theorem ord79 (h1 : 1 ≤ n) (hn : n ≤ 6) (h : IDS n ids r c) (hW : ∀ q, q < 64 → WS n r W q) {x : Int32} (hx : -1 ≤ x.toInt) {row : Nat → Int32} (hr : ∀ i, i < n → row i = ids i) (ho : RowOk row) (best : Nat → Int32) :
    (F_X7_order_c79 c x (nI n) row (F_X7_take c row best (nI n))).1 = ANS n ids W x ∧ RowOk (F_X7_order_c79 c x (nI n) row (F_X7_take c row best (nI n))).2.1 := by
  have hgp := gg_PM hn hW
  have hgm := gg_gm hn hW
  have hp : PM n (fun k => k) := ⟨fun i hi => hi, fun a b _ _ e => e, fun v hv => ⟨v, hv, rfl⟩⟩
  obtain ⟨t1, t2⟩ := take_ok (c := c) hn row best
  have hg := grt hn h hp (row := row) hr
  have hge : (W 0).toInt ≤ gm r (fun k => k) n := cl1' hn hW hp (Nat.zero_le _)
  unfold F_X7_order_c79
  refine ord82 h1 hn h hW hx 262145 row _ _ (fun k => k) hp hr ho (VD_lt ho) ?_
  rcases first_row hgp with h5 | h5
  · right
    refine ⟨?_, ?_, fun k hk => ?_⟩
    · rintro ⟨d, hdn, he, hlt⟩
      rw [h5 d hdn] at hlt
      exact Nat.lt_irrefl _ hlt
    · have esm : ∀ k, k ≤ n → sm r (fun k => k) k = sm r (gg n W) k := by
        intro k
        induction k with
        | zero => intro _; rfl
        | succ k ihk => intro hk; show sm r (fun k => k) k + (r k).toInt = sm r (gg n W) k + (r (gg n W k)).toInt; rw [ihk (by omega), h5 k (by omega)]
      have egm : ∀ k, k ≤ n → gm r (fun k => k) k = gm r (gg n W) k := by
        intro k
        induction k with
        | zero => intro _; rfl
        | succ k ihk => intro hk; rw [gm_succ, gm_succ, ihk (by omega), esm (k + 1) hk]
      rw [t1]
      exact Int32.toInt_inj.mp (by rw [hg, egm n (Nat.le_refl _), hgm])
    · rw [t2 k hk, hr k hk, h5 k hk]
  · left
    refine ⟨h5, ?_⟩
    rw [t1, hg]
    exact Int.not_le.mp (fun hle => cl3 hn hW hp hle h5)
/-- the class's answer -/
theorem clk_loop (hn : n ≤ 6) (hW : ∀ q, q < 64 → WS n r W q) {x : Nat} (hx : x < n) {qc : Nat → Int32} : ∀ (f i : Nat) (tk : Int32), i ≤ x + 1 → x + 1 - i < f → (∀ k, i = k + 1 → tk = nI (gg n W k)) → F_X3_clockAt_7 (nI n) qc W (nI x) f (nI i) tk (nI (gs n W i)) = F_X3_clockAt_40 qc (nI (gg n W x)) := by
  intro f
  induction f with
  | zero => intro i tk _ h _; exact absurd h (Nat.not_lt_zero _)
  | succ f ih =>
    intro i tk hi hm ht
    rw [F_X3_clockAt_7.eq_2]
    by_cases hc : i ≤ x
    · have hG := GI.all hn hW i (by omega)
      obtain ⟨f1, f2, -⟩ := hG.next hn hW (by omega)
      rw [if_neg (show ¬ nI x < nI i from fun hq => by have := (iN_lt (a := x) (b := i) (by omega) (by omega)).mp hq; omega), if_neg (show ¬ nI n ≤ nI i from fun hq => by have := (iN_le (a := n) (b := i) (by omega) (by omega)).mp hq; omega), f1, bo hG.1 (by omega), nI_suc (by omega)]
      exact ih (i + 1) _ (by omega) (by omega) (fun k hk => by have : k = i := by omega
                                                               rw [this])
    · have e : i = x + 1 := by omega
      rw [if_pos (show nI x < nI i from (iN_lt (by omega) (by omega)).mpr (by omega)), ht x e]
theorem clk_ok (h1 : 1 ≤ n) (hn : n ≤ 6) (hW : ∀ q, q < 64 → WS n r W q) {x : Int32} (hx : -1 ≤ x.toInt) {qc : Nat → Int32} (hq : ∀ i, i < n → qc i = ids i) (q1 : Int32) (q2 : Nat → Int32) : (F_X6_order_c102 x (nI n) qc q2 W).1 = ANS n ids W x := by
  have ez : (0 : Int32).toNatClampNeg = 0 := rfl
  have zm : (-1 : Int32).toInt = -1 := rfl
  unfold F_X6_order_c102 ANS
  by_cases c1 : x = -1
  · rw [if_pos c1, if_pos c1]
    show W (0 : Int32).toNatClampNeg = W 0
    rw [ez]
  · rw [if_neg c1, if_neg c1]
    by_cases c2 : nI n ≤ x
    · rw [if_pos c2, if_pos c2]
    · rw [if_neg c2, if_neg c2]
      have g1 := ti_ne c1
      have g2 := ti_nle c2
      have en := nI_toInt (n := n) (by omega)
      have ex : nI x.toNatClampNeg = x := by
        have := tn_of (x := x) (by omega)
        exact Int32.toInt_inj.mp (by rw [nI_toInt (by omega)]; exact this)
      have hxn : x.toNatClampNeg < n := tn_lt (by omega) (by omega)
      have g := clk_loop hn hW hxn (qc := qc) 9 0 0 (Nat.zero_le _) (by omega) (fun k hk => by omega)
      rw [ex, iz, show gs n W 0 = 0 from rfl, iz] at g
      show F_X3_clockAt_7 (nI n) qc W x 9 0 0 0 = _
      rw [g]
      have hg := (gg_PM hn hW).1 _ hxn
      unfold F_X3_clockAt_40
      rw [if_neg, nI_tn (by omega), hq _ hg]
      rw [bel_spec, if_pos (by rw [nI_toInt (by omega)]; exact ⟨by omega, by show ((gg n W x.toNatClampNeg : Nat) : Int) < 8; omega⟩)]
      decide
end ORD
section HRs
variable {ck : Nat → Nat → Int32} {nm : Int32} {nc nt nd : Nat → Int32} {told rd : Int32} {c : Nat → Int32} {noted : Int32} {note : Nat → Int32}
/-- the clocks found so far, in both -/
def CO (c : Nat → Int32) (k m : Nat) (ids r row : Nat → Int32) : Prop := m ≤ k ∧ (∀ a, a < m → 0 ≤ (ids a).toInt ∧ (ids a).toInt < k) ∧ (∀ a b, a < b → b < m → (ids a).toInt < (ids b).toInt) ∧ (∀ a, a < m → c (6 * ids a + 3).toNatClampNeg = r a) ∧ RB r m ∧ RowOk row ∧ ∀ i, i < m → i < 6 → row i = ids i
theorem CO.skip {k m : Nat} {ids r row : Nat → Int32} (h : CO c k m ids r row) : CO c (k + 1) m ids r row := ⟨by have := h.1; omega, fun a ha => by have := h.2.1 a ha; omega, h.2.2⟩
theorem CO.add {k : Nat} (hk : k < 8) {m : Nat} {ids r row : Nat → Int32} (h : CO c k m ids r row) {x : Int32} (hx : c (6 * k + 3) = x) (hb : -120 ≤ x.toInt ∧ x.toInt ≤ 120) {row' : Nat → Int32} (hr : RowOk row') (h6 : ∀ i, i < m + 1 → i < 6 → row' i = upd ids m (nI k) i) : CO c (k + 1) (m + 1) (upd ids m (nI k)) (upd r m x) row' := by
  obtain ⟨h1, h2, h3, h4, h5, h7, h8⟩ := h
  have ek := nI_toInt (n := k) (by omega)
  refine ⟨by omega, fun a ha => ?_, fun a b hab hb => ?_, fun a ha => ?_, fun a ha => ?_, hr, h6⟩
  · by_cases e : a = m
    · rw [e, upd_at]; omega
    · rw [upd_ne e]; have := h2 a (by omega); omega
  · by_cases e : b = m
    · rw [e, upd_at, upd_ne (by omega)]
      have := h2 a (by omega); omega
    · rw [upd_ne e, upd_ne (by omega)]
      exact h3 a b hab (by omega)
  · by_cases e : a = m
    · rw [e, upd_at, upd_at, ixk3 hk]; exact hx
    · rw [upd_ne e, upd_ne e]; exact h4 a (by omega)
  · by_cases e : a = m
    · rw [e, upd_at]; exact hb
    · rw [upd_ne e]; exact h5 a (by omega)
theorem coll (h : HR ck nm nc nt nd told rd c noted note) {x : Int32} (hx : -1 ≤ x.toInt) (ql : Nat → Int32) (best : Nat → Int32) (om ol : Int32) : ∀ (f k m : Nat) (ids r row : Nat → Int32), k ≤ 8 → 8 - k < f → CO c k m ids r row →
    (F_X6_order_17 ck ql x f (nI k) (nI m) ids r).1 = (F_X7_order_12 told c best om ol x f (nI k) (nI m) row).1 ∧ RowOk (F_X7_order_12 told c best om ol x f (nI k) (nI m) row).2.1 := by
  intro f
  induction f with
  | zero => intro k m ids r row _ h _; exact absurd h (Nat.not_lt_zero _)
  | succ f ih =>
    intro k m ids r row hk hm hC
    have hmk := hC.1
    rw [F_X6_order_17.eq_2, F_X7_order_12.eq_2]
    by_cases hc : k < 8
    · rw [if_neg (nI8 hc), if_neg (nI8 hc), h.tl, nI_tn (n := k) (by omega)]
      unfold F_X7_isExact
      by_cases c1 : F_X7_isClock told (nI k) = 0
      · rw [if_pos c1, if_pos c1, if_pos rfl, nI_suc (by omega)]
        exact ih (k + 1) m ids r row (by omega) (by omega) hC.skip
      · rw [if_neg c1, if_neg c1, ixk3 hc, ixk4 hc, ixk0 hc]
        obtain ⟨k', hk', ek, hn⟩ := h.at c1
        have ek : k = k' := by
          have := congrArg Int32.toInt ek
          rw [nI_toInt (by omega), nI_toInt (by omega)] at this
          omega
        subst ek
        obtain ⟨b0, b2, bs, bn⟩ := (h.2.2.2.1 k hc).2.2.2 hn
        rw [b0]
        by_cases c2 : c (6 * k) = 0
        · obtain ⟨-, s3, s4⟩ := bn (by rw [c2]; decide)
          obtain ⟨-, -, -, ⟨l0, l1⟩, -, lg⟩ := h.2.2.1 k hc
          have lg := (lg (by rw [c2]; decide)).1
          rw [if_pos c2, if_pos c2, s3, s4]
          by_cases c3 : c (6 * k + 3) = c (6 * k + 4)
          · rw [if_pos c3, if_pos c3, if_neg (show ¬ (1 : Int32) = 0 by decide)]
            have em := nI_toInt (n := m) (by omega)
            have e6 : (6 : Int32).toInt = 6 := rfl
            have e8 : (8 : Int32).toInt = 8 := rfl
            unfold F_X6_order_c63 F_X3_add
            rw [if_neg (show ¬ (8 : Int32) ≤ nI m from fun hq => by have := ti_le.mp hq; omega), nI_tn (n := m) (by omega), nI_suc (by omega), nI_suc (by omega)]
            by_cases c4 : (6 : Int32) ≤ nI m
            · have := ti_le.mp c4
              rw [if_pos c4]
              refine ih (k + 1) (m + 1) _ _ row (by omega) (by omega) (hC.add hc rfl ⟨lg, l1⟩ hC.2.2.2.2.2.1 (fun i hi hi6 => ?_))
              rw [upd_ne (by omega)]
              exact hC.2.2.2.2.2.2 i (by omega) hi6
            · have := ti_nle c4
              rw [if_neg c4]
              refine ih (k + 1) (m + 1) _ _ _ (by omega) (by omega) (hC.add hc rfl ⟨lg, l1⟩ (hC.2.2.2.2.2.1.up (by rw [nI_toInt (by omega)]; omega) (by rw [nI_toInt (by omega)]; omega)) (fun i hi hi6 => ?_))
              by_cases e : i = m
              · rw [e, upd_at, upd_at]
              · rw [upd_ne e, upd_ne e]; exact hC.2.2.2.2.2.2 i (by omega) hi6
          · rw [if_neg c3, if_neg c3, if_pos rfl, nI_suc (by omega)]
            exact ih (k + 1) m ids r row (by omega) (by omega) hC.skip
        · rw [if_neg c2, if_neg c2, nI_suc (by omega)]
          have e9 : (if (if c (6 * k + 3) = c (6 * k + 4) then (1 : Int32) else 0) = 0 then F_X7_order_12 told c best om ol x f (nI (k + 1)) (nI m) row else F_X7_order_12 told c best om ol x f (nI (k + 1)) (nI m) row) = F_X7_order_12 told c best om ol x f (nI (k + 1)) (nI m) row := by split <;> rfl
          rw [e9]
          exact ih (k + 1) m ids r row (by omega) (by omega) hC.skip
    · have e : k = 8 := by omega
      subst e
      have em := nI_toInt (n := m) (by omega)
      have e1 : (1 : Int32).toInt = 1 := rfl
      have e6 : (6 : Int32).toInt = 6 := rfl
      rw [if_pos le8, if_pos le8, in_spec, e1, e6, em]
      by_cases c1 : nI m < 1
      · have := ti_lt.mp c1
        rw [if_pos c1, if_neg (show ¬ ((1 : Int) ≤ (m : Int) ∧ (m : Int) ≤ 6) by omega), if_pos rfl]
        exact ⟨rfl, hC.2.2.2.2.2.1⟩
      · have := ti_nlt c1
        rw [if_neg c1]
        by_cases c2 : nI m ≤ 6
        · have := ti_le.mp c2
          rw [if_pos c2, if_pos (show (1 : Int) ≤ (m : Int) ∧ (m : Int) ≤ 6 by omega), if_neg (show ¬ (1 : Int32) = 0 by decide)]
          have hI : IDS m ids r c := ⟨hC.2.1, hC.2.2.1, hC.2.2.2.1, hC.2.2.2.2.1⟩
          have hW := weigh_ok (n := m) (by omega) hC.2.2.2.2.1 ql
          have a1 := clk_ok (ids := ids) (by omega) (by omega) hW hx (qc := ids) (fun _ _ => rfl) 0 r
          have a2 := ord79 (by omega) (by omega) hI hW hx (row := row) (fun i hi => hC.2.2.2.2.2.2 i hi (by omega)) hC.2.2.2.2.2.1 best
          exact ⟨a1.trans a2.1.symm, a2.2⟩
        · have := ti_nle c2
          rw [if_neg c2, if_neg (show ¬ ((1 : Int) ≤ (m : Int) ∧ (m : Int) ≤ 6) by omega), if_pos rfl]
          exact ⟨rfl, hC.2.2.2.2.2.1⟩
theorem q_order (h : HR ck nm nc nt nd told rd c noted note) (qm : Int32) (qc qr ql row best : Nat → Int32) (om ol x : Int32) (hr : RowOk row) : (F_X6_order ck qm qc qr ql x).1 = (F_X7_order told c row best om ol x).1 ∧ RowOk (F_X7_order told c row best om ol x).2.1 := by
  unfold F_X6_order F_X7_order
  by_cases c1 : -1 ≤ x
  · rw [if_pos c1, if_pos c1]
    have hx : -1 ≤ x.toInt := ti_le.mp c1
    unfold F_X6_order_c12
    have g := coll h hx ql best om ol 9 0 0 qc qr row (by decide) (by decide) ⟨Nat.le_refl _, fun a ha => absurd ha (Nat.not_lt_zero _), fun a b _ hb => absurd hb (Nat.not_lt_zero _), fun a ha => absurd ha (Nat.not_lt_zero _), fun a ha => absurd ha (Nat.not_lt_zero _), hr, fun i hi _ => absurd hi (Nat.not_lt_zero _)⟩
    rw [iz] at g
    exact g
  · rw [if_neg c1, if_neg c1]
    exact ⟨rfl, hr⟩
end HRs
