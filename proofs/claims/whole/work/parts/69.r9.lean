/-- the sets along a row, and the errors -/
def Sp (p : Nat → Nat) : Nat → Nat
  | 0 => 0
  | j + 1 => Sp p j ||| 2 ^ (p j)
def sm (r : Nat → Int32) (p : Nat → Nat) : Nat → Int
  | 0 => 0
  | j + 1 => sm r p j + (r (p j)).toInt
def gm (r : Nat → Int32) (p : Nat → Nat) : Nat → Int
  | 0 => 0
  | j + 1 => if ((sm r p (j + 1)).natAbs : Int) ≤ gm r p j then gm r p j else ((sm r p (j + 1)).natAbs : Int)
def PM (n : Nat) (p : Nat → Nat) : Prop := (∀ i, i < n → p i < n) ∧ (∀ a b, a < n → b < n → p a = p b → a = b) ∧ ∀ v, v < n → ∃ i, i < n ∧ p i = v
def lx (n : Nat) (p q : Nat → Nat) : Prop := ∃ d, d < n ∧ (∀ k, k < d → p k = q k) ∧ p d < q d
theorem Sp_lt {n : Nat} {p : Nat → Nat} (hn : n ≤ 6) (h : ∀ i, i < n → p i < n) : ∀ j, j ≤ n → Sp p j < 64 := by
  intro j
  induction j with
  | zero => intro _; show 0 < 64; decide
  | succ j ih => intro hj; exact bo_lt (ih (by omega)) (by have := h j (by omega); omega)
theorem Sp_bit (p : Nat → Nat) (v : Nat) : ∀ j, (Sp p j).testBit v = true ↔ ∃ k, k < j ∧ p k = v := by
  intro j
  induction j with
  | zero => exact ⟨fun h => by simp [Sp] at h, fun ⟨k, hk, _⟩ => absurd hk (Nat.not_lt_zero _)⟩
  | succ j ih =>
    show (Sp p j ||| 2 ^ (p j)).testBit v = true ↔ _
    rw [tb_or, Bool.or_eq_true, decide_eq_true_iff, ih]
    constructor
    · rintro (⟨k, hk, e⟩ | e)
      · exact ⟨k, by omega, e⟩
      · exact ⟨j, by omega, e⟩
    · rintro ⟨k, hk, e⟩
      by_cases hkj : k = j
      · subst hkj; exact Or.inr e
      · exact Or.inl ⟨k, by omega, e⟩
theorem tb_false {s v : Nat} (h : ¬ s.testBit v = true) : s.testBit v = false := by simpa using h
theorem Sp_fresh {n : Nat} {p : Nat → Nat} (h : ∀ a b, a < n → b < n → p a = p b → a = b) {j : Nat} (hj : j < n) : (Sp p j).testBit (p j) = false := tb_false (fun hb => by
  obtain ⟨k, hk, e⟩ := (Sp_bit p (p j) j).mp hb
  have := h k j (by omega) hj e
  omega)
theorem esk_Sp {n : Nat} {r : Nat → Int32} {p : Nat → Nat} (h : PM n p) : ∀ j, j ≤ n → esk r (Sp p j) n = sm r p j := by
  have z : ∀ k, esk r 0 k = 0 := by
    intro k
    induction k with
    | zero => rfl
    | succ k ih => show esk r 0 k + _ = 0; rw [ih, if_neg (by simp)]; rfl
  intro j
  induction j with
  | zero => intro _; exact z n
  | succ j ih =>
    intro hj
    show esk r (Sp p j ||| 2 ^ (p j)) n = sm r p j + _
    rw [esk_or (Sp_fresh h.2.1 (by omega)), ih (by omega), if_pos (h.1 j (by omega))]
theorem gm_succ (r : Nat → Int32) (p : Nat → Nat) (j : Nat) : gm r p (j + 1) = if ((sm r p (j + 1)).natAbs : Int) ≤ gm r p j then gm r p j else ((sm r p (j + 1)).natAbs : Int) := rfl
theorem gm_nn (r : Nat → Int32) (p : Nat → Nat) : ∀ j, 0 ≤ gm r p j := by
  intro j
  induction j with
  | zero => exact Int.le_refl _
  | succ j ih =>
    rw [gm_succ]
    generalize ((sm r p (j + 1)).natAbs : Int) = x
    split <;> omega
theorem gm_ge (r : Nat → Int32) (p : Nat → Nat) : ∀ j k, k ≤ j → ((sm r p k).natAbs : Int) ≤ gm r p j := by
  intro j
  induction j with
  | zero => intro k hk; have : k = 0 := by omega
            subst this; exact Int.le_refl _
  | succ j ih =>
    intro k hk
    rw [gm_succ]
    by_cases hkj : k = j + 1
    · subst hkj
      generalize ((sm r p (j + 1)).natAbs : Int) = x
      split <;> omega
    · have := ih k (by omega)
      generalize ((sm r p (j + 1)).natAbs : Int) = x
      generalize ((sm r p k).natAbs : Int) = y at this ⊢
      split <;> omega
theorem gm_le {r : Nat → Int32} {p : Nat → Nat} {B : Int} (hB : 0 ≤ B) : ∀ j, (∀ k, k ≤ j → ((sm r p k).natAbs : Int) ≤ B) → gm r p j ≤ B := by
  intro j
  induction j with
  | zero => intro _; exact hB
  | succ j ih =>
    intro h
    rw [gm_succ]
    have h1 := ih (fun k hk => h k (by omega))
    have h2 := h (j + 1) (Nat.le_refl _)
    split
    · exact h1
    · exact h2
section ORD
variable {n : Nat} {r W : Nat → Int32}
theorem cl1 (hn : n ≤ 6) (hW : ∀ q, q < 64 → WS n r W q) {p : Nat → Nat} (h : PM n p) {B : Int} : ∀ d j, j + d = n → (∀ k, j ≤ k → k ≤ n → ((sm r p k).natAbs : Int) ≤ B) → (W (Sp p j)).toInt ≤ B := by
  intro d
  induction d with
  | zero =>
    intro j hj hB
    have hj : j = n := by omega
    subst hj
    have hs := Sp_lt hn h.1 j (Nat.le_refl _)
    rw [(hW _ hs).2.2.1 (fun l hl => (Sp_bit p l j).mpr (by obtain ⟨i, hi, e⟩ := h.2.2 l hl; exact ⟨i, hi, e⟩)), esk_Sp h j (Nat.le_refl _)]
    exact hB j (Nat.le_refl _) (Nat.le_refl _)
  | succ d ih =>
    intro j hj hB
    have hs := Sp_lt hn h.1 j (by omega)
    have h1 := ih (j + 1) (by omega) (fun k h1 h2 => hB k (by omega) h2)
    have h2 := hB j (Nat.le_refl _) (by omega)
    rw [← esk_Sp h j (by omega)] at h2
    rcases (hW _ hs).2.1 (p j) (h.1 j (by omega)) (Sp_fresh h.2.1 (by omega)) with h3 | h3
    · omega
    · have : (W (Sp p (j + 1))).toInt ≤ B := h1
      have e : W (Sp p j ||| 2 ^ p j) = W (Sp p (j + 1)) := rfl
      rw [e] at h3
      omega
theorem cl1' (hn : n ≤ 6) (hW : ∀ q, q < 64 → WS n r W q) {p : Nat → Nat} (h : PM n p) {j : Nat} (hj : j ≤ n) : (W (Sp p j)).toInt ≤ gm r p n :=
  cl1 hn hW h (n - j) j (by omega) (fun k _ h2 => gm_ge r p n k h2)
theorem fb_loop (hn : n ≤ 6) {s : Nat} (hs : s < 64) (hex : ∃ l, l < n ∧ s.testBit l = false ∧ (W (s ||| 2 ^ l)).toInt ≤ (W 0).toInt) : ∀ (f k : Nat), k ≤ n → n - k < f → (∀ l, l < k → s.testBit l = false → (W 0).toInt < (W (s ||| 2 ^ l)).toInt) → ∃ i, i < n ∧ F_X3_firstBehind_2 (nI n) W (nI s) f (nI k) = nI i ∧ s.testBit i = false ∧ (W (s ||| 2 ^ i)).toInt ≤ (W 0).toInt ∧ ∀ l, l < i → s.testBit l = false → (W 0).toInt < (W (s ||| 2 ^ l)).toInt := by
  have ez : (0 : Int32).toNatClampNeg = 0 := rfl
  intro f
  induction f with
  | zero => intro k _ h _; exact absurd h (Nat.not_lt_zero _)
  | succ f ih =>
    intro k hk hm hl
    rw [F_X3_firstBehind_2.eq_2]
    by_cases hc : k < n
    · rw [if_neg (show ¬ nI n ≤ nI k from fun hq => by have := (iN_le (a := n) (b := k) (by omega) (by omega)).mp hq; omega), bt hs (by omega), bo hs (by omega), lbv (bo_lt hs (by omega)), ez, nI_suc (by omega)]
      by_cases hb : s.testBit k = true
      · rw [if_pos hb, if_neg (by decide)]
        refine ih (k + 1) (by omega) (by omega) (fun l h1 h2 => ?_)
        by_cases hlk : l = k
        · rw [hlk, hb] at h2; exact absurd h2 (by decide)
        · exact hl l (by omega) h2
      · rw [if_neg hb, if_pos rfl]
        by_cases h3 : W 0 < W (s ||| 2 ^ k)
        · rw [if_pos h3]
          refine ih (k + 1) (by omega) (by omega) (fun l h1 h2 => ?_)
          by_cases hlk : l = k
          · rw [hlk]; exact ti_lt.mp h3
          · exact hl l (by omega) h2
        · rw [if_neg h3]
          exact ⟨k, hc, rfl, tb_false hb, ti_nlt h3, hl⟩
    · exfalso
      obtain ⟨l, h1, h2, h3⟩ := hex
      have := hl l (by omega) h2
      omega
/-- the first by which the least can be kept -/
def fbn (n : Nat) (W : Nat → Int32) (s : Nat) : Nat := (F_X3_firstBehind (nI n) W (nI s)).toInt.toNat
theorem fb_ok (hn : n ≤ 6) {s : Nat} (hs : s < 64) (hex : ∃ l, l < n ∧ s.testBit l = false ∧ (W (s ||| 2 ^ l)).toInt ≤ (W 0).toInt) : F_X3_firstBehind (nI n) W (nI s) = nI (fbn n W s) ∧ fbn n W s < n ∧ s.testBit (fbn n W s) = false ∧ (W (s ||| 2 ^ (fbn n W s))).toInt ≤ (W 0).toInt ∧ ∀ l, l < fbn n W s → s.testBit l = false → (W 0).toInt < (W (s ||| 2 ^ l)).toInt := by
  obtain ⟨i, h1, h2, h3⟩ := fb_loop hn hs hex 9 0 (Nat.zero_le _) (by omega) (fun l h => absurd h (Nat.not_lt_zero _))
  have e0 : F_X3_firstBehind (nI n) W (nI s) = nI i := by rw [iz] at h2; exact h2
  have e : fbn n W s = i := by
    unfold fbn
    rw [e0, nI_toInt (by omega)]; omega
  rw [e, e0]
  exact ⟨rfl, h1, h3⟩
def gs (n : Nat) (W : Nat → Int32) : Nat → Nat
  | 0 => 0
  | j + 1 => gs n W j ||| 2 ^ (fbn n W (gs n W j))
def gg (n : Nat) (W : Nat → Int32) (j : Nat) : Nat := fbn n W (gs n W j)
theorem Sp_gg : ∀ j, Sp (gg n W) j = gs n W j := by
  intro j
  induction j with
  | zero => rfl
  | succ j ih => show Sp (gg n W) j ||| 2 ^ (gg n W j) = _; rw [ih]; rfl
def GI (n : Nat) (W : Nat → Int32) (j : Nat) : Prop := gs n W j < 64 ∧ (∀ i : Fin 6, n ≤ i.val → (gs n W j).testBit i.val = false) ∧ pc (gs n W j) = j ∧ (W (gs n W j)).toInt ≤ (W 0).toInt
theorem GI.next (hn : n ≤ 6) (hW : ∀ q, q < 64 → WS n r W q) {j : Nat} (hj : j < n) (h : GI n W j) : F_X3_firstBehind (nI n) W (nI (gs n W j)) = nI (gg n W j) ∧ gg n W j < n ∧ (gs n W j).testBit (gg n W j) = false ∧ (W (gs n W j ||| 2 ^ (gg n W j))).toInt ≤ (W 0).toInt ∧ ∀ l, l < gg n W j → (gs n W j).testBit l = false → (W 0).toInt < (W (gs n W j ||| 2 ^ l)).toInt := by
  obtain ⟨h1, h2, h3, h4⟩ := h
  refine fb_ok hn h1 ?_
  have hex : ∃ l, l < n ∧ (gs n W j).testBit l = false := by
    refine Classical.byContradiction (fun hne => ?_)
    have hall := (d_full ⟨n, by omega⟩ ⟨gs n W j, h1⟩ h2).mp (fun i hi => by
      refine Classical.byContradiction (fun hb => ?_)
      exact hne ⟨i.val, hi, tb_false hb⟩)
    have hall : pc (gs n W j) = n := hall
    omega
  obtain ⟨k, k1, k2, k3⟩ := (hW _ h1).2.2.2 hex
  exact ⟨k, k1, k2, Int.le_trans k3 h4⟩
theorem GI.all (hn : n ≤ 6) (hW : ∀ q, q < 64 → WS n r W q) : ∀ j, j ≤ n → GI n W j := by
  intro j
  induction j with
  | zero => intro _; exact ⟨(show 0 < 64 by decide), fun i _ => (by show (0 : Nat).testBit i.val = false; simp), (show pc 0 = 0 by decide), Int.le_refl _⟩
  | succ j ih =>
    intro hj
    have h := ih (by omega)
    obtain ⟨f1, f2, f3, f4, f5⟩ := h.next hn hW (by omega)
    obtain ⟨h1, h2, h3, h4⟩ := h
    refine ⟨bo_lt h1 (by show gg n W j < 6; omega), fun i hi => ?_, ?_, f4⟩
    · show (gs n W j ||| 2 ^ (gg n W j)).testBit i.val = false
      rw [tb_or, h2 i hi]
      have : ¬ gg n W j = i.val := by omega
      simp [this]
    · show pc (gs n W j ||| 2 ^ (gg n W j)) = j + 1
      rw [d_pc ⟨gs n W j, h1⟩ ⟨gg n W j, by omega⟩ f3]
      show pc (gs n W j) + 1 = j + 1
      rw [h3]
theorem gg_PM (hn : n ≤ 6) (hW : ∀ q, q < 64 → WS n r W q) : PM n (gg n W) := by
  refine ⟨fun i hi => ((GI.all hn hW i (by omega)).next hn hW hi).2.1, ?_, fun v hv => ?_⟩
  · have key : ∀ a b, a < b → b < n → ¬ gg n W a = gg n W b := fun a b hab hb e => by
      have h3 := ((GI.all hn hW b (by omega)).next hn hW hb).2.2.1
      rw [← Sp_gg, ← e] at h3
      have := (Sp_bit (gg n W) (gg n W a) b).mpr ⟨a, hab, rfl⟩
      rw [h3] at this
      exact absurd this (by decide)
    intro a b ha hb e
    rcases Nat.lt_trichotomy a b with hl | hl | hl
    · exact absurd e (key a b hl hb)
    · exact hl
    · exact absurd e.symm (key b a hl ha)
  · obtain ⟨h1, h2, h3, h4⟩ := GI.all hn hW n (Nat.le_refl _)
    have := (d_full ⟨n, by omega⟩ ⟨gs n W n, h1⟩ h2).mpr h3 ⟨v, by omega⟩ hv
    have this : (gs n W n).testBit v = true := this
    rw [← Sp_gg] at this
    exact (Sp_bit (gg n W) v n).mp this
theorem gg_gm (hn : n ≤ 6) (hW : ∀ q, q < 64 → WS n r W q) : gm r (gg n W) n = (W 0).toInt := by
  have hp := gg_PM hn hW
  have h1 : (W 0).toInt ≤ gm r (gg n W) n := cl1' hn hW hp (Nat.zero_le _)
  have h0 : 0 ≤ (W 0).toInt := by
    have := (hW 0 (by decide)).1; omega
  have h2 : gm r (gg n W) n ≤ (W 0).toInt := gm_le h0 n (fun k hk => by
    rw [← esk_Sp hp k hk]
    have a := (hW _ (Sp_lt hn hp.1 k hk)).1
    have b := (GI.all hn hW k hk).2.2.2
    rw [← Sp_gg] at b
    omega)
  omega
theorem cl3 (hn : n ≤ 6) (hW : ∀ q, q < 64 → WS n r W q) {p : Nat → Nat} (h : PM n p) (hl : gm r p n ≤ (W 0).toInt) : ¬ lx n p (gg n W) := fun ⟨d, hd, he, hlt⟩ => by
  have hS : ∀ j, j ≤ d → Sp p j = Sp (gg n W) j := by
    intro j
    induction j with
    | zero => intro _; rfl
    | succ j ih => intro hj; show Sp p j ||| 2 ^ (p j) = Sp (gg n W) j ||| 2 ^ (gg n W j); rw [ih (by omega), he j (by omega)]
  have f5 := ((GI.all hn hW d (by omega)).next hn hW hd).2.2.2.2
  have h1 := cl1' hn hW h (j := d + 1) (by omega)
  have e1 : Sp p (d + 1) = gs n W d ||| 2 ^ (p d) := by show Sp p d ||| 2 ^ (p d) = _; rw [hS d (Nat.le_refl _), Sp_gg]
  have h2 := Sp_fresh h.2.1 hd
  rw [hS d (Nat.le_refl _), Sp_gg] at h2
  have := f5 (p d) hlt h2
  rw [e1] at h1
  omega
end ORD
-- rows in their order
theorem lx_trans {n : Nat} {p q s : Nat → Nat} (h1 : lx n p q) (h2 : lx n q s) : lx n p s := by
  obtain ⟨a, ha, ea, la⟩ := h1
  obtain ⟨b, hb, eb, lb⟩ := h2
  rcases Nat.lt_trichotomy a b with h | h | h
  · exact ⟨a, ha, fun k hk => by rw [ea k hk, eb k (by omega)], by rw [← eb a h]; exact la⟩
  · subst h
    exact ⟨a, ha, fun k hk => by rw [ea k hk, eb k hk], by omega⟩
  · exact ⟨b, hb, fun k hk => by rw [ea k (by omega), eb k hk], by rw [ea b h]; exact lb⟩
theorem lx_first {n : Nat} {p q : Nat → Nat} (h : ¬ ∀ k, k < n → p k = q k) : ∃ d, d < n ∧ (∀ k, k < d → p k = q k) ∧ ¬ p d = q d := by
  induction n with
  | zero => exact absurd (fun k hk => absurd hk (Nat.not_lt_zero _)) h
  | succ n ih =>
    by_cases hn : ∀ k, k < n → p k = q k
    · refine ⟨n, by omega, hn, fun e => h (fun k hk => ?_)⟩
      by_cases hk' : k = n
      · rw [hk']; exact e
      · exact hn k (by omega)
    · obtain ⟨d, h1, h2, h3⟩ := ih hn
      exact ⟨d, by omega, h2, h3⟩
/-- what comes at d of a row that is alike ahead of d, stands in the other one from d on -/
theorem later {n : Nat} {p q : Nat → Nat} (hp : PM n p) (hq : PM n q) {d : Nat} (hd : d < n) (he : ∀ k, k < d → p k = q k) : ∃ m, d ≤ m ∧ m < n ∧ p m = q d := by
  obtain ⟨m, hm, e⟩ := hp.2.2 (q d) (hq.1 d hd)
  refine ⟨m, ?_, hm, e⟩
  refine Nat.not_lt.mp (fun hl => ?_)
  have := he m hl
  rw [e] at this
  have := hq.2.1 d m hd hm this
  omega
theorem desc_lt {n i : Nat} {p : Nat → Nat} (h : ∀ k, i < k → k + 1 < n → p (k + 1) < p k) : ∀ a b, i < a → a < b → b < n → p b < p a := by
  intro a b ha hab
  induction b with
  | zero => omega
  | succ b ih =>
    intro hb
    have h1 := h b (by omega) hb
    by_cases e : a = b
    · subst e; exact h1
    · have := ih (by omega) (by omega)
      omega
theorem no_skip {n i j : Nat} {p q : Nat → Nat} (hp : PM n p) (hq : PM n q) (hij : i < j) (hj : j < n) (hd : ∀ k, i < k → k + 1 < n → p (k + 1) < p k) (hv : p i < p j) (hw : ∀ k, j < k → k < n → p k < p i) (hl : lx n p q) : (∀ k, k < n → q k = p (nxt n i j k)) ∨ lx n (fun k => p (nxt n i j k)) q := by
  have dl := desc_lt hd
  have xl : ∀ k, k < i → nxt n i j k = k := fun k hk => by unfold nxt; rw [if_pos hk]
  have xi : nxt n i j i = j := by unfold nxt; rw [if_neg (Nat.lt_irrefl _), if_pos rfl]
  obtain ⟨d, hdn, he, hlt⟩ := hl
  obtain ⟨m, m1, m2, m3⟩ := later hp hq hdn he
  have hdi : d ≤ i := Nat.not_lt.mp (fun h => by
    have hmd : ¬ m = d := fun e => by rw [e] at m3; omega
    have := dl d m h (by omega) m2
    omega)
  by_cases hdi2 : d < i
  · right
    exact ⟨d, hdn, fun k hk => by show p (nxt n i j k) = q k; rw [xl k (by omega)]; exact he k hk, by show p (nxt n i j d) < q d; rw [xl d hdi2]; exact hlt⟩
  · have e : d = i := by omega
    subst e
    have hmd : ¬ m = d := fun e => by rw [e] at m3; omega
    have hmj : m ≤ j := Nat.not_lt.mp (fun h => by have := hw m h m2; omega)
    by_cases hme : m = j
    · -- the same here: behind it the least comes first
      by_cases hall : ∀ k, k < n → q k = p (nxt n d j k)
      · exact Or.inl hall
      · right
        obtain ⟨e', he', hea, hne⟩ := lx_first (n := n) (p := q) (q := fun k => p (nxt n d j k)) hall
        have hpm : PM n (fun k => p (nxt n d j k)) := ⟨fun k hk => hp.1 _ (nxt_lt hij hj hk), fun a b ha hb hab => nxt_inj hij hj ha hb (hp.2.1 _ _ (nxt_lt hij hj ha) (nxt_lt hij hj hb) hab), fun v hv => by
          obtain ⟨a, ha, ea⟩ := hp.2.2 v hv
          obtain ⟨b, hb, eb⟩ := nxt_sur hij hj ha
          exact ⟨b, hb, by show p (nxt n d j b) = v; rw [eb]; exact ea⟩⟩
        have hgt : d < e' := Nat.not_le.mp (fun hle => hne (by
          show q e' = p (nxt n d j e')
          by_cases h1 : e' = d
          · rw [h1, xi, ← m3, hme]
          · rw [xl e' (by omega)]; exact (he e' (by omega)).symm))
        obtain ⟨m', n1, n2, n3⟩ := later hpm hq he' (fun k hk => (hea k hk).symm)
        have n3 : p (nxt n d j m') = q e' := n3
        have hm' : ¬ m' = e' := fun h => hne (by rw [h] at n3; exact n3.symm)
        refine ⟨e', he', fun k hk => (hea k hk).symm, ?_⟩
        show p (nxt n d j e') < q e'
        rw [← n3]
        -- behind d the next row rises
        have asc : ∀ a b, d < a → a < b → b < n → p (nxt n d j a) < p (nxt n d j b) := fun a b ha hab hb => by
          have ea : nxt n d j a = if d + n - a = j then d else d + n - a := by unfold nxt; rw [if_neg (by omega), if_neg (by omega), if_pos (by omega)]
          have eb : nxt n d j b = if d + n - b = j then d else d + n - b := by unfold nxt; rw [if_neg (by omega), if_neg (by omega), if_pos (by omega)]
          rw [ea, eb]
          by_cases h1 : d + n - a = j
          · rw [if_pos h1, if_neg (show ¬ d + n - b = j by omega)]
            have := dl (d + n - b) j (by omega) (by omega) hj
            omega
          · rw [if_neg h1]
            by_cases h2 : d + n - b = j
            · rw [if_pos h2]
              exact hw _ (by omega) (by omega)
            · rw [if_neg h2]
              exact dl _ _ (by omega) (by omega) (by omega)
        exact asc e' m' hgt (by omega) n2
    · right
      have h1 : p j < p m := dl m j (by omega) (by omega) hj
      exact ⟨d, hdn, fun k hk => by show p (nxt n d j k) = q k; rw [xl k hk]; exact he k hk, by show p (nxt n d j d) < q d; rw [xi]; omega⟩
theorem last_row {n : Nat} {p q : Nat → Nat} (hp : PM n p) (hq : PM n q) (hd : ∀ k, k + 1 < n → p (k + 1) < p k) : ¬ lx n p q := fun ⟨d, hdn, he, hlt⟩ => by
  obtain ⟨m, m1, m2, m3⟩ := later hp hq hdn he
  have key : ∀ b, d < b → b < n → p b < p d := by
    intro b
    induction b with
    | zero => intro h _; omega
    | succ b ih =>
      intro h1 h2
      have := hd b h2
      by_cases e : d = b
      · subst e; exact this
      · have := ih (by omega) (by omega); omega
  by_cases h : m = d
  · rw [h] at m3; omega
  · have := key m (by omega) m2; omega
theorem first_row {n : Nat} {q : Nat → Nat} (hq : PM n q) : (∀ k, k < n → q k = k) ∨ lx n (fun k => k) q := by
  by_cases hall : ∀ k, k < n → q k = k
  · exact Or.inl hall
  · right
    obtain ⟨d, h1, h2, h3⟩ := lx_first (n := n) (p := q) (q := fun k => k) hall
    refine ⟨d, h1, fun k hk => (h2 k hk).symm, ?_⟩
    show d < q d
    refine Nat.lt_of_le_of_ne (Nat.not_lt.mp (fun h => ?_)) (fun e => h3 e.symm)
    have : q (q d) = q d := h2 (q d) h
    have := hq.2.1 (q d) d (hq.1 d h1) h1 this
    omega
