theorem nI_tn {n : Nat} (h : n < 2 ^ 31) : (nI n).toNatClampNeg = n := by
  have e := tn_of (x := nI n) (by rw [nI_toInt h]; omega)
  rw [nI_toInt h] at e
  omega
theorem iN_of {x : Int32} (h : 0 ≤ x.toInt) : nI x.toInt.toNat = x := by
  have := Int32.toInt_lt x
  exact Int32.toInt_inj.mp (by rw [nI_toInt (by omega)]; omega)
theorem nI_suc {n : Nat} (h : n + 1 < 2 ^ 31) : nI n + 1 = nI (n + 1) := by
  have e := nI_toInt (n := n) (by omega)
  exact Int32.toInt_inj.mp (by rw [ti_inc (by omega), nI_toInt h]; omega)
theorem nI_prd {n : Nat} (h : n + 1 < 2 ^ 31) : nI (n + 1) + (-1) = nI n := by
  have e := nI_toInt (n := n + 1) (by omega)
  have e2 := nI_toInt (n := n) (by omega)
  exact Int32.toInt_inj.mp (by rw [ti_dec (by omega), e2]; omega)
theorem iN_le {a b : Nat} (ha : a < 2 ^ 31) (hb : b < 2 ^ 31) : nI a ≤ nI b ↔ a ≤ b := by
  rw [ti_le, nI_toInt ha, nI_toInt hb]; omega
theorem iN_lt {a b : Nat} (ha : a < 2 ^ 31) (hb : b < 2 ^ 31) : nI a < nI b ↔ a < b := by
  rw [ti_lt, nI_toInt ha, nI_toInt hb]; omega
/-- a row turned round from lo to hi -/
def rvs (s : Nat → Int32) (lo hi : Nat) : Nat → Int32 := fun k => if lo ≤ k ∧ k ≤ hi then s (lo + hi - k) else s k
theorem nr107 : ∀ (f hi lo : Nat) (v : Int32) (s : Nat → Int32), hi < 100 → lo < 100 → lo ≤ hi + 1 → hi - lo < f → F_X7_nextRow_107 f (nI hi) (nI lo) v s = (1, rvs s lo hi) := by
  intro f
  induction f with
  | zero => intro hi lo v s _ _ _ h; exact absurd h (Nat.not_lt_zero _)
  | succ n ih =>
    intro hi lo v s hb hb2 hle hf
    rw [F_X7_nextRow_107.eq_2]
    split
    · rename_i hc
      have hc := (iN_le (by omega) (by omega)).mp hc
      have e : rvs s lo hi = s := by
        funext k; unfold rvs; split
        · congr 1; omega
        · rfl
      rw [e]
    · rename_i hc
      have hc : lo < hi := by
        have := mt (iN_le (a := hi) (b := lo) (by omega) (by omega)).mpr hc; omega
      obtain ⟨h', rfl⟩ : ∃ h', hi = h' + 1 := ⟨hi - 1, by omega⟩
      rw [nI_prd (by omega), nI_suc (by omega), nI_tn (by omega), nI_tn (by omega)]
      rw [ih h' (lo + 1) _ _ (by omega) (by omega) (by omega) (by omega)]
      congr 1
      funext k
      unfold rvs upd
      by_cases h1 : lo + 1 ≤ k ∧ k ≤ h'
      · rw [if_pos h1, if_pos (show lo ≤ k ∧ k ≤ h' + 1 by omega), if_neg (by omega), if_neg (by omega)]
        congr 1; omega
      · rw [if_neg h1]
        by_cases h2 : k = h' + 1
        · rw [if_pos h2, if_pos (show lo ≤ k ∧ k ≤ h' + 1 by omega)]
          congr 1; omega
        · rw [if_neg h2]
          by_cases h3 : k = lo
          · rw [if_pos h3, if_pos (show lo ≤ k ∧ k ≤ h' + 1 by omega)]
            congr 1; omega
          · rw [if_neg h3, if_neg (show ¬ (lo ≤ k ∧ k ≤ h' + 1) by omega)]
theorem nr47 {r : Nat → Int32} {n i : Nat} (hn : n ≤ 6) (hi : i + 1 < n) (hu : r i ≤ r (i + 1)) : ∀ (f j : Nat), i < j → j < n → j - i ≤ f → (∀ k, j < k → k < n → ¬ r i ≤ r k) →
    ∃ j', i < j' ∧ j' < n ∧ r i ≤ r j' ∧ (∀ k, j' < k → k < n → ¬ r i ≤ r k) ∧ F_X7_nextRow_47 r (nI n) (nI i) f (nI j) = (1, rvs (upd (upd r i (r j')) j' (r i)) (i + 1) (n - 1)) := by
  intro f
  induction f with
  | zero => intro j h1 _ h _; omega
  | succ f ih =>
    intro j h1 h2 hf hd
    rw [F_X7_nextRow_47.eq_2]
    split
    · rename_i hc
      rw [nI_tn (by omega), nI_tn (by omega)] at hc
      refine ⟨j, h1, h2, hc, hd, ?_⟩
      have e1 : nI n - 1 = nI (n - 1) := Int32.toInt_inj.mp (by rw [ti_sub1 (by rw [nI_toInt (by omega)]; omega), nI_toInt (by omega), nI_toInt (by omega)]; omega)
      rw [e1, nI_suc (by omega), nr107 7 (n - 1) (i + 1) _ _ (by omega) (by omega) (by omega) (by omega), nI_tn (by omega), nI_tn (by omega)]
    · rename_i hc
      rw [nI_tn (by omega), nI_tn (by omega)] at hc
      have hne : ¬ j = i + 1 := fun e => hc (by rw [e]; exact hu)
      obtain ⟨j', rfl⟩ : ∃ j', j = j' + 1 := ⟨j - 1, by omega⟩
      rw [nI_prd (by omega)]
      refine ih j' (by omega) (by omega) (by omega) (fun k k1 k2 => ?_)
      by_cases h : k = j' + 1
      · rw [h]; exact hc
      · exact hd k (by omega) k2
/-- the row behind a row -/
def nxr (r : Nat → Int32) (n i j : Nat) : Nat → Int32 := rvs (upd (upd r i (r j)) j (r i)) (i + 1) (n - 1)
theorem nr7 {r : Nat → Int32} {n : Nat} (hn : n ≤ 6) : ∀ (f i : Nat), i + 1 < n → i + 1 < f → (∀ k, i < k → k + 1 < n → ¬ r k ≤ r (k + 1)) →
    (F_X7_nextRow_7 r (nI n) f (nI i) = (0, r) ∧ ∀ k, k + 1 < n → ¬ r k ≤ r (k + 1)) ∨
    ∃ i' j', i' < j' ∧ j' < n ∧ r i' ≤ r (i' + 1) ∧ (∀ k, i' < k → k + 1 < n → ¬ r k ≤ r (k + 1)) ∧ r i' ≤ r j' ∧ (∀ k, j' < k → k < n → ¬ r i' ≤ r k) ∧ F_X7_nextRow_7 r (nI n) f (nI i) = (1, nxr r n i' j') := by
  intro f
  induction f with
  | zero => intro i _ h _; exact absurd h (Nat.not_lt_zero _)
  | succ f ih =>
    intro i h1 hf hd
    rw [F_X7_nextRow_7.eq_2]
    have hneg : ¬ nI i < 0 := fun h => by
      have := ti_lt.mp h
      rw [nI_toInt (by omega)] at this
      have e0 : (0 : Int32).toInt = 0 := rfl
      omega
    rw [if_neg hneg, nI_suc (by omega), nI_tn (by omega), nI_tn (by omega)]
    split
    · rename_i hc
      right
      have h0 : (0 : Int32) ≤ nI i := ti_le.mpr (by rw [nI_toInt (by omega)]; have e0 : (0 : Int32).toInt = 0 := rfl; omega)
      unfold F_X7_nextRow_34
      rw [if_pos h0]
      have e1 : nI n - 1 = nI (n - 1) := Int32.toInt_inj.mp (by rw [ti_sub1 (by rw [nI_toInt (by omega)]; omega), nI_toInt (by omega), nI_toInt (by omega)]; omega)
      rw [e1]
      obtain ⟨j', j1, j2, j3, j4, j5⟩ := nr47 hn h1 hc 7 (n - 1) (by omega) (by omega) (by omega) (fun k k1 k2 => by omega)
      exact ⟨i, j', j1, j2, hc, hd, j3, j4, j5⟩
    · rename_i hc
      have hd' : ∀ k, i ≤ k → k + 1 < n → ¬ r k ≤ r (k + 1) := fun k k1 k2 => by
        by_cases h : k = i
        · rw [h]; exact hc
        · exact hd k (by omega) k2
      cases i with
      | zero =>
        left
        obtain ⟨f', rfl⟩ : ∃ f', f = f' + 1 := ⟨f - 1, by omega⟩
        have hm : nI 0 + (-1) < 0 := by decide
        have hm2 : ¬ 0 ≤ nI 0 + (-1) := by decide
        rw [F_X7_nextRow_7.eq_2, if_pos hm]
        unfold F_X7_nextRow_34
        rw [if_neg hm2]
        exact ⟨rfl, fun k => hd' k (Nat.zero_le k)⟩
      | succ i =>
        rw [nI_prd (by omega)]
        exact ih i (by omega) (by omega) (fun k k1 k2 => hd' k (by omega) k2)
theorem nr_all {r : Nat → Int32} {n : Nat} (h1 : 1 ≤ n) (hn : n ≤ 6) :
    (F_X7_nextRow r (nI n) = (0, r) ∧ ∀ k, k + 1 < n → ¬ r k ≤ r (k + 1)) ∨
    ∃ i' j', i' < j' ∧ j' < n ∧ r i' ≤ r (i' + 1) ∧ (∀ k, i' < k → k + 1 < n → ¬ r k ≤ r (k + 1)) ∧ r i' ≤ r j' ∧ (∀ k, j' < k → k < n → ¬ r i' ≤ r k) ∧ F_X7_nextRow r (nI n) = (1, nxr r n i' j') := by
  unfold F_X7_nextRow
  by_cases h : n = 1
  · left
    subst h
    have hm : nI 1 - 2 < 0 := by decide
    have hm2 : ¬ 0 ≤ nI 1 - 2 := by decide
    rw [F_X7_nextRow_7.eq_2, if_pos hm]
    unfold F_X7_nextRow_34
    rw [if_neg hm2]
    exact ⟨rfl, fun k hk => by omega⟩
  · have e : nI n - 2 = nI (n - 2) := Int32.toInt_inj.mp (by rw [ti_sub2 (by rw [nI_toInt (by omega)]; omega), nI_toInt (by omega), nI_toInt (by omega)]; omega)
    rw [e]
    exact nr7 hn 6 (n - 2) (by omega) (by omega) (fun k k1 k2 => by omega)
/-- where a place of the next row was -/
def nxt (n i j k : Nat) : Nat := if k < i then k else if k = i then j else if k < n then (if i + n - k = j then i else i + n - k) else k
theorem nxr_at {r : Nat → Int32} {n i j : Nat} (hij : i < j) (hj : j < n) (k : Nat) : nxr r n i j k = r (nxt n i j k) := by
  have hu : ∀ q, upd (upd r i (r j)) j (r i) q = if q = j then r i else if q = i then r j else r q := fun _ => rfl
  unfold nxr rvs
  rw [hu, hu]
  by_cases h1 : k < i
  · have e : nxt n i j k = k := by unfold nxt; rw [if_pos h1]
    rw [e, if_neg (show ¬ (i + 1 ≤ k ∧ k ≤ n - 1) by omega), if_neg (show ¬ k = j by omega), if_neg (show ¬ k = i by omega)]
  · by_cases h2 : k = i
    · have e : nxt n i j k = j := by unfold nxt; rw [if_neg h1, if_pos h2]
      rw [e, if_neg (show ¬ (i + 1 ≤ k ∧ k ≤ n - 1) by omega), if_neg (show ¬ k = j by omega), if_pos h2]
    · by_cases h3 : k < n
      · have e0 : i + 1 + (n - 1) - k = i + n - k := by omega
        rw [if_pos (show i + 1 ≤ k ∧ k ≤ n - 1 by omega), e0]
        by_cases h4 : i + n - k = j
        · have e : nxt n i j k = i := by unfold nxt; rw [if_neg h1, if_neg h2, if_pos h3, if_pos h4]
          rw [e, if_pos h4]
        · have e : nxt n i j k = i + n - k := by unfold nxt; rw [if_neg h1, if_neg h2, if_pos h3, if_neg h4]
          rw [e, if_neg h4, if_neg (show ¬ i + n - k = i by omega)]
      · have e : nxt n i j k = k := by unfold nxt; rw [if_neg h1, if_neg h2, if_neg h3]
        rw [e, if_neg (show ¬ (i + 1 ≤ k ∧ k ≤ n - 1) by omega), if_neg (show ¬ k = j by omega), if_neg h2]
theorem nxt_lt {n i j k : Nat} (hij : i < j) (hj : j < n) (hk : k < n) : nxt n i j k < n := by
  unfold nxt; repeat' split
  all_goals omega
theorem nxt_inj {n i j k l : Nat} (hij : i < j) (hj : j < n) (hk : k < n) (hl : l < n) (h : nxt n i j k = nxt n i j l) : k = l := by
  unfold nxt at h; repeat' split at h
  all_goals omega
theorem nxt_sur {n i j k : Nat} (hij : i < j) (hj : j < n) (hk : k < n) : ∃ l, l < n ∧ nxt n i j l = k := by
  by_cases h1 : k < i
  · exact ⟨k, hk, by unfold nxt; rw [if_pos h1]⟩
  · by_cases h2 : k = j
    · exact ⟨i, by omega, by unfold nxt; rw [if_neg (by omega), if_pos rfl, h2]⟩
    · by_cases h3 : k = i
      · refine ⟨i + n - j, by omega, ?_⟩
        unfold nxt
        rw [if_neg (by omega), if_neg (by omega), if_pos (by omega), if_pos (by omega), h3]
      · refine ⟨i + n - k, by omega, ?_⟩
        unfold nxt
        rw [if_neg (by omega), if_neg (by omega), if_pos (by omega), if_neg (by omega)]
        omega
/-- a row of clocks, each once -/
def RI (n : Nat) (r : Nat → Int32) : Prop := RowOk r ∧ ∀ a b, a < n → b < n → r a = r b → a = b
def vd (n : Nat) (r : Nat → Int32) (q : Nat) : Nat := if q < n then (7 - (r q).toInt).toNat else 0
theorem vd_le {n : Nat} {r : Nat → Int32} (h : RowOk r) (q : Nat) (hq : q < 6) : vd n r q ≤ 7 := by
  have := h q hq
  unfold vd; split <;> omega
theorem vd_eq {n q : Nat} {r s : Nat → Int32} (e : s q = r q) : vd n s q = vd n r q := by unfold vd; rw [e]
theorem vd_dec {n d : Nat} {r s : Nat → Int32} (hd : d < n) (h7 : (s d).toInt < 8) (hl : (r d).toInt < (s d).toInt) : vd n s d < vd n r d := by
  unfold vd; rw [if_pos hd, if_pos hd]; omega
def VD (n : Nat) (r : Nat → Int32) : Nat := vd n r 0 * 32768 + vd n r 1 * 4096 + vd n r 2 * 512 + vd n r 3 * 64 + vd n r 4 * 8 + vd n r 5
theorem VD_lt {n : Nat} {r : Nat → Int32} (h : RowOk r) : VD n r < 262145 := by
  have h0 := vd_le (n := n) h 0 (by decide)
  have h1 := vd_le (n := n) h 1 (by decide)
  have h2 := vd_le (n := n) h 2 (by decide)
  have h3 := vd_le (n := n) h 3 (by decide)
  have h4 := vd_le (n := n) h 4 (by decide)
  have h5 := vd_le (n := n) h 5 (by decide)
  unfold VD
  generalize vd n r 0 = a0 at *
  generalize vd n r 1 = a1 at *
  generalize vd n r 2 = a2 at *
  generalize vd n r 3 = a3 at *
  generalize vd n r 4 = a4 at *
  generalize vd n r 5 = a5 at *
  clear h
  omega
theorem vd_num {a0 a1 a2 a3 a4 a5 b0 b1 b2 b3 b4 b5 d : Nat} (g0 : b0 ≤ 7) (g1 : b1 ≤ 7) (g2 : b2 ≤ 7) (g3 : b3 ≤ 7) (g4 : b4 ≤ 7) (g5 : b5 ≤ 7) (hd : d < 6) (e0 : 0 < d → b0 = a0) (e1 : 1 < d → b1 = a1) (e2 : 2 < d → b2 = a2) (e3 : 3 < d → b3 = a3) (e4 : 4 < d → b4 = a4) (l0 : d = 0 → b0 < a0) (l1 : d = 1 → b1 < a1) (l2 : d = 2 → b2 < a2) (l3 : d = 3 → b3 < a3) (l4 : d = 4 → b4 < a4) (l5 : d = 5 → b5 < a5) : b0 * 32768 + b1 * 4096 + b2 * 512 + b3 * 64 + b4 * 8 + b5 < a0 * 32768 + a1 * 4096 + a2 * 512 + a3 * 64 + a4 * 8 + a5 := by
  have h6 : d = 0 ∨ d = 1 ∨ d = 2 ∨ d = 3 ∨ d = 4 ∨ d = 5 := by omega
  rcases h6 with rfl | rfl | rfl | rfl | rfl | rfl
  · have := l0 rfl; omega
  · have := l1 rfl; have := e0 (by decide); omega
  · have := l2 rfl; have := e0 (by decide); have := e1 (by decide); omega
  · have := l3 rfl; have := e0 (by decide); have := e1 (by decide); have := e2 (by decide); omega
  · have := l4 rfl; have := e0 (by decide); have := e1 (by decide); have := e2 (by decide); have := e3 (by decide); omega
  · have := l5 rfl; have := e0 (by decide); have := e1 (by decide); have := e2 (by decide); have := e3 (by decide); have := e4 (by decide); omega
theorem VD_dec {n d : Nat} {r s : Nat → Int32} (hs : RowOk s) (hn : n ≤ 6) (hd : d < n) (he : ∀ k, k < d → s k = r k) (hl : (r d).toInt < (s d).toInt) : VD n s < VD n r := by
  have key : ∀ q, d = q → vd n s q < vd n r q := fun q e => by
    subst e
    exact vd_dec hd (hs d (by omega)).2 hl
  exact vd_num (d := d) (vd_le hs 0 (by decide)) (vd_le hs 1 (by decide)) (vd_le hs 2 (by decide)) (vd_le hs 3 (by decide)) (vd_le hs 4 (by decide)) (vd_le hs 5 (by decide)) (by omega) (fun h => vd_eq (he 0 h)) (fun h => vd_eq (he 1 h)) (fun h => vd_eq (he 2 h)) (fun h => vd_eq (he 3 h)) (fun h => vd_eq (he 4 h)) (key 0) (key 1) (key 2) (key 3) (key 4) (key 5)
theorem nxr_RI {r : Nat → Int32} {n i j : Nat} (hn : n ≤ 6) (hij : i < j) (hj : j < n) (h : RI n r) : RI n (nxr r n i j) := by
  refine ⟨fun k hk => ?_, fun a b ha hb e => ?_⟩
  · rw [nxr_at hij hj]
    refine h.1 _ ?_
    by_cases h2 : k < n
    · have := nxt_lt hij hj h2; omega
    · unfold nxt; repeat' split
      all_goals omega
  · rw [nxr_at hij hj, nxr_at hij hj] at e
    exact nxt_inj hij hj ha hb (h.2 _ _ (nxt_lt hij hj ha) (nxt_lt hij hj hb) e)
theorem nr_step {r : Nat → Int32} {n : Nat} (h1 : 1 ≤ n) (hn : n ≤ 6) (h : RI n r) (hc : ¬ (F_X7_nextRow r (nI n)).1 = 0) : RI n (F_X7_nextRow r (nI n)).2 ∧ VD n (F_X7_nextRow r (nI n)).2 < VD n r := by
  rcases nr_all (r := r) h1 hn with ⟨e, _⟩ | ⟨i, j, hij, hj, hu, hd, hv, hw, e⟩
  · rw [e] at hc; exact absurd rfl hc
  · rw [e]
    have hr := nxr_RI hn hij hj h
    refine ⟨hr, VD_dec hr.1 hn (d := i) (by omega) (fun k hk => ?_) ?_⟩
    · show nxr r n i j k = r k
      rw [nxr_at hij hj]; unfold nxt; rw [if_pos hk]
    · show (r i).toInt < (nxr r n i j i).toInt
      rw [nxr_at hij hj]
      unfold nxt; rw [if_neg (Nat.lt_irrefl _), if_pos rfl]
      have := ti_le.mp hv
      have hne : ¬ (r i).toInt = (r j).toInt := fun e => by
        have := h.2 i j (by omega) hj (Int32.toInt_inj.mp e); omega
      omega
/-- the clocks in their order, as many as there are -/
def Asc (n k : Int32) (r : Nat → Int32) : Prop := RowOk r ∧ (∀ a : Nat, a < 6 → (a : Int) < n.toInt → (r a).toInt < k.toInt) ∧ ∀ a b : Nat, a < b → b < 6 → (b : Int) < n.toInt → (r a).toInt < (r b).toInt
theorem Asc.RI {n k : Int32} {r : Nat → Int32} (h : Asc n k r) (h0 : 0 ≤ n.toInt) (h6 : n.toInt ≤ 6) : RI n.toInt.toNat r := by
  refine ⟨h.1, fun a b ha hb e => ?_⟩
  rcases Nat.lt_trichotomy a b with hl | hl | hl
  · have := h.2.2 a b hl (by omega) (by omega); rw [e] at this; omega
  · exact hl
  · have := h.2.2 b a hl (by omega) (by omega); rw [e] at this; omega
theorem Asc.skip {n k : Int32} {r : Nat → Int32} (h : Asc n k r) (hk : k.toInt < 8) : Asc n (k + 1) r := by
  have e := ti_inc (a := k) (by omega)
  exact ⟨h.1, fun a a1 a2 => by have := h.2.1 a a1 a2; omega, h.2.2⟩
theorem Asc.more {n k : Int32} {r : Nat → Int32} (h : Asc n k r) (hn : 6 ≤ n.toInt) (hn8 : n.toInt ≤ 8) (hk : k.toInt < 8) : Asc (n + 1) (k + 1) r := by
  have e := ti_inc (a := k) (by omega)
  have e2 := ti_inc (a := n) (by omega)
  exact ⟨h.1, fun a a1 a2 => by have := h.2.1 a a1 (by omega); omega, fun a b h1 h2 h3 => h.2.2 a b h1 h2 (by omega)⟩
theorem Asc.add {n k : Int32} {r : Nat → Int32} (h : Asc n k r) (h0 : 0 ≤ n.toInt) (h6 : n.toInt < 6) (hk0 : 0 ≤ k.toInt) (hk : k.toInt < 8) : Asc (n + 1) (k + 1) (upd r n.toNatClampNeg k) := by
  have e := ti_inc (a := k) (by omega)
  have e2 := ti_inc (a := n) (by omega)
  have e3 := tn_of h0
  refine ⟨h.1.up hk0 hk, fun a a1 a2 => ?_, fun a b h1 h2 h3 => ?_⟩
  · unfold upd; split
    · omega
    · have := h.2.1 a a1 (by omega); omega
  · unfold upd
    by_cases hb : b = n.toNatClampNeg
    · rw [if_pos hb, if_neg (by omega)]
      have := h.2.1 a (by omega) (by omega); omega
    · rw [if_neg hb, if_neg (by omega)]
      exact h.2.2 a b h1 h2 (by omega)
theorem Asc.init {r : Nat → Int32} (h : RowOk r) : Asc 0 0 r := ⟨h, fun a _ h => by have e0 : (0 : Int32).toInt = 0 := rfl; omega, fun a b _ _ h => by have e0 : (0 : Int32).toInt = 0 := rfl; omega⟩
theorem nr_stepx {r : Nat → Int32} {x : Int32} (h : RI x.toInt.toNat r) (h1 : 1 ≤ x.toInt) (hn : x.toInt ≤ 6) : ¬ (F_X7_nextRow r x).1 = 0 → RI x.toInt.toNat (F_X7_nextRow r x).2 ∧ VD x.toInt.toNat (F_X7_nextRow r x).2 < VD x.toInt.toNat r := by
  have e := iN_of (x := x) (by omega)
  have := nr_step (r := r) (n := x.toInt.toNat) (by omega) (by omega) h
  rw [e] at this
  exact this
