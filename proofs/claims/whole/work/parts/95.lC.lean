set_option maxHeartbeats 4000000 in
/-- THE LAW'S LOOP -/
theorem law_loop {p : Program} {l : Launch} {e : Env} {s : State} {m : MethodId} {below : List Frame} {meth : Method} {c : Code} {D : va_G} {cI cZ cC cH : ClassId} {b L : Nat} {xs : Nat → Int32} (hL : L ≤ 3072) (C0 : lw_At p s m meth c b L xs) (C : LC p s m c D cI cZ cC cH b) :
    ∀ (n : Nat) (i : Int32) (o o7 : Nat) (w w7 : va_W) (H : Heap) (locs : List Loc) (ls : Array Slot), 0 ≤ i.toInt → i.toInt ≤ L → ((L : Int) - i.toInt).toNat < n → RelW cI cZ cC cH o o7 w w7 → HS D (fun q : Nat => s.heap.size ≤ q) s.heap (w ++ w7) H locs → lv_has ls 4 [(0, .ref b), (1, .ref o), (2, .ref o7), (3, .int i)] → W p l e room_1 s m #[Value.ref b] below meth c H locs 66 11288 (lw_Z below #[Value.ref b] s) (F0 m 18 ls []) := by
  obtain ⟨hx, hb, hr, hml, hown, hts, hX, hbl, hlocks, hgv⟩ := C0
  have hbA : ¬ (fun q : Nat => s.heap.size ≤ q) b := Nat.not_le.mpr hbl
  intro n
  induction n with
  | zero => intro i o o7 w w7 H locs ls _ _ h; exact absurd h (Nat.not_lt_zero _)
  | succ n ih =>
    intro i o o7 w w7 H locs ls i0 i1 hm hR hh hl
    refine lv_iload_n hx hb dL_law_18 rfl (lv_at hl 3 rfl) ?_
    refine lv_aload_n hx hb dL_law_19 rfl (lv_at hl 0 rfl) ?_
    refine va_slen hx hb hX hbl hbA hh.2.2 dL_law_20 ?_
    refine lv_bipush (v := 6) hx hb dL_law_21 (by decide) ?_
    refine lv_isub hx hb dL_law_23 ?_
    have eL : (Int32.ofNat L).toInt = (L : Int) := nI_toInt (n := L) (by omega)
    have e6 := ti_subc (Int32.ofNat L) 6 6 rfl (by omega) (by omega)
    refine lv_icmp_gt (tgt := 829) hx hb dL_law_24 (by decide) (fun c24 => ?_) (fun c24 => ?_)
    · refine lv_iconst (v := 1) hx hb dL_law_829 (by decide) ?_
      refine va_forget (fun q hq => hh.2.2.2.2 q hq) ?_
      refine W.widen (k := 600000) (n := 7302250) (Nat.le_of_ble_eq_true rfl) (Nat.le_of_ble_eq_true rfl) ?_
      exact lw_ret hx hb hr hlocks dL_law_830
    · have i2 : i.toInt + 6 ≤ L := by
        by_cases c : i.toInt + 6 ≤ L
        · exact c
        · exact absurd (ti_lt.mpr (by omega)) c24
      have K : ∀ (w1 w17 : va_W) (H1 : Heap) (locs1 : List Loc), RelW cI cZ cC cH o o7 w1 w17 → HS D (fun q : Nat => s.heap.size ≤ q) s.heap (w1 ++ w17) H1 locs1 → W p l e room_1 s m #[Value.ref b] below meth c H1 locs1 66 11288 (lw_Z below #[Value.ref b] s) (F0 m 823 ls []) := fun w1 w17 H1 locs1 hR1 hh1 => by
        have ei := ti_addc i 6 6 rfl (by omega) (by omega)
        refine lv_iinc (v := i + 6) (lv' := [(3, .int (i + 6)), (0, .ref b), (1, .ref o), (2, .ref o7)]) hx hb dL_law_823 hl (k := 3) rfl rfl (by decide) rfl (fun ls hl => ?_)
        refine lv_goto (tgt := 18) hx hb dL_law_826 (by decide) ?_
        exact ih (i + 6) o o7 w1 w17 H1 locs1 ls (by omega) (by omega) (by omega) hR1 hh1 (lv_sub hl [1, 2, 3, 0] rfl)
      refine lv_aload_n hx hb dL_law_27 rfl (lv_at hl 0 rfl) ?_
      refine lv_iload_n hx hb dL_law_28 rfl (lv_at hl 3 rfl) ?_
      refine va_sld hx hb hX hbl hbA hh.2.2 (vp_in_iff.mpr (by omega)) dL_law_29 ?_
      refine lv_bipush (v := 31) hx hb dL_law_30 (by decide) ?_
      refine lv_iand hx hb dL_law_32 ?_
      generalize xs i.toNatClampNeg &&& 31 = v
      by_cases c0 : v = 0
      · rw [c0]
        refine lv_tableIn (tgt := 136) hx hb dL_law_33 (by decide) (by decide) rfl (by decide) ?_
        exact L_write C hX hbl hL i0 i2 hR hh hl K
      by_cases c1 : v = 1
      · rw [c1]
        refine lv_tableIn (tgt := 199) hx hb dL_law_33 (by decide) (by decide) rfl (by decide) ?_
        exact L_erase C hX hbl hL i0 i2 hR hh hl K
      by_cases c2 : v = 2
      · rw [c2]
        refine lv_tableIn (tgt := 212) hx hb dL_law_33 (by decide) (by decide) rfl (by decide) ?_
        exact L_fault C hX hbl hL i0 i2 hR hh hl K
      by_cases c3 : v = 3
      · rw [c3]
        refine lv_tableIn (tgt := 225) hx hb dL_law_33 (by decide) (by decide) rfl (by decide) ?_
        exact L_house C hX hbl hL i0 i2 hR hh hl K
      by_cases c4 : v = 4
      · rw [c4]
        refine lv_tableIn (tgt := 238) hx hb dL_law_33 (by decide) (by decide) rfl (by decide) ?_
        exact L_clock C hX hbl hL i0 i2 hR hh hl K
      by_cases c5 : v = 5
      · rw [c5]
        refine lv_tableIn (tgt := 271) hx hb dL_law_33 (by decide) (by decide) rfl (by decide) ?_
        exact L_shows C hX hbl hL i0 i2 hR hh hl K
      by_cases c6 : v = 6
      · rw [c6]
        refine lv_tableIn (tgt := 314) hx hb dL_law_33 (by decide) (by decide) rfl (by decide) ?_
        exact L_can C hX hbl hL i0 i2 hR hh hl K
      by_cases c7 : v = 7
      · rw [c7]
        refine lv_tableIn (tgt := 357) hx hb dL_law_33 (by decide) (by decide) rfl (by decide) ?_
        exact L_fits C hX hbl hL i0 i2 hR hh hl K
      by_cases c8 : v = 8
      · rw [c8]
        refine lv_tableIn (tgt := 380) hx hb dL_law_33 (by decide) (by decide) rfl (by decide) ?_
        exact L_times C hX hbl hL i0 i2 hR hh hl K
      by_cases c9 : v = 9
      · rw [c9]
        refine lv_tableIn (tgt := 403) hx hb dL_law_33 (by decide) (by decide) rfl (by decide) ?_
        exact L_liars C hX hbl hL i0 i2 hR hh hl K
      by_cases c10 : v = 10
      · rw [c10]
        refine lv_tableIn (tgt := 426) hx hb dL_law_33 (by decide) (by decide) rfl (by decide) ?_
        exact L_next C hX hbl hL i0 i2 hR hh hl K
      by_cases c11 : v = 11
      · rw [c11]
        refine lv_tableIn (tgt := 449) hx hb dL_law_33 (by decide) (by decide) rfl (by decide) ?_
        exact L_note C hX hbl hL i0 i2 hR hh hl K
      by_cases c12 : v = 12
      · rw [c12]
        refine lv_tableIn (tgt := 492) hx hb dL_law_33 (by decide) (by decide) rfl (by decide) ?_
        exact L_burn C hX hbl hL i0 i2 hR hh hl K
      by_cases c13 : v = 13
      · rw [c13]
        refine lv_tableIn (tgt := 505) hx hb dL_law_33 (by decide) (by decide) rfl (by decide) ?_
        exact L_rates C hX hbl hL i0 i2 hR hh hl K
      by_cases c14 : v = 14
      · rw [c14]
        refine lv_tableIn (tgt := 538) hx hb dL_law_33 (by decide) (by decide) rfl (by decide) ?_
        exact L_again C hX hbl hL i0 i2 hR hh hl K
      by_cases c15 : v = 15
      · rw [c15]
        refine lv_tableIn (tgt := 571) hx hb dL_law_33 (by decide) (by decide) rfl (by decide) ?_
        exact L_stopped C hX hbl hL i0 i2 hR hh hl K
      by_cases c16 : v = 16
      · rw [c16]
        refine lv_tableIn (tgt := 614) hx hb dL_law_33 (by decide) (by decide) rfl (by decide) ?_
        exact L_setBy C hX hbl hL i0 i2 hR hh hl K
      by_cases c17 : v = 17
      · rw [c17]
        refine lv_tableIn (tgt := 667) hx hb dL_law_33 (by decide) (by decide) rfl (by decide) ?_
        exact L_egg C hX hbl hL i0 i2 hR hh hl K
      by_cases c18 : v = 18
      · rw [c18]
        refine lv_tableIn (tgt := 731) hx hb dL_law_33 (by decide) (by decide) rfl (by decide) ?_
        exact L_order C hX hbl hL i0 i2 hR hh hl K
      by_cases c19 : v = 19
      · rw [c19]
        refine lv_tableIn (tgt := 754) hx hb dL_law_33 (by decide) (by decide) rfl (by decide) ?_
        exact L_keep C hX hbl hL i0 i2 hR hh hl K
      by_cases c20 : v = 20
      · rw [c20]
        refine lv_tableIn (tgt := 777) hx hb dL_law_33 (by decide) (by decide) rfl (by decide) ?_
        exact L_back C hX hbl hL i0 i2 hR hh hl K
      by_cases c21 : v = 21
      · rw [c21]
        refine lv_tableIn (tgt := 800) hx hb dL_law_33 (by decide) (by decide) rfl (by decide) ?_
        exact L_count C hX hbl hL i0 i2 hR hh hl K
      have hd : v.toInt < 0 ∨ 21 < v.toInt := by
        have h0 := sw_ne (y := 0) (k := 0) c0 rfl
        have h1 := sw_ne (y := 1) (k := 1) c1 rfl
        have h2 := sw_ne (y := 2) (k := 2) c2 rfl
        have h3 := sw_ne (y := 3) (k := 3) c3 rfl
        have h4 := sw_ne (y := 4) (k := 4) c4 rfl
        have h5 := sw_ne (y := 5) (k := 5) c5 rfl
        have h6 := sw_ne (y := 6) (k := 6) c6 rfl
        have h7 := sw_ne (y := 7) (k := 7) c7 rfl
        have h8 := sw_ne (y := 8) (k := 8) c8 rfl
        have h9 := sw_ne (y := 9) (k := 9) c9 rfl
        have h10 := sw_ne (y := 10) (k := 10) c10 rfl
        have h11 := sw_ne (y := 11) (k := 11) c11 rfl
        have h12 := sw_ne (y := 12) (k := 12) c12 rfl
        have h13 := sw_ne (y := 13) (k := 13) c13 rfl
        have h14 := sw_ne (y := 14) (k := 14) c14 rfl
        have h15 := sw_ne (y := 15) (k := 15) c15 rfl
        have h16 := sw_ne (y := 16) (k := 16) c16 rfl
        have h17 := sw_ne (y := 17) (k := 17) c17 rfl
        have h18 := sw_ne (y := 18) (k := 18) c18 rfl
        have h19 := sw_ne (y := 19) (k := 19) c19 rfl
        have h20 := sw_ne (y := 20) (k := 20) c20 rfl
        have h21 := sw_ne (y := 21) (k := 21) c21 rfl
        omega
      refine lv_tableOut (tgt := 823) hx hb dL_law_33 hd (by decide) ?_
      exact K w w7 H locs hR hh
