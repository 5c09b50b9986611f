theorem rel_init {cI cZ cC cH : ClassId} {o o7 : Nat} (q u : Nat → Nat) : RelW cI cZ cC cH o o7 (W6 cI cZ cC cH o (q 0) (q 1) (q 2) (q 3) (q 4) (q 5) (q 6) (q 7) (q 8) (q 9) (q 10) (q 11) (q 12) (q 13) (q 14) (q 15) (q 16) (q 17) (q 18) (q 19) (q 20) (q 21) (q 22) (q 23) (q 24) (q 25) (q 26) (q 27) (q 28) (q 29) (fun i => q (30 + i)) (fun i => q (38 + i)) (fun i => q (46 + i)) 0 0 0 0 0 (fun _ => 0) (fun _ => 0) 0 ck0 0 (fun _ => 0) (fun _ => 0) (fun _ => 0) 0 ck0 0 (fun _ => 0) (fun _ => 0) (fun _ => 0) 0 ck0 0 (fun _ => 0) (fun _ => 0) (fun _ => 0) 0 (-1) (-1) 0 (-1) 0 0 0 0 (-1) 0 (fun _ => 0) (fun _ => 0) (fun _ => 0) (fun _ => 0) (fun _ => 0)) (WM cI cZ cC cH o7 (u 0) (u 1) (u 2) (u 3) (u 4) (u 5) (u 6) (u 7) (u 8) (u 9) 0 0 (fun _ => 0) (fun _ => 0) 0 0 (fun _ => 0) 0 0 0 0 0 0 0 0 (fun _ => 0) (fun _ => 0) (fun _ => 0) (fun _ => 0) (fun _ => 0) (fun _ => 0) (fun _ => 0) 0 0 0 0) := by
  have hC : CkR (fun _ => 0) := fun k _ => by
    show (0 ≤ (0 : Int32).toInt ∧ (0 : Int32).toInt ≤ 2) ∧ (0 ≤ (0 : Int32).toInt ∧ (0 : Int32).toInt ≤ 4319) ∧ (0 ≤ (0 : Int32).toInt ∧ (0 : Int32).toInt ≤ 719) ∧ (-1440 ≤ (0 : Int32).toInt ∧ (0 : Int32).toInt ≤ 120) ∧ (-1440 ≤ (0 : Int32).toInt ∧ (0 : Int32).toInt ≤ 120) ∧ (¬ (0 : Int32) = 2 → -120 ≤ (0 : Int32).toInt ∧ -120 ≤ (0 : Int32).toInt)
    decide
  have hN : NR 0 (fun _ => 0) (fun _ => 0) (fun _ => 0) 0 (fun _ => 0) := ⟨rfl, by decide, by decide, fun i hi => by
    have z : (0 : Int32).toInt = 0 := rfl
    omega⟩
  have hH : HR ck0 0 (fun _ => 0) (fun _ => 0) (fun _ => 0) 0 0 (fun _ => 0) 0 (fun _ => 0) := ⟨by decide, by decide, hC, fun k hk => ⟨⟨fun _ => rfl, fun _ => has0 ⟨k, hk⟩⟩, ⟨fun _ => rfl, fun _ => has0 ⟨k, hk⟩⟩, fun hq => absurd rfl hq, fun hq => absurd rfl hq⟩, hN⟩
  have hT : TX 0 (fun _ => 0) 0 (fun _ => 0) := ⟨rfl, by decide, by decide, fun _ _ => rfl⟩
  have hK : ∀ j, KR 0 ck0 0 (fun _ => 0) (fun _ => 0) (fun _ => 0) (fun _ => 0) (fun _ => 0) j := fun j => ⟨rfl, fun hq => absurd rfl hq⟩
  have hS : SF 0 (fun _ => 0) ck0 := fun hq => absurd rfl hq
  have hQ : RdR (fun _ => 0) := fun i hi => by
    show 0 ≤ (0 : Int32).toInt ∧ (0 : Int32).toInt ≤ 4319
    decide
  have hW : RowOk (fun _ => 0) := fun i hi => by
    show 0 ≤ (0 : Int32).toInt ∧ (0 : Int32).toInt < 8
    decide
  exact ⟨q, u, (fun i => q (30 + i)), (fun i => q (38 + i)), (fun i => q (46 + i)), (fun n => ([0, 0, 0, 0, 0, 0, 0, 0, 0, 0, 0, 0, -1, -1, 0, -1, 0, 0, 0, 0, -1, 0] : List Int32).getD n 0), (fun _ => 0), (fun _ _ => 0), (fun _ _ => 0), (fun _ => ck0), 0, rfl, rfl, ⟨hT, hH, hK 0, hK 1, hS, hQ, hW⟩⟩
set_option maxHeartbeats 4000000 in
/-- YOUR PART: from the entry, for every script of at most 3072 ints, the law comes to its end with true ('hflags': the launch's flags, for a law that throws: no stack traces) -/
theorem whole_start {p : Program} {e : Env} {s : State} {m : MethodId} {below : List Frame} {meth : Method} {c : Code} (l : Launch) (hflags : l.flags = flags0) {b L : Nat} {xs : Nat → Int32} (hL : L ≤ 3072) (C0 : lw_At p s m meth c b L xs) : W p l e room_1 s m #[Value.ref b] below meth c s.heap [] 0 0 (lw_Z below #[Value.ref b] s) (entryFrame m ([Value.ref b] : List Value).toArray 4) := by
  obtain ⟨D, cI, cZ, cC, cH, C, hO⟩ := law_cx C0
  have hx := C.1
  have hb := C.2.1
  have hh : HS D (fun q : Nat => s.heap.size ≤ q) s.heap [] s.heap [] := ⟨fun k q h => by simp at h, ⟨fun i j p q h => by simp at h, fun k q h => by simp at h⟩, va_S.rf⟩
  have hl := lv_entry ([.ref b]) (n := 4) (Nat.le_of_ble_eq_true rfl)
  rw [lg_entry_eq]
  generalize (lg_sl ([.ref b]) ++ List.replicate (4 - (lg_sl ([.ref b])).length) Slot.unset).toArray = ls at hl ⊢
  have hl : lv_has ls 4 [(0, .ref b)] := hl
  refine g_new (CN := RX6) (T := TX6) (N := 9) (ci := 6) (fs := [.null, .null, .null, .null, .null, .null, .null, .int 0, .null]) (c2 := 1) (s2 := 9) C hh inlX6 tyX6 tyX6_ok (List.mem_of_getElem? (i := 0) rfl) (List.mem_of_getElem? (i := 1) rfl) (List.mem_of_getElem? (i := 2) rfl) rfl (by intro j hj; match j, hj with | 0, _ => rfl | 1, _ => rfl | 2, _ => rfl | 3, _ => rfl | 4, _ => rfl | 5, _ => rfl | 6, _ => rfl | 7, _ => rfl | 8, _ => rfl) rfl rfl ⟨Nat.le_of_ble_eq_true rfl, Nat.le_of_ble_eq_true rfl⟩ dL_law_0 (fun o H1 hh1 => ?_)
  refine lv_dup hx hb dL_law_3 rfl ?_
  refine g_callI (fr2 := 12) (lo2 := 448) (wr := []) (isR := []) (c2 := 55) (s2 := 5696) C hO rfl rfl rfl ⟨Nat.le_of_ble_eq_true rfl, Nat.le_of_ble_eq_true rfl⟩ hh1 hl (c_X6_init l D cI cZ cC cH o) rfl rfl rfl (by decide) gL_law_X6_init rfl (List.mem_of_getElem? (i := 2) rfl) (List.mem_of_getElem? (i := 7) rfl) (List.mem_of_getElem? (i := 8) rfl) rfl (by decide +kernel) ⟨Nat.le_of_ble_eq_true rfl, Nat.le_of_ble_eq_true rfl⟩ (Nat.le_of_ble_eq_true rfl) dL_law_4 (fun q H2 locs2 hh2 => ?_)
  refine lv_astore_n (lv' := [(1, .ref o), (0, .ref b)]) hx hb dL_law_7 rfl hl (Nat.le_of_ble_eq_true rfl) rfl (fun ls hl => ?_)
  refine g_new (CN := RX7) (T := TX7) (N := 26) (ci := 7) (fs := [.int 0, .int 0, .null, .null, .int 0, .int 0, .null, .int 0, .int 0, .long 0, .int 0, .int 0, .int 0, .int 0, .int 0, .null, .null, .null, .null, .null, .null, .null, .int 0, .int 0, .int 0, .int 0]) (c2 := 56) (s2 := 5722) C hh2 inlX7 tyX7 tyX7_ok (List.mem_of_getElem? (i := 3) rfl) (List.mem_of_getElem? (i := 4) rfl) (List.mem_of_getElem? (i := 5) rfl) rfl (by intro j hj; match j, hj with | 0, _ => rfl | 1, _ => rfl | 2, _ => rfl | 3, _ => rfl | 4, _ => rfl | 5, _ => rfl | 6, _ => rfl | 7, _ => rfl | 8, _ => rfl | 9, _ => rfl | 10, _ => rfl | 11, _ => rfl | 12, _ => rfl | 13, _ => rfl | 14, _ => rfl | 15, _ => rfl | 16, _ => rfl | 17, _ => rfl | 18, _ => rfl | 19, _ => rfl | 20, _ => rfl | 21, _ => rfl | 22, _ => rfl | 23, _ => rfl | 24, _ => rfl | 25, _ => rfl | n + 26, hj => exact absurd hj (by omega)) rfl rfl ⟨Nat.le_of_ble_eq_true rfl, Nat.le_of_ble_eq_true rfl⟩ dL_law_8 (fun o7 H3 hh3 => ?_)
  refine lv_dup hx hb dL_law_11 rfl ?_
  refine g_callI (fr2 := 12) (lo2 := 448) (isR := List.range 55) (c2 := 66) (s2 := 11288) C hO rfl rfl rfl ⟨Nat.le_of_ble_eq_true rfl, Nat.le_of_ble_eq_true rfl⟩ hh3 hl (c_X7_init l D cI cZ cC cH o7) rfl rfl rfl (by decide) gL_law_X7_init rfl (List.mem_of_getElem? (i := 5) rfl) (List.mem_of_getElem? (i := 88) rfl) (List.mem_of_getElem? (i := 89) rfl) rfl (by decide +kernel) ⟨Nat.le_of_ble_eq_true rfl, Nat.le_of_ble_eq_true rfl⟩ (Nat.le_of_ble_eq_true rfl) dL_law_12 (fun u H4 locs4 hh4 => ?_)
  refine lv_astore_n (lv' := [(2, .ref o7), (1, .ref o), (0, .ref b)]) hx hb dL_law_15 rfl hl (Nat.le_of_ble_eq_true rfl) rfl (fun ls hl => ?_)
  refine lv_iconst (v := 0) hx hb dL_law_16 (by decide) ?_
  refine lv_istore_n (lv' := [(3, .int 0), (2, .ref o7), (1, .ref o), (0, .ref b)]) hx hb dL_law_17 rfl hl (Nat.le_of_ble_eq_true rfl) rfl (fun ls hl => ?_)
  have z : (0 : Int32).toInt = 0 := rfl
  have hms : ((L : Int) - (0 : Int32).toInt).toNat < L + 1 := by omega
  exact law_loop hL C0 C (L + 1) 0 o o7 _ _ H4 locs4 ls (by decide) (by omega) hms (rel_init q u) hh4 (lv_sub hl [3, 2, 1, 0] rfl)
